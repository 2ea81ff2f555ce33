theorem dX7_add_0 : decode cX7_add 0 = .ok (.aload_n 0, 1) := by decide +kernel
theorem dX7_add_1 : decode cX7_add 1 = .ok (.getfield 44, 3) := by decide +kernel
theorem dX7_add_4 : decode cX7_add 4 = .ok (.sipush 700, 3) := by decide +kernel
theorem dX7_add_7 : decode cX7_add 7 = .ok (.if_icmp .gt 43, 3) := by decide +kernel
theorem dX7_add_10 : decode cX7_add 10 = .ok (.aload_n 0, 1) := by decide +kernel
theorem dX7_add_11 : decode cX7_add 11 = .ok (.getfield 9, 3) := by decide +kernel
theorem dX7_add_14 : decode cX7_add 14 = .ok (.aload_n 0, 1) := by decide +kernel
theorem dX7_add_15 : decode cX7_add 15 = .ok (.getfield 44, 3) := by decide +kernel
theorem dX7_add_18 : decode cX7_add 18 = .ok (.iload_n 1, 1) := by decide +kernel
theorem dX7_add_19 : decode cX7_add 19 = .ok (.iastore, 1) := by decide +kernel
theorem dX7_add_20 : decode cX7_add 20 = .ok (.aload_n 0, 1) := by decide +kernel
theorem dX7_add_21 : decode cX7_add 21 = .ok (.getfield 15, 3) := by decide +kernel
theorem dX7_add_24 : decode cX7_add 24 = .ok (.aload_n 0, 1) := by decide +kernel
theorem dX7_add_25 : decode cX7_add 25 = .ok (.getfield 44, 3) := by decide +kernel
theorem dX7_add_28 : decode cX7_add 28 = .ok (.iload_n 2, 1) := by decide +kernel
theorem dX7_add_29 : decode cX7_add 29 = .ok (.iastore, 1) := by decide +kernel
theorem dX7_add_30 : decode cX7_add 30 = .ok (.aload_n 0, 1) := by decide +kernel
theorem dX7_add_31 : decode cX7_add 31 = .ok (.getfield 18, 3) := by decide +kernel
theorem dX7_add_34 : decode cX7_add 34 = .ok (.aload_n 0, 1) := by decide +kernel
theorem dX7_add_35 : decode cX7_add 35 = .ok (.getfield 44, 3) := by decide +kernel
theorem dX7_add_38 : decode cX7_add 38 = .ok (.iload_n 3, 1) := by decide +kernel
theorem dX7_add_39 : decode cX7_add 39 = .ok (.iastore, 1) := by decide +kernel
theorem dX7_add_40 : decode cX7_add 40 = .ok (.aload_n 0, 1) := by decide +kernel
theorem dX7_add_41 : decode cX7_add 41 = .ok (.dup, 1) := by decide +kernel
theorem dX7_add_42 : decode cX7_add 42 = .ok (.getfield 44, 3) := by decide +kernel
theorem dX7_add_45 : decode cX7_add 45 = .ok (.iconst 1, 1) := by decide +kernel
theorem dX7_add_46 : decode cX7_add 46 = .ok (.iadd, 1) := by decide +kernel
theorem dX7_add_47 : decode cX7_add 47 = .ok (.putfield 44, 3) := by decide +kernel
theorem dX7_add_50 : decode cX7_add 50 = .ok (.return_, 1) := by decide +kernel
theorem dX7_split_0 : decode cX7_split 0 = .ok (.aload_n 0, 1) := by decide +kernel
theorem dX7_split_1 : decode cX7_split 1 = .ok (.iconst 0, 1) := by decide +kernel
theorem dX7_split_2 : decode cX7_split 2 = .ok (.putfield 44, 3) := by decide +kernel
theorem dX7_split_5 : decode cX7_split 5 = .ok (.iconst 0, 1) := by decide +kernel
theorem dX7_split_6 : decode cX7_split 6 = .ok (.istore_n 3, 1) := by decide +kernel
theorem dX7_split_7 : decode cX7_split 7 = .ok (.iconst 0, 1) := by decide +kernel
theorem dX7_split_8 : decode cX7_split 8 = .ok (.istore 4, 2) := by decide +kernel
theorem dX7_split_10 : decode cX7_split 10 = .ok (.iload 4, 2) := by decide +kernel
theorem dX7_split_12 : decode cX7_split 12 = .ok (.sipush 700, 3) := by decide +kernel
theorem dX7_split_15 : decode cX7_split 15 = .ok (.if_icmp .ge 89, 3) := by decide +kernel
theorem dX7_split_18 : decode cX7_split 18 = .ok (.iload_n 3, 1) := by decide +kernel
theorem dX7_split_19 : decode cX7_split 19 = .ok (.iload_n 2, 1) := by decide +kernel
theorem dX7_split_20 : decode cX7_split 20 = .ok (.if_icmp .ge 84, 3) := by decide +kernel
theorem dX7_split_104 : decode cX7_split 104 = .ok (.aload_n 0, 1) := by decide +kernel
theorem dX7_split_105 : decode cX7_split 105 = .ok (.iconst 0, 1) := by decide +kernel
theorem dX7_split_106 : decode cX7_split 106 = .ok (.iload_n 2, 1) := by decide +kernel
theorem dX7_split_107 : decode cX7_split 107 = .ok (.iconst 0, 1) := by decide +kernel
theorem dX7_split_108 : decode cX7_split 108 = .ok (.invokevirtual 65, 3) := by decide +kernel
theorem dX7_split_111 : decode cX7_split 111 = .ok (.return_, 1) := by decide +kernel
theorem dX4_kind_0 : decode cX4_kind 0 = .ok (.aload_n 0, 1) := by decide +kernel
theorem dX4_kind_1 : decode cX4_kind 1 = .ok (.getfield 25, 3) := by decide +kernel
theorem dX4_kind_4 : decode cX4_kind 4 = .ok (.getfield 77, 3) := by decide +kernel
theorem dX4_kind_7 : decode cX4_kind 7 = .ok (.aload_n 0, 1) := by decide +kernel
theorem dX4_kind_8 : decode cX4_kind 8 = .ok (.getfield 36, 3) := by decide +kernel
theorem dX4_kind_11 : decode cX4_kind 11 = .ok (.iaload, 1) := by decide +kernel
theorem dX4_kind_12 : decode cX4_kind 12 = .ok (.ireturn, 1) := by decide +kernel
theorem dX4_read_0 : decode cX4_read 0 = .ok (.aload_n 0, 1) := by decide +kernel
theorem dX4_read_1 : decode cX4_read 1 = .ok (.getfield 25, 3) := by decide +kernel
theorem dX4_read_4 : decode cX4_read 4 = .ok (.aload_n 0, 1) := by decide +kernel
theorem dX4_read_5 : decode cX4_read 5 = .ok (.getfield 9, 3) := by decide +kernel
theorem dX4_read_8 : decode cX4_read 8 = .ok (.iload_n 1, 1) := by decide +kernel
theorem dX4_read_9 : decode cX4_read 9 = .ok (.invokevirtual 32, 3) := by decide +kernel
theorem dX4_read_12 : decode cX4_read 12 = .ok (.aload_n 0, 1) := by decide +kernel
theorem dX4_read_13 : decode cX4_read 13 = .ok (.iconst 0, 1) := by decide +kernel
theorem dX4_read_14 : decode cX4_read 14 = .ok (.putfield 29, 3) := by decide +kernel
theorem dX4_read_17 : decode cX4_read 17 = .ok (.aload_n 0, 1) := by decide +kernel
theorem dX4_read_18 : decode cX4_read 18 = .ok (.iconst 0, 1) := by decide +kernel
theorem dX4_read_19 : decode cX4_read 19 = .ok (.putfield 15, 3) := by decide +kernel
theorem dX4_read_22 : decode cX4_read 22 = .ok (.aload_n 0, 1) := by decide +kernel
theorem dX4_read_23 : decode cX4_read 23 = .ok (.iconst (-1), 1) := by decide +kernel
theorem dX4_read_24 : decode cX4_read 24 = .ok (.putfield 19, 3) := by decide +kernel
theorem dX4_read_27 : decode cX4_read 27 = .ok (.aload_n 0, 1) := by decide +kernel
theorem dX4_read_28 : decode cX4_read 28 = .ok (.iconst 0, 1) := by decide +kernel
theorem dX4_read_29 : decode cX4_read 29 = .ok (.putfield 36, 3) := by decide +kernel
theorem dX4_read_32 : decode cX4_read 32 = .ok (.aload_n 0, 1) := by decide +kernel
theorem dX4_read_33 : decode cX4_read 33 = .ok (.iconst 0, 1) := by decide +kernel
theorem dX4_read_34 : decode cX4_read 34 = .ok (.putfield 39, 3) := by decide +kernel
theorem dX4_read_37 : decode cX4_read 37 = .ok (.aload_n 0, 1) := by decide +kernel
theorem dX4_read_38 : decode cX4_read 38 = .ok (.aload_n 2, 1) := by decide +kernel
theorem dX4_read_39 : decode cX4_read 39 = .ok (.putfield 42, 3) := by decide +kernel
theorem dX4_read_42 : decode cX4_read 42 = .ok (.aload_n 0, 1) := by decide +kernel
theorem dX4_read_43 : decode cX4_read 43 = .ok (.getfield 42, 3) := by decide +kernel
theorem dX4_read_46 : decode cX4_read 46 = .ok (.invokevirtual 46, 3) := by decide +kernel
theorem dX4_read_49 : decode cX4_read 49 = .ok (.iconst 0, 1) := by decide +kernel
theorem dX4_read_50 : decode cX4_read 50 = .ok (.istore_n 3, 1) := by decide +kernel
theorem dX4_read_51 : decode cX4_read 51 = .ok (.iload_n 3, 1) := by decide +kernel
theorem dX4_read_52 : decode cX4_read 52 = .ok (.sipush 700, 3) := by decide +kernel
theorem dX4_read_55 : decode cX4_read 55 = .ok (.if_icmp .ge 102, 3) := by decide +kernel
theorem dX4_read_58 : decode cX4_read 58 = .ok (.aload_n 0, 1) := by decide +kernel
theorem dX4_read_59 : decode cX4_read 59 = .ok (.invokevirtual 51, 3) := by decide +kernel
theorem dX4_read_62 : decode cX4_read 62 = .ok (.ifCond .eq 95, 3) := by decide +kernel
theorem dX4_read_157 : decode cX4_read 157 = .ok (.return_, 1) := by decide +kernel
theorem dX4_take_0 : decode cX4_take 0 = .ok (.bipush 24, 2) := by decide +kernel
theorem dX4_take_2 : decode cX4_take 2 = .ok (.istore_n 2, 1) := by decide +kernel
theorem dX4_take_3 : decode cX4_take 3 = .ok (.iload_n 2, 1) := by decide +kernel
theorem dX4_take_4 : decode cX4_take 4 = .ok (.ifCond .lt 42, 3) := by decide +kernel
theorem dX4_take_7 : decode cX4_take 7 = .ok (.aload_n 0, 1) := by decide +kernel
theorem dX4_take_8 : decode cX4_take 8 = .ok (.getfield 29, 3) := by decide +kernel
theorem dX4_take_11 : decode cX4_take 11 = .ok (.sipush 700, 3) := by decide +kernel
theorem dX4_take_14 : decode cX4_take 14 = .ok (.if_icmp .ge 32, 3) := by decide +kernel
theorem dX4_take_17 : decode cX4_take 17 = .ok (.aload_n 0, 1) := by decide +kernel
theorem dX4_take_18 : decode cX4_take 18 = .ok (.getfield 9, 3) := by decide +kernel
theorem dX4_take_21 : decode cX4_take 21 = .ok (.aload_n 0, 1) := by decide +kernel
theorem dX4_take_22 : decode cX4_take 22 = .ok (.getfield 29, 3) := by decide +kernel
theorem dX4_take_25 : decode cX4_take 25 = .ok (.iload_n 1, 1) := by decide +kernel
theorem dX4_take_26 : decode cX4_take 26 = .ok (.iload_n 2, 1) := by decide +kernel
theorem dX4_take_27 : decode cX4_take 27 = .ok (.ishr, 1) := by decide +kernel
theorem dX4_take_28 : decode cX4_take 28 = .ok (.i2b, 1) := by decide +kernel
theorem dX4_take_29 : decode cX4_take 29 = .ok (.bastore, 1) := by decide +kernel
theorem dX4_take_30 : decode cX4_take 30 = .ok (.aload_n 0, 1) := by decide +kernel
theorem dX4_take_31 : decode cX4_take 31 = .ok (.dup, 1) := by decide +kernel
theorem dX4_take_32 : decode cX4_take 32 = .ok (.getfield 29, 3) := by decide +kernel
theorem dX4_take_35 : decode cX4_take 35 = .ok (.iconst 1, 1) := by decide +kernel
theorem dX4_take_36 : decode cX4_take 36 = .ok (.iadd, 1) := by decide +kernel
theorem dX4_take_37 : decode cX4_take 37 = .ok (.putfield 29, 3) := by decide +kernel
theorem dX4_take_40 : decode cX4_take 40 = .ok (.iinc 2 (-8), 3) := by decide +kernel
theorem dX4_take_43 : decode cX4_take 43 = .ok (.goto (-40), 3) := by decide +kernel
theorem dX4_take_46 : decode cX4_take 46 = .ok (.return_, 1) := by decide +kernel
abbrev q_X7_add (dC : Nat → ClassId) (dI : Nat → Nat → Nat) (A : Nat → Prop) (tk : Nat) (vp : Int32) (vw : Int32) (tk_kind : Nat) (tk_place : Nat) (tk_worth : Nat) (tk_language : Nat) (k_tk_kind : ClassId) (f_tk_kind : Nat → Int32) (k_tk_place : ClassId) (f_tk_place : Nat → Int32) (k_tk_worth : ClassId) (f_tk_worth : Nat → Int32) : Array Value → State → Outcome → State → Prop := va_Qv (fun _ : Unit => True) (fun (_ : Unit) (t : State) => ∃ (g_tk_kind : Nat → Int32), ∃ (g_tk_place : Nat → Int32), ∃ (g_tk_worth : Nat → Int32), (∀ j, g_tk_kind j = 0) ∧ va_P (dC, dI) vwCl [(tk, .inr (7, [.int 1, .ref tk_kind, .ref tk_place, .ref tk_worth, .ref tk_language])), (tk_kind, .inl (k_tk_kind, 701, .inl g_tk_kind)), (tk_place, .inl (k_tk_place, 701, .inl g_tk_place)), (tk_worth, .inl (k_tk_worth, 701, .inl g_tk_worth))] t.heap ∧ va_D A [(tk, .inr (7, [.int 1, .ref tk_kind, .ref tk_place, .ref tk_worth, .ref tk_language])), (tk_kind, .inl (k_tk_kind, 701, .inl g_tk_kind)), (tk_place, .inl (k_tk_place, 701, .inl g_tk_place)), (tk_worth, .inl (k_tk_worth, 701, .inl g_tk_worth))]) A
set_option maxHeartbeats 4000000 in
set_option maxRecDepth 100000 in
theorem c_X7_add (l : Launch) (dC : Nat → ClassId) (dI : Nat → Nat → Nat) (sz : Nat) (tk : Nat) (vp : Int32) (vw : Int32) (tk_kind : Nat) (tk_place : Nat) (tk_worth : Nat) (tk_language : Nat) (k_tk_kind : ClassId) (f_tk_kind : Nat → Int32) (k_tk_place : ClassId) (f_tk_place : Nat → Int32) (k_tk_worth : ClassId) (f_tk_worth : Nat → Int32) (hz : ∀ j, f_tk_kind j = 0) : Met l yX7_add (pw_w yX7_add cX7_add 4 none) ({ frames := 0, cells := 0, slots := 0, locals := 0 }) (va_Pc [.ref tk, .int 0, .int vp, .int vw] (fun U => U.heap.size = sz ∧ va_P (dC, dI) vwCl [(tk, .inr (7, [.int 0, .ref tk_kind, .ref tk_place, .ref tk_worth, .ref tk_language])), (tk_kind, .inl (k_tk_kind, 701, .inl f_tk_kind)), (tk_place, .inl (k_tk_place, 701, .inl f_tk_place)), (tk_worth, .inl (k_tk_worth, 701, .inl f_tk_worth))] U.heap ∧ va_K (dC, dI) vwCl [(k_tk_kind, .int), (k_tk_place, .int), (k_tk_worth, .int)] U ∧ va_D (fun _ => True) [(tk, .inr (7, [.int 0, .ref tk_kind, .ref tk_place, .ref tk_worth, .ref tk_language])), (tk_kind, .inl (k_tk_kind, 701, .inl f_tk_kind)), (tk_place, .inl (k_tk_place, 701, .inl f_tk_place)), (tk_worth, .inl (k_tk_worth, 701, .inl f_tk_worth))])) (q_X7_add dC dI (va_A [(tk, .inr (7, [.int 0, .ref tk_kind, .ref tk_place, .ref tk_worth, .ref tk_language])), (tk_kind, .inl (k_tk_kind, 701, .inl f_tk_kind)), (tk_place, .inl (k_tk_place, 701, .inl f_tk_place)), (tk_worth, .inl (k_tk_worth, 701, .inl f_tk_worth))] sz) tk vp vw tk_kind tk_place tk_worth tk_language k_tk_kind f_tk_kind k_tk_place f_tk_place k_tk_worth f_tk_worth) 0 0 (va_A [(tk, .inr (7, [.int 0, .ref tk_kind, .ref tk_place, .ref tk_worth, .ref tk_language])), (tk_kind, .inl (k_tk_kind, 701, .inl f_tk_kind)), (tk_place, .inl (k_tk_place, 701, .inl f_tk_place)), (tk_worth, .inl (k_tk_worth, 701, .inl f_tk_worth))] sz) := by
  refine Met.ofW (cc := cX7_add) (maxL := 4) (ret := none) (by decide) rfl ?_
  intro p e s m args below meth c s₁ B hml hv
  obtain ⟨rfl, hsz, hP, hK, hD0⟩ := hv
  have hx := B.exec
  have hb := B.bytes
  have hr := B.returns
  have hts := atoms_spec (ws := (pw_w yX7_add cX7_add 4 none)) B.pre
  have hT : ∀ w ∈ pw_T, w.before _ s = true := fun w h => hts w (List.mem_cons_of_mem _ h)
  have hown : s.vm.findClass RX7 = some m.cls := findClass_of_methodNamed B.named
  have hlocks := B.notSynchronized
  subst hsz
  have hD := hD0.self (sz := s.heap.size)
  generalize hAe : va_A [(tk, .inr (7, [.int 0, .ref tk_kind, .ref tk_place, .ref tk_worth, .ref tk_language])), (tk_kind, .inl (k_tk_kind, 701, .inl f_tk_kind)), (tk_place, .inl (k_tk_place, 701, .inl f_tk_place)), (tk_worth, .inl (k_tk_worth, 701, .inl f_tk_worth))] s.heap.size = A at hD ⊢
  have hA : ∀ q : Nat, s.heap.size ≤ q → A q := fun q h => by rw [← hAe]; exact Or.inr h
  have hS : va_S A s.heap s.heap [] := va_S.rf
  have hP : va_P (dC, dI) vwCl [(tk, .inr (7, [.int 0, .ref tk_kind, .ref tk_place, .ref tk_worth, .ref tk_language])), (tk_kind, .inl (k_tk_kind, 701, .inl f_tk_kind)), (tk_place, .inl (k_tk_place, 701, .inl f_tk_place)), (tk_worth, .inl (k_tk_worth, 701, .inl f_tk_worth))] s.heap := hP
  have hl := lv_entry ([.ref tk, .int 0, .int vp, .int vw]) (n := 4) (Nat.le_of_ble_eq_true rfl)
  rw [lg_entry_eq]
  generalize (lg_sl ([.ref tk, .int 0, .int vp, .int vw]) ++ List.replicate (4 - (lg_sl ([.ref tk, .int 0, .int vp, .int vw])).length) Slot.unset).toArray = ls at hl ⊢
  have hl : lv_has ls 4 [(0, .ref tk), (1, .int 0), (2, .int vp), (3, .int vw)] := hl
  refine lv_aload_n hx hb dX7_add_0 rfl (lv_at hl 0 rfl) ?_
  refine va_get (D := (dC, dI)) (ci := 7) (v := .int 0) (C := RX7) (T := TX7) (N := 5) hx hb hT inX7 hown hK hP 0 rfl rfl 0 (by decide) (hT _ mw_1_102) (fun _ h9 => h9) rfl dX7_add_1 ?_
  refine lv_sipush (v := 700) hx hb dX7_add_4 (by decide) ?_
  refine lv_icmp_gt (tgt := 50) hx hb dX7_add_7 (by decide) (fun c_1 => absurd c_1 (by decide)) (fun c_1 => ?_)
  refine lv_aload_n hx hb dX7_add_10 rfl (lv_at hl 0 rfl) ?_
  refine va_get (D := (dC, dI)) (ci := 7) (v := .ref tk_kind) (C := RX7) (T := TX7) (N := 5) hx hb hT inX7 hown hK hP 0 rfl rfl 1 (by decide) (hT _ mw_1_103) (fun _ h9 => h9) rfl dX7_add_11 ?_
  refine lv_aload_n hx hb dX7_add_14 rfl (lv_at hl 0 rfl) ?_
  refine va_get (D := (dC, dI)) (ci := 7) (v := .int 0) (C := RX7) (T := TX7) (N := 5) hx hb hT inX7 hown hK hP 0 rfl rfl 0 (by decide) (hT _ mw_1_102) (fun _ h9 => h9) rfl dX7_add_15 ?_
  refine lv_iload_n hx hb dX7_add_18 rfl (lv_at hl 1 rfl) ?_
  refine va_iast hx hb hK hP hD hS 1 0 rfl rfl (pk_in 0 701 (by decide) (by decide) (by decide)) dX7_add_19 (fun H locs hP hD hS => ?_)
  have hP : va_P (dC, dI) vwCl [(tk, .inr (7, [.int 0, .ref tk_kind, .ref tk_place, .ref tk_worth, .ref tk_language])), (tk_kind, .inl (k_tk_kind, 701, .inl (upd f_tk_kind (0 : Int32).toNatClampNeg (0 : Int32)))), (tk_place, .inl (k_tk_place, 701, .inl f_tk_place)), (tk_worth, .inl (k_tk_worth, 701, .inl f_tk_worth))] H := hP
  have hD : va_D A [(tk, .inr (7, [.int 0, .ref tk_kind, .ref tk_place, .ref tk_worth, .ref tk_language])), (tk_kind, .inl (k_tk_kind, 701, .inl (upd f_tk_kind (0 : Int32).toNatClampNeg (0 : Int32)))), (tk_place, .inl (k_tk_place, 701, .inl f_tk_place)), (tk_worth, .inl (k_tk_worth, 701, .inl f_tk_worth))] := hD
  obtain ⟨f_2, hf_2, ef_2⟩ : ∃ g : Nat → Int32, (∀ j, g j = 0) ∧ (upd f_tk_kind (0 : Int32).toNatClampNeg (0 : Int32)) = g := ⟨_, upd_zero hz, rfl⟩
  rw [ef_2] at hP hD
  clear ef_2
  refine lv_aload_n hx hb dX7_add_20 rfl (lv_at hl 0 rfl) ?_
  refine va_get (D := (dC, dI)) (ci := 7) (v := .ref tk_place) (C := RX7) (T := TX7) (N := 5) hx hb hT inX7 hown hK hP 0 rfl rfl 2 (by decide) (hT _ mw_1_105) (fun _ h9 => h9) rfl dX7_add_21 ?_
  refine lv_aload_n hx hb dX7_add_24 rfl (lv_at hl 0 rfl) ?_
  refine va_get (D := (dC, dI)) (ci := 7) (v := .int 0) (C := RX7) (T := TX7) (N := 5) hx hb hT inX7 hown hK hP 0 rfl rfl 0 (by decide) (hT _ mw_1_102) (fun _ h9 => h9) rfl dX7_add_25 ?_
  refine lv_iload_n hx hb dX7_add_28 rfl (lv_at hl 2 rfl) ?_
  refine va_iast hx hb hK hP hD hS 2 1 rfl rfl (pk_in 0 701 (by decide) (by decide) (by decide)) dX7_add_29 (fun H locs hP hD hS => ?_)
  have hP : va_P (dC, dI) vwCl [(tk, .inr (7, [.int 0, .ref tk_kind, .ref tk_place, .ref tk_worth, .ref tk_language])), (tk_kind, .inl (k_tk_kind, 701, .inl f_2)), (tk_place, .inl (k_tk_place, 701, .inl (upd f_tk_place (0 : Int32).toNatClampNeg (vp : Int32)))), (tk_worth, .inl (k_tk_worth, 701, .inl f_tk_worth))] H := hP
  have hD : va_D A [(tk, .inr (7, [.int 0, .ref tk_kind, .ref tk_place, .ref tk_worth, .ref tk_language])), (tk_kind, .inl (k_tk_kind, 701, .inl f_2)), (tk_place, .inl (k_tk_place, 701, .inl (upd f_tk_place (0 : Int32).toNatClampNeg (vp : Int32)))), (tk_worth, .inl (k_tk_worth, 701, .inl f_tk_worth))] := hD
  obtain ⟨f_3, ef_3⟩ : ∃ g : Nat → Int32, (upd f_tk_place (0 : Int32).toNatClampNeg (vp : Int32)) = g := ⟨_, rfl⟩
  rw [ef_3] at hP hD
  clear ef_3
  refine lv_aload_n hx hb dX7_add_30 rfl (lv_at hl 0 rfl) ?_
  refine va_get (D := (dC, dI)) (ci := 7) (v := .ref tk_worth) (C := RX7) (T := TX7) (N := 5) hx hb hT inX7 hown hK hP 0 rfl rfl 3 (by decide) (hT _ mw_1_107) (fun _ h9 => h9) rfl dX7_add_31 ?_
  refine lv_aload_n hx hb dX7_add_34 rfl (lv_at hl 0 rfl) ?_
  refine va_get (D := (dC, dI)) (ci := 7) (v := .int 0) (C := RX7) (T := TX7) (N := 5) hx hb hT inX7 hown hK hP 0 rfl rfl 0 (by decide) (hT _ mw_1_102) (fun _ h9 => h9) rfl dX7_add_35 ?_
  refine lv_iload_n hx hb dX7_add_38 rfl (lv_at hl 3 rfl) ?_
  refine va_iast hx hb hK hP hD hS 3 2 rfl rfl (pk_in 0 701 (by decide) (by decide) (by decide)) dX7_add_39 (fun H locs hP hD hS => ?_)
  have hP : va_P (dC, dI) vwCl [(tk, .inr (7, [.int 0, .ref tk_kind, .ref tk_place, .ref tk_worth, .ref tk_language])), (tk_kind, .inl (k_tk_kind, 701, .inl f_2)), (tk_place, .inl (k_tk_place, 701, .inl f_3)), (tk_worth, .inl (k_tk_worth, 701, .inl (upd f_tk_worth (0 : Int32).toNatClampNeg (vw : Int32))))] H := hP
  have hD : va_D A [(tk, .inr (7, [.int 0, .ref tk_kind, .ref tk_place, .ref tk_worth, .ref tk_language])), (tk_kind, .inl (k_tk_kind, 701, .inl f_2)), (tk_place, .inl (k_tk_place, 701, .inl f_3)), (tk_worth, .inl (k_tk_worth, 701, .inl (upd f_tk_worth (0 : Int32).toNatClampNeg (vw : Int32))))] := hD
  obtain ⟨f_4, ef_4⟩ : ∃ g : Nat → Int32, (upd f_tk_worth (0 : Int32).toNatClampNeg (vw : Int32)) = g := ⟨_, rfl⟩
  rw [ef_4] at hP hD
  clear ef_4
  refine lv_aload_n hx hb dX7_add_40 rfl (lv_at hl 0 rfl) ?_
  refine lv_dup hx hb dX7_add_41 rfl ?_
  refine va_get (D := (dC, dI)) (ci := 7) (v := .int 0) (C := RX7) (T := TX7) (N := 5) hx hb hT inX7 hown hK hP 0 rfl rfl 0 (by decide) (hT _ mw_1_102) (fun _ h9 => h9) rfl dX7_add_42 ?_
  refine lv_iconst (v := 1) hx hb dX7_add_45 (by decide) ?_
  refine lv_iadd hx hb dX7_add_46 ?_
  refine lv_topi (fun z_5 ez_5 => ?_)
  obtain rfl : z_5 = 1 := ez_5.trans (by decide)
  refine va_put (D := (dC, dI)) (ci := 7) (v := .int 1) (ty := .int) (C := RX7) (T := TX7) (N := 5) hx hb hT inX7 tyX7 tyX7_ok nmX7 hown hK hP hD hS 0 rfl rfl 0 (by decide) (hT _ mw_1_102) (fun _ h9 => h9) rfl (by decide +kernel) rfl rfl (Nat.le_of_ble_eq_true rfl) dX7_add_47 (fun H locs hP hD hS => ?_)
  have hP : va_P (dC, dI) vwCl [(tk, .inr (7, [.int 1, .ref tk_kind, .ref tk_place, .ref tk_worth, .ref tk_language])), (tk_kind, .inl (k_tk_kind, 701, .inl f_2)), (tk_place, .inl (k_tk_place, 701, .inl f_3)), (tk_worth, .inl (k_tk_worth, 701, .inl f_4))] H := hP
  have hD : va_D A [(tk, .inr (7, [.int 1, .ref tk_kind, .ref tk_place, .ref tk_worth, .ref tk_language])), (tk_kind, .inl (k_tk_kind, 701, .inl f_2)), (tk_place, .inl (k_tk_place, 701, .inl f_3)), (tk_worth, .inl (k_tk_worth, 701, .inl f_4))] := hD
  have hP9 := hP.sub (ws' := [(tk, .inr (7, [.int 1, .ref tk_kind, .ref tk_place, .ref tk_worth, .ref tk_language])), (tk_kind, .inl (k_tk_kind, 701, .inl f_2)), (tk_place, .inl (k_tk_place, 701, .inl f_3)), (tk_worth, .inl (k_tk_worth, 701, .inl f_4))]) [0, 1, 2, 3] rfl
  have hD9 := hD.sub (ws' := [(tk, .inr (7, [.int 1, .ref tk_kind, .ref tk_place, .ref tk_worth, .ref tk_language])), (tk_kind, .inl (k_tk_kind, 701, .inl f_2)), (tk_place, .inl (k_tk_place, 701, .inl f_3)), (tk_worth, .inl (k_tk_worth, 701, .inl f_4))]) [0, 1, 2, 3] (by decide) rfl
  refine W.widen (k := 0) (n := 0) (Nat.le_of_ble_eq_true rfl) (Nat.le_of_ble_eq_true rfl) ?_
  exact W.vret hx hb hr (fun t ht hW => ⟨⟨(), rfl, trivial, f_2, f_3, f_4, hf_2, by rw [ht]; exact hP9, hD9⟩, hS.F ht⟩) hS.2.2 dX7_add_50
abbrev q_X7_split (dC : Nat → ClassId) (dI : Nat → Nat → Nat) (A : Nat → Prop) (tk : Nat) (tape : Nat) (tk_count : Int32) (tk_kind : Nat) (tk_place : Nat) (tk_worth : Nat) (tk_language : Nat) (k_tk_kind : ClassId) (f_tk_kind : Nat → Int32) (k_tk_place : ClassId) (f_tk_place : Nat → Int32) (k_tk_worth : ClassId) (f_tk_worth : Nat → Int32) : Array Value → State → Outcome → State → Prop := va_Qv (fun _ : Unit => True) (fun (_ : Unit) (t : State) => ∃ (g_tk_kind : Nat → Int32), ∃ (g_tk_place : Nat → Int32), ∃ (g_tk_worth : Nat → Int32), (∀ j, g_tk_kind j = 0) ∧ va_P (dC, dI) vwCl [(tk, .inr (7, [.int 1, .ref tk_kind, .ref tk_place, .ref tk_worth, .ref tk_language])), (tk_kind, .inl (k_tk_kind, 701, .inl g_tk_kind)), (tk_place, .inl (k_tk_place, 701, .inl g_tk_place)), (tk_worth, .inl (k_tk_worth, 701, .inl g_tk_worth))] t.heap ∧ va_D A [(tk, .inr (7, [.int 1, .ref tk_kind, .ref tk_place, .ref tk_worth, .ref tk_language])), (tk_kind, .inl (k_tk_kind, 701, .inl g_tk_kind)), (tk_place, .inl (k_tk_place, 701, .inl g_tk_place)), (tk_worth, .inl (k_tk_worth, 701, .inl g_tk_worth))]) A
set_option maxHeartbeats 4000000 in
set_option maxRecDepth 100000 in
theorem c_X7_split (l : Launch) (dC : Nat → ClassId) (dI : Nat → Nat → Nat) (sz : Nat) (tk : Nat) (tape : Nat) (tk_count : Int32) (tk_kind : Nat) (tk_place : Nat) (tk_worth : Nat) (tk_language : Nat) (k_tk_kind : ClassId) (f_tk_kind : Nat → Int32) (k_tk_place : ClassId) (f_tk_place : Nat → Int32) (k_tk_worth : ClassId) (f_tk_worth : Nat → Int32) (hz : ∀ j, f_tk_kind j = 0) : Met l yX7_split (pw_w yX7_split cX7_split 6 none) ({ frames := 1, cells := 0, slots := 0, locals := 23 }) (va_Pc [.ref tk, .ref tape, .int 0] (fun U => U.heap.size = sz ∧ va_P (dC, dI) vwCl [(tk, .inr (7, [.int tk_count, .ref tk_kind, .ref tk_place, .ref tk_worth, .ref tk_language])), (tk_kind, .inl (k_tk_kind, 701, .inl f_tk_kind)), (tk_place, .inl (k_tk_place, 701, .inl f_tk_place)), (tk_worth, .inl (k_tk_worth, 701, .inl f_tk_worth))] U.heap ∧ va_K (dC, dI) vwCl [(k_tk_kind, .int), (k_tk_place, .int), (k_tk_worth, .int)] U ∧ va_D (fun _ => True) [(tk, .inr (7, [.int tk_count, .ref tk_kind, .ref tk_place, .ref tk_worth, .ref tk_language])), (tk_kind, .inl (k_tk_kind, 701, .inl f_tk_kind)), (tk_place, .inl (k_tk_place, 701, .inl f_tk_place)), (tk_worth, .inl (k_tk_worth, 701, .inl f_tk_worth))])) (q_X7_split dC dI (va_A [(tk, .inr (7, [.int tk_count, .ref tk_kind, .ref tk_place, .ref tk_worth, .ref tk_language])), (tk_kind, .inl (k_tk_kind, 701, .inl f_tk_kind)), (tk_place, .inl (k_tk_place, 701, .inl f_tk_place)), (tk_worth, .inl (k_tk_worth, 701, .inl f_tk_worth))] sz) tk tape tk_count tk_kind tk_place tk_worth tk_language k_tk_kind f_tk_kind k_tk_place f_tk_place k_tk_worth f_tk_worth) 0 0 (va_A [(tk, .inr (7, [.int tk_count, .ref tk_kind, .ref tk_place, .ref tk_worth, .ref tk_language])), (tk_kind, .inl (k_tk_kind, 701, .inl f_tk_kind)), (tk_place, .inl (k_tk_place, 701, .inl f_tk_place)), (tk_worth, .inl (k_tk_worth, 701, .inl f_tk_worth))] sz) := by
  refine Met.ofW (cc := cX7_split) (maxL := 6) (ret := none) (by decide) rfl ?_
  intro p e s m args below meth c s₁ B hml hv
  obtain ⟨rfl, hsz, hP, hK, hD0⟩ := hv
  have hx := B.exec
  have hb := B.bytes
  have hr := B.returns
  have hts := atoms_spec (ws := (pw_w yX7_split cX7_split 6 none)) B.pre
  have hT : ∀ w ∈ pw_T, w.before _ s = true := fun w h => hts w (List.mem_cons_of_mem _ h)
  have hown : s.vm.findClass RX7 = some m.cls := findClass_of_methodNamed B.named
  have hlocks := B.notSynchronized
  subst hsz
  have hD := hD0.self (sz := s.heap.size)
  generalize hAe : va_A [(tk, .inr (7, [.int tk_count, .ref tk_kind, .ref tk_place, .ref tk_worth, .ref tk_language])), (tk_kind, .inl (k_tk_kind, 701, .inl f_tk_kind)), (tk_place, .inl (k_tk_place, 701, .inl f_tk_place)), (tk_worth, .inl (k_tk_worth, 701, .inl f_tk_worth))] s.heap.size = A at hD ⊢
  have hA : ∀ q : Nat, s.heap.size ≤ q → A q := fun q h => by rw [← hAe]; exact Or.inr h
  have hS : va_S A s.heap s.heap [] := va_S.rf
  have hP : va_P (dC, dI) vwCl [(tk, .inr (7, [.int tk_count, .ref tk_kind, .ref tk_place, .ref tk_worth, .ref tk_language])), (tk_kind, .inl (k_tk_kind, 701, .inl f_tk_kind)), (tk_place, .inl (k_tk_place, 701, .inl f_tk_place)), (tk_worth, .inl (k_tk_worth, 701, .inl f_tk_worth))] s.heap := hP
  have hl := lv_entry ([.ref tk, .ref tape, .int 0]) (n := 6) (Nat.le_of_ble_eq_true rfl)
  rw [lg_entry_eq]
  generalize (lg_sl ([.ref tk, .ref tape, .int 0]) ++ List.replicate (6 - (lg_sl ([.ref tk, .ref tape, .int 0])).length) Slot.unset).toArray = ls at hl ⊢
  have hl : lv_has ls 6 [(0, .ref tk), (1, .ref tape), (2, .int 0)] := hl
  refine lv_aload_n hx hb dX7_split_0 rfl (lv_at hl 0 rfl) ?_
  refine lv_iconst (v := 0) hx hb dX7_split_1 (by decide) ?_
  refine va_put (D := (dC, dI)) (ci := 7) (v := .int 0) (ty := .int) (C := RX7) (T := TX7) (N := 5) hx hb hT inX7 tyX7 tyX7_ok nmX7 hown hK hP hD hS 0 rfl rfl 0 (by decide) (hT _ mw_1_102) (fun _ h9 => h9) rfl (by decide +kernel) rfl rfl (Nat.le_of_ble_eq_true rfl) dX7_split_2 (fun H locs hP hD hS => ?_)
  have hP : va_P (dC, dI) vwCl [(tk, .inr (7, [.int 0, .ref tk_kind, .ref tk_place, .ref tk_worth, .ref tk_language])), (tk_kind, .inl (k_tk_kind, 701, .inl f_tk_kind)), (tk_place, .inl (k_tk_place, 701, .inl f_tk_place)), (tk_worth, .inl (k_tk_worth, 701, .inl f_tk_worth))] H := hP
  have hD : va_D A [(tk, .inr (7, [.int 0, .ref tk_kind, .ref tk_place, .ref tk_worth, .ref tk_language])), (tk_kind, .inl (k_tk_kind, 701, .inl f_tk_kind)), (tk_place, .inl (k_tk_place, 701, .inl f_tk_place)), (tk_worth, .inl (k_tk_worth, 701, .inl f_tk_worth))] := hD
  refine lv_iconst (v := 0) hx hb dX7_split_5 (by decide) ?_
  refine lv_istore_n (lv' := [(3, .int 0), (0, .ref tk), (1, .ref tape), (2, .int 0)]) hx hb dX7_split_6 rfl hl (by decide) rfl (fun ls hl => ?_)
  refine lv_iconst (v := 0) hx hb dX7_split_7 (by decide) ?_
  refine lv_istore (lv' := [(4, .int 0), (3, .int 0), (0, .ref tk), (1, .ref tape), (2, .int 0)]) hx hb dX7_split_8 hl (by decide) rfl (fun ls hl => ?_)
  refine lv_iload hx hb dX7_split_10 (lv_at hl 0 rfl) ?_
  refine lv_sipush (v := 700) hx hb dX7_split_12 (by decide) ?_
  refine lv_icmp_ge (tgt := 104) hx hb dX7_split_15 (by decide) (fun c_1 => absurd c_1 (by decide)) (fun c_1 => ?_)
  refine lv_iload_n hx hb dX7_split_18 rfl (lv_at hl 1 rfl) ?_
  refine lv_iload_n hx hb dX7_split_19 rfl (lv_at hl 4 rfl) ?_
  refine lv_icmp_ge (tgt := 104) hx hb dX7_split_20 (by decide) (fun c_2 => ?_) (fun c_2 => absurd c_2 (by decide))
  refine lv_aload_n hx hb dX7_split_104 rfl (lv_at hl 2 rfl) ?_
  refine lv_iconst (v := 0) hx hb dX7_split_105 (by decide) ?_
  refine lv_iload_n hx hb dX7_split_106 rfl (lv_at hl 4 rfl) ?_
  refine lv_iconst (v := 0) hx hb dX7_split_107 (by decide) ?_
  have hPc := hP.sub (ws' := [(tk, .inr (7, [.int 0, .ref tk_kind, .ref tk_place, .ref tk_worth, .ref tk_language])), (tk_kind, .inl (k_tk_kind, 701, .inl f_tk_kind)), (tk_place, .inl (k_tk_place, 701, .inl f_tk_place)), (tk_worth, .inl (k_tk_worth, 701, .inl f_tk_worth))]) [0, 1, 2, 3] rfl
  have hDc := hD.sub (ws' := [(tk, .inr (7, [.int 0, .ref tk_kind, .ref tk_place, .ref tk_worth, .ref tk_language])), (tk_kind, .inl (k_tk_kind, 701, .inl f_tk_kind)), (tk_place, .inl (k_tk_place, 701, .inl f_tk_place)), (tk_worth, .inl (k_tk_worth, 701, .inl f_tk_worth))]) [0, 1, 2, 3] (by decide) rfl
  have hKc := hK.sub (tys' := [(k_tk_kind, .int), (k_tk_place, .int), (k_tk_worth, .int)]) [0, 1, 2] rfl
  have hFc := va_free (wc := [(tk, .inr (7, [.int 0, .ref tk_kind, .ref tk_place, .ref tk_worth, .ref tk_language])), (tk_kind, .inl (k_tk_kind, 701, .inl f_tk_kind)), (tk_place, .inl (k_tk_place, 701, .inl f_tk_place)), (tk_worth, .inl (k_tk_worth, 701, .inl f_tk_worth))]) hD hS hA [0, 1, 2, 3] rfl
  have := (by decide : (0 : Int32).toInt = 0)
  have := (by decide : (0 : Int32).toInt = 0)
  refine va_callv (va_runV (As := [.int 0, .int 0, .int 0]) (rest := []) ⟨hx, hb, hml, hown, hT⟩ (c_X7_add l dC dI H.size tk (0 : Int32) (0 : Int32) tk_kind tk_place tk_worth tk_language k_tk_kind f_tk_kind k_tk_place f_tk_place k_tk_worth f_tk_worth hz) (cwV 3 hT (gwV mw_3_90 mw_3_92 mp_1_2 mw_1_3 mw_3_93) rfl rfl rfl (by decide +kernel) ⟨Nat.le_of_ble_eq_true rfl, Nat.le_of_ble_eq_true rfl⟩) ⟨fun a U g mk q => by obtain ⟨q0, q1, qP, qK, qD⟩ := q; exact ⟨q0, q1, qP, va_K.moved (u := U) (U := U.calling g mk a) (Vm.Alike.refl U.vm) qK, qD⟩, va_recv hK hP (ci := 7) (q0 := 0) rfl rfl, fun U hU hW => ⟨rfl, by rw [hU], by rw [hU]; exact hPc, va_K.moved hW.alike hKc, hDc.weaken (fun _ _ _ _ => trivial)⟩⟩ rfl rfl hl.1 rfl (lv_room (Nat.le_of_ble_eq_true rfl)) dX7_split_108 ⟨Nat.le_of_ble_eq_true rfl, Nat.le_of_ble_eq_true rfl⟩) hS (fun q _ h => hFc q h) hFc (fun u t H1 locs ht hvm hw hB hz1 hk1 hS => ?_)
  obtain ⟨x_5, x_6, x_7, hpr_4_0, hP1, hD1⟩ := hB
  rw [ht] at hP1
  obtain ⟨hP, hD⟩ := va_join (wr := []) (w1 := [(tk, .inr (7, [.int 1, .ref tk_kind, .ref tk_place, .ref tk_worth, .ref tk_language])), (tk_kind, .inl (k_tk_kind, 701, .inl x_5)), (tk_place, .inl (k_tk_place, 701, .inl x_6)), (tk_worth, .inl (k_tk_worth, 701, .inl x_7))]) hP hD [0, 1, 2, 3] [] rfl rfl (by decide) (by decide) hk1 hFc hP1 hD1
  generalize H1 = H at hP hS ⊢
  have hP : va_P (dC, dI) vwCl [(tk, .inr (7, [.int 1, .ref tk_kind, .ref tk_place, .ref tk_worth, .ref tk_language])), (tk_kind, .inl (k_tk_kind, 701, .inl x_5)), (tk_place, .inl (k_tk_place, 701, .inl x_6)), (tk_worth, .inl (k_tk_worth, 701, .inl x_7))] H := hP
  have hD : va_D A [(tk, .inr (7, [.int 1, .ref tk_kind, .ref tk_place, .ref tk_worth, .ref tk_language])), (tk_kind, .inl (k_tk_kind, 701, .inl x_5)), (tk_place, .inl (k_tk_place, 701, .inl x_6)), (tk_worth, .inl (k_tk_worth, 701, .inl x_7))] := hD
  clear hPc hDc hKc hFc hP1 hD1 hk1 hz1 ht hvm
  have hP9 := hP.sub (ws' := [(tk, .inr (7, [.int 1, .ref tk_kind, .ref tk_place, .ref tk_worth, .ref tk_language])), (tk_kind, .inl (k_tk_kind, 701, .inl x_5)), (tk_place, .inl (k_tk_place, 701, .inl x_6)), (tk_worth, .inl (k_tk_worth, 701, .inl x_7))]) [0, 1, 2, 3] rfl
  have hD9 := hD.sub (ws' := [(tk, .inr (7, [.int 1, .ref tk_kind, .ref tk_place, .ref tk_worth, .ref tk_language])), (tk_kind, .inl (k_tk_kind, 701, .inl x_5)), (tk_place, .inl (k_tk_place, 701, .inl x_6)), (tk_worth, .inl (k_tk_worth, 701, .inl x_7))]) [0, 1, 2, 3] (by decide) rfl
  refine W.widen (k := 0) (n := 0) (Nat.le_of_ble_eq_true rfl) (Nat.le_of_ble_eq_true rfl) ?_
  exact W.vret hx hb hr (fun t ht hW => ⟨⟨(), rfl, trivial, x_5, x_6, x_7, hpr_4_0, by rw [ht]; exact hP9, hD9⟩, hS.F ht⟩) hS.2.2 dX7_split_111
abbrev q_X4_kind (dC : Nat → ClassId) (dI : Nat → Nat → Nat) (A : Nat → Prop) (rr : Nat) (rr_tape : Nat) (rr_bytes : Int32) (rr_fault : Int32) (rr_place : Int32) (tk : Nat) (rr_told : Nat) (rr_knots : Int32) (tk_count : Int32) (tk_kind : Nat) (tk_place : Nat) (tk_worth : Nat) (tk_language : Nat) (k_tk_kind : ClassId) (f_tk_kind : Nat → Int32) : Array Value → State → Outcome → State → Prop := va_Qi (fun (r : Int32) (_ : Unit) => r = 0) (fun (_ : Unit) (t : State) => va_P (dC, dI) vwCl [(rr, .inr (4, [.ref rr_tape, .int rr_bytes, .int rr_fault, .int rr_place, .ref tk, .ref rr_told, .int 0, .int rr_knots])), (tk, .inr (7, [.int tk_count, .ref tk_kind, .ref tk_place, .ref tk_worth, .ref tk_language])), (tk_kind, .inl (k_tk_kind, 701, .inl f_tk_kind))] t.heap ∧ va_D A [(rr, .inr (4, [.ref rr_tape, .int rr_bytes, .int rr_fault, .int rr_place, .ref tk, .ref rr_told, .int 0, .int rr_knots])), (tk, .inr (7, [.int tk_count, .ref tk_kind, .ref tk_place, .ref tk_worth, .ref tk_language])), (tk_kind, .inl (k_tk_kind, 701, .inl f_tk_kind))]) A
set_option maxHeartbeats 4000000 in
set_option maxRecDepth 100000 in
theorem c_X4_kind (l : Launch) (dC : Nat → ClassId) (dI : Nat → Nat → Nat) (sz : Nat) (rr : Nat) (rr_tape : Nat) (rr_bytes : Int32) (rr_fault : Int32) (rr_place : Int32) (tk : Nat) (rr_told : Nat) (rr_knots : Int32) (tk_count : Int32) (tk_kind : Nat) (tk_place : Nat) (tk_worth : Nat) (tk_language : Nat) (k_tk_kind : ClassId) (f_tk_kind : Nat → Int32) (hz : ∀ j, f_tk_kind j = 0) : Met l yX4_kind (pw_w yX4_kind cX4_kind 1 (some .int)) ({ frames := 0, cells := 0, slots := 0, locals := 0 }) (va_Pc [.ref rr] (fun U => U.heap.size = sz ∧ va_P (dC, dI) vwCl [(rr, .inr (4, [.ref rr_tape, .int rr_bytes, .int rr_fault, .int rr_place, .ref tk, .ref rr_told, .int 0, .int rr_knots])), (tk, .inr (7, [.int tk_count, .ref tk_kind, .ref tk_place, .ref tk_worth, .ref tk_language])), (tk_kind, .inl (k_tk_kind, 701, .inl f_tk_kind))] U.heap ∧ va_K (dC, dI) vwCl [(k_tk_kind, .int)] U ∧ va_D (fun _ => True) [(rr, .inr (4, [.ref rr_tape, .int rr_bytes, .int rr_fault, .int rr_place, .ref tk, .ref rr_told, .int 0, .int rr_knots])), (tk, .inr (7, [.int tk_count, .ref tk_kind, .ref tk_place, .ref tk_worth, .ref tk_language])), (tk_kind, .inl (k_tk_kind, 701, .inl f_tk_kind))])) (q_X4_kind dC dI (va_A [(rr, .inr (4, [.ref rr_tape, .int rr_bytes, .int rr_fault, .int rr_place, .ref tk, .ref rr_told, .int 0, .int rr_knots])), (tk, .inr (7, [.int tk_count, .ref tk_kind, .ref tk_place, .ref tk_worth, .ref tk_language])), (tk_kind, .inl (k_tk_kind, 701, .inl f_tk_kind))] sz) rr rr_tape rr_bytes rr_fault rr_place tk rr_told rr_knots tk_count tk_kind tk_place tk_worth tk_language k_tk_kind f_tk_kind) 0 0 (va_A [(rr, .inr (4, [.ref rr_tape, .int rr_bytes, .int rr_fault, .int rr_place, .ref tk, .ref rr_told, .int 0, .int rr_knots])), (tk, .inr (7, [.int tk_count, .ref tk_kind, .ref tk_place, .ref tk_worth, .ref tk_language])), (tk_kind, .inl (k_tk_kind, 701, .inl f_tk_kind))] sz) := by
  refine Met.ofW (cc := cX4_kind) (maxL := 1) (ret := (some .int)) (by decide) rfl ?_
  intro p e s m args below meth c s₁ B hml hv
  obtain ⟨rfl, hsz, hP, hK, hD0⟩ := hv
  have hx := B.exec
  have hb := B.bytes
  have hr := B.returns
  have hts := atoms_spec (ws := (pw_w yX4_kind cX4_kind 1 (some .int))) B.pre
  have hT : ∀ w ∈ pw_T, w.before _ s = true := fun w h => hts w (List.mem_cons_of_mem _ h)
  have hown : s.vm.findClass RX4 = some m.cls := findClass_of_methodNamed B.named
  have hlocks := B.notSynchronized
  subst hsz
  have hD := hD0.self (sz := s.heap.size)
  generalize hAe : va_A [(rr, .inr (4, [.ref rr_tape, .int rr_bytes, .int rr_fault, .int rr_place, .ref tk, .ref rr_told, .int 0, .int rr_knots])), (tk, .inr (7, [.int tk_count, .ref tk_kind, .ref tk_place, .ref tk_worth, .ref tk_language])), (tk_kind, .inl (k_tk_kind, 701, .inl f_tk_kind))] s.heap.size = A at hD ⊢
  have hA : ∀ q : Nat, s.heap.size ≤ q → A q := fun q h => by rw [← hAe]; exact Or.inr h
  have hS : va_S A s.heap s.heap [] := va_S.rf
  have hP : va_P (dC, dI) vwCl [(rr, .inr (4, [.ref rr_tape, .int rr_bytes, .int rr_fault, .int rr_place, .ref tk, .ref rr_told, .int 0, .int rr_knots])), (tk, .inr (7, [.int tk_count, .ref tk_kind, .ref tk_place, .ref tk_worth, .ref tk_language])), (tk_kind, .inl (k_tk_kind, 701, .inl f_tk_kind))] s.heap := hP
  have hl := lv_entry ([.ref rr]) (n := 1) (Nat.le_of_ble_eq_true rfl)
  rw [lg_entry_eq]
  generalize (lg_sl ([.ref rr]) ++ List.replicate (1 - (lg_sl ([.ref rr])).length) Slot.unset).toArray = ls at hl ⊢
  have hl : lv_has ls 1 [(0, .ref rr)] := hl
  refine lv_aload_n hx hb dX4_kind_0 rfl (lv_at hl 0 rfl) ?_
  refine va_get (D := (dC, dI)) (ci := 4) (v := .ref tk) (C := RX4) (T := TX4) (N := 8) hx hb hT inX4 hown hK hP 0 rfl rfl 4 (by decide) (hT _ mw_1_130) (fun _ h9 => h9) rfl dX4_kind_1 ?_
  refine va_get (D := (dC, dI)) (ci := 7) (v := .ref tk_kind) (C := RX7) (T := TX7) (N := 5) hx hb hT inX7 hown hK hP 1 rfl rfl 1 (by decide) (hT _ mw_1_104) (fun _ h9 => h9) rfl dX4_kind_4 ?_
  refine lv_aload_n hx hb dX4_kind_7 rfl (lv_at hl 0 rfl) ?_
  refine va_get (D := (dC, dI)) (ci := 4) (v := .int 0) (C := RX4) (T := TX4) (N := 8) hx hb hT inX4 hown hK hP 0 rfl rfl 6 (by decide) (hT _ mw_1_132) (fun _ h9 => h9) rfl dX4_kind_8 ?_
  refine va_iald hx hb hK hP 2 0 rfl rfl (pk_in 0 701 (by decide) (by decide) (by decide)) dX4_kind_11 ?_
  refine lv_topi (fun z_1 ez_1 => ?_)
  obtain rfl : z_1 = 0 := ez_1.trans (hz _)
  have hP9 := hP.sub (ws' := [(rr, .inr (4, [.ref rr_tape, .int rr_bytes, .int rr_fault, .int rr_place, .ref tk, .ref rr_told, .int 0, .int rr_knots])), (tk, .inr (7, [.int tk_count, .ref tk_kind, .ref tk_place, .ref tk_worth, .ref tk_language])), (tk_kind, .inl (k_tk_kind, 701, .inl f_tk_kind))]) [0, 1, 2] rfl
  have hD9 := hD.sub (ws' := [(rr, .inr (4, [.ref rr_tape, .int rr_bytes, .int rr_fault, .int rr_place, .ref tk, .ref rr_told, .int 0, .int rr_knots])), (tk, .inr (7, [.int tk_count, .ref tk_kind, .ref tk_place, .ref tk_worth, .ref tk_language])), (tk_kind, .inl (k_tk_kind, 701, .inl f_tk_kind))]) [0, 1, 2] (by decide) rfl
  refine W.widen (k := 0) (n := 0) (Nat.le_of_ble_eq_true rfl) (Nat.le_of_ble_eq_true rfl) ?_
  exact W.iret (v := 0) hx hb hr (fun t ht hW => ⟨⟨0, (), rfl, (by first | rfl | omega | (simp_all; done) | decide), by rw [ht]; exact hP9, hD9⟩, hS.F ht⟩) hS.2.2 dX4_kind_12
abbrev q_X4_read (dC : Nat → ClassId) (dI : Nat → Nat → Nat) (A : Nat → Prop) (rr : Nat) (td : Nat) (rr_tape : Nat) (rr_bytes : Int32) (rr_fault : Int32) (rr_place : Int32) (tk : Nat) (rr_at : Int32) (rr_knots : Int32) (tk_count : Int32) (tk_kind : Nat) (tk_place : Nat) (tk_worth : Nat) (tk_language : Nat) (k_tk_kind : ClassId) (f_tk_kind : Nat → Int32) (k_tk_place : ClassId) (f_tk_place : Nat → Int32) (k_tk_worth : ClassId) (f_tk_worth : Nat → Int32) (td_clocks : Int32) (td_people : Int32) (td_rounds : Int32) (td_guns : Int32) (td_lines : Int32) (td_name : Nat) (td_first : Nat) (td_gain : Nat) (td_rough : Nat) (td_custom : Nat) (td_part : Nat) (td_whole : Nat) (td_roundPerson : Nat) (td_roundClock : Nat) (td_roundHour : Nat) (td_gunClock : Nat) (td_gunHour : Nat) (td_rules : Nat) (k_td_gain : ClassId) (f_td_gain : Nat → Int32) (k_td_rough : ClassId) (f_td_rough : Nat → Int32) (k_td_part : ClassId) (f_td_part : Nat → Int32) (k_td_whole : ClassId) (f_td_whole : Nat → Int32) (td_rules_knots : Int32) (td_rules_kind : Nat) (td_rules_number : Nat) (td_rules_from : Nat) (td_rules_until : Nat) (td_rules_names : Nat) (td_rules_stack : Nat) (k_td_rules_from : ClassId) (f_td_rules_from : Nat → Int32) (k_td_rules_until : ClassId) (f_td_rules_until : Nat → Int32) : Array Value → State → Outcome → State → Prop := va_Qv (fun _ : Unit => True) (fun (_ : Unit) (t : State) => ∃ (g_tk_kind : Nat → Int32), ∃ (g_tk_place : Nat → Int32), ∃ (g_tk_worth : Nat → Int32), ∃ (g_td_gain : Nat → Int32), ∃ (g_td_rough : Nat → Int32), ∃ (g_td_part : Nat → Int32), ∃ (g_td_whole : Nat → Int32), ∃ (g_td_rules_from : Nat → Int32), ∃ (g_td_rules_until : Nat → Int32), (∀ j, g_tk_kind j = 0) ∧ va_P (dC, dI) vwCl [(rr, .inr (4, [.ref rr_tape, .int 0, .int 0, .int (-1), .ref tk, .ref td, .int 0, .int 0])), (tk, .inr (7, [.int 1, .ref tk_kind, .ref tk_place, .ref tk_worth, .ref tk_language])), (tk_kind, .inl (k_tk_kind, 701, .inl g_tk_kind)), (tk_place, .inl (k_tk_place, 701, .inl g_tk_place)), (tk_worth, .inl (k_tk_worth, 701, .inl g_tk_worth)), (td, .inr (8, [.int 0, .int 0, .int 0, .int 0, .int 0, .ref td_name, .ref td_first, .ref td_gain, .ref td_rough, .ref td_custom, .ref td_part, .ref td_whole, .ref td_roundPerson, .ref td_roundClock, .ref td_roundHour, .ref td_gunClock, .ref td_gunHour, .ref td_rules])), (td_gain, .inl (k_td_gain, 10, .inl g_td_gain)), (td_rough, .inl (k_td_rough, 10, .inl g_td_rough)), (td_part, .inl (k_td_part, 5, .inl g_td_part)), (td_whole, .inl (k_td_whole, 5, .inl g_td_whole)), (td_rules, .inr (6, [.int 0, .ref td_rules_kind, .ref td_rules_number, .ref td_rules_from, .ref td_rules_until, .ref td_rules_names, .ref td_rules_stack])), (td_rules_from, .inl (k_td_rules_from, 5, .inl g_td_rules_from)), (td_rules_until, .inl (k_td_rules_until, 5, .inl g_td_rules_until))] t.heap ∧ va_D A [(rr, .inr (4, [.ref rr_tape, .int 0, .int 0, .int (-1), .ref tk, .ref td, .int 0, .int 0])), (tk, .inr (7, [.int 1, .ref tk_kind, .ref tk_place, .ref tk_worth, .ref tk_language])), (tk_kind, .inl (k_tk_kind, 701, .inl g_tk_kind)), (tk_place, .inl (k_tk_place, 701, .inl g_tk_place)), (tk_worth, .inl (k_tk_worth, 701, .inl g_tk_worth)), (td, .inr (8, [.int 0, .int 0, .int 0, .int 0, .int 0, .ref td_name, .ref td_first, .ref td_gain, .ref td_rough, .ref td_custom, .ref td_part, .ref td_whole, .ref td_roundPerson, .ref td_roundClock, .ref td_roundHour, .ref td_gunClock, .ref td_gunHour, .ref td_rules])), (td_gain, .inl (k_td_gain, 10, .inl g_td_gain)), (td_rough, .inl (k_td_rough, 10, .inl g_td_rough)), (td_part, .inl (k_td_part, 5, .inl g_td_part)), (td_whole, .inl (k_td_whole, 5, .inl g_td_whole)), (td_rules, .inr (6, [.int 0, .ref td_rules_kind, .ref td_rules_number, .ref td_rules_from, .ref td_rules_until, .ref td_rules_names, .ref td_rules_stack])), (td_rules_from, .inl (k_td_rules_from, 5, .inl g_td_rules_from)), (td_rules_until, .inl (k_td_rules_until, 5, .inl g_td_rules_until))]) A
set_option maxHeartbeats 4000000 in
set_option maxRecDepth 100000 in
theorem c_X4_read (l : Launch) (dC : Nat → ClassId) (dI : Nat → Nat → Nat) (sz : Nat) (rr : Nat) (td : Nat) (rr_tape : Nat) (rr_bytes : Int32) (rr_fault : Int32) (rr_place : Int32) (tk : Nat) (rr_at : Int32) (rr_knots : Int32) (tk_count : Int32) (tk_kind : Nat) (tk_place : Nat) (tk_worth : Nat) (tk_language : Nat) (k_tk_kind : ClassId) (f_tk_kind : Nat → Int32) (k_tk_place : ClassId) (f_tk_place : Nat → Int32) (k_tk_worth : ClassId) (f_tk_worth : Nat → Int32) (td_clocks : Int32) (td_people : Int32) (td_rounds : Int32) (td_guns : Int32) (td_lines : Int32) (td_name : Nat) (td_first : Nat) (td_gain : Nat) (td_rough : Nat) (td_custom : Nat) (td_part : Nat) (td_whole : Nat) (td_roundPerson : Nat) (td_roundClock : Nat) (td_roundHour : Nat) (td_gunClock : Nat) (td_gunHour : Nat) (td_rules : Nat) (k_td_gain : ClassId) (f_td_gain : Nat → Int32) (k_td_rough : ClassId) (f_td_rough : Nat → Int32) (k_td_part : ClassId) (f_td_part : Nat → Int32) (k_td_whole : ClassId) (f_td_whole : Nat → Int32) (td_rules_knots : Int32) (td_rules_kind : Nat) (td_rules_number : Nat) (td_rules_from : Nat) (td_rules_until : Nat) (td_rules_names : Nat) (td_rules_stack : Nat) (k_td_rules_from : ClassId) (f_td_rules_from : Nat → Int32) (k_td_rules_until : ClassId) (f_td_rules_until : Nat → Int32) (hz : ∀ j, f_tk_kind j = 0) : Met l yX4_read (pw_w yX4_read cX4_read 4 none) ({ frames := 3, cells := 0, slots := 0, locals := 63 }) (va_Pc [.ref rr, .int 0, .ref td] (fun U => U.heap.size = sz ∧ va_P (dC, dI) vwCl [(rr, .inr (4, [.ref rr_tape, .int rr_bytes, .int rr_fault, .int rr_place, .ref tk, .null, .int rr_at, .int rr_knots])), (tk, .inr (7, [.int tk_count, .ref tk_kind, .ref tk_place, .ref tk_worth, .ref tk_language])), (tk_kind, .inl (k_tk_kind, 701, .inl f_tk_kind)), (tk_place, .inl (k_tk_place, 701, .inl f_tk_place)), (tk_worth, .inl (k_tk_worth, 701, .inl f_tk_worth)), (td, .inr (8, [.int td_clocks, .int td_people, .int td_rounds, .int td_guns, .int td_lines, .ref td_name, .ref td_first, .ref td_gain, .ref td_rough, .ref td_custom, .ref td_part, .ref td_whole, .ref td_roundPerson, .ref td_roundClock, .ref td_roundHour, .ref td_gunClock, .ref td_gunHour, .ref td_rules])), (td_gain, .inl (k_td_gain, 10, .inl f_td_gain)), (td_rough, .inl (k_td_rough, 10, .inl f_td_rough)), (td_part, .inl (k_td_part, 5, .inl f_td_part)), (td_whole, .inl (k_td_whole, 5, .inl f_td_whole)), (td_rules, .inr (6, [.int td_rules_knots, .ref td_rules_kind, .ref td_rules_number, .ref td_rules_from, .ref td_rules_until, .ref td_rules_names, .ref td_rules_stack])), (td_rules_from, .inl (k_td_rules_from, 5, .inl f_td_rules_from)), (td_rules_until, .inl (k_td_rules_until, 5, .inl f_td_rules_until))] U.heap ∧ va_K (dC, dI) vwCl [(k_tk_kind, .int), (k_tk_place, .int), (k_tk_worth, .int), (k_td_gain, .int), (k_td_rough, .int), (k_td_part, .int), (k_td_whole, .int), (k_td_rules_from, .int), (k_td_rules_until, .int)] U ∧ va_D (fun _ => True) [(rr, .inr (4, [.ref rr_tape, .int rr_bytes, .int rr_fault, .int rr_place, .ref tk, .null, .int rr_at, .int rr_knots])), (tk, .inr (7, [.int tk_count, .ref tk_kind, .ref tk_place, .ref tk_worth, .ref tk_language])), (tk_kind, .inl (k_tk_kind, 701, .inl f_tk_kind)), (tk_place, .inl (k_tk_place, 701, .inl f_tk_place)), (tk_worth, .inl (k_tk_worth, 701, .inl f_tk_worth)), (td, .inr (8, [.int td_clocks, .int td_people, .int td_rounds, .int td_guns, .int td_lines, .ref td_name, .ref td_first, .ref td_gain, .ref td_rough, .ref td_custom, .ref td_part, .ref td_whole, .ref td_roundPerson, .ref td_roundClock, .ref td_roundHour, .ref td_gunClock, .ref td_gunHour, .ref td_rules])), (td_gain, .inl (k_td_gain, 10, .inl f_td_gain)), (td_rough, .inl (k_td_rough, 10, .inl f_td_rough)), (td_part, .inl (k_td_part, 5, .inl f_td_part)), (td_whole, .inl (k_td_whole, 5, .inl f_td_whole)), (td_rules, .inr (6, [.int td_rules_knots, .ref td_rules_kind, .ref td_rules_number, .ref td_rules_from, .ref td_rules_until, .ref td_rules_names, .ref td_rules_stack])), (td_rules_from, .inl (k_td_rules_from, 5, .inl f_td_rules_from)), (td_rules_until, .inl (k_td_rules_until, 5, .inl f_td_rules_until))])) (q_X4_read dC dI (va_A [(rr, .inr (4, [.ref rr_tape, .int rr_bytes, .int rr_fault, .int rr_place, .ref tk, .null, .int rr_at, .int rr_knots])), (tk, .inr (7, [.int tk_count, .ref tk_kind, .ref tk_place, .ref tk_worth, .ref tk_language])), (tk_kind, .inl (k_tk_kind, 701, .inl f_tk_kind)), (tk_place, .inl (k_tk_place, 701, .inl f_tk_place)), (tk_worth, .inl (k_tk_worth, 701, .inl f_tk_worth)), (td, .inr (8, [.int td_clocks, .int td_people, .int td_rounds, .int td_guns, .int td_lines, .ref td_name, .ref td_first, .ref td_gain, .ref td_rough, .ref td_custom, .ref td_part, .ref td_whole, .ref td_roundPerson, .ref td_roundClock, .ref td_roundHour, .ref td_gunClock, .ref td_gunHour, .ref td_rules])), (td_gain, .inl (k_td_gain, 10, .inl f_td_gain)), (td_rough, .inl (k_td_rough, 10, .inl f_td_rough)), (td_part, .inl (k_td_part, 5, .inl f_td_part)), (td_whole, .inl (k_td_whole, 5, .inl f_td_whole)), (td_rules, .inr (6, [.int td_rules_knots, .ref td_rules_kind, .ref td_rules_number, .ref td_rules_from, .ref td_rules_until, .ref td_rules_names, .ref td_rules_stack])), (td_rules_from, .inl (k_td_rules_from, 5, .inl f_td_rules_from)), (td_rules_until, .inl (k_td_rules_until, 5, .inl f_td_rules_until))] sz) rr td rr_tape rr_bytes rr_fault rr_place tk rr_at rr_knots tk_count tk_kind tk_place tk_worth tk_language k_tk_kind f_tk_kind k_tk_place f_tk_place k_tk_worth f_tk_worth td_clocks td_people td_rounds td_guns td_lines td_name td_first td_gain td_rough td_custom td_part td_whole td_roundPerson td_roundClock td_roundHour td_gunClock td_gunHour td_rules k_td_gain f_td_gain k_td_rough f_td_rough k_td_part f_td_part k_td_whole f_td_whole td_rules_knots td_rules_kind td_rules_number td_rules_from td_rules_until td_rules_names td_rules_stack k_td_rules_from f_td_rules_from k_td_rules_until f_td_rules_until) 0 0 (va_A [(rr, .inr (4, [.ref rr_tape, .int rr_bytes, .int rr_fault, .int rr_place, .ref tk, .null, .int rr_at, .int rr_knots])), (tk, .inr (7, [.int tk_count, .ref tk_kind, .ref tk_place, .ref tk_worth, .ref tk_language])), (tk_kind, .inl (k_tk_kind, 701, .inl f_tk_kind)), (tk_place, .inl (k_tk_place, 701, .inl f_tk_place)), (tk_worth, .inl (k_tk_worth, 701, .inl f_tk_worth)), (td, .inr (8, [.int td_clocks, .int td_people, .int td_rounds, .int td_guns, .int td_lines, .ref td_name, .ref td_first, .ref td_gain, .ref td_rough, .ref td_custom, .ref td_part, .ref td_whole, .ref td_roundPerson, .ref td_roundClock, .ref td_roundHour, .ref td_gunClock, .ref td_gunHour, .ref td_rules])), (td_gain, .inl (k_td_gain, 10, .inl f_td_gain)), (td_rough, .inl (k_td_rough, 10, .inl f_td_rough)), (td_part, .inl (k_td_part, 5, .inl f_td_part)), (td_whole, .inl (k_td_whole, 5, .inl f_td_whole)), (td_rules, .inr (6, [.int td_rules_knots, .ref td_rules_kind, .ref td_rules_number, .ref td_rules_from, .ref td_rules_until, .ref td_rules_names, .ref td_rules_stack])), (td_rules_from, .inl (k_td_rules_from, 5, .inl f_td_rules_from)), (td_rules_until, .inl (k_td_rules_until, 5, .inl f_td_rules_until))] sz) := by
  refine Met.ofW (cc := cX4_read) (maxL := 4) (ret := none) (by decide) rfl ?_
  intro p e s m args below meth c s₁ B hml hv
  obtain ⟨rfl, hsz, hP, hK, hD0⟩ := hv
  have hx := B.exec
  have hb := B.bytes
  have hr := B.returns
  have hts := atoms_spec (ws := (pw_w yX4_read cX4_read 4 none)) B.pre
  have hT : ∀ w ∈ pw_T, w.before _ s = true := fun w h => hts w (List.mem_cons_of_mem _ h)
  have hown : s.vm.findClass RX4 = some m.cls := findClass_of_methodNamed B.named
  have hlocks := B.notSynchronized
  subst hsz
  have hD := hD0.self (sz := s.heap.size)
  generalize hAe : va_A [(rr, .inr (4, [.ref rr_tape, .int rr_bytes, .int rr_fault, .int rr_place, .ref tk, .null, .int rr_at, .int rr_knots])), (tk, .inr (7, [.int tk_count, .ref tk_kind, .ref tk_place, .ref tk_worth, .ref tk_language])), (tk_kind, .inl (k_tk_kind, 701, .inl f_tk_kind)), (tk_place, .inl (k_tk_place, 701, .inl f_tk_place)), (tk_worth, .inl (k_tk_worth, 701, .inl f_tk_worth)), (td, .inr (8, [.int td_clocks, .int td_people, .int td_rounds, .int td_guns, .int td_lines, .ref td_name, .ref td_first, .ref td_gain, .ref td_rough, .ref td_custom, .ref td_part, .ref td_whole, .ref td_roundPerson, .ref td_roundClock, .ref td_roundHour, .ref td_gunClock, .ref td_gunHour, .ref td_rules])), (td_gain, .inl (k_td_gain, 10, .inl f_td_gain)), (td_rough, .inl (k_td_rough, 10, .inl f_td_rough)), (td_part, .inl (k_td_part, 5, .inl f_td_part)), (td_whole, .inl (k_td_whole, 5, .inl f_td_whole)), (td_rules, .inr (6, [.int td_rules_knots, .ref td_rules_kind, .ref td_rules_number, .ref td_rules_from, .ref td_rules_until, .ref td_rules_names, .ref td_rules_stack])), (td_rules_from, .inl (k_td_rules_from, 5, .inl f_td_rules_from)), (td_rules_until, .inl (k_td_rules_until, 5, .inl f_td_rules_until))] s.heap.size = A at hD ⊢
  have hA : ∀ q : Nat, s.heap.size ≤ q → A q := fun q h => by rw [← hAe]; exact Or.inr h
  have hS : va_S A s.heap s.heap [] := va_S.rf
  have hP : va_P (dC, dI) vwCl [(rr, .inr (4, [.ref rr_tape, .int rr_bytes, .int rr_fault, .int rr_place, .ref tk, .null, .int rr_at, .int rr_knots])), (tk, .inr (7, [.int tk_count, .ref tk_kind, .ref tk_place, .ref tk_worth, .ref tk_language])), (tk_kind, .inl (k_tk_kind, 701, .inl f_tk_kind)), (tk_place, .inl (k_tk_place, 701, .inl f_tk_place)), (tk_worth, .inl (k_tk_worth, 701, .inl f_tk_worth)), (td, .inr (8, [.int td_clocks, .int td_people, .int td_rounds, .int td_guns, .int td_lines, .ref td_name, .ref td_first, .ref td_gain, .ref td_rough, .ref td_custom, .ref td_part, .ref td_whole, .ref td_roundPerson, .ref td_roundClock, .ref td_roundHour, .ref td_gunClock, .ref td_gunHour, .ref td_rules])), (td_gain, .inl (k_td_gain, 10, .inl f_td_gain)), (td_rough, .inl (k_td_rough, 10, .inl f_td_rough)), (td_part, .inl (k_td_part, 5, .inl f_td_part)), (td_whole, .inl (k_td_whole, 5, .inl f_td_whole)), (td_rules, .inr (6, [.int td_rules_knots, .ref td_rules_kind, .ref td_rules_number, .ref td_rules_from, .ref td_rules_until, .ref td_rules_names, .ref td_rules_stack])), (td_rules_from, .inl (k_td_rules_from, 5, .inl f_td_rules_from)), (td_rules_until, .inl (k_td_rules_until, 5, .inl f_td_rules_until))] s.heap := hP
  have hl := lv_entry ([.ref rr, .int 0, .ref td]) (n := 4) (Nat.le_of_ble_eq_true rfl)
  rw [lg_entry_eq]
  generalize (lg_sl ([.ref rr, .int 0, .ref td]) ++ List.replicate (4 - (lg_sl ([.ref rr, .int 0, .ref td])).length) Slot.unset).toArray = ls at hl ⊢
  have hl : lv_has ls 4 [(0, .ref rr), (1, .int 0), (2, .ref td)] := hl
  refine lv_aload_n hx hb dX4_read_0 rfl (lv_at hl 0 rfl) ?_
  refine va_get (D := (dC, dI)) (ci := 4) (v := .ref tk) (C := RX4) (T := TX4) (N := 8) hx hb hT inX4 hown hK hP 0 rfl rfl 4 (by decide) (hT _ mw_1_130) (fun _ h9 => h9) rfl dX4_read_1 ?_
  refine lv_aload_n hx hb dX4_read_4 rfl (lv_at hl 0 rfl) ?_
  refine va_get (D := (dC, dI)) (ci := 4) (v := .ref rr_tape) (C := RX4) (T := TX4) (N := 8) hx hb hT inX4 hown hK hP 0 rfl rfl 0 (by decide) (hT _ mw_1_123) (fun _ h9 => h9) rfl dX4_read_5 ?_
  refine lv_iload_n hx hb dX4_read_8 rfl (lv_at hl 1 rfl) ?_
  have hPc := hP.sub (ws' := [(tk, .inr (7, [.int tk_count, .ref tk_kind, .ref tk_place, .ref tk_worth, .ref tk_language])), (tk_kind, .inl (k_tk_kind, 701, .inl f_tk_kind)), (tk_place, .inl (k_tk_place, 701, .inl f_tk_place)), (tk_worth, .inl (k_tk_worth, 701, .inl f_tk_worth))]) [1, 2, 3, 4] rfl
  have hDc := hD.sub (ws' := [(tk, .inr (7, [.int tk_count, .ref tk_kind, .ref tk_place, .ref tk_worth, .ref tk_language])), (tk_kind, .inl (k_tk_kind, 701, .inl f_tk_kind)), (tk_place, .inl (k_tk_place, 701, .inl f_tk_place)), (tk_worth, .inl (k_tk_worth, 701, .inl f_tk_worth))]) [1, 2, 3, 4] (by decide) rfl
  have hKc := hK.sub (tys' := [(k_tk_kind, .int), (k_tk_place, .int), (k_tk_worth, .int)]) [0, 1, 2] rfl
  have hFc := va_free (wc := [(tk, .inr (7, [.int tk_count, .ref tk_kind, .ref tk_place, .ref tk_worth, .ref tk_language])), (tk_kind, .inl (k_tk_kind, 701, .inl f_tk_kind)), (tk_place, .inl (k_tk_place, 701, .inl f_tk_place)), (tk_worth, .inl (k_tk_worth, 701, .inl f_tk_worth))]) hD hS hA [1, 2, 3, 4] rfl
  refine va_callv (va_runV (As := [.ref rr_tape, .int 0]) (rest := []) ⟨hx, hb, hml, hown, hT⟩ (c_X7_split l dC dI s.heap.size tk rr_tape tk_count tk_kind tk_place tk_worth tk_language k_tk_kind f_tk_kind k_tk_place f_tk_place k_tk_worth f_tk_worth hz) (cwV 2 hT (gwV mw_3_75 mw_3_76 mw_3_77 mw_1_3 mw_3_78) rfl rfl rfl (by decide +kernel) ⟨Nat.le_of_ble_eq_true rfl, Nat.le_of_ble_eq_true rfl⟩) ⟨fun a U g mk q => by obtain ⟨q0, q1, qP, qK, qD⟩ := q; exact ⟨q0, q1, qP, va_K.moved (u := U) (U := U.calling g mk a) (Vm.Alike.refl U.vm) qK, qD⟩, va_recv hK hP (ci := 7) (q0 := 1) rfl rfl, fun U hU hW => ⟨rfl, by rw [hU], by rw [hU]; exact hPc, va_K.moved hW.alike hKc, hDc.weaken (fun _ _ _ _ => trivial)⟩⟩ rfl rfl hl.1 rfl (lv_room (Nat.le_of_ble_eq_true rfl)) dX4_read_9 ⟨Nat.le_of_ble_eq_true rfl, Nat.le_of_ble_eq_true rfl⟩) hS (fun q _ h => hFc q h) hFc (fun u t H1 locs ht hvm hw hB hz1 hk1 hS => ?_)
  obtain ⟨x_3, x_4, x_5, hpr_2_0, hP1, hD1⟩ := hB
  rw [ht] at hP1
  obtain ⟨hP, hD⟩ := va_join (wr := [(rr, .inr (4, [.ref rr_tape, .int rr_bytes, .int rr_fault, .int rr_place, .ref tk, .null, .int rr_at, .int rr_knots])), (td, .inr (8, [.int td_clocks, .int td_people, .int td_rounds, .int td_guns, .int td_lines, .ref td_name, .ref td_first, .ref td_gain, .ref td_rough, .ref td_custom, .ref td_part, .ref td_whole, .ref td_roundPerson, .ref td_roundClock, .ref td_roundHour, .ref td_gunClock, .ref td_gunHour, .ref td_rules])), (td_gain, .inl (k_td_gain, 10, .inl f_td_gain)), (td_rough, .inl (k_td_rough, 10, .inl f_td_rough)), (td_part, .inl (k_td_part, 5, .inl f_td_part)), (td_whole, .inl (k_td_whole, 5, .inl f_td_whole)), (td_rules, .inr (6, [.int td_rules_knots, .ref td_rules_kind, .ref td_rules_number, .ref td_rules_from, .ref td_rules_until, .ref td_rules_names, .ref td_rules_stack])), (td_rules_from, .inl (k_td_rules_from, 5, .inl f_td_rules_from)), (td_rules_until, .inl (k_td_rules_until, 5, .inl f_td_rules_until))]) (w1 := [(tk, .inr (7, [.int 1, .ref tk_kind, .ref tk_place, .ref tk_worth, .ref tk_language])), (tk_kind, .inl (k_tk_kind, 701, .inl x_3)), (tk_place, .inl (k_tk_place, 701, .inl x_4)), (tk_worth, .inl (k_tk_worth, 701, .inl x_5))]) hP hD [1, 2, 3, 4] [0, 5, 6, 7, 8, 9, 10, 11, 12] rfl rfl (by decide) (by decide) hk1 hFc hP1 hD1
  generalize H1 = H at hP hS ⊢
  have hP : va_P (dC, dI) vwCl [(rr, .inr (4, [.ref rr_tape, .int rr_bytes, .int rr_fault, .int rr_place, .ref tk, .null, .int rr_at, .int rr_knots])), (td, .inr (8, [.int td_clocks, .int td_people, .int td_rounds, .int td_guns, .int td_lines, .ref td_name, .ref td_first, .ref td_gain, .ref td_rough, .ref td_custom, .ref td_part, .ref td_whole, .ref td_roundPerson, .ref td_roundClock, .ref td_roundHour, .ref td_gunClock, .ref td_gunHour, .ref td_rules])), (td_gain, .inl (k_td_gain, 10, .inl f_td_gain)), (td_rough, .inl (k_td_rough, 10, .inl f_td_rough)), (td_part, .inl (k_td_part, 5, .inl f_td_part)), (td_whole, .inl (k_td_whole, 5, .inl f_td_whole)), (td_rules, .inr (6, [.int td_rules_knots, .ref td_rules_kind, .ref td_rules_number, .ref td_rules_from, .ref td_rules_until, .ref td_rules_names, .ref td_rules_stack])), (td_rules_from, .inl (k_td_rules_from, 5, .inl f_td_rules_from)), (td_rules_until, .inl (k_td_rules_until, 5, .inl f_td_rules_until)), (tk, .inr (7, [.int 1, .ref tk_kind, .ref tk_place, .ref tk_worth, .ref tk_language])), (tk_kind, .inl (k_tk_kind, 701, .inl x_3)), (tk_place, .inl (k_tk_place, 701, .inl x_4)), (tk_worth, .inl (k_tk_worth, 701, .inl x_5))] H := hP
  have hD : va_D A [(rr, .inr (4, [.ref rr_tape, .int rr_bytes, .int rr_fault, .int rr_place, .ref tk, .null, .int rr_at, .int rr_knots])), (td, .inr (8, [.int td_clocks, .int td_people, .int td_rounds, .int td_guns, .int td_lines, .ref td_name, .ref td_first, .ref td_gain, .ref td_rough, .ref td_custom, .ref td_part, .ref td_whole, .ref td_roundPerson, .ref td_roundClock, .ref td_roundHour, .ref td_gunClock, .ref td_gunHour, .ref td_rules])), (td_gain, .inl (k_td_gain, 10, .inl f_td_gain)), (td_rough, .inl (k_td_rough, 10, .inl f_td_rough)), (td_part, .inl (k_td_part, 5, .inl f_td_part)), (td_whole, .inl (k_td_whole, 5, .inl f_td_whole)), (td_rules, .inr (6, [.int td_rules_knots, .ref td_rules_kind, .ref td_rules_number, .ref td_rules_from, .ref td_rules_until, .ref td_rules_names, .ref td_rules_stack])), (td_rules_from, .inl (k_td_rules_from, 5, .inl f_td_rules_from)), (td_rules_until, .inl (k_td_rules_until, 5, .inl f_td_rules_until)), (tk, .inr (7, [.int 1, .ref tk_kind, .ref tk_place, .ref tk_worth, .ref tk_language])), (tk_kind, .inl (k_tk_kind, 701, .inl x_3)), (tk_place, .inl (k_tk_place, 701, .inl x_4)), (tk_worth, .inl (k_tk_worth, 701, .inl x_5))] := hD
  clear hPc hDc hKc hFc hP1 hD1 hk1 hz1 ht hvm
  refine lv_aload_n hx hb dX4_read_12 rfl (lv_at hl 0 rfl) ?_
  refine lv_iconst (v := 0) hx hb dX4_read_13 (by decide) ?_
  refine va_put (D := (dC, dI)) (ci := 4) (v := .int 0) (ty := .int) (C := RX4) (T := TX4) (N := 8) hx hb hT inX4 tyX4 tyX4_ok nmX4 hown hK hP hD hS 0 rfl rfl 1 (by decide) (hT _ mw_1_125) (fun _ h9 => h9) rfl (by decide +kernel) rfl rfl (Nat.le_of_ble_eq_true rfl) dX4_read_14 (fun H locs hP hD hS => ?_)
  have hP : va_P (dC, dI) vwCl [(rr, .inr (4, [.ref rr_tape, .int 0, .int rr_fault, .int rr_place, .ref tk, .null, .int rr_at, .int rr_knots])), (td, .inr (8, [.int td_clocks, .int td_people, .int td_rounds, .int td_guns, .int td_lines, .ref td_name, .ref td_first, .ref td_gain, .ref td_rough, .ref td_custom, .ref td_part, .ref td_whole, .ref td_roundPerson, .ref td_roundClock, .ref td_roundHour, .ref td_gunClock, .ref td_gunHour, .ref td_rules])), (td_gain, .inl (k_td_gain, 10, .inl f_td_gain)), (td_rough, .inl (k_td_rough, 10, .inl f_td_rough)), (td_part, .inl (k_td_part, 5, .inl f_td_part)), (td_whole, .inl (k_td_whole, 5, .inl f_td_whole)), (td_rules, .inr (6, [.int td_rules_knots, .ref td_rules_kind, .ref td_rules_number, .ref td_rules_from, .ref td_rules_until, .ref td_rules_names, .ref td_rules_stack])), (td_rules_from, .inl (k_td_rules_from, 5, .inl f_td_rules_from)), (td_rules_until, .inl (k_td_rules_until, 5, .inl f_td_rules_until)), (tk, .inr (7, [.int 1, .ref tk_kind, .ref tk_place, .ref tk_worth, .ref tk_language])), (tk_kind, .inl (k_tk_kind, 701, .inl x_3)), (tk_place, .inl (k_tk_place, 701, .inl x_4)), (tk_worth, .inl (k_tk_worth, 701, .inl x_5))] H := hP
  have hD : va_D A [(rr, .inr (4, [.ref rr_tape, .int 0, .int rr_fault, .int rr_place, .ref tk, .null, .int rr_at, .int rr_knots])), (td, .inr (8, [.int td_clocks, .int td_people, .int td_rounds, .int td_guns, .int td_lines, .ref td_name, .ref td_first, .ref td_gain, .ref td_rough, .ref td_custom, .ref td_part, .ref td_whole, .ref td_roundPerson, .ref td_roundClock, .ref td_roundHour, .ref td_gunClock, .ref td_gunHour, .ref td_rules])), (td_gain, .inl (k_td_gain, 10, .inl f_td_gain)), (td_rough, .inl (k_td_rough, 10, .inl f_td_rough)), (td_part, .inl (k_td_part, 5, .inl f_td_part)), (td_whole, .inl (k_td_whole, 5, .inl f_td_whole)), (td_rules, .inr (6, [.int td_rules_knots, .ref td_rules_kind, .ref td_rules_number, .ref td_rules_from, .ref td_rules_until, .ref td_rules_names, .ref td_rules_stack])), (td_rules_from, .inl (k_td_rules_from, 5, .inl f_td_rules_from)), (td_rules_until, .inl (k_td_rules_until, 5, .inl f_td_rules_until)), (tk, .inr (7, [.int 1, .ref tk_kind, .ref tk_place, .ref tk_worth, .ref tk_language])), (tk_kind, .inl (k_tk_kind, 701, .inl x_3)), (tk_place, .inl (k_tk_place, 701, .inl x_4)), (tk_worth, .inl (k_tk_worth, 701, .inl x_5))] := hD
  refine lv_aload_n hx hb dX4_read_17 rfl (lv_at hl 0 rfl) ?_
  refine lv_iconst (v := 0) hx hb dX4_read_18 (by decide) ?_
  refine va_put (D := (dC, dI)) (ci := 4) (v := .int 0) (ty := .int) (C := RX4) (T := TX4) (N := 8) hx hb hT inX4 tyX4 tyX4_ok nmX4 hown hK hP hD hS 0 rfl rfl 2 (by decide) (hT _ mw_1_126) (fun _ h9 => h9) rfl (by decide +kernel) rfl rfl (Nat.le_of_ble_eq_true rfl) dX4_read_19 (fun H locs hP hD hS => ?_)
  have hP : va_P (dC, dI) vwCl [(rr, .inr (4, [.ref rr_tape, .int 0, .int 0, .int rr_place, .ref tk, .null, .int rr_at, .int rr_knots])), (td, .inr (8, [.int td_clocks, .int td_people, .int td_rounds, .int td_guns, .int td_lines, .ref td_name, .ref td_first, .ref td_gain, .ref td_rough, .ref td_custom, .ref td_part, .ref td_whole, .ref td_roundPerson, .ref td_roundClock, .ref td_roundHour, .ref td_gunClock, .ref td_gunHour, .ref td_rules])), (td_gain, .inl (k_td_gain, 10, .inl f_td_gain)), (td_rough, .inl (k_td_rough, 10, .inl f_td_rough)), (td_part, .inl (k_td_part, 5, .inl f_td_part)), (td_whole, .inl (k_td_whole, 5, .inl f_td_whole)), (td_rules, .inr (6, [.int td_rules_knots, .ref td_rules_kind, .ref td_rules_number, .ref td_rules_from, .ref td_rules_until, .ref td_rules_names, .ref td_rules_stack])), (td_rules_from, .inl (k_td_rules_from, 5, .inl f_td_rules_from)), (td_rules_until, .inl (k_td_rules_until, 5, .inl f_td_rules_until)), (tk, .inr (7, [.int 1, .ref tk_kind, .ref tk_place, .ref tk_worth, .ref tk_language])), (tk_kind, .inl (k_tk_kind, 701, .inl x_3)), (tk_place, .inl (k_tk_place, 701, .inl x_4)), (tk_worth, .inl (k_tk_worth, 701, .inl x_5))] H := hP
  have hD : va_D A [(rr, .inr (4, [.ref rr_tape, .int 0, .int 0, .int rr_place, .ref tk, .null, .int rr_at, .int rr_knots])), (td, .inr (8, [.int td_clocks, .int td_people, .int td_rounds, .int td_guns, .int td_lines, .ref td_name, .ref td_first, .ref td_gain, .ref td_rough, .ref td_custom, .ref td_part, .ref td_whole, .ref td_roundPerson, .ref td_roundClock, .ref td_roundHour, .ref td_gunClock, .ref td_gunHour, .ref td_rules])), (td_gain, .inl (k_td_gain, 10, .inl f_td_gain)), (td_rough, .inl (k_td_rough, 10, .inl f_td_rough)), (td_part, .inl (k_td_part, 5, .inl f_td_part)), (td_whole, .inl (k_td_whole, 5, .inl f_td_whole)), (td_rules, .inr (6, [.int td_rules_knots, .ref td_rules_kind, .ref td_rules_number, .ref td_rules_from, .ref td_rules_until, .ref td_rules_names, .ref td_rules_stack])), (td_rules_from, .inl (k_td_rules_from, 5, .inl f_td_rules_from)), (td_rules_until, .inl (k_td_rules_until, 5, .inl f_td_rules_until)), (tk, .inr (7, [.int 1, .ref tk_kind, .ref tk_place, .ref tk_worth, .ref tk_language])), (tk_kind, .inl (k_tk_kind, 701, .inl x_3)), (tk_place, .inl (k_tk_place, 701, .inl x_4)), (tk_worth, .inl (k_tk_worth, 701, .inl x_5))] := hD
  refine lv_aload_n hx hb dX4_read_22 rfl (lv_at hl 0 rfl) ?_
  refine lv_iconst (v := (-1)) hx hb dX4_read_23 (by decide) ?_
  refine va_put (D := (dC, dI)) (ci := 4) (v := .int (-1)) (ty := .int) (C := RX4) (T := TX4) (N := 8) hx hb hT inX4 tyX4 tyX4_ok nmX4 hown hK hP hD hS 0 rfl rfl 3 (by decide) (hT _ mw_1_128) (fun _ h9 => h9) rfl (by decide +kernel) rfl rfl (Nat.le_of_ble_eq_true rfl) dX4_read_24 (fun H locs hP hD hS => ?_)
  have hP : va_P (dC, dI) vwCl [(rr, .inr (4, [.ref rr_tape, .int 0, .int 0, .int (-1), .ref tk, .null, .int rr_at, .int rr_knots])), (td, .inr (8, [.int td_clocks, .int td_people, .int td_rounds, .int td_guns, .int td_lines, .ref td_name, .ref td_first, .ref td_gain, .ref td_rough, .ref td_custom, .ref td_part, .ref td_whole, .ref td_roundPerson, .ref td_roundClock, .ref td_roundHour, .ref td_gunClock, .ref td_gunHour, .ref td_rules])), (td_gain, .inl (k_td_gain, 10, .inl f_td_gain)), (td_rough, .inl (k_td_rough, 10, .inl f_td_rough)), (td_part, .inl (k_td_part, 5, .inl f_td_part)), (td_whole, .inl (k_td_whole, 5, .inl f_td_whole)), (td_rules, .inr (6, [.int td_rules_knots, .ref td_rules_kind, .ref td_rules_number, .ref td_rules_from, .ref td_rules_until, .ref td_rules_names, .ref td_rules_stack])), (td_rules_from, .inl (k_td_rules_from, 5, .inl f_td_rules_from)), (td_rules_until, .inl (k_td_rules_until, 5, .inl f_td_rules_until)), (tk, .inr (7, [.int 1, .ref tk_kind, .ref tk_place, .ref tk_worth, .ref tk_language])), (tk_kind, .inl (k_tk_kind, 701, .inl x_3)), (tk_place, .inl (k_tk_place, 701, .inl x_4)), (tk_worth, .inl (k_tk_worth, 701, .inl x_5))] H := hP
  have hD : va_D A [(rr, .inr (4, [.ref rr_tape, .int 0, .int 0, .int (-1), .ref tk, .null, .int rr_at, .int rr_knots])), (td, .inr (8, [.int td_clocks, .int td_people, .int td_rounds, .int td_guns, .int td_lines, .ref td_name, .ref td_first, .ref td_gain, .ref td_rough, .ref td_custom, .ref td_part, .ref td_whole, .ref td_roundPerson, .ref td_roundClock, .ref td_roundHour, .ref td_gunClock, .ref td_gunHour, .ref td_rules])), (td_gain, .inl (k_td_gain, 10, .inl f_td_gain)), (td_rough, .inl (k_td_rough, 10, .inl f_td_rough)), (td_part, .inl (k_td_part, 5, .inl f_td_part)), (td_whole, .inl (k_td_whole, 5, .inl f_td_whole)), (td_rules, .inr (6, [.int td_rules_knots, .ref td_rules_kind, .ref td_rules_number, .ref td_rules_from, .ref td_rules_until, .ref td_rules_names, .ref td_rules_stack])), (td_rules_from, .inl (k_td_rules_from, 5, .inl f_td_rules_from)), (td_rules_until, .inl (k_td_rules_until, 5, .inl f_td_rules_until)), (tk, .inr (7, [.int 1, .ref tk_kind, .ref tk_place, .ref tk_worth, .ref tk_language])), (tk_kind, .inl (k_tk_kind, 701, .inl x_3)), (tk_place, .inl (k_tk_place, 701, .inl x_4)), (tk_worth, .inl (k_tk_worth, 701, .inl x_5))] := hD
  refine lv_aload_n hx hb dX4_read_27 rfl (lv_at hl 0 rfl) ?_
  refine lv_iconst (v := 0) hx hb dX4_read_28 (by decide) ?_
  refine va_put (D := (dC, dI)) (ci := 4) (v := .int 0) (ty := .int) (C := RX4) (T := TX4) (N := 8) hx hb hT inX4 tyX4 tyX4_ok nmX4 hown hK hP hD hS 0 rfl rfl 6 (by decide) (hT _ mw_1_132) (fun _ h9 => h9) rfl (by decide +kernel) rfl rfl (Nat.le_of_ble_eq_true rfl) dX4_read_29 (fun H locs hP hD hS => ?_)
  have hP : va_P (dC, dI) vwCl [(rr, .inr (4, [.ref rr_tape, .int 0, .int 0, .int (-1), .ref tk, .null, .int 0, .int rr_knots])), (td, .inr (8, [.int td_clocks, .int td_people, .int td_rounds, .int td_guns, .int td_lines, .ref td_name, .ref td_first, .ref td_gain, .ref td_rough, .ref td_custom, .ref td_part, .ref td_whole, .ref td_roundPerson, .ref td_roundClock, .ref td_roundHour, .ref td_gunClock, .ref td_gunHour, .ref td_rules])), (td_gain, .inl (k_td_gain, 10, .inl f_td_gain)), (td_rough, .inl (k_td_rough, 10, .inl f_td_rough)), (td_part, .inl (k_td_part, 5, .inl f_td_part)), (td_whole, .inl (k_td_whole, 5, .inl f_td_whole)), (td_rules, .inr (6, [.int td_rules_knots, .ref td_rules_kind, .ref td_rules_number, .ref td_rules_from, .ref td_rules_until, .ref td_rules_names, .ref td_rules_stack])), (td_rules_from, .inl (k_td_rules_from, 5, .inl f_td_rules_from)), (td_rules_until, .inl (k_td_rules_until, 5, .inl f_td_rules_until)), (tk, .inr (7, [.int 1, .ref tk_kind, .ref tk_place, .ref tk_worth, .ref tk_language])), (tk_kind, .inl (k_tk_kind, 701, .inl x_3)), (tk_place, .inl (k_tk_place, 701, .inl x_4)), (tk_worth, .inl (k_tk_worth, 701, .inl x_5))] H := hP
  have hD : va_D A [(rr, .inr (4, [.ref rr_tape, .int 0, .int 0, .int (-1), .ref tk, .null, .int 0, .int rr_knots])), (td, .inr (8, [.int td_clocks, .int td_people, .int td_rounds, .int td_guns, .int td_lines, .ref td_name, .ref td_first, .ref td_gain, .ref td_rough, .ref td_custom, .ref td_part, .ref td_whole, .ref td_roundPerson, .ref td_roundClock, .ref td_roundHour, .ref td_gunClock, .ref td_gunHour, .ref td_rules])), (td_gain, .inl (k_td_gain, 10, .inl f_td_gain)), (td_rough, .inl (k_td_rough, 10, .inl f_td_rough)), (td_part, .inl (k_td_part, 5, .inl f_td_part)), (td_whole, .inl (k_td_whole, 5, .inl f_td_whole)), (td_rules, .inr (6, [.int td_rules_knots, .ref td_rules_kind, .ref td_rules_number, .ref td_rules_from, .ref td_rules_until, .ref td_rules_names, .ref td_rules_stack])), (td_rules_from, .inl (k_td_rules_from, 5, .inl f_td_rules_from)), (td_rules_until, .inl (k_td_rules_until, 5, .inl f_td_rules_until)), (tk, .inr (7, [.int 1, .ref tk_kind, .ref tk_place, .ref tk_worth, .ref tk_language])), (tk_kind, .inl (k_tk_kind, 701, .inl x_3)), (tk_place, .inl (k_tk_place, 701, .inl x_4)), (tk_worth, .inl (k_tk_worth, 701, .inl x_5))] := hD
  refine lv_aload_n hx hb dX4_read_32 rfl (lv_at hl 0 rfl) ?_
  refine lv_iconst (v := 0) hx hb dX4_read_33 (by decide) ?_
  refine va_put (D := (dC, dI)) (ci := 4) (v := .int 0) (ty := .int) (C := RX4) (T := TX4) (N := 8) hx hb hT inX4 tyX4 tyX4_ok nmX4 hown hK hP hD hS 0 rfl rfl 7 (by decide) (hT _ mw_1_133) (fun _ h9 => h9) rfl (by decide +kernel) rfl rfl (Nat.le_of_ble_eq_true rfl) dX4_read_34 (fun H locs hP hD hS => ?_)
  have hP : va_P (dC, dI) vwCl [(rr, .inr (4, [.ref rr_tape, .int 0, .int 0, .int (-1), .ref tk, .null, .int 0, .int 0])), (td, .inr (8, [.int td_clocks, .int td_people, .int td_rounds, .int td_guns, .int td_lines, .ref td_name, .ref td_first, .ref td_gain, .ref td_rough, .ref td_custom, .ref td_part, .ref td_whole, .ref td_roundPerson, .ref td_roundClock, .ref td_roundHour, .ref td_gunClock, .ref td_gunHour, .ref td_rules])), (td_gain, .inl (k_td_gain, 10, .inl f_td_gain)), (td_rough, .inl (k_td_rough, 10, .inl f_td_rough)), (td_part, .inl (k_td_part, 5, .inl f_td_part)), (td_whole, .inl (k_td_whole, 5, .inl f_td_whole)), (td_rules, .inr (6, [.int td_rules_knots, .ref td_rules_kind, .ref td_rules_number, .ref td_rules_from, .ref td_rules_until, .ref td_rules_names, .ref td_rules_stack])), (td_rules_from, .inl (k_td_rules_from, 5, .inl f_td_rules_from)), (td_rules_until, .inl (k_td_rules_until, 5, .inl f_td_rules_until)), (tk, .inr (7, [.int 1, .ref tk_kind, .ref tk_place, .ref tk_worth, .ref tk_language])), (tk_kind, .inl (k_tk_kind, 701, .inl x_3)), (tk_place, .inl (k_tk_place, 701, .inl x_4)), (tk_worth, .inl (k_tk_worth, 701, .inl x_5))] H := hP
  have hD : va_D A [(rr, .inr (4, [.ref rr_tape, .int 0, .int 0, .int (-1), .ref tk, .null, .int 0, .int 0])), (td, .inr (8, [.int td_clocks, .int td_people, .int td_rounds, .int td_guns, .int td_lines, .ref td_name, .ref td_first, .ref td_gain, .ref td_rough, .ref td_custom, .ref td_part, .ref td_whole, .ref td_roundPerson, .ref td_roundClock, .ref td_roundHour, .ref td_gunClock, .ref td_gunHour, .ref td_rules])), (td_gain, .inl (k_td_gain, 10, .inl f_td_gain)), (td_rough, .inl (k_td_rough, 10, .inl f_td_rough)), (td_part, .inl (k_td_part, 5, .inl f_td_part)), (td_whole, .inl (k_td_whole, 5, .inl f_td_whole)), (td_rules, .inr (6, [.int td_rules_knots, .ref td_rules_kind, .ref td_rules_number, .ref td_rules_from, .ref td_rules_until, .ref td_rules_names, .ref td_rules_stack])), (td_rules_from, .inl (k_td_rules_from, 5, .inl f_td_rules_from)), (td_rules_until, .inl (k_td_rules_until, 5, .inl f_td_rules_until)), (tk, .inr (7, [.int 1, .ref tk_kind, .ref tk_place, .ref tk_worth, .ref tk_language])), (tk_kind, .inl (k_tk_kind, 701, .inl x_3)), (tk_place, .inl (k_tk_place, 701, .inl x_4)), (tk_worth, .inl (k_tk_worth, 701, .inl x_5))] := hD
  refine lv_aload_n hx hb dX4_read_37 rfl (lv_at hl 0 rfl) ?_
  refine lv_aload_n hx hb dX4_read_38 rfl (lv_at hl 2 rfl) ?_
  refine va_put (D := (dC, dI)) (ci := 4) (v := .ref td) (ty := (.object "PassedClocks$Told")) (C := RX4) (T := TX4) (N := 8) hx hb hT inX4 tyX4 tyX4_ok nmX4 hown hK hP hD hS 0 rfl rfl 5 (by decide) (hT _ mw_1_131) (fun _ h9 => h9) rfl (by decide +kernel) rfl rfl (Nat.le_of_ble_eq_true rfl) dX4_read_39 (fun H locs hP hD hS => ?_)
  have hP : va_P (dC, dI) vwCl [(rr, .inr (4, [.ref rr_tape, .int 0, .int 0, .int (-1), .ref tk, .ref td, .int 0, .int 0])), (td, .inr (8, [.int td_clocks, .int td_people, .int td_rounds, .int td_guns, .int td_lines, .ref td_name, .ref td_first, .ref td_gain, .ref td_rough, .ref td_custom, .ref td_part, .ref td_whole, .ref td_roundPerson, .ref td_roundClock, .ref td_roundHour, .ref td_gunClock, .ref td_gunHour, .ref td_rules])), (td_gain, .inl (k_td_gain, 10, .inl f_td_gain)), (td_rough, .inl (k_td_rough, 10, .inl f_td_rough)), (td_part, .inl (k_td_part, 5, .inl f_td_part)), (td_whole, .inl (k_td_whole, 5, .inl f_td_whole)), (td_rules, .inr (6, [.int td_rules_knots, .ref td_rules_kind, .ref td_rules_number, .ref td_rules_from, .ref td_rules_until, .ref td_rules_names, .ref td_rules_stack])), (td_rules_from, .inl (k_td_rules_from, 5, .inl f_td_rules_from)), (td_rules_until, .inl (k_td_rules_until, 5, .inl f_td_rules_until)), (tk, .inr (7, [.int 1, .ref tk_kind, .ref tk_place, .ref tk_worth, .ref tk_language])), (tk_kind, .inl (k_tk_kind, 701, .inl x_3)), (tk_place, .inl (k_tk_place, 701, .inl x_4)), (tk_worth, .inl (k_tk_worth, 701, .inl x_5))] H := hP
  have hD : va_D A [(rr, .inr (4, [.ref rr_tape, .int 0, .int 0, .int (-1), .ref tk, .ref td, .int 0, .int 0])), (td, .inr (8, [.int td_clocks, .int td_people, .int td_rounds, .int td_guns, .int td_lines, .ref td_name, .ref td_first, .ref td_gain, .ref td_rough, .ref td_custom, .ref td_part, .ref td_whole, .ref td_roundPerson, .ref td_roundClock, .ref td_roundHour, .ref td_gunClock, .ref td_gunHour, .ref td_rules])), (td_gain, .inl (k_td_gain, 10, .inl f_td_gain)), (td_rough, .inl (k_td_rough, 10, .inl f_td_rough)), (td_part, .inl (k_td_part, 5, .inl f_td_part)), (td_whole, .inl (k_td_whole, 5, .inl f_td_whole)), (td_rules, .inr (6, [.int td_rules_knots, .ref td_rules_kind, .ref td_rules_number, .ref td_rules_from, .ref td_rules_until, .ref td_rules_names, .ref td_rules_stack])), (td_rules_from, .inl (k_td_rules_from, 5, .inl f_td_rules_from)), (td_rules_until, .inl (k_td_rules_until, 5, .inl f_td_rules_until)), (tk, .inr (7, [.int 1, .ref tk_kind, .ref tk_place, .ref tk_worth, .ref tk_language])), (tk_kind, .inl (k_tk_kind, 701, .inl x_3)), (tk_place, .inl (k_tk_place, 701, .inl x_4)), (tk_worth, .inl (k_tk_worth, 701, .inl x_5))] := hD
  refine lv_aload_n hx hb dX4_read_42 rfl (lv_at hl 0 rfl) ?_
  refine va_get (D := (dC, dI)) (ci := 4) (v := .ref td) (C := RX4) (T := TX4) (N := 8) hx hb hT inX4 hown hK hP 0 rfl rfl 5 (by decide) (hT _ mw_1_131) (fun _ h9 => h9) rfl dX4_read_43 ?_
  have hPc := hP.sub (ws' := [(td, .inr (8, [.int td_clocks, .int td_people, .int td_rounds, .int td_guns, .int td_lines, .ref td_name, .ref td_first, .ref td_gain, .ref td_rough, .ref td_custom, .ref td_part, .ref td_whole, .ref td_roundPerson, .ref td_roundClock, .ref td_roundHour, .ref td_gunClock, .ref td_gunHour, .ref td_rules])), (td_gain, .inl (k_td_gain, 10, .inl f_td_gain)), (td_rough, .inl (k_td_rough, 10, .inl f_td_rough)), (td_part, .inl (k_td_part, 5, .inl f_td_part)), (td_whole, .inl (k_td_whole, 5, .inl f_td_whole)), (td_rules, .inr (6, [.int td_rules_knots, .ref td_rules_kind, .ref td_rules_number, .ref td_rules_from, .ref td_rules_until, .ref td_rules_names, .ref td_rules_stack])), (td_rules_from, .inl (k_td_rules_from, 5, .inl f_td_rules_from)), (td_rules_until, .inl (k_td_rules_until, 5, .inl f_td_rules_until))]) [1, 2, 3, 4, 5, 6, 7, 8] rfl
  have hDc := hD.sub (ws' := [(td, .inr (8, [.int td_clocks, .int td_people, .int td_rounds, .int td_guns, .int td_lines, .ref td_name, .ref td_first, .ref td_gain, .ref td_rough, .ref td_custom, .ref td_part, .ref td_whole, .ref td_roundPerson, .ref td_roundClock, .ref td_roundHour, .ref td_gunClock, .ref td_gunHour, .ref td_rules])), (td_gain, .inl (k_td_gain, 10, .inl f_td_gain)), (td_rough, .inl (k_td_rough, 10, .inl f_td_rough)), (td_part, .inl (k_td_part, 5, .inl f_td_part)), (td_whole, .inl (k_td_whole, 5, .inl f_td_whole)), (td_rules, .inr (6, [.int td_rules_knots, .ref td_rules_kind, .ref td_rules_number, .ref td_rules_from, .ref td_rules_until, .ref td_rules_names, .ref td_rules_stack])), (td_rules_from, .inl (k_td_rules_from, 5, .inl f_td_rules_from)), (td_rules_until, .inl (k_td_rules_until, 5, .inl f_td_rules_until))]) [1, 2, 3, 4, 5, 6, 7, 8] (by decide) rfl
  have hKc := hK.sub (tys' := [(k_td_gain, .int), (k_td_rough, .int), (k_td_part, .int), (k_td_whole, .int), (k_td_rules_from, .int), (k_td_rules_until, .int)]) [3, 4, 5, 6, 7, 8] rfl
  have hFc := va_free (wc := [(td, .inr (8, [.int td_clocks, .int td_people, .int td_rounds, .int td_guns, .int td_lines, .ref td_name, .ref td_first, .ref td_gain, .ref td_rough, .ref td_custom, .ref td_part, .ref td_whole, .ref td_roundPerson, .ref td_roundClock, .ref td_roundHour, .ref td_gunClock, .ref td_gunHour, .ref td_rules])), (td_gain, .inl (k_td_gain, 10, .inl f_td_gain)), (td_rough, .inl (k_td_rough, 10, .inl f_td_rough)), (td_part, .inl (k_td_part, 5, .inl f_td_part)), (td_whole, .inl (k_td_whole, 5, .inl f_td_whole)), (td_rules, .inr (6, [.int td_rules_knots, .ref td_rules_kind, .ref td_rules_number, .ref td_rules_from, .ref td_rules_until, .ref td_rules_names, .ref td_rules_stack])), (td_rules_from, .inl (k_td_rules_from, 5, .inl f_td_rules_from)), (td_rules_until, .inl (k_td_rules_until, 5, .inl f_td_rules_until))]) hD hS hA [1, 2, 3, 4, 5, 6, 7, 8] rfl
  refine va_callv (va_runV (As := []) (rest := []) ⟨hx, hb, hml, hown, hT⟩ (c_X8_clear l dC dI H.size td td_clocks td_people td_rounds td_guns td_lines td_name td_first td_gain td_rough td_custom td_part td_whole td_roundPerson td_roundClock td_roundHour td_gunClock td_gunHour td_rules k_td_gain f_td_gain k_td_rough f_td_rough k_td_part f_td_part k_td_whole f_td_whole td_rules_knots td_rules_kind td_rules_number td_rules_from td_rules_until td_rules_names td_rules_stack k_td_rules_from f_td_rules_from k_td_rules_until f_td_rules_until ) (cwV 0 hT (gwV mw_3_112 mw_3_113 mw_3_114 mw_1_8 mw_3_115) rfl rfl rfl (by decide +kernel) ⟨Nat.le_of_ble_eq_true rfl, Nat.le_of_ble_eq_true rfl⟩) ⟨fun a U g mk q => by obtain ⟨q0, q1, qP, qK, qD⟩ := q; exact ⟨q0, q1, qP, va_K.moved (u := U) (U := U.calling g mk a) (Vm.Alike.refl U.vm) qK, qD⟩, va_recv hK hP (ci := 8) (q0 := 1) rfl rfl, fun U hU hW => ⟨rfl, by rw [hU], by rw [hU]; exact hPc, va_K.moved hW.alike hKc, hDc.weaken (fun _ _ _ _ => trivial)⟩⟩ rfl rfl hl.1 rfl (lv_room (Nat.le_of_ble_eq_true rfl)) dX4_read_46 ⟨Nat.le_of_ble_eq_true rfl, Nat.le_of_ble_eq_true rfl⟩) hS (fun q _ h => hFc q h) hFc (fun u t H1 locs ht hvm hw hB hz1 hk1 hS => ?_)
  obtain ⟨x_8, x_9, x_10, x_11, x_12, x_13, hP1, hD1⟩ := hB
  rw [ht] at hP1
  obtain ⟨hP, hD⟩ := va_join (wr := [(rr, .inr (4, [.ref rr_tape, .int 0, .int 0, .int (-1), .ref tk, .ref td, .int 0, .int 0])), (tk, .inr (7, [.int 1, .ref tk_kind, .ref tk_place, .ref tk_worth, .ref tk_language])), (tk_kind, .inl (k_tk_kind, 701, .inl x_3)), (tk_place, .inl (k_tk_place, 701, .inl x_4)), (tk_worth, .inl (k_tk_worth, 701, .inl x_5))]) (w1 := [(td, .inr (8, [.int 0, .int 0, .int 0, .int 0, .int 0, .ref td_name, .ref td_first, .ref td_gain, .ref td_rough, .ref td_custom, .ref td_part, .ref td_whole, .ref td_roundPerson, .ref td_roundClock, .ref td_roundHour, .ref td_gunClock, .ref td_gunHour, .ref td_rules])), (td_gain, .inl (k_td_gain, 10, .inl x_8)), (td_rough, .inl (k_td_rough, 10, .inl x_9)), (td_part, .inl (k_td_part, 5, .inl x_10)), (td_whole, .inl (k_td_whole, 5, .inl x_11)), (td_rules, .inr (6, [.int 0, .ref td_rules_kind, .ref td_rules_number, .ref td_rules_from, .ref td_rules_until, .ref td_rules_names, .ref td_rules_stack])), (td_rules_from, .inl (k_td_rules_from, 5, .inl x_12)), (td_rules_until, .inl (k_td_rules_until, 5, .inl x_13))]) hP hD [1, 2, 3, 4, 5, 6, 7, 8] [0, 9, 10, 11, 12] rfl rfl (by decide) (by decide) hk1 hFc hP1 hD1
  generalize H1 = H at hP hS ⊢
  have hP : va_P (dC, dI) vwCl [(rr, .inr (4, [.ref rr_tape, .int 0, .int 0, .int (-1), .ref tk, .ref td, .int 0, .int 0])), (tk, .inr (7, [.int 1, .ref tk_kind, .ref tk_place, .ref tk_worth, .ref tk_language])), (tk_kind, .inl (k_tk_kind, 701, .inl x_3)), (tk_place, .inl (k_tk_place, 701, .inl x_4)), (tk_worth, .inl (k_tk_worth, 701, .inl x_5)), (td, .inr (8, [.int 0, .int 0, .int 0, .int 0, .int 0, .ref td_name, .ref td_first, .ref td_gain, .ref td_rough, .ref td_custom, .ref td_part, .ref td_whole, .ref td_roundPerson, .ref td_roundClock, .ref td_roundHour, .ref td_gunClock, .ref td_gunHour, .ref td_rules])), (td_gain, .inl (k_td_gain, 10, .inl x_8)), (td_rough, .inl (k_td_rough, 10, .inl x_9)), (td_part, .inl (k_td_part, 5, .inl x_10)), (td_whole, .inl (k_td_whole, 5, .inl x_11)), (td_rules, .inr (6, [.int 0, .ref td_rules_kind, .ref td_rules_number, .ref td_rules_from, .ref td_rules_until, .ref td_rules_names, .ref td_rules_stack])), (td_rules_from, .inl (k_td_rules_from, 5, .inl x_12)), (td_rules_until, .inl (k_td_rules_until, 5, .inl x_13))] H := hP
  have hD : va_D A [(rr, .inr (4, [.ref rr_tape, .int 0, .int 0, .int (-1), .ref tk, .ref td, .int 0, .int 0])), (tk, .inr (7, [.int 1, .ref tk_kind, .ref tk_place, .ref tk_worth, .ref tk_language])), (tk_kind, .inl (k_tk_kind, 701, .inl x_3)), (tk_place, .inl (k_tk_place, 701, .inl x_4)), (tk_worth, .inl (k_tk_worth, 701, .inl x_5)), (td, .inr (8, [.int 0, .int 0, .int 0, .int 0, .int 0, .ref td_name, .ref td_first, .ref td_gain, .ref td_rough, .ref td_custom, .ref td_part, .ref td_whole, .ref td_roundPerson, .ref td_roundClock, .ref td_roundHour, .ref td_gunClock, .ref td_gunHour, .ref td_rules])), (td_gain, .inl (k_td_gain, 10, .inl x_8)), (td_rough, .inl (k_td_rough, 10, .inl x_9)), (td_part, .inl (k_td_part, 5, .inl x_10)), (td_whole, .inl (k_td_whole, 5, .inl x_11)), (td_rules, .inr (6, [.int 0, .ref td_rules_kind, .ref td_rules_number, .ref td_rules_from, .ref td_rules_until, .ref td_rules_names, .ref td_rules_stack])), (td_rules_from, .inl (k_td_rules_from, 5, .inl x_12)), (td_rules_until, .inl (k_td_rules_until, 5, .inl x_13))] := hD
  clear hPc hDc hKc hFc hP1 hD1 hk1 hz1 ht hvm
  refine lv_iconst (v := 0) hx hb dX4_read_49 (by decide) ?_
  refine lv_istore_n (lv' := [(3, .int 0), (0, .ref rr), (1, .int 0), (2, .ref td)]) hx hb dX4_read_50 rfl hl (by decide) rfl (fun ls hl => ?_)
  refine lv_iload_n hx hb dX4_read_51 rfl (lv_at hl 0 rfl) ?_
  refine lv_sipush (v := 700) hx hb dX4_read_52 (by decide) ?_
  refine lv_icmp_ge (tgt := 157) hx hb dX4_read_55 (by decide) (fun c_14 => absurd c_14 (by decide)) (fun c_14 => ?_)
  refine lv_aload_n hx hb dX4_read_58 rfl (lv_at hl 1 rfl) ?_
  have hPc := hP.sub (ws' := [(rr, .inr (4, [.ref rr_tape, .int 0, .int 0, .int (-1), .ref tk, .ref td, .int 0, .int 0])), (tk, .inr (7, [.int 1, .ref tk_kind, .ref tk_place, .ref tk_worth, .ref tk_language])), (tk_kind, .inl (k_tk_kind, 701, .inl x_3))]) [0, 1, 2] rfl
  have hDc := hD.sub (ws' := [(rr, .inr (4, [.ref rr_tape, .int 0, .int 0, .int (-1), .ref tk, .ref td, .int 0, .int 0])), (tk, .inr (7, [.int 1, .ref tk_kind, .ref tk_place, .ref tk_worth, .ref tk_language])), (tk_kind, .inl (k_tk_kind, 701, .inl x_3))]) [0, 1, 2] (by decide) rfl
  have hKc := hK.sub (tys' := [(k_tk_kind, .int)]) [0] rfl
  have hFc := va_free (wc := [(rr, .inr (4, [.ref rr_tape, .int 0, .int 0, .int (-1), .ref tk, .ref td, .int 0, .int 0])), (tk, .inr (7, [.int 1, .ref tk_kind, .ref tk_place, .ref tk_worth, .ref tk_language])), (tk_kind, .inl (k_tk_kind, 701, .inl x_3))]) hD hS hA [0, 1, 2] rfl
  have := (by decide : (0 : Int32).toInt = 0)
  have := (by decide : (0 : Int32).toInt = 0)
  have := (by decide : ((-1) : Int32).toInt = -1)
  have := (by decide : (0 : Int32).toInt = 0)
  have := (by decide : (1 : Int32).toInt = 1)
  refine va_calli (va_runV (As := []) (rest := []) ⟨hx, hb, hml, hown, hT⟩ (c_X4_kind l dC dI H.size rr rr_tape (0 : Int32) (0 : Int32) ((-1) : Int32) tk td (0 : Int32) (1 : Int32) tk_kind tk_place tk_worth tk_language k_tk_kind x_3 hpr_2_0) (cwV 0 hT (gwV mw_3_124 mw_3_126 mp_1_5 mw_1_2 mw_3_127) rfl rfl rfl (by decide +kernel) ⟨Nat.le_of_ble_eq_true rfl, Nat.le_of_ble_eq_true rfl⟩) ⟨fun a U g mk q => by obtain ⟨q0, q1, qP, qK, qD⟩ := q; exact ⟨q0, q1, qP, va_K.moved (u := U) (U := U.calling g mk a) (Vm.Alike.refl U.vm) qK, qD⟩, va_recv hK hP (ci := 4) (q0 := 0) rfl rfl, fun U hU hW => ⟨rfl, by rw [hU], by rw [hU]; exact hPc, va_K.moved hW.alike hKc, hDc.weaken (fun _ _ _ _ => trivial)⟩⟩ rfl rfl hl.1 rfl (lv_room (Nat.le_of_ble_eq_true rfl)) dX4_read_59 ⟨Nat.le_of_ble_eq_true rfl, Nat.le_of_ble_eq_true rfl⟩) hS (fun q _ h => hFc q h) hFc (fun r_16 u t H1 locs ht hvm hw hB hz1 hk1 hS => ?_)
  obtain ⟨hP1, hD1⟩ := hB
  rw [ht] at hP1
  obtain ⟨hP, hD⟩ := va_join (wr := [(tk_place, .inl (k_tk_place, 701, .inl x_4)), (tk_worth, .inl (k_tk_worth, 701, .inl x_5)), (td, .inr (8, [.int 0, .int 0, .int 0, .int 0, .int 0, .ref td_name, .ref td_first, .ref td_gain, .ref td_rough, .ref td_custom, .ref td_part, .ref td_whole, .ref td_roundPerson, .ref td_roundClock, .ref td_roundHour, .ref td_gunClock, .ref td_gunHour, .ref td_rules])), (td_gain, .inl (k_td_gain, 10, .inl x_8)), (td_rough, .inl (k_td_rough, 10, .inl x_9)), (td_part, .inl (k_td_part, 5, .inl x_10)), (td_whole, .inl (k_td_whole, 5, .inl x_11)), (td_rules, .inr (6, [.int 0, .ref td_rules_kind, .ref td_rules_number, .ref td_rules_from, .ref td_rules_until, .ref td_rules_names, .ref td_rules_stack])), (td_rules_from, .inl (k_td_rules_from, 5, .inl x_12)), (td_rules_until, .inl (k_td_rules_until, 5, .inl x_13))]) (w1 := [(rr, .inr (4, [.ref rr_tape, .int 0, .int 0, .int (-1), .ref tk, .ref td, .int 0, .int 0])), (tk, .inr (7, [.int 1, .ref tk_kind, .ref tk_place, .ref tk_worth, .ref tk_language])), (tk_kind, .inl (k_tk_kind, 701, .inl x_3))]) hP hD [0, 1, 2] [3, 4, 5, 6, 7, 8, 9, 10, 11, 12] rfl rfl (by decide) (by decide) hk1 hFc hP1 hD1
  generalize H1 = H at hP hS ⊢
  have hP : va_P (dC, dI) vwCl [(tk_place, .inl (k_tk_place, 701, .inl x_4)), (tk_worth, .inl (k_tk_worth, 701, .inl x_5)), (td, .inr (8, [.int 0, .int 0, .int 0, .int 0, .int 0, .ref td_name, .ref td_first, .ref td_gain, .ref td_rough, .ref td_custom, .ref td_part, .ref td_whole, .ref td_roundPerson, .ref td_roundClock, .ref td_roundHour, .ref td_gunClock, .ref td_gunHour, .ref td_rules])), (td_gain, .inl (k_td_gain, 10, .inl x_8)), (td_rough, .inl (k_td_rough, 10, .inl x_9)), (td_part, .inl (k_td_part, 5, .inl x_10)), (td_whole, .inl (k_td_whole, 5, .inl x_11)), (td_rules, .inr (6, [.int 0, .ref td_rules_kind, .ref td_rules_number, .ref td_rules_from, .ref td_rules_until, .ref td_rules_names, .ref td_rules_stack])), (td_rules_from, .inl (k_td_rules_from, 5, .inl x_12)), (td_rules_until, .inl (k_td_rules_until, 5, .inl x_13)), (rr, .inr (4, [.ref rr_tape, .int 0, .int 0, .int (-1), .ref tk, .ref td, .int 0, .int 0])), (tk, .inr (7, [.int 1, .ref tk_kind, .ref tk_place, .ref tk_worth, .ref tk_language])), (tk_kind, .inl (k_tk_kind, 701, .inl x_3))] H := hP
  have hD : va_D A [(tk_place, .inl (k_tk_place, 701, .inl x_4)), (tk_worth, .inl (k_tk_worth, 701, .inl x_5)), (td, .inr (8, [.int 0, .int 0, .int 0, .int 0, .int 0, .ref td_name, .ref td_first, .ref td_gain, .ref td_rough, .ref td_custom, .ref td_part, .ref td_whole, .ref td_roundPerson, .ref td_roundClock, .ref td_roundHour, .ref td_gunClock, .ref td_gunHour, .ref td_rules])), (td_gain, .inl (k_td_gain, 10, .inl x_8)), (td_rough, .inl (k_td_rough, 10, .inl x_9)), (td_part, .inl (k_td_part, 5, .inl x_10)), (td_whole, .inl (k_td_whole, 5, .inl x_11)), (td_rules, .inr (6, [.int 0, .ref td_rules_kind, .ref td_rules_number, .ref td_rules_from, .ref td_rules_until, .ref td_rules_names, .ref td_rules_stack])), (td_rules_from, .inl (k_td_rules_from, 5, .inl x_12)), (td_rules_until, .inl (k_td_rules_until, 5, .inl x_13)), (rr, .inr (4, [.ref rr_tape, .int 0, .int 0, .int (-1), .ref tk, .ref td, .int 0, .int 0])), (tk, .inr (7, [.int 1, .ref tk_kind, .ref tk_place, .ref tk_worth, .ref tk_language])), (tk_kind, .inl (k_tk_kind, 701, .inl x_3))] := hD
  clear hPc hDc hKc hFc hP1 hD1 hk1 hz1 ht hvm
  have hw : r_16 = 0 := hw
  subst r_16
  refine lv_if_eq (tgt := 157) hx hb dX4_read_62 (by decide) (fun c_17 => ?_) (fun c_17 => absurd c_17 (by decide))
  have hP9 := hP.sub (ws' := [(rr, .inr (4, [.ref rr_tape, .int 0, .int 0, .int (-1), .ref tk, .ref td, .int 0, .int 0])), (tk, .inr (7, [.int 1, .ref tk_kind, .ref tk_place, .ref tk_worth, .ref tk_language])), (tk_kind, .inl (k_tk_kind, 701, .inl x_3)), (tk_place, .inl (k_tk_place, 701, .inl x_4)), (tk_worth, .inl (k_tk_worth, 701, .inl x_5)), (td, .inr (8, [.int 0, .int 0, .int 0, .int 0, .int 0, .ref td_name, .ref td_first, .ref td_gain, .ref td_rough, .ref td_custom, .ref td_part, .ref td_whole, .ref td_roundPerson, .ref td_roundClock, .ref td_roundHour, .ref td_gunClock, .ref td_gunHour, .ref td_rules])), (td_gain, .inl (k_td_gain, 10, .inl x_8)), (td_rough, .inl (k_td_rough, 10, .inl x_9)), (td_part, .inl (k_td_part, 5, .inl x_10)), (td_whole, .inl (k_td_whole, 5, .inl x_11)), (td_rules, .inr (6, [.int 0, .ref td_rules_kind, .ref td_rules_number, .ref td_rules_from, .ref td_rules_until, .ref td_rules_names, .ref td_rules_stack])), (td_rules_from, .inl (k_td_rules_from, 5, .inl x_12)), (td_rules_until, .inl (k_td_rules_until, 5, .inl x_13))]) [10, 11, 12, 0, 1, 2, 3, 4, 5, 6, 7, 8, 9] rfl
  have hD9 := hD.sub (ws' := [(rr, .inr (4, [.ref rr_tape, .int 0, .int 0, .int (-1), .ref tk, .ref td, .int 0, .int 0])), (tk, .inr (7, [.int 1, .ref tk_kind, .ref tk_place, .ref tk_worth, .ref tk_language])), (tk_kind, .inl (k_tk_kind, 701, .inl x_3)), (tk_place, .inl (k_tk_place, 701, .inl x_4)), (tk_worth, .inl (k_tk_worth, 701, .inl x_5)), (td, .inr (8, [.int 0, .int 0, .int 0, .int 0, .int 0, .ref td_name, .ref td_first, .ref td_gain, .ref td_rough, .ref td_custom, .ref td_part, .ref td_whole, .ref td_roundPerson, .ref td_roundClock, .ref td_roundHour, .ref td_gunClock, .ref td_gunHour, .ref td_rules])), (td_gain, .inl (k_td_gain, 10, .inl x_8)), (td_rough, .inl (k_td_rough, 10, .inl x_9)), (td_part, .inl (k_td_part, 5, .inl x_10)), (td_whole, .inl (k_td_whole, 5, .inl x_11)), (td_rules, .inr (6, [.int 0, .ref td_rules_kind, .ref td_rules_number, .ref td_rules_from, .ref td_rules_until, .ref td_rules_names, .ref td_rules_stack])), (td_rules_from, .inl (k_td_rules_from, 5, .inl x_12)), (td_rules_until, .inl (k_td_rules_until, 5, .inl x_13))]) [10, 11, 12, 0, 1, 2, 3, 4, 5, 6, 7, 8, 9] (by decide) rfl
  refine W.widen (k := 0) (n := 0) (Nat.le_of_ble_eq_true rfl) (Nat.le_of_ble_eq_true rfl) ?_
  exact W.vret hx hb hr (fun t ht hW => ⟨⟨(), rfl, trivial, x_3, x_4, x_5, x_8, x_9, x_10, x_11, x_12, x_13, hpr_2_0, by rw [ht]; exact hP9, hD9⟩, hS.F ht⟩) hS.2.2 dX4_read_157
abbrev q_X4_take (dC : Nat → ClassId) (dI : Nat → Nat → Nat) (A : Nat → Prop) (rr : Nat) (vn : Int32) (rr_tape : Nat) (rr_fault : Int32) (rr_place : Int32) (rr_tokens : Nat) (rr_at : Int32) (rr_knots : Int32) (k_rr_tape : ClassId) (f_rr_tape : Nat → Int32) (vb : Nat) : Array Value → State → Outcome → State → Prop := va_Qv (fun _ : Unit => True) (fun (_ : Unit) (t : State) => ∃ (gg : Nat → Int32), va_P (dC, dI) vwCl [(rr, .inr (4, [.ref rr_tape, .int (nI (vb + 4)), .int rr_fault, .int rr_place, .ref rr_tokens, .null, .int rr_at, .int rr_knots])), (rr_tape, .inl (k_rr_tape, 700, .inl gg))] t.heap ∧ va_D A [(rr, .inr (4, [.ref rr_tape, .int (nI (vb + 4)), .int rr_fault, .int rr_place, .ref rr_tokens, .null, .int rr_at, .int rr_knots])), (rr_tape, .inl (k_rr_tape, 700, .inl gg))]) A
set_option maxHeartbeats 4000000 in
set_option maxRecDepth 100000 in
theorem c_X4_take (l : Launch) (dC : Nat → ClassId) (dI : Nat → Nat → Nat) (sz : Nat) (rr : Nat) (vn : Int32) (rr_tape : Nat) (rr_fault : Int32) (rr_place : Int32) (rr_tokens : Nat) (rr_at : Int32) (rr_knots : Int32) (k_rr_tape : ClassId) (f_rr_tape : Nat → Int32) (vb : Nat) (hv : vb ≤ 690) : Met l yX4_take (pw_w yX4_take cX4_take 3 none) ({ frames := 0, cells := 0, slots := 0, locals := 0 }) (va_Pc [.ref rr, .int vn] (fun U => U.heap.size = sz ∧ va_P (dC, dI) vwCl [(rr, .inr (4, [.ref rr_tape, .int (nI (vb)), .int rr_fault, .int rr_place, .ref rr_tokens, .null, .int rr_at, .int rr_knots])), (rr_tape, .inl (k_rr_tape, 700, .inl f_rr_tape))] U.heap ∧ va_K (dC, dI) vwCl [(k_rr_tape, .byte)] U ∧ va_D (fun _ => True) [(rr, .inr (4, [.ref rr_tape, .int (nI (vb)), .int rr_fault, .int rr_place, .ref rr_tokens, .null, .int rr_at, .int rr_knots])), (rr_tape, .inl (k_rr_tape, 700, .inl f_rr_tape))])) (q_X4_take dC dI (va_A [(rr, .inr (4, [.ref rr_tape, .int (nI (vb)), .int rr_fault, .int rr_place, .ref rr_tokens, .null, .int rr_at, .int rr_knots])), (rr_tape, .inl (k_rr_tape, 700, .inl f_rr_tape))] sz) rr vn rr_tape rr_fault rr_place rr_tokens rr_at rr_knots k_rr_tape f_rr_tape vb) 0 0 (va_A [(rr, .inr (4, [.ref rr_tape, .int (nI (vb)), .int rr_fault, .int rr_place, .ref rr_tokens, .null, .int rr_at, .int rr_knots])), (rr_tape, .inl (k_rr_tape, 700, .inl f_rr_tape))] sz) := by
  refine Met.ofW (cc := cX4_take) (maxL := 3) (ret := none) (by decide) rfl ?_
  intro p e s m args below meth c s₁ B hml hv
  obtain ⟨rfl, hsz, hP, hK, hD0⟩ := hv
  have hx := B.exec
  have hb := B.bytes
  have hr := B.returns
  have hts := atoms_spec (ws := (pw_w yX4_take cX4_take 3 none)) B.pre
  have hT : ∀ w ∈ pw_T, w.before _ s = true := fun w h => hts w (List.mem_cons_of_mem _ h)
  have hown : s.vm.findClass RX4 = some m.cls := findClass_of_methodNamed B.named
  have hlocks := B.notSynchronized
  subst hsz
  have hD := hD0.self (sz := s.heap.size)
  generalize hAe : va_A [(rr, .inr (4, [.ref rr_tape, .int (nI (vb)), .int rr_fault, .int rr_place, .ref rr_tokens, .null, .int rr_at, .int rr_knots])), (rr_tape, .inl (k_rr_tape, 700, .inl f_rr_tape))] s.heap.size = A at hD ⊢
  have hA : ∀ q : Nat, s.heap.size ≤ q → A q := fun q h => by rw [← hAe]; exact Or.inr h
  have hS : va_S A s.heap s.heap [] := va_S.rf
  have hP : va_P (dC, dI) vwCl [(rr, .inr (4, [.ref rr_tape, .int (nI (vb)), .int rr_fault, .int rr_place, .ref rr_tokens, .null, .int rr_at, .int rr_knots])), (rr_tape, .inl (k_rr_tape, 700, .inl f_rr_tape))] s.heap := hP
  have hl := lv_entry ([.ref rr, .int vn]) (n := 3) (Nat.le_of_ble_eq_true rfl)
  rw [lg_entry_eq]
  generalize (lg_sl ([.ref rr, .int vn]) ++ List.replicate (3 - (lg_sl ([.ref rr, .int vn])).length) Slot.unset).toArray = ls at hl ⊢
  have hl : lv_has ls 3 [(0, .ref rr), (1, .int vn)] := hl
  refine lv_bipush (v := 24) hx hb dX4_take_0 (by decide) ?_
  refine lv_istore_n (lv' := [(2, .int 24), (0, .ref rr), (1, .int vn)]) hx hb dX4_take_2 rfl hl (by decide) rfl (fun ls hl => ?_)
  refine lv_iload_n hx hb dX4_take_3 rfl (lv_at hl 0 rfl) ?_
  refine lv_if_lt (tgt := 46) hx hb dX4_take_4 (by decide) (fun c_1 => absurd c_1 (by decide)) (fun c_1 => ?_)
  refine lv_aload_n hx hb dX4_take_7 rfl (lv_at hl 1 rfl) ?_
  refine va_get (D := (dC, dI)) (ci := 4) (v := .int (nI (vb))) (C := RX4) (T := TX4) (N := 8) hx hb hT inX4 hown hK hP 0 rfl rfl 1 (by decide) (hT _ mw_1_125) (fun _ h9 => h9) rfl dX4_take_8 ?_
  refine lv_sipush (v := 700) hx hb dX4_take_11 (by decide) ?_
  refine lv_icmp_ge (tgt := 46) hx hb dX4_take_14 (by decide) (fun c_2 => False.elim (by have := il_le c_2; have := nI_toInt (n := vb) (by omega); have := (by decide : (700 : Int32).toInt = 700); omega)) (fun c_2 => ?_)
  have kc_2 := il_nle c_2
  have := nI_toInt (n := vb) (by omega); have := (by decide : (700 : Int32).toInt = 700)
  refine lv_aload_n hx hb dX4_take_17 rfl (lv_at hl 1 rfl) ?_
  refine va_get (D := (dC, dI)) (ci := 4) (v := .ref rr_tape) (C := RX4) (T := TX4) (N := 8) hx hb hT inX4 hown hK hP 0 rfl rfl 0 (by decide) (hT _ mw_1_123) (fun _ h9 => h9) rfl dX4_take_18 ?_
  refine lv_aload_n hx hb dX4_take_21 rfl (lv_at hl 1 rfl) ?_
  refine va_get (D := (dC, dI)) (ci := 4) (v := .int (nI (vb))) (C := RX4) (T := TX4) (N := 8) hx hb hT inX4 hown hK hP 0 rfl rfl 1 (by decide) (hT _ mw_1_125) (fun _ h9 => h9) rfl dX4_take_22 ?_
  refine lv_iload_n hx hb dX4_take_25 rfl (lv_at hl 2 rfl) ?_
  refine lv_iload_n hx hb dX4_take_26 rfl (lv_at hl 0 rfl) ?_
  refine lv_ishr hx hb dX4_take_27 ?_
  refine lv_topi (fun z_3 ez_3 => ?_)
  clear ez_3
  refine lv_i2b hx hb dX4_take_28 rfl ?_
  refine lv_topi (fun z_4 ez_4 => ?_)
  clear ez_4
  refine va_bast hx hb hK hP hD hS 1 0 rfl rfl (vp_in_nI (n := vb) (N := 700) (by omega) (by omega)) dX4_take_29 (fun H locs hP hD hS => ?_)
  have hP : va_P (dC, dI) vwCl [(rr, .inr (4, [.ref rr_tape, .int (nI (vb)), .int rr_fault, .int rr_place, .ref rr_tokens, .null, .int rr_at, .int rr_knots])), (rr_tape, .inl (k_rr_tape, 700, .inl (upd f_rr_tape ((nI (vb)) : Int32).toNatClampNeg (vp_nar .byte (z_4 : Int32)))))] H := hP
  have hD : va_D A [(rr, .inr (4, [.ref rr_tape, .int (nI (vb)), .int rr_fault, .int rr_place, .ref rr_tokens, .null, .int rr_at, .int rr_knots])), (rr_tape, .inl (k_rr_tape, 700, .inl (upd f_rr_tape ((nI (vb)) : Int32).toNatClampNeg (vp_nar .byte (z_4 : Int32)))))] := hD
  obtain ⟨f_5, ef_5⟩ : ∃ g : Nat → Int32, (upd f_rr_tape ((nI (vb)) : Int32).toNatClampNeg (vp_nar .byte (z_4 : Int32))) = g := ⟨_, rfl⟩
  rw [ef_5] at hP hD
  clear ef_5
  refine lv_aload_n hx hb dX4_take_30 rfl (lv_at hl 1 rfl) ?_
  refine lv_dup hx hb dX4_take_31 rfl ?_
  refine va_get (D := (dC, dI)) (ci := 4) (v := .int (nI (vb))) (C := RX4) (T := TX4) (N := 8) hx hb hT inX4 hown hK hP 0 rfl rfl 1 (by decide) (hT _ mw_1_125) (fun _ h9 => h9) rfl dX4_take_32 ?_
  refine lv_iconst (v := 1) hx hb dX4_take_35 (by decide) ?_
  refine lv_iadd hx hb dX4_take_36 ?_
  refine lv_topi (fun z_6 ez_6 => ?_)
  obtain rfl : z_6 = nI (vb + 1) := ez_6.trans (nI_add vb 1)
  refine va_put (D := (dC, dI)) (ci := 4) (v := .int (nI (vb + 1))) (ty := .int) (C := RX4) (T := TX4) (N := 8) hx hb hT inX4 tyX4 tyX4_ok nmX4 hown hK hP hD hS 0 rfl rfl 1 (by decide) (hT _ mw_1_125) (fun _ h9 => h9) rfl (by decide +kernel) rfl rfl (Nat.le_of_ble_eq_true rfl) dX4_take_37 (fun H locs hP hD hS => ?_)
  have hP : va_P (dC, dI) vwCl [(rr, .inr (4, [.ref rr_tape, .int (nI (vb + 1)), .int rr_fault, .int rr_place, .ref rr_tokens, .null, .int rr_at, .int rr_knots])), (rr_tape, .inl (k_rr_tape, 700, .inl f_5))] H := hP
  have hD : va_D A [(rr, .inr (4, [.ref rr_tape, .int (nI (vb + 1)), .int rr_fault, .int rr_place, .ref rr_tokens, .null, .int rr_at, .int rr_knots])), (rr_tape, .inl (k_rr_tape, 700, .inl f_5))] := hD
  refine lv_iinc (v := 16) (lv' := [(2, .int 16), (0, .ref rr), (1, .int vn)]) hx hb dX4_take_40 hl (k := 0) rfl (by decide) (by decide) rfl (fun ls hl => ?_)
  refine lv_goto (tgt := 3) hx hb dX4_take_43 (by decide) ?_
  refine lv_iload_n hx hb dX4_take_3 rfl (lv_at hl 0 rfl) ?_
  refine lv_if_lt (tgt := 46) hx hb dX4_take_4 (by decide) (fun c_7 => absurd c_7 (by decide)) (fun c_7 => ?_)
  refine lv_aload_n hx hb dX4_take_7 rfl (lv_at hl 1 rfl) ?_
  refine va_get (D := (dC, dI)) (ci := 4) (v := .int (nI (vb + 1))) (C := RX4) (T := TX4) (N := 8) hx hb hT inX4 hown hK hP 0 rfl rfl 1 (by decide) (hT _ mw_1_125) (fun _ h9 => h9) rfl dX4_take_8 ?_
  refine lv_sipush (v := 700) hx hb dX4_take_11 (by decide) ?_
  refine lv_icmp_ge (tgt := 46) hx hb dX4_take_14 (by decide) (fun c_8 => False.elim (by have := il_le c_8; have := nI_toInt (n := vb + 1) (by omega); have := (by decide : (700 : Int32).toInt = 700); omega)) (fun c_8 => ?_)
  have kc_8 := il_nle c_8
  have := nI_toInt (n := vb + 1) (by omega); have := (by decide : (700 : Int32).toInt = 700)
  refine lv_aload_n hx hb dX4_take_17 rfl (lv_at hl 1 rfl) ?_
  refine va_get (D := (dC, dI)) (ci := 4) (v := .ref rr_tape) (C := RX4) (T := TX4) (N := 8) hx hb hT inX4 hown hK hP 0 rfl rfl 0 (by decide) (hT _ mw_1_123) (fun _ h9 => h9) rfl dX4_take_18 ?_
  refine lv_aload_n hx hb dX4_take_21 rfl (lv_at hl 1 rfl) ?_
  refine va_get (D := (dC, dI)) (ci := 4) (v := .int (nI (vb + 1))) (C := RX4) (T := TX4) (N := 8) hx hb hT inX4 hown hK hP 0 rfl rfl 1 (by decide) (hT _ mw_1_125) (fun _ h9 => h9) rfl dX4_take_22 ?_
  refine lv_iload_n hx hb dX4_take_25 rfl (lv_at hl 2 rfl) ?_
  refine lv_iload_n hx hb dX4_take_26 rfl (lv_at hl 0 rfl) ?_
  refine lv_ishr hx hb dX4_take_27 ?_
  refine lv_topi (fun z_9 ez_9 => ?_)
  clear ez_9
  refine lv_i2b hx hb dX4_take_28 rfl ?_
  refine lv_topi (fun z_10 ez_10 => ?_)
  clear ez_10
  refine va_bast hx hb hK hP hD hS 1 0 rfl rfl (vp_in_nI (n := vb + 1) (N := 700) (by omega) (by omega)) dX4_take_29 (fun H locs hP hD hS => ?_)
  have hP : va_P (dC, dI) vwCl [(rr, .inr (4, [.ref rr_tape, .int (nI (vb + 1)), .int rr_fault, .int rr_place, .ref rr_tokens, .null, .int rr_at, .int rr_knots])), (rr_tape, .inl (k_rr_tape, 700, .inl (upd f_5 ((nI (vb + 1)) : Int32).toNatClampNeg (vp_nar .byte (z_10 : Int32)))))] H := hP
  have hD : va_D A [(rr, .inr (4, [.ref rr_tape, .int (nI (vb + 1)), .int rr_fault, .int rr_place, .ref rr_tokens, .null, .int rr_at, .int rr_knots])), (rr_tape, .inl (k_rr_tape, 700, .inl (upd f_5 ((nI (vb + 1)) : Int32).toNatClampNeg (vp_nar .byte (z_10 : Int32)))))] := hD
  obtain ⟨f_11, ef_11⟩ : ∃ g : Nat → Int32, (upd f_5 ((nI (vb + 1)) : Int32).toNatClampNeg (vp_nar .byte (z_10 : Int32))) = g := ⟨_, rfl⟩
  rw [ef_11] at hP hD
  clear ef_11
  refine lv_aload_n hx hb dX4_take_30 rfl (lv_at hl 1 rfl) ?_
  refine lv_dup hx hb dX4_take_31 rfl ?_
  refine va_get (D := (dC, dI)) (ci := 4) (v := .int (nI (vb + 1))) (C := RX4) (T := TX4) (N := 8) hx hb hT inX4 hown hK hP 0 rfl rfl 1 (by decide) (hT _ mw_1_125) (fun _ h9 => h9) rfl dX4_take_32 ?_
  refine lv_iconst (v := 1) hx hb dX4_take_35 (by decide) ?_
  refine lv_iadd hx hb dX4_take_36 ?_
  refine lv_topi (fun z_12 ez_12 => ?_)
  obtain rfl : z_12 = nI ((vb + 1) + 1) := ez_12.trans (nI_add (vb + 1) 1)
  refine va_put (D := (dC, dI)) (ci := 4) (v := .int (nI ((vb + 1) + 1))) (ty := .int) (C := RX4) (T := TX4) (N := 8) hx hb hT inX4 tyX4 tyX4_ok nmX4 hown hK hP hD hS 0 rfl rfl 1 (by decide) (hT _ mw_1_125) (fun _ h9 => h9) rfl (by decide +kernel) rfl rfl (Nat.le_of_ble_eq_true rfl) dX4_take_37 (fun H locs hP hD hS => ?_)
  have hP : va_P (dC, dI) vwCl [(rr, .inr (4, [.ref rr_tape, .int (nI ((vb + 1) + 1)), .int rr_fault, .int rr_place, .ref rr_tokens, .null, .int rr_at, .int rr_knots])), (rr_tape, .inl (k_rr_tape, 700, .inl f_11))] H := hP
  have hD : va_D A [(rr, .inr (4, [.ref rr_tape, .int (nI ((vb + 1) + 1)), .int rr_fault, .int rr_place, .ref rr_tokens, .null, .int rr_at, .int rr_knots])), (rr_tape, .inl (k_rr_tape, 700, .inl f_11))] := hD
  refine lv_iinc (v := 8) (lv' := [(2, .int 8), (0, .ref rr), (1, .int vn)]) hx hb dX4_take_40 hl (k := 0) rfl (by decide) (by decide) rfl (fun ls hl => ?_)
  refine lv_goto (tgt := 3) hx hb dX4_take_43 (by decide) ?_
  refine lv_iload_n hx hb dX4_take_3 rfl (lv_at hl 0 rfl) ?_
  refine lv_if_lt (tgt := 46) hx hb dX4_take_4 (by decide) (fun c_13 => absurd c_13 (by decide)) (fun c_13 => ?_)
  refine lv_aload_n hx hb dX4_take_7 rfl (lv_at hl 1 rfl) ?_
  refine va_get (D := (dC, dI)) (ci := 4) (v := .int (nI ((vb + 1) + 1))) (C := RX4) (T := TX4) (N := 8) hx hb hT inX4 hown hK hP 0 rfl rfl 1 (by decide) (hT _ mw_1_125) (fun _ h9 => h9) rfl dX4_take_8 ?_
  refine lv_sipush (v := 700) hx hb dX4_take_11 (by decide) ?_
  refine lv_icmp_ge (tgt := 46) hx hb dX4_take_14 (by decide) (fun c_14 => False.elim (by have := il_le c_14; have := nI_toInt (n := (vb + 1) + 1) (by omega); have := (by decide : (700 : Int32).toInt = 700); omega)) (fun c_14 => ?_)
  have kc_14 := il_nle c_14
  have := nI_toInt (n := (vb + 1) + 1) (by omega); have := (by decide : (700 : Int32).toInt = 700)
  refine lv_aload_n hx hb dX4_take_17 rfl (lv_at hl 1 rfl) ?_
  refine va_get (D := (dC, dI)) (ci := 4) (v := .ref rr_tape) (C := RX4) (T := TX4) (N := 8) hx hb hT inX4 hown hK hP 0 rfl rfl 0 (by decide) (hT _ mw_1_123) (fun _ h9 => h9) rfl dX4_take_18 ?_
  refine lv_aload_n hx hb dX4_take_21 rfl (lv_at hl 1 rfl) ?_
  refine va_get (D := (dC, dI)) (ci := 4) (v := .int (nI ((vb + 1) + 1))) (C := RX4) (T := TX4) (N := 8) hx hb hT inX4 hown hK hP 0 rfl rfl 1 (by decide) (hT _ mw_1_125) (fun _ h9 => h9) rfl dX4_take_22 ?_
  refine lv_iload_n hx hb dX4_take_25 rfl (lv_at hl 2 rfl) ?_
  refine lv_iload_n hx hb dX4_take_26 rfl (lv_at hl 0 rfl) ?_
  refine lv_ishr hx hb dX4_take_27 ?_
  refine lv_topi (fun z_15 ez_15 => ?_)
  clear ez_15
  refine lv_i2b hx hb dX4_take_28 rfl ?_
  refine lv_topi (fun z_16 ez_16 => ?_)
  clear ez_16
  refine va_bast hx hb hK hP hD hS 1 0 rfl rfl (vp_in_nI (n := (vb + 1) + 1) (N := 700) (by omega) (by omega)) dX4_take_29 (fun H locs hP hD hS => ?_)
  have hP : va_P (dC, dI) vwCl [(rr, .inr (4, [.ref rr_tape, .int (nI ((vb + 1) + 1)), .int rr_fault, .int rr_place, .ref rr_tokens, .null, .int rr_at, .int rr_knots])), (rr_tape, .inl (k_rr_tape, 700, .inl (upd f_11 ((nI ((vb + 1) + 1)) : Int32).toNatClampNeg (vp_nar .byte (z_16 : Int32)))))] H := hP
  have hD : va_D A [(rr, .inr (4, [.ref rr_tape, .int (nI ((vb + 1) + 1)), .int rr_fault, .int rr_place, .ref rr_tokens, .null, .int rr_at, .int rr_knots])), (rr_tape, .inl (k_rr_tape, 700, .inl (upd f_11 ((nI ((vb + 1) + 1)) : Int32).toNatClampNeg (vp_nar .byte (z_16 : Int32)))))] := hD
  obtain ⟨f_17, ef_17⟩ : ∃ g : Nat → Int32, (upd f_11 ((nI ((vb + 1) + 1)) : Int32).toNatClampNeg (vp_nar .byte (z_16 : Int32))) = g := ⟨_, rfl⟩
  rw [ef_17] at hP hD
  clear ef_17
  refine lv_aload_n hx hb dX4_take_30 rfl (lv_at hl 1 rfl) ?_
  refine lv_dup hx hb dX4_take_31 rfl ?_
  refine va_get (D := (dC, dI)) (ci := 4) (v := .int (nI ((vb + 1) + 1))) (C := RX4) (T := TX4) (N := 8) hx hb hT inX4 hown hK hP 0 rfl rfl 1 (by decide) (hT _ mw_1_125) (fun _ h9 => h9) rfl dX4_take_32 ?_
  refine lv_iconst (v := 1) hx hb dX4_take_35 (by decide) ?_
  refine lv_iadd hx hb dX4_take_36 ?_
  refine lv_topi (fun z_18 ez_18 => ?_)
  obtain rfl : z_18 = nI (((vb + 1) + 1) + 1) := ez_18.trans (nI_add ((vb + 1) + 1) 1)
  refine va_put (D := (dC, dI)) (ci := 4) (v := .int (nI (((vb + 1) + 1) + 1))) (ty := .int) (C := RX4) (T := TX4) (N := 8) hx hb hT inX4 tyX4 tyX4_ok nmX4 hown hK hP hD hS 0 rfl rfl 1 (by decide) (hT _ mw_1_125) (fun _ h9 => h9) rfl (by decide +kernel) rfl rfl (Nat.le_of_ble_eq_true rfl) dX4_take_37 (fun H locs hP hD hS => ?_)
  have hP : va_P (dC, dI) vwCl [(rr, .inr (4, [.ref rr_tape, .int (nI (((vb + 1) + 1) + 1)), .int rr_fault, .int rr_place, .ref rr_tokens, .null, .int rr_at, .int rr_knots])), (rr_tape, .inl (k_rr_tape, 700, .inl f_17))] H := hP
  have hD : va_D A [(rr, .inr (4, [.ref rr_tape, .int (nI (((vb + 1) + 1) + 1)), .int rr_fault, .int rr_place, .ref rr_tokens, .null, .int rr_at, .int rr_knots])), (rr_tape, .inl (k_rr_tape, 700, .inl f_17))] := hD
  refine lv_iinc (v := 0) (lv' := [(2, .int 0), (0, .ref rr), (1, .int vn)]) hx hb dX4_take_40 hl (k := 0) rfl (by decide) (by decide) rfl (fun ls hl => ?_)
  refine lv_goto (tgt := 3) hx hb dX4_take_43 (by decide) ?_
  refine lv_iload_n hx hb dX4_take_3 rfl (lv_at hl 0 rfl) ?_
  refine lv_if_lt (tgt := 46) hx hb dX4_take_4 (by decide) (fun c_19 => absurd c_19 (by decide)) (fun c_19 => ?_)
  refine lv_aload_n hx hb dX4_take_7 rfl (lv_at hl 1 rfl) ?_
  refine va_get (D := (dC, dI)) (ci := 4) (v := .int (nI (((vb + 1) + 1) + 1))) (C := RX4) (T := TX4) (N := 8) hx hb hT inX4 hown hK hP 0 rfl rfl 1 (by decide) (hT _ mw_1_125) (fun _ h9 => h9) rfl dX4_take_8 ?_
  refine lv_sipush (v := 700) hx hb dX4_take_11 (by decide) ?_
  refine lv_icmp_ge (tgt := 46) hx hb dX4_take_14 (by decide) (fun c_20 => False.elim (by have := il_le c_20; have := nI_toInt (n := ((vb + 1) + 1) + 1) (by omega); have := (by decide : (700 : Int32).toInt = 700); omega)) (fun c_20 => ?_)
  have kc_20 := il_nle c_20
  have := nI_toInt (n := ((vb + 1) + 1) + 1) (by omega); have := (by decide : (700 : Int32).toInt = 700)
  refine lv_aload_n hx hb dX4_take_17 rfl (lv_at hl 1 rfl) ?_
  refine va_get (D := (dC, dI)) (ci := 4) (v := .ref rr_tape) (C := RX4) (T := TX4) (N := 8) hx hb hT inX4 hown hK hP 0 rfl rfl 0 (by decide) (hT _ mw_1_123) (fun _ h9 => h9) rfl dX4_take_18 ?_
  refine lv_aload_n hx hb dX4_take_21 rfl (lv_at hl 1 rfl) ?_
  refine va_get (D := (dC, dI)) (ci := 4) (v := .int (nI (((vb + 1) + 1) + 1))) (C := RX4) (T := TX4) (N := 8) hx hb hT inX4 hown hK hP 0 rfl rfl 1 (by decide) (hT _ mw_1_125) (fun _ h9 => h9) rfl dX4_take_22 ?_
  refine lv_iload_n hx hb dX4_take_25 rfl (lv_at hl 2 rfl) ?_
  refine lv_iload_n hx hb dX4_take_26 rfl (lv_at hl 0 rfl) ?_
  refine lv_ishr hx hb dX4_take_27 ?_
  refine lv_topi (fun z_21 ez_21 => ?_)
  clear ez_21
  refine lv_i2b hx hb dX4_take_28 rfl ?_
  refine lv_topi (fun z_22 ez_22 => ?_)
  clear ez_22
  refine va_bast hx hb hK hP hD hS 1 0 rfl rfl (vp_in_nI (n := ((vb + 1) + 1) + 1) (N := 700) (by omega) (by omega)) dX4_take_29 (fun H locs hP hD hS => ?_)
  have hP : va_P (dC, dI) vwCl [(rr, .inr (4, [.ref rr_tape, .int (nI (((vb + 1) + 1) + 1)), .int rr_fault, .int rr_place, .ref rr_tokens, .null, .int rr_at, .int rr_knots])), (rr_tape, .inl (k_rr_tape, 700, .inl (upd f_17 ((nI (((vb + 1) + 1) + 1)) : Int32).toNatClampNeg (vp_nar .byte (z_22 : Int32)))))] H := hP
  have hD : va_D A [(rr, .inr (4, [.ref rr_tape, .int (nI (((vb + 1) + 1) + 1)), .int rr_fault, .int rr_place, .ref rr_tokens, .null, .int rr_at, .int rr_knots])), (rr_tape, .inl (k_rr_tape, 700, .inl (upd f_17 ((nI (((vb + 1) + 1) + 1)) : Int32).toNatClampNeg (vp_nar .byte (z_22 : Int32)))))] := hD
  obtain ⟨f_23, ef_23⟩ : ∃ g : Nat → Int32, (upd f_17 ((nI (((vb + 1) + 1) + 1)) : Int32).toNatClampNeg (vp_nar .byte (z_22 : Int32))) = g := ⟨_, rfl⟩
  rw [ef_23] at hP hD
  clear ef_23
  refine lv_aload_n hx hb dX4_take_30 rfl (lv_at hl 1 rfl) ?_
  refine lv_dup hx hb dX4_take_31 rfl ?_
  refine va_get (D := (dC, dI)) (ci := 4) (v := .int (nI (((vb + 1) + 1) + 1))) (C := RX4) (T := TX4) (N := 8) hx hb hT inX4 hown hK hP 0 rfl rfl 1 (by decide) (hT _ mw_1_125) (fun _ h9 => h9) rfl dX4_take_32 ?_
  refine lv_iconst (v := 1) hx hb dX4_take_35 (by decide) ?_
  refine lv_iadd hx hb dX4_take_36 ?_
  refine lv_topi (fun z_24 ez_24 => ?_)
  obtain rfl : z_24 = nI ((((vb + 1) + 1) + 1) + 1) := ez_24.trans (nI_add (((vb + 1) + 1) + 1) 1)
  refine va_put (D := (dC, dI)) (ci := 4) (v := .int (nI ((((vb + 1) + 1) + 1) + 1))) (ty := .int) (C := RX4) (T := TX4) (N := 8) hx hb hT inX4 tyX4 tyX4_ok nmX4 hown hK hP hD hS 0 rfl rfl 1 (by decide) (hT _ mw_1_125) (fun _ h9 => h9) rfl (by decide +kernel) rfl rfl (Nat.le_of_ble_eq_true rfl) dX4_take_37 (fun H locs hP hD hS => ?_)
  have hP : va_P (dC, dI) vwCl [(rr, .inr (4, [.ref rr_tape, .int (nI ((((vb + 1) + 1) + 1) + 1)), .int rr_fault, .int rr_place, .ref rr_tokens, .null, .int rr_at, .int rr_knots])), (rr_tape, .inl (k_rr_tape, 700, .inl f_23))] H := hP
  have hD : va_D A [(rr, .inr (4, [.ref rr_tape, .int (nI ((((vb + 1) + 1) + 1) + 1)), .int rr_fault, .int rr_place, .ref rr_tokens, .null, .int rr_at, .int rr_knots])), (rr_tape, .inl (k_rr_tape, 700, .inl f_23))] := hD
  refine lv_iinc (v := (-8)) (lv' := [(2, .int (-8)), (0, .ref rr), (1, .int vn)]) hx hb dX4_take_40 hl (k := 0) rfl (by decide) (by decide) rfl (fun ls hl => ?_)
  refine lv_goto (tgt := 3) hx hb dX4_take_43 (by decide) ?_
  refine lv_iload_n hx hb dX4_take_3 rfl (lv_at hl 0 rfl) ?_
  refine lv_if_lt (tgt := 46) hx hb dX4_take_4 (by decide) (fun c_25 => ?_) (fun c_25 => absurd c_25 (by decide))
  have hP9 := hP.sub (ws' := [(rr, .inr (4, [.ref rr_tape, .int (nI ((((vb + 1) + 1) + 1) + 1)), .int rr_fault, .int rr_place, .ref rr_tokens, .null, .int rr_at, .int rr_knots])), (rr_tape, .inl (k_rr_tape, 700, .inl f_23))]) [0, 1] rfl
  have hD9 := hD.sub (ws' := [(rr, .inr (4, [.ref rr_tape, .int (nI ((((vb + 1) + 1) + 1) + 1)), .int rr_fault, .int rr_place, .ref rr_tokens, .null, .int rr_at, .int rr_knots])), (rr_tape, .inl (k_rr_tape, 700, .inl f_23))]) [0, 1] (by decide) rfl
  refine W.widen (k := 0) (n := 0) (Nat.le_of_ble_eq_true rfl) (Nat.le_of_ble_eq_true rfl) ?_
  exact W.vret hx hb hr (fun t ht hW => ⟨⟨(), rfl, trivial, f_23, by rw [ht]; exact hP9, hD9⟩, hS.F ht⟩) hS.2.2 dX4_take_46
