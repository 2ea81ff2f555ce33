theorem dX7_init_0 : decode cX7_init 0 = .ok (.aload_n 0, 1) := by decide +kernel
theorem dX7_init_1 : decode cX7_init 1 = .ok (.invokespecial 3, 3) := by decide +kernel
theorem dX7_init_4 : decode cX7_init 4 = .ok (.aload_n 0, 1) := by decide +kernel
theorem dX7_init_5 : decode cX7_init 5 = .ok (.sipush 701, 3) := by decide +kernel
theorem dX7_init_8 : decode cX7_init 8 = .ok (.newarray .int, 2) := by decide +kernel
theorem dX7_init_10 : decode cX7_init 10 = .ok (.putfield 9, 3) := by decide +kernel
theorem dX7_init_13 : decode cX7_init 13 = .ok (.aload_n 0, 1) := by decide +kernel
theorem dX7_init_14 : decode cX7_init 14 = .ok (.sipush 701, 3) := by decide +kernel
theorem dX7_init_17 : decode cX7_init 17 = .ok (.newarray .int, 2) := by decide +kernel
theorem dX7_init_19 : decode cX7_init 19 = .ok (.putfield 15, 3) := by decide +kernel
theorem dX7_init_22 : decode cX7_init 22 = .ok (.aload_n 0, 1) := by decide +kernel
theorem dX7_init_23 : decode cX7_init 23 = .ok (.sipush 701, 3) := by decide +kernel
theorem dX7_init_26 : decode cX7_init 26 = .ok (.newarray .int, 2) := by decide +kernel
theorem dX7_init_28 : decode cX7_init 28 = .ok (.putfield 18, 3) := by decide +kernel
theorem dX7_init_31 : decode cX7_init 31 = .ok (.aload_n 0, 1) := by decide +kernel
theorem dX7_init_32 : decode cX7_init 32 = .ok (.bipush 20, 2) := by decide +kernel
theorem dX7_init_34 : decode cX7_init 34 = .ok (.newarray .int, 2) := by decide +kernel
theorem dX7_init_36 : decode cX7_init 36 = .ok (.putfield 21, 3) := by decide +kernel
theorem dX7_init_39 : decode cX7_init 39 = .ok (.iconst 0, 1) := by decide +kernel
theorem dX7_init_40 : decode cX7_init 40 = .ok (.istore_n 1, 1) := by decide +kernel
theorem dX7_init_41 : decode cX7_init 41 = .ok (.iconst 0, 1) := by decide +kernel
theorem dX7_init_42 : decode cX7_init 42 = .ok (.istore_n 2, 1) := by decide +kernel
theorem dX7_init_43 : decode cX7_init 43 = .ok (.iconst 0, 1) := by decide +kernel
theorem dX7_init_44 : decode cX7_init 44 = .ok (.istore_n 3, 1) := by decide +kernel
theorem dX7_init_45 : decode cX7_init 45 = .ok (.iload_n 3, 1) := by decide +kernel
theorem dX7_init_46 : decode cX7_init 46 = .ok (.ldc 24, 2) := by decide +kernel
theorem dX7_init_48 : decode cX7_init 48 = .ok (.invokevirtual 26, 3) := by decide +kernel
theorem dX7_init_54 : decode cX7_init 54 = .ok (.iload_n 1, 1) := by decide +kernel
theorem dX7_init_55 : decode cX7_init 55 = .ok (.bipush 20, 2) := by decide +kernel
theorem dX7_init_60 : decode cX7_init 60 = .ok (.ldc 24, 2) := by decide +kernel
theorem dX7_init_62 : decode cX7_init 62 = .ok (.iload_n 3, 1) := by decide +kernel
theorem dX7_init_63 : decode cX7_init 63 = .ok (.invokevirtual 32, 3) := by decide +kernel
theorem dX7_init_66 : decode cX7_init 66 = .ok (.bipush 32, 2) := by decide +kernel
theorem dX7_init_94 : decode cX7_init 94 = .ok (.goto (-49), 3) := by decide +kernel
theorem dX7_init_71 : decode cX7_init 71 = .ok (.aload_n 0, 1) := by decide +kernel
theorem dX7_init_72 : decode cX7_init 72 = .ok (.getfield 21, 3) := by decide +kernel
theorem dX7_init_75 : decode cX7_init 75 = .ok (.iload_n 1, 1) := by decide +kernel
theorem dX7_init_76 : decode cX7_init 76 = .ok (.ldc 24, 2) := by decide +kernel
theorem dX7_init_78 : decode cX7_init 78 = .ok (.iload_n 2, 1) := by decide +kernel
theorem dX7_init_79 : decode cX7_init 79 = .ok (.iload_n 3, 1) := by decide +kernel
theorem dX7_init_80 : decode cX7_init 80 = .ok (.invokestatic 36, 3) := by decide +kernel
theorem dX7_init_87 : decode cX7_init 87 = .ok (.iload_n 3, 1) := by decide +kernel
theorem dX7_init_88 : decode cX7_init 88 = .ok (.iconst 1, 1) := by decide +kernel
theorem dX7_init_90 : decode cX7_init 90 = .ok (.istore_n 2, 1) := by decide +kernel
theorem dX7_init_97 : decode cX7_init 97 = .ok (.return_, 1) := by decide +kernel
theorem dX7_init_51 : decode cX7_init 51 = .ok (.if_icmp .ge 46, 3) := by decide +kernel
theorem dX7_init_57 : decode cX7_init 57 = .ok (.if_icmp .ge 40, 3) := by decide +kernel
theorem dX7_init_68 : decode cX7_init 68 = .ok (.if_icmp .ne 23, 3) := by decide +kernel
theorem dX7_init_91 : decode cX7_init 91 = .ok (.iinc 3 1, 3) := by decide +kernel
theorem dX7_init_83 : decode cX7_init 83 = .ok (.iastore, 1) := by decide +kernel
theorem dX7_init_84 : decode cX7_init 84 = .ok (.iinc 1 1, 3) := by decide +kernel
theorem dX7_init_89 : decode cX7_init 89 = .ok (.iadd, 1) := by decide +kernel
theorem dX4_init_0 : decode cX4_init 0 = .ok (.aload_n 0, 1) := by decide +kernel
theorem dX4_init_1 : decode cX4_init 1 = .ok (.invokespecial 3, 3) := by decide +kernel
theorem dX4_init_4 : decode cX4_init 4 = .ok (.aload_n 0, 1) := by decide +kernel
theorem dX4_init_5 : decode cX4_init 5 = .ok (.sipush 700, 3) := by decide +kernel
theorem dX4_init_8 : decode cX4_init 8 = .ok (.newarray .byte, 2) := by decide +kernel
theorem dX4_init_10 : decode cX4_init 10 = .ok (.putfield 9, 3) := by decide +kernel
theorem dX4_init_13 : decode cX4_init 13 = .ok (.aload_n 0, 1) := by decide +kernel
theorem dX4_init_14 : decode cX4_init 14 = .ok (.iconst 0, 1) := by decide +kernel
theorem dX4_init_15 : decode cX4_init 15 = .ok (.putfield 15, 3) := by decide +kernel
theorem dX4_init_18 : decode cX4_init 18 = .ok (.aload_n 0, 1) := by decide +kernel
theorem dX4_init_19 : decode cX4_init 19 = .ok (.iconst (-1), 1) := by decide +kernel
theorem dX4_init_20 : decode cX4_init 20 = .ok (.putfield 19, 3) := by decide +kernel
theorem dX4_init_23 : decode cX4_init 23 = .ok (.aload_n 0, 1) := by decide +kernel
theorem dX4_init_24 : decode cX4_init 24 = .ok (.new 22, 3) := by decide +kernel
theorem dX4_init_27 : decode cX4_init 27 = .ok (.dup, 1) := by decide +kernel
theorem dX4_init_28 : decode cX4_init 28 = .ok (.invokespecial 24, 3) := by decide +kernel
theorem dX4_init_31 : decode cX4_init 31 = .ok (.putfield 25, 3) := by decide +kernel
theorem dX4_init_34 : decode cX4_init 34 = .ok (.return_, 1) := by decide +kernel
abbrev q_X7_init (dC : Nat → ClassId) (dI : Nat → Nat → Nat) (A : Nat → Prop) (ob : Nat) (sK : Nat) (sV : Nat) : Array Value → State → Outcome → State → Prop := va_Qv (fun _ : Unit => True) (fun (_ : Unit) (t : State) => ∃ (b_kind : Nat), ∃ (b_place : Nat), ∃ (b_worth : Nat), ∃ (b_language : Nat), ∃ (kb_kind : ClassId), ∃ (kb_place : ClassId), ∃ (kb_worth : ClassId), ∃ (kb_language : ClassId), ∃ (fl : Nat → Int32), (LGt fl) ∧ va_K (dC, dI) vwCl [(kb_kind, .int), (kb_place, .int), (kb_worth, .int), (kb_language, .int)] t ∧ va_P (dC, dI) vwCl [(ob, .inr (7, [.int 0, .ref b_kind, .ref b_place, .ref b_worth, .ref b_language])), (b_kind, .inl (kb_kind, 701, .inl (fun _ => 0))), (b_place, .inl (kb_place, 701, .inl (fun _ => 0))), (b_worth, .inl (kb_worth, 701, .inl (fun _ => 0))), (b_language, .inl (kb_language, 20, .inl fl))] t.heap ∧ va_D A [(ob, .inr (7, [.int 0, .ref b_kind, .ref b_place, .ref b_worth, .ref b_language])), (b_kind, .inl (kb_kind, 701, .inl (fun _ => 0))), (b_place, .inl (kb_place, 701, .inl (fun _ => 0))), (b_worth, .inl (kb_worth, 701, .inl (fun _ => 0))), (b_language, .inl (kb_language, 20, .inl fl))]) A
set_option maxHeartbeats 4000000 in
set_option maxRecDepth 100000 in
theorem c_X7_init (l : Launch) (dC : Nat → ClassId) (dI : Nat → Nat → Nat) (sz : Nat) (ob : Nat) (sK : Nat) (sV : Nat)  : Met l yX7_init (pw_w yX7_init cX7_init 4 none) ({ frames := 5, cells := 4, slots := 2123, locals := 109 }) (va_Pc [.ref ob] (fun U => U.heap.size = sz ∧ va_P (dC, dI) vwCl [(ob, .inr (7, [.int 0, .null, .null, .null, .null]))] U.heap ∧ va_K (dC, dI) vwCl [] U ∧ va_D (fun _ => True) [(ob, .inr (7, [.int 0, .null, .null, .null, .null]))] ∧ (st_S sK sV (va_A [(ob, .inr (7, [.int 0, .null, .null, .null, .null]))] sz) U U.heap) ∧ (vk_R RX7 24 "clock person round gun gains rough if sets takes half part middle or and not ahead last passed hour day " sK U))) (q_X7_init dC dI (va_A [(ob, .inr (7, [.int 0, .null, .null, .null, .null]))] sz) ob sK sV) 4 2123 (va_A [(ob, .inr (7, [.int 0, .null, .null, .null, .null]))] sz) := by
  refine Met.ofW (cc := cX7_init) (maxL := 4) (ret := none) (by decide) rfl ?_
  intro p e s m args below meth c s₁ B hml hv
  obtain ⟨rfl, hsz, hP, hK, hD0, hx0_, hx1_⟩ := hv
  have hx := B.exec
  have hb := B.bytes
  have hr := B.returns
  have hts := atoms_spec (ws := (pw_w yX7_init cX7_init 4 none)) B.pre
  have hT : ∀ w ∈ pw_T, w.before _ s = true := fun w h => hts w (List.mem_cons_of_mem _ h)
  have hown : s.vm.findClass RX7 = some m.cls := findClass_of_methodNamed B.named
  have hlocks := B.notSynchronized
  have hin : meth.name = "<init>" := (name_of_methodNamed B.named B.method).1
  subst hsz
  have hD := hD0.self (sz := s.heap.size)
  generalize hAe : va_A [(ob, .inr (7, [.int 0, .null, .null, .null, .null]))] s.heap.size = A at hD hx0_ ⊢
  have hA : ∀ q : Nat, s.heap.size ≤ q → A q := fun q h => by rw [← hAe]; exact Or.inr h
  have hS : va_S A s.heap s.heap [] := va_S.rf
  have hP : va_P (dC, dI) vwCl [(ob, .inr (7, [.int 0, .null, .null, .null, .null]))] s.heap := hP
  have hE := hx0_
  have hR := hx1_
  have hl := lv_entry ([.ref ob]) (n := 4) (Nat.le_of_ble_eq_true rfl)
  rw [lg_entry_eq]
  generalize (lg_sl ([.ref ob]) ++ List.replicate (4 - (lg_sl ([.ref ob])).length) Slot.unset).toArray = ls at hl ⊢
  have hl : lv_has ls 4 [(0, .ref ob)] := hl
  refine lv_aload_n hx hb dX7_init_0 rfl (lv_at hl 0 rfl) ?_
  refine W.objInit hx hb hown (hT _ mw_1_45) (hT _ mw_1_32) (hT _ mw_1_33) rfl (by rw [hml]; exact hl.1) rfl dX7_init_1 (Nat.le_of_ble_eq_true rfl) (Nat.le_of_ble_eq_true rfl) ?_
  refine W.eq (g2 := F0 m 4 ls []) rfl ?_
  refine lv_aload_n hx hb dX7_init_4 rfl (lv_at hl 0 rfl) ?_
  refine lv_sipush (v := 701) hx hb dX7_init_5 (by decide) ?_
  refine va_newa (atype := .int) (ty := .int) (a0 := (701, .inl (fun _ => 0))) hx hb (hT _ mw_1_122) rfl hK hP hD hS hA (fun _ => rfl) (by decide) (by decide) (by decide) (Nat.le_of_ble_eq_true rfl) (Nat.le_of_ble_eq_true rfl) dX7_init_8 (fun q_1 cA_2 H hK hP hD hS => ?_)
  have hP : va_P (dC, dI) vwCl [(ob, .inr (7, [.int 0, .null, .null, .null, .null])), (q_1, .inl (cA_2, 701, .inl (fun _ => 0)))] H := hP
  have hD : va_D A [(ob, .inr (7, [.int 0, .null, .null, .null, .null])), (q_1, .inl (cA_2, 701, .inl (fun _ => 0)))] := hD
  have hK : va_K (dC, dI) vwCl [(cA_2, .int)] s := hK
  refine W.widen (k := 1) (n := 701) (Nat.le_of_ble_eq_true rfl) (Nat.le_of_ble_eq_true rfl) ?_
  refine va_putF (D := (dC, dI)) (ci := 7) (v := .ref q_1) (ty := (.array .int)) (C := RX7) (T := TX7) (N := 5) hx hb hT inX7 tyX7 tyX7_ok nmX7 hown hK hP hD hS 0 rfl rfl 1 (by decide) (hT _ mw_1_103) (fun _ h9 => h9) rfl hin rfl (by decide +kernel) rfl rfl (Nat.le_of_ble_eq_true rfl) dX7_init_10 (fun H locs hP hD hS => ?_)
  have hP : va_P (dC, dI) vwCl [(ob, .inr (7, [.int 0, .ref q_1, .null, .null, .null])), (q_1, .inl (cA_2, 701, .inl (fun _ => 0)))] H := hP
  have hD : va_D A [(ob, .inr (7, [.int 0, .ref q_1, .null, .null, .null])), (q_1, .inl (cA_2, 701, .inl (fun _ => 0)))] := hD
  refine lv_aload_n hx hb dX7_init_13 rfl (lv_at hl 0 rfl) ?_
  refine lv_sipush (v := 701) hx hb dX7_init_14 (by decide) ?_
  refine va_newa (atype := .int) (ty := .int) (a0 := (701, .inl (fun _ => 0))) hx hb (hT _ mw_1_122) rfl hK hP hD hS hA (fun _ => rfl) (by decide) (by decide) (by decide) (Nat.le_of_ble_eq_true rfl) (Nat.le_of_ble_eq_true rfl) dX7_init_17 (fun q_3 cA_4 H hK hP hD hS => ?_)
  have hP : va_P (dC, dI) vwCl [(ob, .inr (7, [.int 0, .ref q_1, .null, .null, .null])), (q_1, .inl (cA_2, 701, .inl (fun _ => 0))), (q_3, .inl (cA_4, 701, .inl (fun _ => 0)))] H := hP
  have hD : va_D A [(ob, .inr (7, [.int 0, .ref q_1, .null, .null, .null])), (q_1, .inl (cA_2, 701, .inl (fun _ => 0))), (q_3, .inl (cA_4, 701, .inl (fun _ => 0)))] := hD
  have hK : va_K (dC, dI) vwCl [(cA_2, .int), (cA_4, .int)] s := hK
  refine W.widen (k := 2) (n := 1402) (Nat.le_of_ble_eq_true rfl) (Nat.le_of_ble_eq_true rfl) ?_
  refine va_putF (D := (dC, dI)) (ci := 7) (v := .ref q_3) (ty := (.array .int)) (C := RX7) (T := TX7) (N := 5) hx hb hT inX7 tyX7 tyX7_ok nmX7 hown hK hP hD hS 0 rfl rfl 2 (by decide) (hT _ mw_1_105) (fun _ h9 => h9) rfl hin rfl (by decide +kernel) rfl rfl (Nat.le_of_ble_eq_true rfl) dX7_init_19 (fun H locs hP hD hS => ?_)
  have hP : va_P (dC, dI) vwCl [(ob, .inr (7, [.int 0, .ref q_1, .ref q_3, .null, .null])), (q_1, .inl (cA_2, 701, .inl (fun _ => 0))), (q_3, .inl (cA_4, 701, .inl (fun _ => 0)))] H := hP
  have hD : va_D A [(ob, .inr (7, [.int 0, .ref q_1, .ref q_3, .null, .null])), (q_1, .inl (cA_2, 701, .inl (fun _ => 0))), (q_3, .inl (cA_4, 701, .inl (fun _ => 0)))] := hD
  refine lv_aload_n hx hb dX7_init_22 rfl (lv_at hl 0 rfl) ?_
  refine lv_sipush (v := 701) hx hb dX7_init_23 (by decide) ?_
  refine va_newa (atype := .int) (ty := .int) (a0 := (701, .inl (fun _ => 0))) hx hb (hT _ mw_1_122) rfl hK hP hD hS hA (fun _ => rfl) (by decide) (by decide) (by decide) (Nat.le_of_ble_eq_true rfl) (Nat.le_of_ble_eq_true rfl) dX7_init_26 (fun q_5 cA_6 H hK hP hD hS => ?_)
  have hP : va_P (dC, dI) vwCl [(ob, .inr (7, [.int 0, .ref q_1, .ref q_3, .null, .null])), (q_1, .inl (cA_2, 701, .inl (fun _ => 0))), (q_3, .inl (cA_4, 701, .inl (fun _ => 0))), (q_5, .inl (cA_6, 701, .inl (fun _ => 0)))] H := hP
  have hD : va_D A [(ob, .inr (7, [.int 0, .ref q_1, .ref q_3, .null, .null])), (q_1, .inl (cA_2, 701, .inl (fun _ => 0))), (q_3, .inl (cA_4, 701, .inl (fun _ => 0))), (q_5, .inl (cA_6, 701, .inl (fun _ => 0)))] := hD
  have hK : va_K (dC, dI) vwCl [(cA_2, .int), (cA_4, .int), (cA_6, .int)] s := hK
  refine W.widen (k := 3) (n := 2103) (Nat.le_of_ble_eq_true rfl) (Nat.le_of_ble_eq_true rfl) ?_
  refine va_putF (D := (dC, dI)) (ci := 7) (v := .ref q_5) (ty := (.array .int)) (C := RX7) (T := TX7) (N := 5) hx hb hT inX7 tyX7 tyX7_ok nmX7 hown hK hP hD hS 0 rfl rfl 3 (by decide) (hT _ mw_1_107) (fun _ h9 => h9) rfl hin rfl (by decide +kernel) rfl rfl (Nat.le_of_ble_eq_true rfl) dX7_init_28 (fun H locs hP hD hS => ?_)
  have hP : va_P (dC, dI) vwCl [(ob, .inr (7, [.int 0, .ref q_1, .ref q_3, .ref q_5, .null])), (q_1, .inl (cA_2, 701, .inl (fun _ => 0))), (q_3, .inl (cA_4, 701, .inl (fun _ => 0))), (q_5, .inl (cA_6, 701, .inl (fun _ => 0)))] H := hP
  have hD : va_D A [(ob, .inr (7, [.int 0, .ref q_1, .ref q_3, .ref q_5, .null])), (q_1, .inl (cA_2, 701, .inl (fun _ => 0))), (q_3, .inl (cA_4, 701, .inl (fun _ => 0))), (q_5, .inl (cA_6, 701, .inl (fun _ => 0)))] := hD
  refine lv_aload_n hx hb dX7_init_31 rfl (lv_at hl 0 rfl) ?_
  refine lv_bipush (v := 20) hx hb dX7_init_32 (by decide) ?_
  refine va_newa (atype := .int) (ty := .int) (a0 := (20, .inl (fun _ => 0))) hx hb (hT _ mw_1_122) rfl hK hP hD hS hA (fun _ => rfl) (by decide) (by decide) (by decide) (Nat.le_of_ble_eq_true rfl) (Nat.le_of_ble_eq_true rfl) dX7_init_34 (fun q_7 cA_8 H hK hP hD hS => ?_)
  have hP : va_P (dC, dI) vwCl [(ob, .inr (7, [.int 0, .ref q_1, .ref q_3, .ref q_5, .null])), (q_1, .inl (cA_2, 701, .inl (fun _ => 0))), (q_3, .inl (cA_4, 701, .inl (fun _ => 0))), (q_5, .inl (cA_6, 701, .inl (fun _ => 0))), (q_7, .inl (cA_8, 20, .inl (fun _ => 0)))] H := hP
  have hD : va_D A [(ob, .inr (7, [.int 0, .ref q_1, .ref q_3, .ref q_5, .null])), (q_1, .inl (cA_2, 701, .inl (fun _ => 0))), (q_3, .inl (cA_4, 701, .inl (fun _ => 0))), (q_5, .inl (cA_6, 701, .inl (fun _ => 0))), (q_7, .inl (cA_8, 20, .inl (fun _ => 0)))] := hD
  have hK : va_K (dC, dI) vwCl [(cA_2, .int), (cA_4, .int), (cA_6, .int), (cA_8, .int)] s := hK
  refine W.widen (k := 4) (n := 2123) (Nat.le_of_ble_eq_true rfl) (Nat.le_of_ble_eq_true rfl) ?_
  refine va_putF (D := (dC, dI)) (ci := 7) (v := .ref q_7) (ty := (.array .int)) (C := RX7) (T := TX7) (N := 5) hx hb hT inX7 tyX7 tyX7_ok nmX7 hown hK hP hD hS 0 rfl rfl 4 (by decide) (hT _ mw_1_109) (fun _ h9 => h9) rfl hin rfl (by decide +kernel) rfl rfl (Nat.le_of_ble_eq_true rfl) dX7_init_36 (fun H locs hP hD hS => ?_)
  have hP : va_P (dC, dI) vwCl [(ob, .inr (7, [.int 0, .ref q_1, .ref q_3, .ref q_5, .ref q_7])), (q_1, .inl (cA_2, 701, .inl (fun _ => 0))), (q_3, .inl (cA_4, 701, .inl (fun _ => 0))), (q_5, .inl (cA_6, 701, .inl (fun _ => 0))), (q_7, .inl (cA_8, 20, .inl (fun _ => 0)))] H := hP
  have hD : va_D A [(ob, .inr (7, [.int 0, .ref q_1, .ref q_3, .ref q_5, .ref q_7])), (q_1, .inl (cA_2, 701, .inl (fun _ => 0))), (q_3, .inl (cA_4, 701, .inl (fun _ => 0))), (q_5, .inl (cA_6, 701, .inl (fun _ => 0))), (q_7, .inl (cA_8, 20, .inl (fun _ => 0)))] := hD
  refine lv_iconst (v := 0) hx hb dX7_init_39 (by decide) ?_
  refine lv_istore_n (lv' := [(1, .int 0), (0, .ref ob)]) hx hb dX7_init_40 rfl hl (by decide) rfl (fun ls hl => ?_)
  refine lv_iconst (v := 0) hx hb dX7_init_41 (by decide) ?_
  refine lv_istore_n (lv' := [(2, .int 0), (1, .int 0), (0, .ref ob)]) hx hb dX7_init_42 rfl hl (by decide) rfl (fun ls hl => ?_)
  refine lv_iconst (v := 0) hx hb dX7_init_43 (by decide) ?_
  refine lv_istore_n (lv' := [(3, .int 0), (2, .int 0), (1, .int 0), (0, .ref ob)]) hx hb dX7_init_44 rfl hl (by decide) rfl (fun ls hl => ?_)
  have loop_33 : ∀ (fu : Nat), ∀ (g_30_l3 : Int32), ∀ (g_30_l2 : Int32), ∀ (g_30_l1 : Int32), ∀ (g_30_f4 : Nat → Int32), (0 ≤ g_30_l3.toInt ∧ g_30_l3.toInt ≤ 104) → (0 ≤ g_30_l2.toInt ∧ g_30_l2.toInt ≤ 104) → (0 ≤ g_30_l1.toInt ∧ g_30_l1.toInt ≤ 20) → (LGi g_30_f4 g_30_l1) → (LPx g_30_l1 g_30_l2 g_30_l3) → (104 - g_30_l3.toInt < (fu : Int)) → ∀ (H : Heap) (locs : List Loc), va_P (dC, dI) vwCl [(ob, .inr (7, [.int 0, .ref q_1, .ref q_3, .ref q_5, .ref q_7])), (q_1, .inl (cA_2, 701, .inl (fun _ => 0))), (q_3, .inl (cA_4, 701, .inl (fun _ => 0))), (q_5, .inl (cA_6, 701, .inl (fun _ => 0))), (q_7, .inl (cA_8, 20, .inl g_30_f4))] H → va_D A [(ob, .inr (7, [.int 0, .ref q_1, .ref q_3, .ref q_5, .ref q_7])), (q_1, .inl (cA_2, 701, .inl (fun _ => 0))), (q_3, .inl (cA_4, 701, .inl (fun _ => 0))), (q_5, .inl (cA_6, 701, .inl (fun _ => 0))), (q_7, .inl (cA_8, 20, .inl g_30_f4))] → va_S A s.heap H locs → ∀ (ls : Array Slot), lv_has ls 4 [(3, .int g_30_l3), (2, .int g_30_l2), (1, .int g_30_l1), (0, .ref ob)] → W p l e (headSpec (pw_w yX7_init cX7_init 4 none) ({ frames := 5, cells := 4, slots := 2123, locals := 109 })).room s m ([.ref ob] : List Value).toArray below meth c H locs 4 2123 (MQ below (q_X7_init dC dI A ob sK sV) ([.ref ob] : List Value).toArray s 4 2123 A) (F0 m 45 ls []) := by
    intro fu
    induction fu with
    | zero => intro g_30_l3 g_30_l2 g_30_l1 g_30_f4 hg_30_l3 hg_30_l2 hg_30_l1 hi_lg_q_31 hi_lp_q_32 hfu; exact absurd hfu (by omega)
    | succ fu33 ih33 =>
      intro g_30_l3 g_30_l2 g_30_l1 g_30_f4 hg_30_l3 hg_30_l2 hg_30_l1 hi_lg_q_31 hi_lp_q_32 hfu33 H locs hP hD hS ls hl
      refine lv_iload_n hx hb dX7_init_45 rfl (lv_at hl 0 rfl) ?_
      refine va_ldcS hx hb hown hR dX7_init_46 ?_
      have hPc := hP.sub (ws' := []) [] rfl
      have hDc := hD.sub (ws' := []) [] (by decide) rfl
      have hKc := hK.sub (tys' := []) [] rfl
      have hFc := va_free (wc := []) hD hS hA [] rfl
      refine va_calli (va_runV (As := []) (rest := [.int g_30_l3]) ⟨hx, hb, hml, hown, hT⟩ (c_J0_length_8abf5 l dC dI H.size sK sV ) (cwV 0 hT (gwV mw_1_47 mw_1_48 mw_1_49 mw_1_4 mw_1_50) rfl rfl rfl (by decide +kernel) ⟨Nat.le_of_ble_eq_true rfl, Nat.le_of_ble_eq_true rfl⟩) ⟨fun a U g mk q => by obtain ⟨q0, q1, qP, qK, qD, qx0⟩ := q; exact ⟨q0, q1, qP, va_K.moved (u := U) (U := U.calling g mk a) (Vm.Alike.refl U.vm) qK, qD, st_S.moved (Vm.Alike.refl U.vm) qx0⟩, (by obtain ⟨cell, h1, h2, h3, -⟩ := va_O.kept hE.1 hS.2.1; exact ⟨cell, h1, h2, h3⟩), fun U hU hW => ⟨rfl, by rw [hU], by rw [hU]; exact hPc, va_K.moved hW.alike hKc, hDc.weaken (fun _ _ _ _ => trivial), by rw [hU]; exact st_S.moved hW.alike (st_S.narrow (st_S.kept hE hS.2.1) hFc)⟩⟩ rfl rfl hl.1 rfl (lv_room (Nat.le_of_ble_eq_true rfl)) dX7_init_48 ⟨Nat.le_of_ble_eq_true rfl, Nat.le_of_ble_eq_true rfl⟩) hS (fun q _ h => hFc q h) hFc (fun r_34 u t H1 locs ht hvm hw hB hz1 hk1 hS => ?_)
      obtain ⟨hP1, hD1⟩ := hB
      rw [ht] at hP1
      obtain ⟨hP, hD⟩ := va_join (wr := [(ob, .inr (7, [.int 0, .ref q_1, .ref q_3, .ref q_5, .ref q_7])), (q_1, .inl (cA_2, 701, .inl (fun _ => 0))), (q_3, .inl (cA_4, 701, .inl (fun _ => 0))), (q_5, .inl (cA_6, 701, .inl (fun _ => 0))), (q_7, .inl (cA_8, 20, .inl g_30_f4))]) (w1 := []) hP hD [] [0, 1, 2, 3, 4] rfl rfl (by decide) (by decide) hk1 hFc hP1 hD1
      generalize H1 = H at hP hS ⊢
      have hP : va_P (dC, dI) vwCl [(ob, .inr (7, [.int 0, .ref q_1, .ref q_3, .ref q_5, .ref q_7])), (q_1, .inl (cA_2, 701, .inl (fun _ => 0))), (q_3, .inl (cA_4, 701, .inl (fun _ => 0))), (q_5, .inl (cA_6, 701, .inl (fun _ => 0))), (q_7, .inl (cA_8, 20, .inl g_30_f4))] H := hP
      have hD : va_D A [(ob, .inr (7, [.int 0, .ref q_1, .ref q_3, .ref q_5, .ref q_7])), (q_1, .inl (cA_2, 701, .inl (fun _ => 0))), (q_3, .inl (cA_4, 701, .inl (fun _ => 0))), (q_5, .inl (cA_6, 701, .inl (fun _ => 0))), (q_7, .inl (cA_8, 20, .inl g_30_f4))] := hD
      clear hPc hDc hKc hFc hP1 hD1 hk1 hz1 ht hvm
      have hwr_34 : (r_34 = 104 ∧ True) := hw
      clear hw
      rcases hwr_34 with ⟨hrr_34, hfr_34⟩
      · subst r_34
        refine lv_icmp_ge (tgt := 97) hx hb dX7_init_51 (by decide) (fun c_35 => ?_) (fun c_35 => ?_)
        · have kc_35 := il_le c_35
          have := (by decide : (104 : Int32).toInt = 104)
          have hLGe := LGi_e hi_lg_q_31 (LPx_e hi_lp_q_32 (by omega))
          have hP9 := hP.sub (ws' := [(ob, .inr (7, [.int 0, .ref q_1, .ref q_3, .ref q_5, .ref q_7])), (q_1, .inl (cA_2, 701, .inl (fun _ => 0))), (q_3, .inl (cA_4, 701, .inl (fun _ => 0))), (q_5, .inl (cA_6, 701, .inl (fun _ => 0))), (q_7, .inl (cA_8, 20, .inl g_30_f4))]) [0, 1, 2, 3, 4] rfl
          have hD9 := hD.sub (ws' := [(ob, .inr (7, [.int 0, .ref q_1, .ref q_3, .ref q_5, .ref q_7])), (q_1, .inl (cA_2, 701, .inl (fun _ => 0))), (q_3, .inl (cA_4, 701, .inl (fun _ => 0))), (q_5, .inl (cA_6, 701, .inl (fun _ => 0))), (q_7, .inl (cA_8, 20, .inl g_30_f4))]) [0, 1, 2, 3, 4] (by decide) rfl
          have hK9 := hK.sub (tys' := [(cA_2, .int), (cA_4, .int), (cA_6, .int), (cA_8, .int)]) [0, 1, 2, 3] rfl
          refine W.widen (k := 4) (n := 2123) (Nat.le_of_ble_eq_true rfl) (Nat.le_of_ble_eq_true rfl) ?_
          exact W.vret hx hb hr (fun t ht hW => ⟨⟨(), rfl, trivial, q_1, q_3, q_5, q_7, cA_2, cA_4, cA_6, cA_8, g_30_f4, hLGe, va_K.moved hW.alike hK9, by rw [ht]; exact hP9, hD9⟩, hS.F ht⟩) hS.2.2 dX7_init_97
        · have kc_35 := il_nle c_35
          have := (by decide : (104 : Int32).toInt = 104)
          refine lv_iload_n hx hb dX7_init_54 rfl (lv_at hl 2 rfl) ?_
          refine lv_bipush (v := 20) hx hb dX7_init_55 (by decide) ?_
          refine lv_icmp_ge (tgt := 97) hx hb dX7_init_57 (by decide) (fun c_36 => ?_) (fun c_36 => ?_)
          · have kc_36 := il_le c_36
            have := (by decide : (20 : Int32).toInt = 20)
            have hLGe := LGi_e hi_lg_q_31 (LPx_e hi_lp_q_32 (by omega))
            have hP9 := hP.sub (ws' := [(ob, .inr (7, [.int 0, .ref q_1, .ref q_3, .ref q_5, .ref q_7])), (q_1, .inl (cA_2, 701, .inl (fun _ => 0))), (q_3, .inl (cA_4, 701, .inl (fun _ => 0))), (q_5, .inl (cA_6, 701, .inl (fun _ => 0))), (q_7, .inl (cA_8, 20, .inl g_30_f4))]) [0, 1, 2, 3, 4] rfl
            have hD9 := hD.sub (ws' := [(ob, .inr (7, [.int 0, .ref q_1, .ref q_3, .ref q_5, .ref q_7])), (q_1, .inl (cA_2, 701, .inl (fun _ => 0))), (q_3, .inl (cA_4, 701, .inl (fun _ => 0))), (q_5, .inl (cA_6, 701, .inl (fun _ => 0))), (q_7, .inl (cA_8, 20, .inl g_30_f4))]) [0, 1, 2, 3, 4] (by decide) rfl
            have hK9 := hK.sub (tys' := [(cA_2, .int), (cA_4, .int), (cA_6, .int), (cA_8, .int)]) [0, 1, 2, 3] rfl
            refine W.widen (k := 4) (n := 2123) (Nat.le_of_ble_eq_true rfl) (Nat.le_of_ble_eq_true rfl) ?_
            exact W.vret hx hb hr (fun t ht hW => ⟨⟨(), rfl, trivial, q_1, q_3, q_5, q_7, cA_2, cA_4, cA_6, cA_8, g_30_f4, hLGe, va_K.moved hW.alike hK9, by rw [ht]; exact hP9, hD9⟩, hS.F ht⟩) hS.2.2 dX7_init_97
          · have kc_36 := il_nle c_36
            have := (by decide : (20 : Int32).toInt = 20)
            refine va_ldcS hx hb hown hR dX7_init_60 ?_
            refine lv_iload_n hx hb dX7_init_62 rfl (lv_at hl 0 rfl) ?_
            have hPc := hP.sub (ws' := []) [] rfl
            have hDc := hD.sub (ws' := []) [] (by decide) rfl
            have hKc := hK.sub (tys' := []) [] rfl
            have hFc := va_free (wc := []) hD hS hA [] rfl
            refine va_calli (va_runV (As := [.int g_30_l3]) (rest := []) ⟨hx, hb, hml, hown, hT⟩ (c_J0_charAt_5068e l dC dI H.size sK g_30_l3 sV (by omega)) (cwV 1 hT (gwV mw_1_57 mw_1_58 mw_1_59 mw_1_4 mw_1_60) rfl rfl rfl (by decide +kernel) ⟨Nat.le_of_ble_eq_true rfl, Nat.le_of_ble_eq_true rfl⟩) ⟨fun a U g mk q => by obtain ⟨q0, q1, qP, qK, qD, qx0⟩ := q; exact ⟨q0, q1, qP, va_K.moved (u := U) (U := U.calling g mk a) (Vm.Alike.refl U.vm) qK, qD, st_S.moved (Vm.Alike.refl U.vm) qx0⟩, (by obtain ⟨cell, h1, h2, h3, -⟩ := va_O.kept hE.1 hS.2.1; exact ⟨cell, h1, h2, h3⟩), fun U hU hW => ⟨rfl, by rw [hU], by rw [hU]; exact hPc, va_K.moved hW.alike hKc, hDc.weaken (fun _ _ _ _ => trivial), by rw [hU]; exact st_S.moved hW.alike (st_S.narrow (st_S.kept hE hS.2.1) hFc)⟩⟩ rfl rfl hl.1 rfl (lv_room (Nat.le_of_ble_eq_true rfl)) dX7_init_63 ⟨Nat.le_of_ble_eq_true rfl, Nat.le_of_ble_eq_true rfl⟩) hS (fun q _ h => hFc q h) hFc (fun r_37 u t H1 locs ht hvm hw hB hz1 hk1 hS => ?_)
            obtain ⟨hP1, hD1⟩ := hB
            rw [ht] at hP1
            obtain ⟨hP, hD⟩ := va_join (wr := [(ob, .inr (7, [.int 0, .ref q_1, .ref q_3, .ref q_5, .ref q_7])), (q_1, .inl (cA_2, 701, .inl (fun _ => 0))), (q_3, .inl (cA_4, 701, .inl (fun _ => 0))), (q_5, .inl (cA_6, 701, .inl (fun _ => 0))), (q_7, .inl (cA_8, 20, .inl g_30_f4))]) (w1 := []) hP hD [] [0, 1, 2, 3, 4] rfl rfl (by decide) (by decide) hk1 hFc hP1 hD1
            generalize H1 = H at hP hS ⊢
            have hP : va_P (dC, dI) vwCl [(ob, .inr (7, [.int 0, .ref q_1, .ref q_3, .ref q_5, .ref q_7])), (q_1, .inl (cA_2, 701, .inl (fun _ => 0))), (q_3, .inl (cA_4, 701, .inl (fun _ => 0))), (q_5, .inl (cA_6, 701, .inl (fun _ => 0))), (q_7, .inl (cA_8, 20, .inl g_30_f4))] H := hP
            have hD : va_D A [(ob, .inr (7, [.int 0, .ref q_1, .ref q_3, .ref q_5, .ref q_7])), (q_1, .inl (cA_2, 701, .inl (fun _ => 0))), (q_3, .inl (cA_4, 701, .inl (fun _ => 0))), (q_5, .inl (cA_6, 701, .inl (fun _ => 0))), (q_7, .inl (cA_8, 20, .inl g_30_f4))] := hD
            clear hPc hDc hKc hFc hP1 hD1 hk1 hz1 ht hvm
            have hwr_37 : narrow .char (.int r_37) = .int r_37 ∧ r_37.toInt = (sB g_30_l3.toNatClampNeg).toInt := hw
            clear hw
            refine lv_bipush (v := 32) hx hb dX7_init_66 (by decide) ?_
            refine lv_icmp_ne (tgt := 91) hx hb dX7_init_68 (by decide) (fun c_38 => ?_) (fun c_38 => ?_)
            · have kc_38 := il_ne c_38
              have := (by decide : (32 : Int32).toInt = 32)
              obtain ⟨z_39, ez_39⟩ : ∃ y : Int32, y = g_30_l3 + Int32.ofInt (1) := ⟨_, rfl⟩
              have kz_39 : z_39.toInt = g_30_l3.toInt + (1) := ti_add ez_39 rfl (by decide) (by omega) (by omega)
              refine lv_iinc (v := z_39) (lv' := [(3, .int z_39), (2, .int g_30_l2), (1, .int g_30_l1), (0, .ref ob)]) hx hb dX7_init_91 hl (k := 0) rfl (ez_39.symm) (by decide) rfl (fun ls hl => ?_)
              clear ez_39
              refine lv_goto (tgt := 45) hx hb dX7_init_94 (by decide) ?_
              exact ih33 z_39 g_30_l2 g_30_l1 g_30_f4 (by omega) (by omega) (by omega) hi_lg_q_31 (LPx_s hi_lp_q_32 (by omega) hwr_37.2 (by omega) (by omega)) (by omega) _ _ (hP.sub [0, 1, 2, 3, 4] rfl) (hD.sub [0, 1, 2, 3, 4] (by decide) rfl) hS _ (lv_sub hl [0, 1, 2, 3] rfl)
            · have kc_38 := il_eq c_38
              have := (by decide : (32 : Int32).toInt = 32)
              have hlw := LPx_w hi_lp_q_32 (by omega) hwr_37.2 (by omega)
              have hlwa := hlw.1.1; have hlwb := hlw.1.2.1; have hlwc := hlw.1.2.2
              refine lv_aload_n hx hb dX7_init_71 rfl (lv_at hl 3 rfl) ?_
              refine va_get (D := (dC, dI)) (ci := 7) (v := .ref q_7) (C := RX7) (T := TX7) (N := 5) hx hb hT inX7 hown hK hP 0 rfl rfl 4 (by decide) (hT _ mw_1_109) (fun _ h9 => h9) rfl dX7_init_72 ?_
              refine lv_iload_n hx hb dX7_init_75 rfl (lv_at hl 2 rfl) ?_
              refine va_ldcS hx hb hown hR dX7_init_76 ?_
              refine lv_iload_n hx hb dX7_init_78 rfl (lv_at hl 1 rfl) ?_
              refine lv_iload_n hx hb dX7_init_79 rfl (lv_at hl 0 rfl) ?_
              have hPc := hP.sub (ws' := []) [] rfl
              have hDc := hD.sub (ws' := []) [] (by decide) rfl
              have hKc := hK.sub (tys' := []) [] rfl
              have hFc := va_free (wc := []) hD hS hA [] rfl
              refine va_calli (va_runS (As := [.ref sK, .int g_30_l2, .int g_30_l3]) (rest := [.int g_30_l1, .ref q_7]) ⟨hx, hb, hml, hown, hT⟩ (c_X7_spelled l dC dI H.size sK g_30_l2 g_30_l3 sV (by omega) (by omega) (by omega) hlw.2.1) (va_cwS 3 hT (gwS mw_1_95 mw_1_96 mw_1_3 mw_1_97) rfl rfl rfl (by decide +kernel) ⟨Nat.le_of_ble_eq_true rfl, Nat.le_of_ble_eq_true rfl⟩) ⟨fun a U g mk q => by obtain ⟨q0, q1, qP, qK, qD, qx0⟩ := q; exact ⟨q0, q1, qP, va_K.moved (u := U) (U := U.calling g mk a) (Vm.Alike.refl U.vm) qK, qD, st_S.moved (Vm.Alike.refl U.vm) qx0⟩, fun U hU hW => ⟨rfl, by rw [hU], by rw [hU]; exact hPc, va_K.moved hW.alike hKc, hDc.weaken (fun _ _ _ _ => trivial), by rw [hU]; exact st_S.moved hW.alike (st_S.narrow (st_S.kept hE hS.2.1) hFc)⟩⟩ rfl rfl hl.1 rfl (lv_room (Nat.le_of_ble_eq_true rfl)) dX7_init_80 ⟨Nat.le_of_ble_eq_true rfl, Nat.le_of_ble_eq_true rfl⟩) hS (fun q _ h => hFc q h) hFc (fun r_40 u t H1 locs ht hvm hw hB hz1 hk1 hS => ?_)
              obtain ⟨hP1, hD1⟩ := hB
              rw [ht] at hP1
              obtain ⟨hP, hD⟩ := va_join (wr := [(ob, .inr (7, [.int 0, .ref q_1, .ref q_3, .ref q_5, .ref q_7])), (q_1, .inl (cA_2, 701, .inl (fun _ => 0))), (q_3, .inl (cA_4, 701, .inl (fun _ => 0))), (q_5, .inl (cA_6, 701, .inl (fun _ => 0))), (q_7, .inl (cA_8, 20, .inl g_30_f4))]) (w1 := []) hP hD [] [0, 1, 2, 3, 4] rfl rfl (by decide) (by decide) hk1 hFc hP1 hD1
              generalize H1 = H at hP hS ⊢
              have hP : va_P (dC, dI) vwCl [(ob, .inr (7, [.int 0, .ref q_1, .ref q_3, .ref q_5, .ref q_7])), (q_1, .inl (cA_2, 701, .inl (fun _ => 0))), (q_3, .inl (cA_4, 701, .inl (fun _ => 0))), (q_5, .inl (cA_6, 701, .inl (fun _ => 0))), (q_7, .inl (cA_8, 20, .inl g_30_f4))] H := hP
              have hD : va_D A [(ob, .inr (7, [.int 0, .ref q_1, .ref q_3, .ref q_5, .ref q_7])), (q_1, .inl (cA_2, 701, .inl (fun _ => 0))), (q_3, .inl (cA_4, 701, .inl (fun _ => 0))), (q_5, .inl (cA_6, 701, .inl (fun _ => 0))), (q_7, .inl (cA_8, 20, .inl g_30_f4))] := hD
              clear hPc hDc hKc hFc hP1 hD1 hk1 hz1 ht hvm
              have hwr_40 : r_40.toInt = tk_V (fI sB) g_30_l2.toInt.toNat g_30_l3.toInt.toNat := hw
              clear hw
              refine va_iast hx hb hK hP hD hS 4 3 rfl rfl (vp_in_iff.mpr (by omega)) dX7_init_83 (fun H locs hP hD hS => ?_)
              have hP : va_P (dC, dI) vwCl [(ob, .inr (7, [.int 0, .ref q_1, .ref q_3, .ref q_5, .ref q_7])), (q_1, .inl (cA_2, 701, .inl (fun _ => 0))), (q_3, .inl (cA_4, 701, .inl (fun _ => 0))), (q_5, .inl (cA_6, 701, .inl (fun _ => 0))), (q_7, .inl (cA_8, 20, .inl (upd g_30_f4 (g_30_l1 : Int32).toNatClampNeg (r_40 : Int32))))] H := hP
              have hD : va_D A [(ob, .inr (7, [.int 0, .ref q_1, .ref q_3, .ref q_5, .ref q_7])), (q_1, .inl (cA_2, 701, .inl (fun _ => 0))), (q_3, .inl (cA_4, 701, .inl (fun _ => 0))), (q_5, .inl (cA_6, 701, .inl (fun _ => 0))), (q_7, .inl (cA_8, 20, .inl (upd g_30_f4 (g_30_l1 : Int32).toNatClampNeg (r_40 : Int32))))] := hD
              obtain ⟨f_41, ef_41⟩ : ∃ g : Nat → Int32, (upd g_30_f4 (g_30_l1 : Int32).toNatClampNeg (r_40 : Int32)) = g := ⟨_, rfl⟩
              rw [ef_41] at hP hD
              obtain ⟨z_42, ez_42⟩ : ∃ y : Int32, y = g_30_l1 + Int32.ofInt (1) := ⟨_, rfl⟩
              have kz_42 : z_42.toInt = g_30_l1.toInt + (1) := ti_add ez_42 rfl (by decide) (by omega) (by omega)
              refine lv_iinc (v := z_42) (lv' := [(1, .int z_42), (3, .int g_30_l3), (2, .int g_30_l2), (0, .ref ob)]) hx hb dX7_init_84 hl (k := 2) rfl (ez_42.symm) (by decide) rfl (fun ls hl => ?_)
              clear ez_42
              refine lv_iload_n hx hb dX7_init_87 rfl (lv_at hl 1 rfl) ?_
              refine lv_iconst (v := 1) hx hb dX7_init_88 (by decide) ?_
              refine lv_iadd hx hb dX7_init_89 ?_
              refine lv_topi (fun z_43 ez_43 => ?_)
              have kz_43 : z_43.toInt = g_30_l3.toInt + 1 := ti_add ez_43 rfl (by decide) (by omega) (by omega)
              clear ez_43
              refine lv_istore_n (lv' := [(2, .int z_43), (1, .int z_42), (3, .int g_30_l3), (0, .ref ob)]) hx hb dX7_init_90 rfl hl (by decide) rfl (fun ls hl => ?_)
              obtain ⟨z_44, ez_44⟩ : ∃ y : Int32, y = g_30_l3 + Int32.ofInt (1) := ⟨_, rfl⟩
              have kz_44 : z_44.toInt = g_30_l3.toInt + (1) := ti_add ez_44 rfl (by decide) (by omega) (by omega)
              refine lv_iinc (v := z_44) (lv' := [(3, .int z_44), (2, .int z_43), (1, .int z_42), (0, .ref ob)]) hx hb dX7_init_91 hl (k := 2) rfl (ez_44.symm) (by decide) rfl (fun ls hl => ?_)
              clear ez_44
              refine lv_goto (tgt := 45) hx hb dX7_init_94 (by decide) ?_
              exact ih33 z_44 z_43 z_42 f_41 (by omega) (by omega) (by omega) (LGi_s hi_lg_q_31 ef_41 (by omega) (hwr_40.trans hlw.2.2) (by omega)) (by rw [show z_43 = z_44 from Int32.toInt_inj.mp (by omega)]; exact LPx_n hi_lp_q_32 (by omega) hwr_37.2 (by omega) (by omega) (by omega)) (by omega) _ _ (hP.sub [0, 1, 2, 3, 4] rfl) (hD.sub [0, 1, 2, 3, 4] (by decide) rfl) hS _ (lv_sub hl [0, 1, 2, 3] rfl)
  have := (by decide : (0 : Int32).toInt = 0); have := (by decide : (0 : Int32).toInt = 0); have := (by decide : (0 : Int32).toInt = 0)
  exact loop_33 4294967296 (0 : Int32) (0 : Int32) (0 : Int32) (fun _ => 0) (by decide) (by decide) (by decide) LGi_0 LPx_0 (by omega) _ _ (hP.sub [0, 1, 2, 3, 4] rfl) (hD.sub [0, 1, 2, 3, 4] (by decide) rfl) hS _ (lv_sub hl [0, 1, 2, 3] rfl)
abbrev q_X4_init (dC : Nat → ClassId) (dI : Nat → Nat → Nat) (A : Nat → Prop) (ob : Nat) (sK : Nat) (sV : Nat) : Array Value → State → Outcome → State → Prop := va_Qv (fun _ : Unit => True) (fun (_ : Unit) (t : State) => ∃ (b_tape : Nat), ∃ (b_tokens : Nat), ∃ (kb_tape : ClassId), ∃ (t_kind : Nat), ∃ (t_place : Nat), ∃ (t_worth : Nat), ∃ (t_language : Nat), ∃ (kt_kind : ClassId), ∃ (kt_place : ClassId), ∃ (kt_worth : ClassId), ∃ (kt_language : ClassId), ∃ (fl : Nat → Int32), (LGt fl) ∧ va_K (dC, dI) vwCl [(kb_tape, .byte), (kt_kind, .int), (kt_place, .int), (kt_worth, .int), (kt_language, .int)] t ∧ va_P (dC, dI) vwCl [(ob, .inr (4, [.ref b_tape, .int 0, .int 0, .int (-1), .ref b_tokens, .null, .int 0, .int 0])), (b_tape, .inl (kb_tape, 700, .inl (fun _ => 0))), (b_tokens, .inr (7, [.int 0, .ref t_kind, .ref t_place, .ref t_worth, .ref t_language])), (t_kind, .inl (kt_kind, 701, .inl (fun _ => 0))), (t_place, .inl (kt_place, 701, .inl (fun _ => 0))), (t_worth, .inl (kt_worth, 701, .inl (fun _ => 0))), (t_language, .inl (kt_language, 20, .inl fl))] t.heap ∧ va_D A [(ob, .inr (4, [.ref b_tape, .int 0, .int 0, .int (-1), .ref b_tokens, .null, .int 0, .int 0])), (b_tape, .inl (kb_tape, 700, .inl (fun _ => 0))), (b_tokens, .inr (7, [.int 0, .ref t_kind, .ref t_place, .ref t_worth, .ref t_language])), (t_kind, .inl (kt_kind, 701, .inl (fun _ => 0))), (t_place, .inl (kt_place, 701, .inl (fun _ => 0))), (t_worth, .inl (kt_worth, 701, .inl (fun _ => 0))), (t_language, .inl (kt_language, 20, .inl fl))]) A
set_option maxHeartbeats 4000000 in
set_option maxRecDepth 100000 in
theorem c_X4_init (l : Launch) (dC : Nat → ClassId) (dI : Nat → Nat → Nat) (sz : Nat) (ob : Nat) (sK : Nat) (sV : Nat)  : Met l yX4_init (pw_w yX4_init cX4_init 1 none) ({ frames := 6, cells := 6, slots := 2828, locals := 132 }) (va_Pc [.ref ob] (fun U => U.heap.size = sz ∧ va_P (dC, dI) vwCl [(ob, .inr (4, [.null, .int 0, .int 0, .int 0, .null, .null, .int 0, .int 0]))] U.heap ∧ va_K (dC, dI) vwCl [] U ∧ va_D (fun _ => True) [(ob, .inr (4, [.null, .int 0, .int 0, .int 0, .null, .null, .int 0, .int 0]))] ∧ (st_S sK sV (va_A [(ob, .inr (4, [.null, .int 0, .int 0, .int 0, .null, .null, .int 0, .int 0]))] sz) U U.heap) ∧ (vk_R RX7 24 "clock person round gun gains rough if sets takes half part middle or and not ahead last passed hour day " sK U))) (q_X4_init dC dI (va_A [(ob, .inr (4, [.null, .int 0, .int 0, .int 0, .null, .null, .int 0, .int 0]))] sz) ob sK sV) 6 2828 (va_A [(ob, .inr (4, [.null, .int 0, .int 0, .int 0, .null, .null, .int 0, .int 0]))] sz) := by
  refine Met.ofW (cc := cX4_init) (maxL := 1) (ret := none) (by decide) rfl ?_
  intro p e s m args below meth c s₁ B hml hv
  obtain ⟨rfl, hsz, hP, hK, hD0, hx0_, hx1_⟩ := hv
  have hx := B.exec
  have hb := B.bytes
  have hr := B.returns
  have hts := atoms_spec (ws := (pw_w yX4_init cX4_init 1 none)) B.pre
  have hT : ∀ w ∈ pw_T, w.before _ s = true := fun w h => hts w (List.mem_cons_of_mem _ h)
  have hown : s.vm.findClass RX4 = some m.cls := findClass_of_methodNamed B.named
  have hlocks := B.notSynchronized
  have hin : meth.name = "<init>" := (name_of_methodNamed B.named B.method).1
  subst hsz
  have hD := hD0.self (sz := s.heap.size)
  generalize hAe : va_A [(ob, .inr (4, [.null, .int 0, .int 0, .int 0, .null, .null, .int 0, .int 0]))] s.heap.size = A at hD hx0_ ⊢
  have hA : ∀ q : Nat, s.heap.size ≤ q → A q := fun q h => by rw [← hAe]; exact Or.inr h
  have hS : va_S A s.heap s.heap [] := va_S.rf
  have hP : va_P (dC, dI) vwCl [(ob, .inr (4, [.null, .int 0, .int 0, .int 0, .null, .null, .int 0, .int 0]))] s.heap := hP
  have hE := hx0_
  have hR := hx1_
  have hl := lv_entry ([.ref ob]) (n := 1) (Nat.le_of_ble_eq_true rfl)
  rw [lg_entry_eq]
  generalize (lg_sl ([.ref ob]) ++ List.replicate (1 - (lg_sl ([.ref ob])).length) Slot.unset).toArray = ls at hl ⊢
  have hl : lv_has ls 1 [(0, .ref ob)] := hl
  refine lv_aload_n hx hb dX4_init_0 rfl (lv_at hl 0 rfl) ?_
  refine W.objInit hx hb hown (hT _ mw_1_39) (hT _ mw_1_32) (hT _ mw_1_33) rfl (by rw [hml]; exact hl.1) rfl dX4_init_1 (Nat.le_of_ble_eq_true rfl) (Nat.le_of_ble_eq_true rfl) ?_
  refine W.eq (g2 := F0 m 4 ls []) rfl ?_
  refine lv_aload_n hx hb dX4_init_4 rfl (lv_at hl 0 rfl) ?_
  refine lv_sipush (v := 700) hx hb dX4_init_5 (by decide) ?_
  refine va_newa (atype := .byte) (ty := .byte) (a0 := (700, .inl (fun _ => 0))) hx hb (hT _ mw_1_121) rfl hK hP hD hS hA (fun _ => rfl) (by decide) (by decide) (by decide) (Nat.le_of_ble_eq_true rfl) (Nat.le_of_ble_eq_true rfl) dX4_init_8 (fun q_1 cA_2 H hK hP hD hS => ?_)
  have hP : va_P (dC, dI) vwCl [(ob, .inr (4, [.null, .int 0, .int 0, .int 0, .null, .null, .int 0, .int 0])), (q_1, .inl (cA_2, 700, .inl (fun _ => 0)))] H := hP
  have hD : va_D A [(ob, .inr (4, [.null, .int 0, .int 0, .int 0, .null, .null, .int 0, .int 0])), (q_1, .inl (cA_2, 700, .inl (fun _ => 0)))] := hD
  have hK : va_K (dC, dI) vwCl [(cA_2, .byte)] s := hK
  refine W.widen (k := 1) (n := 700) (Nat.le_of_ble_eq_true rfl) (Nat.le_of_ble_eq_true rfl) ?_
  refine va_putF (D := (dC, dI)) (ci := 4) (v := .ref q_1) (ty := (.array .byte)) (C := RX4) (T := TX4) (N := 8) hx hb hT inX4 tyX4 tyX4_ok nmX4 hown hK hP hD hS 0 rfl rfl 0 (by decide) (hT _ mw_1_123) (fun _ h9 => h9) rfl hin rfl (by decide +kernel) rfl rfl (Nat.le_of_ble_eq_true rfl) dX4_init_10 (fun H locs hP hD hS => ?_)
  have hP : va_P (dC, dI) vwCl [(ob, .inr (4, [.ref q_1, .int 0, .int 0, .int 0, .null, .null, .int 0, .int 0])), (q_1, .inl (cA_2, 700, .inl (fun _ => 0)))] H := hP
  have hD : va_D A [(ob, .inr (4, [.ref q_1, .int 0, .int 0, .int 0, .null, .null, .int 0, .int 0])), (q_1, .inl (cA_2, 700, .inl (fun _ => 0)))] := hD
  refine lv_aload_n hx hb dX4_init_13 rfl (lv_at hl 0 rfl) ?_
  refine lv_iconst (v := 0) hx hb dX4_init_14 (by decide) ?_
  refine va_put (D := (dC, dI)) (ci := 4) (v := .int 0) (ty := .int) (C := RX4) (T := TX4) (N := 8) hx hb hT inX4 tyX4 tyX4_ok nmX4 hown hK hP hD hS 0 rfl rfl 2 (by decide) (hT _ mw_1_126) (fun _ h9 => h9) rfl (by decide +kernel) rfl rfl (Nat.le_of_ble_eq_true rfl) dX4_init_15 (fun H locs hP hD hS => ?_)
  have hP : va_P (dC, dI) vwCl [(ob, .inr (4, [.ref q_1, .int 0, .int 0, .int 0, .null, .null, .int 0, .int 0])), (q_1, .inl (cA_2, 700, .inl (fun _ => 0)))] H := hP
  have hD : va_D A [(ob, .inr (4, [.ref q_1, .int 0, .int 0, .int 0, .null, .null, .int 0, .int 0])), (q_1, .inl (cA_2, 700, .inl (fun _ => 0)))] := hD
  refine lv_aload_n hx hb dX4_init_18 rfl (lv_at hl 0 rfl) ?_
  refine lv_iconst (v := (-1)) hx hb dX4_init_19 (by decide) ?_
  refine va_put (D := (dC, dI)) (ci := 4) (v := .int (-1)) (ty := .int) (C := RX4) (T := TX4) (N := 8) hx hb hT inX4 tyX4 tyX4_ok nmX4 hown hK hP hD hS 0 rfl rfl 3 (by decide) (hT _ mw_1_128) (fun _ h9 => h9) rfl (by decide +kernel) rfl rfl (Nat.le_of_ble_eq_true rfl) dX4_init_20 (fun H locs hP hD hS => ?_)
  have hP : va_P (dC, dI) vwCl [(ob, .inr (4, [.ref q_1, .int 0, .int 0, .int (-1), .null, .null, .int 0, .int 0])), (q_1, .inl (cA_2, 700, .inl (fun _ => 0)))] H := hP
  have hD : va_D A [(ob, .inr (4, [.ref q_1, .int 0, .int 0, .int (-1), .null, .null, .int 0, .int 0])), (q_1, .inl (cA_2, 700, .inl (fun _ => 0)))] := hD
  refine lv_aload_n hx hb dX4_init_23 rfl (lv_at hl 0 rfl) ?_
  refine va_new (ci := 7) (fs := [.int 0, .null, .null, .null, .null]) (C := RX7) (T := TX7) (N := 5) hx hb hT inX7 tyX7 tyX7_ok hown (hT _ mw_1_40) (hT _ mw_1_41) (hT _ mw_1_3) hK hP hD hS hA rfl dfX7 (Nat.le_of_ble_eq_true rfl) (Nat.le_of_ble_eq_true rfl) dX4_init_24 (fun q_3 H hP hD hS => ?_)
  have hP : va_P (dC, dI) vwCl [(ob, .inr (4, [.ref q_1, .int 0, .int 0, .int (-1), .null, .null, .int 0, .int 0])), (q_1, .inl (cA_2, 700, .inl (fun _ => 0))), (q_3, .inr (7, [.int 0, .null, .null, .null, .null]))] H := hP
  have hD : va_D A [(ob, .inr (4, [.ref q_1, .int 0, .int 0, .int (-1), .null, .null, .int 0, .int 0])), (q_1, .inl (cA_2, 700, .inl (fun _ => 0))), (q_3, .inr (7, [.int 0, .null, .null, .null, .null]))] := hD
  refine W.widen (k := 2) (n := 705) (Nat.le_of_ble_eq_true rfl) (Nat.le_of_ble_eq_true rfl) ?_
  refine lv_dup hx hb dX4_init_27 rfl ?_
  have hPc := hP.sub (ws' := [(q_3, .inr (7, [.int 0, .null, .null, .null, .null]))]) [2] rfl
  have hDc := hD.sub (ws' := [(q_3, .inr (7, [.int 0, .null, .null, .null, .null]))]) [2] (by decide) rfl
  have hKc := hK.sub (tys' := []) [] rfl
  have hFc := va_free (wc := [(q_3, .inr (7, [.int 0, .null, .null, .null, .null]))]) hD hS hA [2] rfl
  refine va_callv (va_runI (As := []) (rest := [.ref q_3, .ref ob]) ⟨hx, hb, hml, hown, hT⟩ (c_X7_init l dC dI H.size q_3 sK sV ) (cwI 0 hT (gw mw_1_44) rfl rfl rfl (hT _ mw_1_3) (hT _ mw_1_42) (hT _ mw_1_43) rfl (by decide +kernel) ⟨Nat.le_of_ble_eq_true rfl, Nat.le_of_ble_eq_true rfl⟩) ⟨fun a U g mk q => by obtain ⟨q0, q1, qP, qK, qD, qx0, qx1⟩ := q; exact ⟨q0, q1, qP, va_K.moved (u := U) (U := U.calling g mk a) (Vm.Alike.refl U.vm) qK, qD, st_S.moved (Vm.Alike.refl U.vm) qx0, vk_R.same rfl qx1⟩, fun U hU hW => ⟨rfl, by rw [hU], by rw [hU]; exact hPc, va_K.moved hW.alike hKc, hDc.weaken (fun _ _ _ _ => trivial), by rw [hU]; exact st_S.moved hW.alike (st_S.narrow (st_S.kept hE hS.2.1) hFc), vk_R.warm hW hR⟩⟩ rfl rfl hl.1 rfl (lv_room (Nat.le_of_ble_eq_true rfl)) dX4_init_28 ⟨Nat.le_of_ble_eq_true rfl, Nat.le_of_ble_eq_true rfl⟩) hS (fun q _ h => hFc q h) hFc (fun u t H1 locs ht hvm hw hB hz1 hk1 hS => ?_)
  obtain ⟨x_6, x_7, x_8, x_9, x_10, x_11, x_12, x_13, x_14, hpr_5_0, hK1, hP1, hD1⟩ := hB
  rw [ht] at hP1
  obtain ⟨hP, hD⟩ := va_join (wr := [(ob, .inr (4, [.ref q_1, .int 0, .int 0, .int (-1), .null, .null, .int 0, .int 0])), (q_1, .inl (cA_2, 700, .inl (fun _ => 0)))]) (w1 := [(q_3, .inr (7, [.int 0, .ref x_6, .ref x_7, .ref x_8, .ref x_9])), (x_6, .inl (x_10, 701, .inl (fun _ => 0))), (x_7, .inl (x_11, 701, .inl (fun _ => 0))), (x_8, .inl (x_12, 701, .inl (fun _ => 0))), (x_9, .inl (x_13, 20, .inl x_14))]) hP hD [2] [0, 1] rfl rfl (by decide) (by decide) hk1 hFc hP1 hD1
  generalize H1 = H at hP hS ⊢
  have hP : va_P (dC, dI) vwCl [(ob, .inr (4, [.ref q_1, .int 0, .int 0, .int (-1), .null, .null, .int 0, .int 0])), (q_1, .inl (cA_2, 700, .inl (fun _ => 0))), (q_3, .inr (7, [.int 0, .ref x_6, .ref x_7, .ref x_8, .ref x_9])), (x_6, .inl (x_10, 701, .inl (fun _ => 0))), (x_7, .inl (x_11, 701, .inl (fun _ => 0))), (x_8, .inl (x_12, 701, .inl (fun _ => 0))), (x_9, .inl (x_13, 20, .inl x_14))] H := hP
  have hD : va_D A [(ob, .inr (4, [.ref q_1, .int 0, .int 0, .int (-1), .null, .null, .int 0, .int 0])), (q_1, .inl (cA_2, 700, .inl (fun _ => 0))), (q_3, .inr (7, [.int 0, .ref x_6, .ref x_7, .ref x_8, .ref x_9])), (x_6, .inl (x_10, 701, .inl (fun _ => 0))), (x_7, .inl (x_11, 701, .inl (fun _ => 0))), (x_8, .inl (x_12, 701, .inl (fun _ => 0))), (x_9, .inl (x_13, 20, .inl x_14))] := hD
  have hK1 := va_K.moved hvm.symm hK1
  have hK : va_K (dC, dI) vwCl [(cA_2, .byte), (x_10, .int), (x_11, .int), (x_12, .int), (x_13, .int)] s := hK.app hK1
  clear hPc hDc hKc hFc hP1 hD1 hk1 hz1 ht hvm hK1
  refine W.widen (k := 6) (n := 2828) (Nat.le_of_ble_eq_true rfl) (Nat.le_of_ble_eq_true rfl) ?_
  refine va_putF (D := (dC, dI)) (ci := 4) (v := .ref q_3) (ty := (.object "PassedClocks$Tokens")) (C := RX4) (T := TX4) (N := 8) hx hb hT inX4 tyX4 tyX4_ok nmX4 hown hK hP hD hS 0 rfl rfl 4 (by decide) (hT _ mw_1_130) (fun _ h9 => h9) rfl hin rfl (by decide +kernel) rfl rfl (Nat.le_of_ble_eq_true rfl) dX4_init_31 (fun H locs hP hD hS => ?_)
  have hP : va_P (dC, dI) vwCl [(ob, .inr (4, [.ref q_1, .int 0, .int 0, .int (-1), .ref q_3, .null, .int 0, .int 0])), (q_1, .inl (cA_2, 700, .inl (fun _ => 0))), (q_3, .inr (7, [.int 0, .ref x_6, .ref x_7, .ref x_8, .ref x_9])), (x_6, .inl (x_10, 701, .inl (fun _ => 0))), (x_7, .inl (x_11, 701, .inl (fun _ => 0))), (x_8, .inl (x_12, 701, .inl (fun _ => 0))), (x_9, .inl (x_13, 20, .inl x_14))] H := hP
  have hD : va_D A [(ob, .inr (4, [.ref q_1, .int 0, .int 0, .int (-1), .ref q_3, .null, .int 0, .int 0])), (q_1, .inl (cA_2, 700, .inl (fun _ => 0))), (q_3, .inr (7, [.int 0, .ref x_6, .ref x_7, .ref x_8, .ref x_9])), (x_6, .inl (x_10, 701, .inl (fun _ => 0))), (x_7, .inl (x_11, 701, .inl (fun _ => 0))), (x_8, .inl (x_12, 701, .inl (fun _ => 0))), (x_9, .inl (x_13, 20, .inl x_14))] := hD
  have hP9 := hP.sub (ws' := [(ob, .inr (4, [.ref q_1, .int 0, .int 0, .int (-1), .ref q_3, .null, .int 0, .int 0])), (q_1, .inl (cA_2, 700, .inl (fun _ => 0))), (q_3, .inr (7, [.int 0, .ref x_6, .ref x_7, .ref x_8, .ref x_9])), (x_6, .inl (x_10, 701, .inl (fun _ => 0))), (x_7, .inl (x_11, 701, .inl (fun _ => 0))), (x_8, .inl (x_12, 701, .inl (fun _ => 0))), (x_9, .inl (x_13, 20, .inl x_14))]) [0, 1, 2, 3, 4, 5, 6] rfl
  have hD9 := hD.sub (ws' := [(ob, .inr (4, [.ref q_1, .int 0, .int 0, .int (-1), .ref q_3, .null, .int 0, .int 0])), (q_1, .inl (cA_2, 700, .inl (fun _ => 0))), (q_3, .inr (7, [.int 0, .ref x_6, .ref x_7, .ref x_8, .ref x_9])), (x_6, .inl (x_10, 701, .inl (fun _ => 0))), (x_7, .inl (x_11, 701, .inl (fun _ => 0))), (x_8, .inl (x_12, 701, .inl (fun _ => 0))), (x_9, .inl (x_13, 20, .inl x_14))]) [0, 1, 2, 3, 4, 5, 6] (by decide) rfl
  have hK9 := hK.sub (tys' := [(cA_2, .byte), (x_10, .int), (x_11, .int), (x_12, .int), (x_13, .int)]) [0, 1, 2, 3, 4] rfl
  refine W.widen (k := 6) (n := 2828) (Nat.le_of_ble_eq_true rfl) (Nat.le_of_ble_eq_true rfl) ?_
  exact W.vret hx hb hr (fun t ht hW => ⟨⟨(), rfl, trivial, q_1, q_3, cA_2, x_6, x_7, x_8, x_9, x_10, x_11, x_12, x_13, x_14, (by assumption), va_K.moved hW.alike hK9, by rw [ht]; exact hP9, hD9⟩, hS.F ht⟩) hS.2.2 dX4_init_34
