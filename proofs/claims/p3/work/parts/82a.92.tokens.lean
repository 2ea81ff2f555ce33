theorem dX7_init_0 : decode cX7_init 0 = .ok (.aload_n 0, 1) := by decide +kernel
theorem dX7_init_1 : decode cX7_init 1 = .ok (.invokespecial 3, 3) := by decide +kernel
theorem dX7_init_4 : decode cX7_init 4 = .ok (.aload_n 0, 1) := by decide +kernel
theorem dX7_init_5 : decode cX7_init 5 = .ok (.sipush 701, 3) := by decide +kernel
theorem dX7_init_8 : decode cX7_init 8 = .ok (.newarray .int, 2) := by decide +kernel
theorem dX7_init_10 : decode cX7_init 10 = .ok (.putfield 9, 3) := by decide +kernel
theorem dX7_init_13 : decode cX7_init 13 = .ok (.aload_n 0, 1) := by decide +kernel
theorem dX7_init_14 : decode cX7_init 14 = .ok (.sipush 701, 3) := by decide +kernel
theorem dX7_init_17 : decode cX7_init 17 = .ok (.newarray .int, 2) := by decide +kernel
theorem dX7_init_19 : decode cX7_init 19 = .ok (.putfield 15, 3) := by decide +kernel
theorem dX7_init_22 : decode cX7_init 22 = .ok (.aload_n 0, 1) := by decide +kernel
theorem dX7_init_23 : decode cX7_init 23 = .ok (.sipush 701, 3) := by decide +kernel
theorem dX7_init_26 : decode cX7_init 26 = .ok (.newarray .int, 2) := by decide +kernel
theorem dX7_init_28 : decode cX7_init 28 = .ok (.putfield 18, 3) := by decide +kernel
theorem dX7_init_31 : decode cX7_init 31 = .ok (.aload_n 0, 1) := by decide +kernel
theorem dX7_init_32 : decode cX7_init 32 = .ok (.bipush 20, 2) := by decide +kernel
theorem dX7_init_34 : decode cX7_init 34 = .ok (.newarray .int, 2) := by decide +kernel
theorem dX7_init_36 : decode cX7_init 36 = .ok (.putfield 21, 3) := by decide +kernel
theorem dX7_init_39 : decode cX7_init 39 = .ok (.iconst 0, 1) := by decide +kernel
theorem dX7_init_40 : decode cX7_init 40 = .ok (.istore_n 1, 1) := by decide +kernel
theorem dX7_init_41 : decode cX7_init 41 = .ok (.iconst 0, 1) := by decide +kernel
theorem dX7_init_42 : decode cX7_init 42 = .ok (.istore_n 2, 1) := by decide +kernel
theorem dX7_init_43 : decode cX7_init 43 = .ok (.iconst 0, 1) := by decide +kernel
theorem dX7_init_44 : decode cX7_init 44 = .ok (.istore_n 3, 1) := by decide +kernel
theorem dX7_init_45 : decode cX7_init 45 = .ok (.iload_n 3, 1) := by decide +kernel
theorem dX7_init_46 : decode cX7_init 46 = .ok (.ldc 24, 2) := by decide +kernel
theorem dX7_init_48 : decode cX7_init 48 = .ok (.invokevirtual 26, 3) := by decide +kernel
theorem dX7_init_54 : decode cX7_init 54 = .ok (.iload_n 1, 1) := by decide +kernel
theorem dX7_init_55 : decode cX7_init 55 = .ok (.bipush 20, 2) := by decide +kernel
theorem dX7_init_60 : decode cX7_init 60 = .ok (.ldc 24, 2) := by decide +kernel
theorem dX7_init_62 : decode cX7_init 62 = .ok (.iload_n 3, 1) := by decide +kernel
theorem dX7_init_63 : decode cX7_init 63 = .ok (.invokevirtual 32, 3) := by decide +kernel
theorem dX7_init_66 : decode cX7_init 66 = .ok (.bipush 32, 2) := by decide +kernel
theorem dX7_init_94 : decode cX7_init 94 = .ok (.goto (-49), 3) := by decide +kernel
theorem dX7_init_71 : decode cX7_init 71 = .ok (.aload_n 0, 1) := by decide +kernel
theorem dX7_init_72 : decode cX7_init 72 = .ok (.getfield 21, 3) := by decide +kernel
theorem dX7_init_75 : decode cX7_init 75 = .ok (.iload_n 1, 1) := by decide +kernel
theorem dX7_init_76 : decode cX7_init 76 = .ok (.ldc 24, 2) := by decide +kernel
theorem dX7_init_78 : decode cX7_init 78 = .ok (.iload_n 2, 1) := by decide +kernel
theorem dX7_init_79 : decode cX7_init 79 = .ok (.iload_n 3, 1) := by decide +kernel
theorem dX7_init_80 : decode cX7_init 80 = .ok (.invokestatic 36, 3) := by decide +kernel
theorem dX7_init_87 : decode cX7_init 87 = .ok (.iload_n 3, 1) := by decide +kernel
theorem dX7_init_88 : decode cX7_init 88 = .ok (.iconst 1, 1) := by decide +kernel
theorem dX7_init_90 : decode cX7_init 90 = .ok (.istore_n 2, 1) := by decide +kernel
theorem dX7_init_97 : decode cX7_init 97 = .ok (.return_, 1) := by decide +kernel
theorem dX7_init_51 : decode cX7_init 51 = .ok (.if_icmp .ge 46, 3) := by decide +kernel
theorem dX7_init_57 : decode cX7_init 57 = .ok (.if_icmp .ge 40, 3) := by decide +kernel
theorem dX7_init_68 : decode cX7_init 68 = .ok (.if_icmp .ne 23, 3) := by decide +kernel
theorem dX7_init_91 : decode cX7_init 91 = .ok (.iinc 3 1, 3) := by decide +kernel
theorem dX7_init_83 : decode cX7_init 83 = .ok (.iastore, 1) := by decide +kernel
theorem dX7_init_84 : decode cX7_init 84 = .ok (.iinc 1 1, 3) := by decide +kernel
theorem dX7_init_89 : decode cX7_init 89 = .ok (.iadd, 1) := by decide +kernel
theorem dX4_init_0 : decode cX4_init 0 = .ok (.aload_n 0, 1) := by decide +kernel
theorem dX4_init_1 : decode cX4_init 1 = .ok (.invokespecial 3, 3) := by decide +kernel
theorem dX4_init_4 : decode cX4_init 4 = .ok (.aload_n 0, 1) := by decide +kernel
theorem dX4_init_5 : decode cX4_init 5 = .ok (.sipush 700, 3) := by decide +kernel
theorem dX4_init_8 : decode cX4_init 8 = .ok (.newarray .byte, 2) := by decide +kernel
theorem dX4_init_10 : decode cX4_init 10 = .ok (.putfield 9, 3) := by decide +kernel
theorem dX4_init_13 : decode cX4_init 13 = .ok (.aload_n 0, 1) := by decide +kernel
theorem dX4_init_14 : decode cX4_init 14 = .ok (.iconst 0, 1) := by decide +kernel
theorem dX4_init_15 : decode cX4_init 15 = .ok (.putfield 15, 3) := by decide +kernel
theorem dX4_init_18 : decode cX4_init 18 = .ok (.aload_n 0, 1) := by decide +kernel
theorem dX4_init_19 : decode cX4_init 19 = .ok (.iconst (-1), 1) := by decide +kernel
theorem dX4_init_20 : decode cX4_init 20 = .ok (.putfield 19, 3) := by decide +kernel
theorem dX4_init_23 : decode cX4_init 23 = .ok (.aload_n 0, 1) := by decide +kernel
theorem dX4_init_24 : decode cX4_init 24 = .ok (.new 22, 3) := by decide +kernel
theorem dX4_init_27 : decode cX4_init 27 = .ok (.dup, 1) := by decide +kernel
theorem dX4_init_28 : decode cX4_init 28 = .ok (.invokespecial 24, 3) := by decide +kernel
theorem dX4_init_31 : decode cX4_init 31 = .ok (.putfield 25, 3) := by decide +kernel
theorem dX4_init_34 : decode cX4_init 34 = .ok (.return_, 1) := by decide +kernel
abbrev q_X7_init (dC : Nat → ClassId) (dI : Nat → Nat → Nat) (A : Nat → Prop) (ob : Nat) (sK : Nat) (sV : Nat) : Array Value → State → Outcome → State → Prop := va_Qv (fun _ : Unit => True) (fun (_ : Unit) (t : State) => ∃ (b_kind : Nat), ∃ (b_place : Nat), ∃ (b_worth : Nat), ∃ (b_language : Nat), ∃ (kb_kind : ClassId), ∃ (kb_place : ClassId), ∃ (kb_worth : ClassId), ∃ (kb_language : ClassId), ∃ (fl : Nat → Int32), (LGt fl) ∧ va_K (dC, dI) vwCl [(kb_kind, .int), (kb_place, .int), (kb_worth, .int), (kb_language, .int)] t ∧ va_P (dC, dI) vwCl [(ob, .inr (7, [.int 0, .ref b_kind, .ref b_place, .ref b_worth, .ref b_language])), (b_kind, .inl (kb_kind, 701, .inl (fun _ => 0))), (b_place, .inl (kb_place, 701, .inl (fun _ => 0))), (b_worth, .inl (kb_worth, 701, .inl (fun _ => 0))), (b_language, .inl (kb_language, 20, .inl fl))] t.heap ∧ va_D A [(ob, .inr (7, [.int 0, .ref b_kind, .ref b_place, .ref b_worth, .ref b_language])), (b_kind, .inl (kb_kind, 701, .inl (fun _ => 0))), (b_place, .inl (kb_place, 701, .inl (fun _ => 0))), (b_worth, .inl (kb_worth, 701, .inl (fun _ => 0))), (b_language, .inl (kb_language, 20, .inl fl))]) A
set_option maxHeartbeats 4000000 in
set_option maxRecDepth 100000 in
theorem c_X7_init (l : Launch) (dC : Nat → ClassId) (dI : Nat → Nat → Nat) (sz : Nat) (ob : Nat) (sK : Nat) (sV : Nat)  : Met l yX7_init (pw_w yX7_init cX7_init 4 none) ({ frames := 5, cells := 4, slots := 2123, locals := 109 }) (va_Pc [.ref ob] (fun U => U.heap.size = sz ∧ va_P (dC, dI) vwCl [(ob, .inr (7, [.int 0, .null, .null, .null, .null]))] U.heap ∧ va_K (dC, dI) vwCl [] U ∧ va_D (fun _ => True) [(ob, .inr (7, [.int 0, .null, .null, .null, .null]))] ∧ (st_S sK sV (va_A [(ob, .inr (7, [.int 0, .null, .null, .null, .null]))] sz) U U.heap) ∧ (vk_R RX7 24 "clock person round gun gains rough if sets takes half part middle or and not ahead last passed hour day " sK U))) (q_X7_init dC dI (va_A [(ob, .inr (7, [.int 0, .null, .null, .null, .null]))] sz) ob sK sV) 4 2123 (va_A [(ob, .inr (7, [.int 0, .null, .null, .null, .null]))] sz) := sorry
abbrev q_X4_init (dC : Nat → ClassId) (dI : Nat → Nat → Nat) (A : Nat → Prop) (ob : Nat) (sK : Nat) (sV : Nat) : Array Value → State → Outcome → State → Prop := va_Qv (fun _ : Unit => True) (fun (_ : Unit) (t : State) => ∃ (b_tape : Nat), ∃ (b_tokens : Nat), ∃ (kb_tape : ClassId), ∃ (t_kind : Nat), ∃ (t_place : Nat), ∃ (t_worth : Nat), ∃ (t_language : Nat), ∃ (kt_kind : ClassId), ∃ (kt_place : ClassId), ∃ (kt_worth : ClassId), ∃ (kt_language : ClassId), ∃ (fl : Nat → Int32), (LGt fl) ∧ va_K (dC, dI) vwCl [(kb_tape, .byte), (kt_kind, .int), (kt_place, .int), (kt_worth, .int), (kt_language, .int)] t ∧ va_P (dC, dI) vwCl [(ob, .inr (4, [.ref b_tape, .int 0, .int 0, .int (-1), .ref b_tokens, .null, .int 0, .int 0])), (b_tape, .inl (kb_tape, 700, .inl (fun _ => 0))), (b_tokens, .inr (7, [.int 0, .ref t_kind, .ref t_place, .ref t_worth, .ref t_language])), (t_kind, .inl (kt_kind, 701, .inl (fun _ => 0))), (t_place, .inl (kt_place, 701, .inl (fun _ => 0))), (t_worth, .inl (kt_worth, 701, .inl (fun _ => 0))), (t_language, .inl (kt_language, 20, .inl fl))] t.heap ∧ va_D A [(ob, .inr (4, [.ref b_tape, .int 0, .int 0, .int (-1), .ref b_tokens, .null, .int 0, .int 0])), (b_tape, .inl (kb_tape, 700, .inl (fun _ => 0))), (b_tokens, .inr (7, [.int 0, .ref t_kind, .ref t_place, .ref t_worth, .ref t_language])), (t_kind, .inl (kt_kind, 701, .inl (fun _ => 0))), (t_place, .inl (kt_place, 701, .inl (fun _ => 0))), (t_worth, .inl (kt_worth, 701, .inl (fun _ => 0))), (t_language, .inl (kt_language, 20, .inl fl))]) A
set_option maxHeartbeats 4000000 in
set_option maxRecDepth 100000 in
theorem c_X4_init (l : Launch) (dC : Nat → ClassId) (dI : Nat → Nat → Nat) (sz : Nat) (ob : Nat) (sK : Nat) (sV : Nat)  : Met l yX4_init (pw_w yX4_init cX4_init 1 none) ({ frames := 6, cells := 6, slots := 2828, locals := 132 }) (va_Pc [.ref ob] (fun U => U.heap.size = sz ∧ va_P (dC, dI) vwCl [(ob, .inr (4, [.null, .int 0, .int 0, .int 0, .null, .null, .int 0, .int 0]))] U.heap ∧ va_K (dC, dI) vwCl [] U ∧ va_D (fun _ => True) [(ob, .inr (4, [.null, .int 0, .int 0, .int 0, .null, .null, .int 0, .int 0]))] ∧ (st_S sK sV (va_A [(ob, .inr (4, [.null, .int 0, .int 0, .int 0, .null, .null, .int 0, .int 0]))] sz) U U.heap) ∧ (vk_R RX7 24 "clock person round gun gains rough if sets takes half part middle or and not ahead last passed hour day " sK U))) (q_X4_init dC dI (va_A [(ob, .inr (4, [.null, .int 0, .int 0, .int 0, .null, .null, .int 0, .int 0]))] sz) ob sK sV) 6 2828 (va_A [(ob, .inr (4, [.null, .int 0, .int 0, .int 0, .null, .null, .int 0, .int 0]))] sz) := sorry
