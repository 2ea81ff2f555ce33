theorem dX5_clear_0 : decode cX5_clear 0 = .ok (.aload_n 0, 1) := by decide +kernel
theorem dX5_clear_1 : decode cX5_clear 1 = .ok (.iconst 0, 1) := by decide +kernel
theorem dX5_clear_2 : decode cX5_clear 2 = .ok (.putfield 31, 3) := by decide +kernel
theorem dX5_clear_5 : decode cX5_clear 5 = .ok (.aload_n 0, 1) := by decide +kernel
theorem dX5_clear_6 : decode cX5_clear 6 = .ok (.iconst (-1), 1) := by decide +kernel
theorem dX5_clear_7 : decode cX5_clear 7 = .ok (.putfield 9, 3) := by decide +kernel
theorem dX5_clear_10 : decode cX5_clear 10 = .ok (.return_, 1) := by decide +kernel
theorem dX5_knownCount_0 : decode cX5_knownCount 0 = .ok (.aload_n 0, 1) := by decide +kernel
theorem dX5_knownCount_1 : decode cX5_knownCount 1 = .ok (.getfield 9, 3) := by decide +kernel
theorem dX5_knownCount_4 : decode cX5_knownCount 4 = .ok (.iconst (-1), 1) := by decide +kernel
theorem dX5_knownCount_15 : decode cX5_knownCount 15 = .ok (.aload_n 0, 1) := by decide +kernel
theorem dX5_knownCount_16 : decode cX5_knownCount 16 = .ok (.getfield 9, 3) := by decide +kernel
theorem dX5_knownCount_19 : decode cX5_knownCount 19 = .ok (.ireturn, 1) := by decide +kernel
theorem dX5_knownCount_8 : decode cX5_knownCount 8 = .ok (.aload_n 0, 1) := by decide +kernel
theorem dX5_knownCount_9 : decode cX5_knownCount 9 = .ok (.getfield 31, 3) := by decide +kernel
theorem dX5_knownCount_12 : decode cX5_knownCount 12 = .ok (.goto 7, 3) := by decide +kernel
theorem dX5_knownCount_5 : decode cX5_knownCount 5 = .ok (.if_icmp .ne 10, 3) := by decide +kernel
theorem dX5_add_0 : decode cX5_add 0 = .ok (.aload_n 0, 1) := by decide +kernel
theorem dX5_add_1 : decode cX5_add 1 = .ok (.getfield 31, 3) := by decide +kernel
theorem dX5_add_4 : decode cX5_add 4 = .ok (.bipush 30, 2) := by decide +kernel
theorem dX5_add_11 : decode cX5_add 11 = .ok (.aload_n 0, 1) := by decide +kernel
theorem dX5_add_12 : decode cX5_add 12 = .ok (.getfield 15, 3) := by decide +kernel
theorem dX5_add_15 : decode cX5_add 15 = .ok (.aload_n 0, 1) := by decide +kernel
theorem dX5_add_16 : decode cX5_add 16 = .ok (.getfield 31, 3) := by decide +kernel
theorem dX5_add_19 : decode cX5_add 19 = .ok (.iload_n 1, 1) := by decide +kernel
theorem dX5_add_21 : decode cX5_add 21 = .ok (.aload_n 0, 1) := by decide +kernel
theorem dX5_add_22 : decode cX5_add 22 = .ok (.getfield 19, 3) := by decide +kernel
theorem dX5_add_25 : decode cX5_add 25 = .ok (.aload_n 0, 1) := by decide +kernel
theorem dX5_add_26 : decode cX5_add 26 = .ok (.getfield 31, 3) := by decide +kernel
theorem dX5_add_29 : decode cX5_add 29 = .ok (.iload_n 2, 1) := by decide +kernel
theorem dX5_add_31 : decode cX5_add 31 = .ok (.aload_n 0, 1) := by decide +kernel
theorem dX5_add_32 : decode cX5_add 32 = .ok (.getfield 22, 3) := by decide +kernel
theorem dX5_add_35 : decode cX5_add 35 = .ok (.aload_n 0, 1) := by decide +kernel
theorem dX5_add_36 : decode cX5_add 36 = .ok (.getfield 31, 3) := by decide +kernel
theorem dX5_add_39 : decode cX5_add 39 = .ok (.iload_n 3, 1) := by decide +kernel
theorem dX5_add_41 : decode cX5_add 41 = .ok (.aload_n 0, 1) := by decide +kernel
theorem dX5_add_42 : decode cX5_add 42 = .ok (.getfield 25, 3) := by decide +kernel
theorem dX5_add_45 : decode cX5_add 45 = .ok (.aload_n 0, 1) := by decide +kernel
theorem dX5_add_46 : decode cX5_add 46 = .ok (.getfield 31, 3) := by decide +kernel
theorem dX5_add_49 : decode cX5_add 49 = .ok (.iload 4, 2) := by decide +kernel
theorem dX5_add_52 : decode cX5_add 52 = .ok (.aload_n 0, 1) := by decide +kernel
theorem dX5_add_53 : decode cX5_add 53 = .ok (.getfield 31, 3) := by decide +kernel
theorem dX5_add_56 : decode cX5_add 56 = .ok (.istore 5, 2) := by decide +kernel
theorem dX5_add_58 : decode cX5_add 58 = .ok (.iload 5, 2) := by decide +kernel
theorem dX5_add_63 : decode cX5_add 63 = .ok (.aload_n 0, 1) := by decide +kernel
theorem dX5_add_64 : decode cX5_add 64 = .ok (.getfield 19, 3) := by decide +kernel
theorem dX5_add_67 : decode cX5_add 67 = .ok (.aload_n 0, 1) := by decide +kernel
theorem dX5_add_68 : decode cX5_add 68 = .ok (.getfield 28, 3) := by decide +kernel
theorem dX5_add_71 : decode cX5_add 71 = .ok (.iload 5, 2) := by decide +kernel
theorem dX5_add_73 : decode cX5_add 73 = .ok (.iconst 1, 1) := by decide +kernel
theorem dX5_add_77 : decode cX5_add 77 = .ok (.iload_n 2, 1) := by decide +kernel
theorem dX5_add_81 : decode cX5_add 81 = .ok (.aload_n 0, 1) := by decide +kernel
theorem dX5_add_82 : decode cX5_add 82 = .ok (.getfield 28, 3) := by decide +kernel
theorem dX5_add_85 : decode cX5_add 85 = .ok (.iload 5, 2) := by decide +kernel
theorem dX5_add_87 : decode cX5_add 87 = .ok (.aload_n 0, 1) := by decide +kernel
theorem dX5_add_88 : decode cX5_add 88 = .ok (.getfield 28, 3) := by decide +kernel
theorem dX5_add_91 : decode cX5_add 91 = .ok (.iload 5, 2) := by decide +kernel
theorem dX5_add_93 : decode cX5_add 93 = .ok (.iconst 1, 1) := by decide +kernel
theorem dX5_add_100 : decode cX5_add 100 = .ok (.goto (-42), 3) := by decide +kernel
theorem dX5_add_103 : decode cX5_add 103 = .ok (.aload_n 0, 1) := by decide +kernel
theorem dX5_add_104 : decode cX5_add 104 = .ok (.getfield 28, 3) := by decide +kernel
theorem dX5_add_107 : decode cX5_add 107 = .ok (.iload 5, 2) := by decide +kernel
theorem dX5_add_109 : decode cX5_add 109 = .ok (.aload_n 0, 1) := by decide +kernel
theorem dX5_add_110 : decode cX5_add 110 = .ok (.getfield 31, 3) := by decide +kernel
theorem dX5_add_114 : decode cX5_add 114 = .ok (.aload_n 0, 1) := by decide +kernel
theorem dX5_add_115 : decode cX5_add 115 = .ok (.dup, 1) := by decide +kernel
theorem dX5_add_116 : decode cX5_add 116 = .ok (.getfield 31, 3) := by decide +kernel
theorem dX5_add_119 : decode cX5_add 119 = .ok (.iconst 1, 1) := by decide +kernel
theorem dX5_add_121 : decode cX5_add 121 = .ok (.putfield 31, 3) := by decide +kernel
theorem dX5_add_124 : decode cX5_add 124 = .ok (.aload_n 0, 1) := by decide +kernel
theorem dX5_add_125 : decode cX5_add 125 = .ok (.getfield 31, 3) := by decide +kernel
theorem dX5_add_128 : decode cX5_add 128 = .ok (.iconst 1, 1) := by decide +kernel
theorem dX5_add_130 : decode cX5_add 130 = .ok (.ireturn, 1) := by decide +kernel
theorem dX5_add_9 : decode cX5_add 9 = .ok (.iconst (-1), 1) := by decide +kernel
theorem dX5_add_10 : decode cX5_add 10 = .ok (.ireturn, 1) := by decide +kernel
theorem dX5_add_6 : decode cX5_add 6 = .ok (.if_icmp .lt 5, 3) := by decide +kernel
theorem dX5_add_20 : decode cX5_add 20 = .ok (.iastore, 1) := by decide +kernel
theorem dX5_add_30 : decode cX5_add 30 = .ok (.iastore, 1) := by decide +kernel
theorem dX5_add_40 : decode cX5_add 40 = .ok (.iastore, 1) := by decide +kernel
theorem dX5_add_51 : decode cX5_add 51 = .ok (.iastore, 1) := by decide +kernel
theorem dX5_add_60 : decode cX5_add 60 = .ok (.ifCond .le 43, 3) := by decide +kernel
theorem dX5_add_113 : decode cX5_add 113 = .ok (.iastore, 1) := by decide +kernel
theorem dX5_add_120 : decode cX5_add 120 = .ok (.iadd, 1) := by decide +kernel
theorem dX5_add_129 : decode cX5_add 129 = .ok (.isub, 1) := by decide +kernel
theorem dX5_add_74 : decode cX5_add 74 = .ok (.isub, 1) := by decide +kernel
theorem dX5_add_75 : decode cX5_add 75 = .ok (.iaload, 1) := by decide +kernel
theorem dX5_add_76 : decode cX5_add 76 = .ok (.iaload, 1) := by decide +kernel
theorem dX5_add_78 : decode cX5_add 78 = .ok (.if_icmp .le 25, 3) := by decide +kernel
theorem dX5_add_94 : decode cX5_add 94 = .ok (.isub, 1) := by decide +kernel
theorem dX5_add_95 : decode cX5_add 95 = .ok (.iaload, 1) := by decide +kernel
theorem dX5_add_96 : decode cX5_add 96 = .ok (.iastore, 1) := by decide +kernel
theorem dX5_add_97 : decode cX5_add 97 = .ok (.iinc 5 (-1), 3) := by decide +kernel
theorem dX5_isSo_0 : decode cX5_isSo 0 = .ok (.aload_n 2, 1) := by decide +kernel
theorem dX5_isSo_1 : decode cX5_isSo 1 = .ok (.aload_n 0, 1) := by decide +kernel
theorem dX5_isSo_2 : decode cX5_isSo 2 = .ok (.getfield 15, 3) := by decide +kernel
theorem dX5_isSo_5 : decode cX5_isSo 5 = .ok (.iload_n 1, 1) := by decide +kernel
theorem dX5_isSo_7 : decode cX5_isSo 7 = .ok (.invokevirtual 48, 3) := by decide +kernel
theorem dX5_isSo_10 : decode cX5_isSo 10 = .ok (.istore_n 3, 1) := by decide +kernel
theorem dX5_isSo_11 : decode cX5_isSo 11 = .ok (.iload_n 3, 1) := by decide +kernel
theorem dX5_isSo_12 : decode cX5_isSo 12 = .ok (.aload_n 0, 1) := by decide +kernel
theorem dX5_isSo_13 : decode cX5_isSo 13 = .ok (.getfield 22, 3) := by decide +kernel
theorem dX5_isSo_16 : decode cX5_isSo 16 = .ok (.iload_n 1, 1) := by decide +kernel
theorem dX5_isSo_35 : decode cX5_isSo 35 = .ok (.iconst 0, 1) := by decide +kernel
theorem dX5_isSo_36 : decode cX5_isSo 36 = .ok (.ireturn, 1) := by decide +kernel
theorem dX5_isSo_21 : decode cX5_isSo 21 = .ok (.iload_n 3, 1) := by decide +kernel
theorem dX5_isSo_22 : decode cX5_isSo 22 = .ok (.aload_n 0, 1) := by decide +kernel
theorem dX5_isSo_23 : decode cX5_isSo 23 = .ok (.getfield 25, 3) := by decide +kernel
theorem dX5_isSo_26 : decode cX5_isSo 26 = .ok (.iload_n 1, 1) := by decide +kernel
theorem dX5_isSo_31 : decode cX5_isSo 31 = .ok (.iconst 1, 1) := by decide +kernel
theorem dX5_isSo_32 : decode cX5_isSo 32 = .ok (.goto 4, 3) := by decide +kernel
theorem dX5_isSo_6 : decode cX5_isSo 6 = .ok (.iaload, 1) := by decide +kernel
theorem dX5_isSo_17 : decode cX5_isSo 17 = .ok (.iaload, 1) := by decide +kernel
theorem dX5_isSo_18 : decode cX5_isSo 18 = .ok (.if_icmp .lt 17, 3) := by decide +kernel
theorem dX5_isSo_27 : decode cX5_isSo 27 = .ok (.iaload, 1) := by decide +kernel
theorem dX5_isSo_28 : decode cX5_isSo 28 = .ok (.if_icmp .gt 7, 3) := by decide +kernel
abbrev q_X5_clear (dC : Nat → ClassId) (dI : Nat → Nat → Nat) (A : Nat → Prop) (rd : Nat) (rd_count : Int32) (rd_knownFirst : Int32) (rd_slot : Nat) (rd_hour : Nat) (rd_low : Nat) (rd_high : Nat) (rd_byHour : Nat) : Array Value → State → Outcome → State → Prop := va_Qv (fun _ : Unit => True) (fun (_ : Unit) (t : State) => va_P (dC, dI) vwCl [(rd, .inr (5, [.int 0, .int (-1), .ref rd_slot, .ref rd_hour, .ref rd_low, .ref rd_high, .ref rd_byHour]))] t.heap ∧ va_D A [(rd, .inr (5, [.int 0, .int (-1), .ref rd_slot, .ref rd_hour, .ref rd_low, .ref rd_high, .ref rd_byHour]))]) A
set_option maxHeartbeats 4000000 in
set_option maxRecDepth 100000 in
theorem c_X5_clear (l : Launch) (dC : Nat → ClassId) (dI : Nat → Nat → Nat) (sz : Nat) (rd : Nat) (rd_count : Int32) (rd_knownFirst : Int32) (rd_slot : Nat) (rd_hour : Nat) (rd_low : Nat) (rd_high : Nat) (rd_byHour : Nat) (h_rd_count : 0 ≤ rd_count.toInt ∧ rd_count.toInt ≤ 30) (h_rd_knownFirst : (-1) ≤ rd_knownFirst.toInt ∧ rd_knownFirst.toInt ≤ 30) : Met l yX5_clear (pw_w yX5_clear cX5_clear 1 none) ({ frames := 0, cells := 0, slots := 0, locals := 0 }) (va_Pc [.ref rd] (fun U => U.heap.size = sz ∧ va_P (dC, dI) vwCl [(rd, .inr (5, [.int rd_count, .int rd_knownFirst, .ref rd_slot, .ref rd_hour, .ref rd_low, .ref rd_high, .ref rd_byHour]))] U.heap ∧ va_K (dC, dI) vwCl [] U ∧ va_D (fun _ => True) [(rd, .inr (5, [.int rd_count, .int rd_knownFirst, .ref rd_slot, .ref rd_hour, .ref rd_low, .ref rd_high, .ref rd_byHour]))])) (q_X5_clear dC dI (va_A [(rd, .inr (5, [.int rd_count, .int rd_knownFirst, .ref rd_slot, .ref rd_hour, .ref rd_low, .ref rd_high, .ref rd_byHour]))] sz) rd rd_count rd_knownFirst rd_slot rd_hour rd_low rd_high rd_byHour) 0 0 (va_A [(rd, .inr (5, [.int rd_count, .int rd_knownFirst, .ref rd_slot, .ref rd_hour, .ref rd_low, .ref rd_high, .ref rd_byHour]))] sz) := by
  refine Met.ofW (cc := cX5_clear) (maxL := 1) (ret := none) (by decide) rfl ?_
  intro p e s m args below meth c s₁ B hml hv
  obtain ⟨rfl, hsz, hP, hK, hD0⟩ := hv
  have hx := B.exec
  have hb := B.bytes
  have hr := B.returns
  have hts := atoms_spec (ws := (pw_w yX5_clear cX5_clear 1 none)) B.pre
  have hT : ∀ w ∈ pw_T, w.before _ s = true := fun w h => hts w (List.mem_cons_of_mem _ h)
  have hown : s.vm.findClass RX5 = some m.cls := findClass_of_methodNamed B.named
  have hlocks := B.notSynchronized
  subst hsz
  have hD := hD0.self (sz := s.heap.size)
  generalize hAe : va_A [(rd, .inr (5, [.int rd_count, .int rd_knownFirst, .ref rd_slot, .ref rd_hour, .ref rd_low, .ref rd_high, .ref rd_byHour]))] s.heap.size = A at hD ⊢
  have hA : ∀ q : Nat, s.heap.size ≤ q → A q := fun q h => by rw [← hAe]; exact Or.inr h
  have hS : va_S A s.heap s.heap [] := va_S.rf
  have hP : va_P (dC, dI) vwCl [(rd, .inr (5, [.int rd_count, .int rd_knownFirst, .ref rd_slot, .ref rd_hour, .ref rd_low, .ref rd_high, .ref rd_byHour]))] s.heap := hP
  have hl := lv_entry ([.ref rd]) (n := 1) (Nat.le_of_ble_eq_true rfl)
  rw [lg_entry_eq]
  generalize (lg_sl ([.ref rd]) ++ List.replicate (1 - (lg_sl ([.ref rd])).length) Slot.unset).toArray = ls at hl ⊢
  have hl : lv_has ls 1 [(0, .ref rd)] := hl
  refine lv_aload_n hx hb dX5_clear_0 rfl (lv_at hl 0 rfl) ?_
  refine lv_iconst (v := 0) hx hb dX5_clear_1 (by decide) ?_
  refine va_put (D := (dC, dI)) (ci := 5) (v := .int 0) (ty := .int) (C := RX5) (T := TX5) (N := 7) hx hb hT inX5 tyX5 tyX5_ok nmX5 hown hK hP hD hS 0 rfl rfl 0 (by decide) (hT _ mw_2_178) (fun _ h9 => h9) rfl (by decide +kernel) rfl rfl (Nat.le_of_ble_eq_true rfl) dX5_clear_2 (fun H locs hP hD hS => ?_)
  have hP : va_P (dC, dI) vwCl [(rd, .inr (5, [.int 0, .int rd_knownFirst, .ref rd_slot, .ref rd_hour, .ref rd_low, .ref rd_high, .ref rd_byHour]))] H := hP
  have hD : va_D A [(rd, .inr (5, [.int 0, .int rd_knownFirst, .ref rd_slot, .ref rd_hour, .ref rd_low, .ref rd_high, .ref rd_byHour]))] := hD
  refine lv_aload_n hx hb dX5_clear_5 rfl (lv_at hl 0 rfl) ?_
  refine lv_iconst (v := (-1)) hx hb dX5_clear_6 (by decide) ?_
  refine va_put (D := (dC, dI)) (ci := 5) (v := .int (-1)) (ty := .int) (C := RX5) (T := TX5) (N := 7) hx hb hT inX5 tyX5 tyX5_ok nmX5 hown hK hP hD hS 0 rfl rfl 1 (by decide) (hT _ mw_2_180) (fun _ h9 => h9) rfl (by decide +kernel) rfl rfl (Nat.le_of_ble_eq_true rfl) dX5_clear_7 (fun H locs hP hD hS => ?_)
  have hP : va_P (dC, dI) vwCl [(rd, .inr (5, [.int 0, .int (-1), .ref rd_slot, .ref rd_hour, .ref rd_low, .ref rd_high, .ref rd_byHour]))] H := hP
  have hD : va_D A [(rd, .inr (5, [.int 0, .int (-1), .ref rd_slot, .ref rd_hour, .ref rd_low, .ref rd_high, .ref rd_byHour]))] := hD
  have hP9 := hP.sub (ws' := [(rd, .inr (5, [.int 0, .int (-1), .ref rd_slot, .ref rd_hour, .ref rd_low, .ref rd_high, .ref rd_byHour]))]) [0] rfl
  have hD9 := hD.sub (ws' := [(rd, .inr (5, [.int 0, .int (-1), .ref rd_slot, .ref rd_hour, .ref rd_low, .ref rd_high, .ref rd_byHour]))]) [0] (by decide) rfl
  exact W.vret hx hb hr (fun t ht hW => ⟨⟨(), rfl, trivial, by rw [ht]; exact hP9, hD9⟩, hS.F ht⟩) hS.2.2 dX5_clear_10
abbrev q_X5_knownCount (dC : Nat → ClassId) (dI : Nat → Nat → Nat) (A : Nat → Prop) (rd : Nat) (rd_count : Int32) (rd_knownFirst : Int32) (rd_slot : Nat) (rd_hour : Nat) (rd_low : Nat) (rd_high : Nat) (rd_byHour : Nat) : Array Value → State → Outcome → State → Prop := va_Qi (fun (r : Int32) (_ : Unit) => ((-1) ≤ r.toInt ∧ r.toInt ≤ 30)) (fun (_ : Unit) (t : State) => va_P (dC, dI) vwCl [(rd, .inr (5, [.int rd_count, .int rd_knownFirst, .ref rd_slot, .ref rd_hour, .ref rd_low, .ref rd_high, .ref rd_byHour]))] t.heap ∧ va_D A [(rd, .inr (5, [.int rd_count, .int rd_knownFirst, .ref rd_slot, .ref rd_hour, .ref rd_low, .ref rd_high, .ref rd_byHour]))]) A
set_option maxHeartbeats 4000000 in
set_option maxRecDepth 100000 in
theorem c_X5_knownCount (l : Launch) (dC : Nat → ClassId) (dI : Nat → Nat → Nat) (sz : Nat) (rd : Nat) (rd_count : Int32) (rd_knownFirst : Int32) (rd_slot : Nat) (rd_hour : Nat) (rd_low : Nat) (rd_high : Nat) (rd_byHour : Nat) (h_rd_count : 0 ≤ rd_count.toInt ∧ rd_count.toInt ≤ 30) (h_rd_knownFirst : (-1) ≤ rd_knownFirst.toInt ∧ rd_knownFirst.toInt ≤ 30) : Met l yX5_knownCount (pw_w yX5_knownCount cX5_knownCount 1 (some .int)) ({ frames := 0, cells := 0, slots := 0, locals := 0 }) (va_Pc [.ref rd] (fun U => U.heap.size = sz ∧ va_P (dC, dI) vwCl [(rd, .inr (5, [.int rd_count, .int rd_knownFirst, .ref rd_slot, .ref rd_hour, .ref rd_low, .ref rd_high, .ref rd_byHour]))] U.heap ∧ va_K (dC, dI) vwCl [] U ∧ va_D (fun _ => True) [(rd, .inr (5, [.int rd_count, .int rd_knownFirst, .ref rd_slot, .ref rd_hour, .ref rd_low, .ref rd_high, .ref rd_byHour]))])) (q_X5_knownCount dC dI (va_A [(rd, .inr (5, [.int rd_count, .int rd_knownFirst, .ref rd_slot, .ref rd_hour, .ref rd_low, .ref rd_high, .ref rd_byHour]))] sz) rd rd_count rd_knownFirst rd_slot rd_hour rd_low rd_high rd_byHour) 0 0 (va_A [(rd, .inr (5, [.int rd_count, .int rd_knownFirst, .ref rd_slot, .ref rd_hour, .ref rd_low, .ref rd_high, .ref rd_byHour]))] sz) := by
  refine Met.ofW (cc := cX5_knownCount) (maxL := 1) (ret := (some .int)) (by decide) rfl ?_
  intro p e s m args below meth c s₁ B hml hv
  obtain ⟨rfl, hsz, hP, hK, hD0⟩ := hv
  have hx := B.exec
  have hb := B.bytes
  have hr := B.returns
  have hts := atoms_spec (ws := (pw_w yX5_knownCount cX5_knownCount 1 (some .int))) B.pre
  have hT : ∀ w ∈ pw_T, w.before _ s = true := fun w h => hts w (List.mem_cons_of_mem _ h)
  have hown : s.vm.findClass RX5 = some m.cls := findClass_of_methodNamed B.named
  have hlocks := B.notSynchronized
  subst hsz
  have hD := hD0.self (sz := s.heap.size)
  generalize hAe : va_A [(rd, .inr (5, [.int rd_count, .int rd_knownFirst, .ref rd_slot, .ref rd_hour, .ref rd_low, .ref rd_high, .ref rd_byHour]))] s.heap.size = A at hD ⊢
  have hA : ∀ q : Nat, s.heap.size ≤ q → A q := fun q h => by rw [← hAe]; exact Or.inr h
  have hS : va_S A s.heap s.heap [] := va_S.rf
  have hP : va_P (dC, dI) vwCl [(rd, .inr (5, [.int rd_count, .int rd_knownFirst, .ref rd_slot, .ref rd_hour, .ref rd_low, .ref rd_high, .ref rd_byHour]))] s.heap := hP
  have hl := lv_entry ([.ref rd]) (n := 1) (Nat.le_of_ble_eq_true rfl)
  rw [lg_entry_eq]
  generalize (lg_sl ([.ref rd]) ++ List.replicate (1 - (lg_sl ([.ref rd])).length) Slot.unset).toArray = ls at hl ⊢
  have hl : lv_has ls 1 [(0, .ref rd)] := hl
  refine lv_aload_n hx hb dX5_knownCount_0 rfl (lv_at hl 0 rfl) ?_
  refine va_get (D := (dC, dI)) (ci := 5) (v := .int rd_knownFirst) (C := RX5) (T := TX5) (N := 7) hx hb hT inX5 hown hK hP 0 rfl rfl 1 (by decide) (hT _ mw_2_180) (fun _ h9 => h9) rfl dX5_knownCount_1 ?_
  refine lv_iconst (v := (-1)) hx hb dX5_knownCount_4 (by decide) ?_
  refine lv_icmp_ne (tgt := 15) hx hb dX5_knownCount_5 (by decide) (fun c_1 => ?_) (fun c_1 => ?_)
  · have kc_1 := il_ne c_1
    have := (by decide : ((-1) : Int32).toInt = -1)
    refine lv_aload_n hx hb dX5_knownCount_15 rfl (lv_at hl 0 rfl) ?_
    refine va_get (D := (dC, dI)) (ci := 5) (v := .int rd_knownFirst) (C := RX5) (T := TX5) (N := 7) hx hb hT inX5 hown hK hP 0 rfl rfl 1 (by decide) (hT _ mw_2_180) (fun _ h9 => h9) rfl dX5_knownCount_16 ?_
    have hP9 := hP.sub (ws' := [(rd, .inr (5, [.int rd_count, .int rd_knownFirst, .ref rd_slot, .ref rd_hour, .ref rd_low, .ref rd_high, .ref rd_byHour]))]) [0] rfl
    have hD9 := hD.sub (ws' := [(rd, .inr (5, [.int rd_count, .int rd_knownFirst, .ref rd_slot, .ref rd_hour, .ref rd_low, .ref rd_high, .ref rd_byHour]))]) [0] (by decide) rfl
    exact W.iret (v := rd_knownFirst) hx hb hr (fun t ht hW => ⟨⟨rd_knownFirst, (), rfl, (by first | omega | (refine ⟨?_, ?_⟩ <;> omega) | rfl | (intros; omega)), by rw [ht]; exact hP9, hD9⟩, hS.F ht⟩) hS.2.2 dX5_knownCount_19
  · have kc_1 := il_eq c_1
    have := (by decide : ((-1) : Int32).toInt = -1)
    refine lv_aload_n hx hb dX5_knownCount_8 rfl (lv_at hl 0 rfl) ?_
    refine va_get (D := (dC, dI)) (ci := 5) (v := .int rd_count) (C := RX5) (T := TX5) (N := 7) hx hb hT inX5 hown hK hP 0 rfl rfl 0 (by decide) (hT _ mw_2_178) (fun _ h9 => h9) rfl dX5_knownCount_9 ?_
    refine lv_goto (tgt := 19) hx hb dX5_knownCount_12 (by decide) ?_
    have hP9 := hP.sub (ws' := [(rd, .inr (5, [.int rd_count, .int rd_knownFirst, .ref rd_slot, .ref rd_hour, .ref rd_low, .ref rd_high, .ref rd_byHour]))]) [0] rfl
    have hD9 := hD.sub (ws' := [(rd, .inr (5, [.int rd_count, .int rd_knownFirst, .ref rd_slot, .ref rd_hour, .ref rd_low, .ref rd_high, .ref rd_byHour]))]) [0] (by decide) rfl
    exact W.iret (v := rd_count) hx hb hr (fun t ht hW => ⟨⟨rd_count, (), rfl, (by first | omega | (refine ⟨?_, ?_⟩ <;> omega) | rfl | (intros; omega)), by rw [ht]; exact hP9, hD9⟩, hS.F ht⟩) hS.2.2 dX5_knownCount_19
abbrev q_X5_add (dC : Nat → ClassId) (dI : Nat → Nat → Nat) (A : Nat → Prop) (rd : Nat) (v0 : Int32) (v1 : Int32) (v2 : Int32) (v3 : Int32) (rd_count : Int32) (rd_knownFirst : Int32) (rd_slot : Nat) (rd_hour : Nat) (rd_low : Nat) (rd_high : Nat) (rd_byHour : Nat) (k_rd_slot : ClassId) (f_rd_slot : Nat → Int32) (k_rd_hour : ClassId) (f_rd_hour : Nat → Int32) (k_rd_low : ClassId) (f_rd_low : Nat → Int32) (k_rd_high : ClassId) (f_rd_high : Nat → Int32) (k_rd_byHour : ClassId) (f_rd_byHour : Nat → Int32) : Array Value → State → Outcome → State → Prop := va_Qi (fun (r : Int32) (e_r : Int32) => r = e_r) (fun (e_r : Int32) (t : State) => ∃ (e_rd_count : Int32), ∃ (g_rd_slot : Nat → Int32), ∃ (g_rd_hour : Nat → Int32), ∃ (g_rd_low : Nat → Int32), ∃ (g_rd_high : Nat → Int32), ∃ (g_rd_byHour : Nat → Int32), (0 ≤ e_rd_count.toInt ∧ e_rd_count.toInt ≤ 30) ∧ (Rg g_rd_slot 0 9) ∧ (Rg g_rd_hour 0 1999) ∧ (Rg g_rd_byHour 0 29) ∧ ((30 ≤ rd_count.toInt ∧ e_r.toInt = -1 ∧ e_rd_count.toInt = rd_count.toInt) ∨ (rd_count.toInt < 30 ∧ e_r.toInt = rd_count.toInt ∧ e_rd_count.toInt = rd_count.toInt + 1)) ∧ va_P (dC, dI) vwCl [(rd, .inr (5, [.int e_rd_count, .int rd_knownFirst, .ref rd_slot, .ref rd_hour, .ref rd_low, .ref rd_high, .ref rd_byHour])), (rd_slot, .inl (k_rd_slot, 30, .inl g_rd_slot)), (rd_hour, .inl (k_rd_hour, 30, .inl g_rd_hour)), (rd_low, .inl (k_rd_low, 30, .inl g_rd_low)), (rd_high, .inl (k_rd_high, 30, .inl g_rd_high)), (rd_byHour, .inl (k_rd_byHour, 30, .inl g_rd_byHour))] t.heap ∧ va_D A [(rd, .inr (5, [.int e_rd_count, .int rd_knownFirst, .ref rd_slot, .ref rd_hour, .ref rd_low, .ref rd_high, .ref rd_byHour])), (rd_slot, .inl (k_rd_slot, 30, .inl g_rd_slot)), (rd_hour, .inl (k_rd_hour, 30, .inl g_rd_hour)), (rd_low, .inl (k_rd_low, 30, .inl g_rd_low)), (rd_high, .inl (k_rd_high, 30, .inl g_rd_high)), (rd_byHour, .inl (k_rd_byHour, 30, .inl g_rd_byHour))]) A
set_option maxHeartbeats 4000000 in
set_option maxRecDepth 100000 in
theorem c_X5_add (l : Launch) (dC : Nat → ClassId) (dI : Nat → Nat → Nat) (sz : Nat) (rd : Nat) (v0 : Int32) (v1 : Int32) (v2 : Int32) (v3 : Int32) (rd_count : Int32) (rd_knownFirst : Int32) (rd_slot : Nat) (rd_hour : Nat) (rd_low : Nat) (rd_high : Nat) (rd_byHour : Nat) (k_rd_slot : ClassId) (f_rd_slot : Nat → Int32) (k_rd_hour : ClassId) (f_rd_hour : Nat → Int32) (k_rd_low : ClassId) (f_rd_low : Nat → Int32) (k_rd_high : ClassId) (f_rd_high : Nat → Int32) (k_rd_byHour : ClassId) (f_rd_byHour : Nat → Int32) (h_rd_count : 0 ≤ rd_count.toInt ∧ rd_count.toInt ≤ 30) (h_rd_knownFirst : (-1) ≤ rd_knownFirst.toInt ∧ rd_knownFirst.toInt ≤ 30) (h_f_rd_slot : Rg f_rd_slot 0 9) (h_f_rd_hour : Rg f_rd_hour 0 1999) (h_f_rd_byHour : Rg f_rd_byHour 0 29) (h_v0 : 0 ≤ v0.toInt ∧ v0.toInt ≤ 9) (h_v1 : 0 ≤ v1.toInt ∧ v1.toInt ≤ 1999) : Met l yX5_add (pw_w yX5_add cX5_add 6 (some .int)) ({ frames := 0, cells := 0, slots := 0, locals := 0 }) (va_Pc [.ref rd, .int v0, .int v1, .int v2, .int v3] (fun U => U.heap.size = sz ∧ va_P (dC, dI) vwCl [(rd, .inr (5, [.int rd_count, .int rd_knownFirst, .ref rd_slot, .ref rd_hour, .ref rd_low, .ref rd_high, .ref rd_byHour])), (rd_slot, .inl (k_rd_slot, 30, .inl f_rd_slot)), (rd_hour, .inl (k_rd_hour, 30, .inl f_rd_hour)), (rd_low, .inl (k_rd_low, 30, .inl f_rd_low)), (rd_high, .inl (k_rd_high, 30, .inl f_rd_high)), (rd_byHour, .inl (k_rd_byHour, 30, .inl f_rd_byHour))] U.heap ∧ va_K (dC, dI) vwCl [(k_rd_slot, .int), (k_rd_hour, .int), (k_rd_low, .int), (k_rd_high, .int), (k_rd_byHour, .int)] U ∧ va_D (fun _ => True) [(rd, .inr (5, [.int rd_count, .int rd_knownFirst, .ref rd_slot, .ref rd_hour, .ref rd_low, .ref rd_high, .ref rd_byHour])), (rd_slot, .inl (k_rd_slot, 30, .inl f_rd_slot)), (rd_hour, .inl (k_rd_hour, 30, .inl f_rd_hour)), (rd_low, .inl (k_rd_low, 30, .inl f_rd_low)), (rd_high, .inl (k_rd_high, 30, .inl f_rd_high)), (rd_byHour, .inl (k_rd_byHour, 30, .inl f_rd_byHour))])) (q_X5_add dC dI (va_A [(rd, .inr (5, [.int rd_count, .int rd_knownFirst, .ref rd_slot, .ref rd_hour, .ref rd_low, .ref rd_high, .ref rd_byHour])), (rd_slot, .inl (k_rd_slot, 30, .inl f_rd_slot)), (rd_hour, .inl (k_rd_hour, 30, .inl f_rd_hour)), (rd_low, .inl (k_rd_low, 30, .inl f_rd_low)), (rd_high, .inl (k_rd_high, 30, .inl f_rd_high)), (rd_byHour, .inl (k_rd_byHour, 30, .inl f_rd_byHour))] sz) rd v0 v1 v2 v3 rd_count rd_knownFirst rd_slot rd_hour rd_low rd_high rd_byHour k_rd_slot f_rd_slot k_rd_hour f_rd_hour k_rd_low f_rd_low k_rd_high f_rd_high k_rd_byHour f_rd_byHour) 0 0 (va_A [(rd, .inr (5, [.int rd_count, .int rd_knownFirst, .ref rd_slot, .ref rd_hour, .ref rd_low, .ref rd_high, .ref rd_byHour])), (rd_slot, .inl (k_rd_slot, 30, .inl f_rd_slot)), (rd_hour, .inl (k_rd_hour, 30, .inl f_rd_hour)), (rd_low, .inl (k_rd_low, 30, .inl f_rd_low)), (rd_high, .inl (k_rd_high, 30, .inl f_rd_high)), (rd_byHour, .inl (k_rd_byHour, 30, .inl f_rd_byHour))] sz) := by
  refine Met.ofW (cc := cX5_add) (maxL := 6) (ret := (some .int)) (by decide) rfl ?_
  intro p e s m args below meth c s₁ B hml hv
  obtain ⟨rfl, hsz, hP, hK, hD0⟩ := hv
  have hx := B.exec
  have hb := B.bytes
  have hr := B.returns
  have hts := atoms_spec (ws := (pw_w yX5_add cX5_add 6 (some .int))) B.pre
  have hT : ∀ w ∈ pw_T, w.before _ s = true := fun w h => hts w (List.mem_cons_of_mem _ h)
  have hown : s.vm.findClass RX5 = some m.cls := findClass_of_methodNamed B.named
  have hlocks := B.notSynchronized
  subst hsz
  have hD := hD0.self (sz := s.heap.size)
  generalize hAe : va_A [(rd, .inr (5, [.int rd_count, .int rd_knownFirst, .ref rd_slot, .ref rd_hour, .ref rd_low, .ref rd_high, .ref rd_byHour])), (rd_slot, .inl (k_rd_slot, 30, .inl f_rd_slot)), (rd_hour, .inl (k_rd_hour, 30, .inl f_rd_hour)), (rd_low, .inl (k_rd_low, 30, .inl f_rd_low)), (rd_high, .inl (k_rd_high, 30, .inl f_rd_high)), (rd_byHour, .inl (k_rd_byHour, 30, .inl f_rd_byHour))] s.heap.size = A at hD ⊢
  have hA : ∀ q : Nat, s.heap.size ≤ q → A q := fun q h => by rw [← hAe]; exact Or.inr h
  have hS : va_S A s.heap s.heap [] := va_S.rf
  have hP : va_P (dC, dI) vwCl [(rd, .inr (5, [.int rd_count, .int rd_knownFirst, .ref rd_slot, .ref rd_hour, .ref rd_low, .ref rd_high, .ref rd_byHour])), (rd_slot, .inl (k_rd_slot, 30, .inl f_rd_slot)), (rd_hour, .inl (k_rd_hour, 30, .inl f_rd_hour)), (rd_low, .inl (k_rd_low, 30, .inl f_rd_low)), (rd_high, .inl (k_rd_high, 30, .inl f_rd_high)), (rd_byHour, .inl (k_rd_byHour, 30, .inl f_rd_byHour))] s.heap := hP
  have hl := lv_entry ([.ref rd, .int v0, .int v1, .int v2, .int v3]) (n := 6) (Nat.le_of_ble_eq_true rfl)
  rw [lg_entry_eq]
  generalize (lg_sl ([.ref rd, .int v0, .int v1, .int v2, .int v3]) ++ List.replicate (6 - (lg_sl ([.ref rd, .int v0, .int v1, .int v2, .int v3])).length) Slot.unset).toArray = ls at hl ⊢
  have hl : lv_has ls 6 [(0, .ref rd), (1, .int v0), (2, .int v1), (3, .int v2), (4, .int v3)] := hl
  refine lv_aload_n hx hb dX5_add_0 rfl (lv_at hl 0 rfl) ?_
  refine va_get (D := (dC, dI)) (ci := 5) (v := .int rd_count) (C := RX5) (T := TX5) (N := 7) hx hb hT inX5 hown hK hP 0 rfl rfl 0 (by decide) (hT _ mw_2_178) (fun _ h9 => h9) rfl dX5_add_1 ?_
  refine lv_bipush (v := 30) hx hb dX5_add_4 (by decide) ?_
  refine lv_icmp_lt (tgt := 11) hx hb dX5_add_6 (by decide) (fun c_1 => ?_) (fun c_1 => ?_)
  · have kc_1 := il_lt c_1
    have := (by decide : (30 : Int32).toInt = 30)
    refine lv_aload_n hx hb dX5_add_11 rfl (lv_at hl 0 rfl) ?_
    refine va_get (D := (dC, dI)) (ci := 5) (v := .ref rd_slot) (C := RX5) (T := TX5) (N := 7) hx hb hT inX5 hown hK hP 0 rfl rfl 2 (by decide) (hT _ mw_2_182) (fun _ h9 => h9) rfl dX5_add_12 ?_
    refine lv_aload_n hx hb dX5_add_15 rfl (lv_at hl 0 rfl) ?_
    refine va_get (D := (dC, dI)) (ci := 5) (v := .int rd_count) (C := RX5) (T := TX5) (N := 7) hx hb hT inX5 hown hK hP 0 rfl rfl 0 (by decide) (hT _ mw_2_178) (fun _ h9 => h9) rfl dX5_add_16 ?_
    refine lv_iload_n hx hb dX5_add_19 rfl (lv_at hl 1 rfl) ?_
    refine va_iast hx hb hK hP hD hS 1 0 rfl rfl (vp_in_iff.mpr (by omega)) dX5_add_20 (fun H locs hP hD hS => ?_)
    have hP : va_P (dC, dI) vwCl [(rd, .inr (5, [.int rd_count, .int rd_knownFirst, .ref rd_slot, .ref rd_hour, .ref rd_low, .ref rd_high, .ref rd_byHour])), (rd_slot, .inl (k_rd_slot, 30, .inl (upd f_rd_slot (rd_count : Int32).toNatClampNeg (v0 : Int32)))), (rd_hour, .inl (k_rd_hour, 30, .inl f_rd_hour)), (rd_low, .inl (k_rd_low, 30, .inl f_rd_low)), (rd_high, .inl (k_rd_high, 30, .inl f_rd_high)), (rd_byHour, .inl (k_rd_byHour, 30, .inl f_rd_byHour))] H := hP
    have hD : va_D A [(rd, .inr (5, [.int rd_count, .int rd_knownFirst, .ref rd_slot, .ref rd_hour, .ref rd_low, .ref rd_high, .ref rd_byHour])), (rd_slot, .inl (k_rd_slot, 30, .inl (upd f_rd_slot (rd_count : Int32).toNatClampNeg (v0 : Int32)))), (rd_hour, .inl (k_rd_hour, 30, .inl f_rd_hour)), (rd_low, .inl (k_rd_low, 30, .inl f_rd_low)), (rd_high, .inl (k_rd_high, 30, .inl f_rd_high)), (rd_byHour, .inl (k_rd_byHour, 30, .inl f_rd_byHour))] := hD
    obtain ⟨f_2, hf_2, ef_2⟩ : ∃ g : Nat → Int32, Rg g 0 9 ∧ (upd f_rd_slot (rd_count : Int32).toNatClampNeg (v0 : Int32)) = g := ⟨_, Rg_upd h_f_rd_slot (by omega), rfl⟩
    rw [ef_2] at hP hD
    clear ef_2
    refine lv_aload_n hx hb dX5_add_21 rfl (lv_at hl 0 rfl) ?_
    refine va_get (D := (dC, dI)) (ci := 5) (v := .ref rd_hour) (C := RX5) (T := TX5) (N := 7) hx hb hT inX5 hown hK hP 0 rfl rfl 3 (by decide) (hT _ mw_2_183) (fun _ h9 => h9) rfl dX5_add_22 ?_
    refine lv_aload_n hx hb dX5_add_25 rfl (lv_at hl 0 rfl) ?_
    refine va_get (D := (dC, dI)) (ci := 5) (v := .int rd_count) (C := RX5) (T := TX5) (N := 7) hx hb hT inX5 hown hK hP 0 rfl rfl 0 (by decide) (hT _ mw_2_178) (fun _ h9 => h9) rfl dX5_add_26 ?_
    refine lv_iload_n hx hb dX5_add_29 rfl (lv_at hl 2 rfl) ?_
    refine va_iast hx hb hK hP hD hS 2 1 rfl rfl (vp_in_iff.mpr (by omega)) dX5_add_30 (fun H locs hP hD hS => ?_)
    have hP : va_P (dC, dI) vwCl [(rd, .inr (5, [.int rd_count, .int rd_knownFirst, .ref rd_slot, .ref rd_hour, .ref rd_low, .ref rd_high, .ref rd_byHour])), (rd_slot, .inl (k_rd_slot, 30, .inl f_2)), (rd_hour, .inl (k_rd_hour, 30, .inl (upd f_rd_hour (rd_count : Int32).toNatClampNeg (v1 : Int32)))), (rd_low, .inl (k_rd_low, 30, .inl f_rd_low)), (rd_high, .inl (k_rd_high, 30, .inl f_rd_high)), (rd_byHour, .inl (k_rd_byHour, 30, .inl f_rd_byHour))] H := hP
    have hD : va_D A [(rd, .inr (5, [.int rd_count, .int rd_knownFirst, .ref rd_slot, .ref rd_hour, .ref rd_low, .ref rd_high, .ref rd_byHour])), (rd_slot, .inl (k_rd_slot, 30, .inl f_2)), (rd_hour, .inl (k_rd_hour, 30, .inl (upd f_rd_hour (rd_count : Int32).toNatClampNeg (v1 : Int32)))), (rd_low, .inl (k_rd_low, 30, .inl f_rd_low)), (rd_high, .inl (k_rd_high, 30, .inl f_rd_high)), (rd_byHour, .inl (k_rd_byHour, 30, .inl f_rd_byHour))] := hD
    obtain ⟨f_3, hf_3, ef_3⟩ : ∃ g : Nat → Int32, Rg g 0 1999 ∧ (upd f_rd_hour (rd_count : Int32).toNatClampNeg (v1 : Int32)) = g := ⟨_, Rg_upd h_f_rd_hour (by omega), rfl⟩
    rw [ef_3] at hP hD
    clear ef_3
    refine lv_aload_n hx hb dX5_add_31 rfl (lv_at hl 0 rfl) ?_
    refine va_get (D := (dC, dI)) (ci := 5) (v := .ref rd_low) (C := RX5) (T := TX5) (N := 7) hx hb hT inX5 hown hK hP 0 rfl rfl 4 (by decide) (hT _ mw_2_184) (fun _ h9 => h9) rfl dX5_add_32 ?_
    refine lv_aload_n hx hb dX5_add_35 rfl (lv_at hl 0 rfl) ?_
    refine va_get (D := (dC, dI)) (ci := 5) (v := .int rd_count) (C := RX5) (T := TX5) (N := 7) hx hb hT inX5 hown hK hP 0 rfl rfl 0 (by decide) (hT _ mw_2_178) (fun _ h9 => h9) rfl dX5_add_36 ?_
    refine lv_iload_n hx hb dX5_add_39 rfl (lv_at hl 3 rfl) ?_
    refine va_iast hx hb hK hP hD hS 3 2 rfl rfl (vp_in_iff.mpr (by omega)) dX5_add_40 (fun H locs hP hD hS => ?_)
    have hP : va_P (dC, dI) vwCl [(rd, .inr (5, [.int rd_count, .int rd_knownFirst, .ref rd_slot, .ref rd_hour, .ref rd_low, .ref rd_high, .ref rd_byHour])), (rd_slot, .inl (k_rd_slot, 30, .inl f_2)), (rd_hour, .inl (k_rd_hour, 30, .inl f_3)), (rd_low, .inl (k_rd_low, 30, .inl (upd f_rd_low (rd_count : Int32).toNatClampNeg (v2 : Int32)))), (rd_high, .inl (k_rd_high, 30, .inl f_rd_high)), (rd_byHour, .inl (k_rd_byHour, 30, .inl f_rd_byHour))] H := hP
    have hD : va_D A [(rd, .inr (5, [.int rd_count, .int rd_knownFirst, .ref rd_slot, .ref rd_hour, .ref rd_low, .ref rd_high, .ref rd_byHour])), (rd_slot, .inl (k_rd_slot, 30, .inl f_2)), (rd_hour, .inl (k_rd_hour, 30, .inl f_3)), (rd_low, .inl (k_rd_low, 30, .inl (upd f_rd_low (rd_count : Int32).toNatClampNeg (v2 : Int32)))), (rd_high, .inl (k_rd_high, 30, .inl f_rd_high)), (rd_byHour, .inl (k_rd_byHour, 30, .inl f_rd_byHour))] := hD
    obtain ⟨f_4, ef_4⟩ : ∃ g : Nat → Int32, (upd f_rd_low (rd_count : Int32).toNatClampNeg (v2 : Int32)) = g := ⟨_, rfl⟩
    rw [ef_4] at hP hD
    clear ef_4
    refine lv_aload_n hx hb dX5_add_41 rfl (lv_at hl 0 rfl) ?_
    refine va_get (D := (dC, dI)) (ci := 5) (v := .ref rd_high) (C := RX5) (T := TX5) (N := 7) hx hb hT inX5 hown hK hP 0 rfl rfl 5 (by decide) (hT _ mw_2_185) (fun _ h9 => h9) rfl dX5_add_42 ?_
    refine lv_aload_n hx hb dX5_add_45 rfl (lv_at hl 0 rfl) ?_
    refine va_get (D := (dC, dI)) (ci := 5) (v := .int rd_count) (C := RX5) (T := TX5) (N := 7) hx hb hT inX5 hown hK hP 0 rfl rfl 0 (by decide) (hT _ mw_2_178) (fun _ h9 => h9) rfl dX5_add_46 ?_
    refine lv_iload hx hb dX5_add_49 (lv_at hl 4 rfl) ?_
    refine va_iast hx hb hK hP hD hS 4 3 rfl rfl (vp_in_iff.mpr (by omega)) dX5_add_51 (fun H locs hP hD hS => ?_)
    have hP : va_P (dC, dI) vwCl [(rd, .inr (5, [.int rd_count, .int rd_knownFirst, .ref rd_slot, .ref rd_hour, .ref rd_low, .ref rd_high, .ref rd_byHour])), (rd_slot, .inl (k_rd_slot, 30, .inl f_2)), (rd_hour, .inl (k_rd_hour, 30, .inl f_3)), (rd_low, .inl (k_rd_low, 30, .inl f_4)), (rd_high, .inl (k_rd_high, 30, .inl (upd f_rd_high (rd_count : Int32).toNatClampNeg (v3 : Int32)))), (rd_byHour, .inl (k_rd_byHour, 30, .inl f_rd_byHour))] H := hP
    have hD : va_D A [(rd, .inr (5, [.int rd_count, .int rd_knownFirst, .ref rd_slot, .ref rd_hour, .ref rd_low, .ref rd_high, .ref rd_byHour])), (rd_slot, .inl (k_rd_slot, 30, .inl f_2)), (rd_hour, .inl (k_rd_hour, 30, .inl f_3)), (rd_low, .inl (k_rd_low, 30, .inl f_4)), (rd_high, .inl (k_rd_high, 30, .inl (upd f_rd_high (rd_count : Int32).toNatClampNeg (v3 : Int32)))), (rd_byHour, .inl (k_rd_byHour, 30, .inl f_rd_byHour))] := hD
    obtain ⟨f_5, ef_5⟩ : ∃ g : Nat → Int32, (upd f_rd_high (rd_count : Int32).toNatClampNeg (v3 : Int32)) = g := ⟨_, rfl⟩
    rw [ef_5] at hP hD
    clear ef_5
    refine lv_aload_n hx hb dX5_add_52 rfl (lv_at hl 0 rfl) ?_
    refine va_get (D := (dC, dI)) (ci := 5) (v := .int rd_count) (C := RX5) (T := TX5) (N := 7) hx hb hT inX5 hown hK hP 0 rfl rfl 0 (by decide) (hT _ mw_2_178) (fun _ h9 => h9) rfl dX5_add_53 ?_
    refine lv_istore (lv' := [(5, .int rd_count), (0, .ref rd), (1, .int v0), (2, .int v1), (3, .int v2), (4, .int v3)]) hx hb dX5_add_56 hl (by decide) rfl (fun ls hl => ?_)
    have loop_32 : ∀ (fu : Nat), ∀ (g_31_l5 : Int32), ∀ (g_31_f5 : Nat → Int32), (0 ≤ g_31_l5.toInt ∧ g_31_l5.toInt ≤ 29) → (Rg g_31_f5 0 29) → (g_31_l5.toInt < (fu : Int)) → ∀ (H : Heap) (locs : List Loc), va_P (dC, dI) vwCl [(rd, .inr (5, [.int rd_count, .int rd_knownFirst, .ref rd_slot, .ref rd_hour, .ref rd_low, .ref rd_high, .ref rd_byHour])), (rd_slot, .inl (k_rd_slot, 30, .inl f_2)), (rd_hour, .inl (k_rd_hour, 30, .inl f_3)), (rd_low, .inl (k_rd_low, 30, .inl f_4)), (rd_high, .inl (k_rd_high, 30, .inl f_5)), (rd_byHour, .inl (k_rd_byHour, 30, .inl g_31_f5))] H → va_D A [(rd, .inr (5, [.int rd_count, .int rd_knownFirst, .ref rd_slot, .ref rd_hour, .ref rd_low, .ref rd_high, .ref rd_byHour])), (rd_slot, .inl (k_rd_slot, 30, .inl f_2)), (rd_hour, .inl (k_rd_hour, 30, .inl f_3)), (rd_low, .inl (k_rd_low, 30, .inl f_4)), (rd_high, .inl (k_rd_high, 30, .inl f_5)), (rd_byHour, .inl (k_rd_byHour, 30, .inl g_31_f5))] → va_S A s.heap H locs → ∀ (ls : Array Slot), lv_has ls 6 [(5, .int g_31_l5), (0, .ref rd), (1, .int v0), (2, .int v1), (3, .int v2), (4, .int v3)] → W p l e (headSpec (pw_w yX5_add cX5_add 6 (some .int)) ({ frames := 0, cells := 0, slots := 0, locals := 0 })).room s m ([.ref rd, .int v0, .int v1, .int v2, .int v3] : List Value).toArray below meth c H locs 0 0 (MQ below (q_X5_add dC dI A rd v0 v1 v2 v3 rd_count rd_knownFirst rd_slot rd_hour rd_low rd_high rd_byHour k_rd_slot f_rd_slot k_rd_hour f_rd_hour k_rd_low f_rd_low k_rd_high f_rd_high k_rd_byHour f_rd_byHour) ([.ref rd, .int v0, .int v1, .int v2, .int v3] : List Value).toArray s 0 0 A) (F0 m 58 ls []) := by
      intro fu
      induction fu with
      | zero => intro g_31_l5 g_31_f5 hg_31_l5 hg_31_f5 hfu; exact absurd hfu (by omega)
      | succ fu32 ih32 =>
        intro g_31_l5 g_31_f5 hg_31_l5 hg_31_f5 hfu32 H locs hP hD hS ls hl
        refine lv_iload hx hb dX5_add_58 (lv_at hl 0 rfl) ?_
        have join_44 : ∀ (H : Heap) (locs : List Loc), va_P (dC, dI) vwCl [(rd, .inr (5, [.int rd_count, .int rd_knownFirst, .ref rd_slot, .ref rd_hour, .ref rd_low, .ref rd_high, .ref rd_byHour])), (rd_slot, .inl (k_rd_slot, 30, .inl f_2)), (rd_hour, .inl (k_rd_hour, 30, .inl f_3)), (rd_low, .inl (k_rd_low, 30, .inl f_4)), (rd_high, .inl (k_rd_high, 30, .inl f_5)), (rd_byHour, .inl (k_rd_byHour, 30, .inl g_31_f5))] H → va_D A [(rd, .inr (5, [.int rd_count, .int rd_knownFirst, .ref rd_slot, .ref rd_hour, .ref rd_low, .ref rd_high, .ref rd_byHour])), (rd_slot, .inl (k_rd_slot, 30, .inl f_2)), (rd_hour, .inl (k_rd_hour, 30, .inl f_3)), (rd_low, .inl (k_rd_low, 30, .inl f_4)), (rd_high, .inl (k_rd_high, 30, .inl f_5)), (rd_byHour, .inl (k_rd_byHour, 30, .inl g_31_f5))] → va_S A s.heap H locs → ∀ (ls : Array Slot), lv_has ls 6 [(5, .int g_31_l5), (0, .ref rd), (1, .int v0), (2, .int v1), (3, .int v2), (4, .int v3)] → W p l e (headSpec (pw_w yX5_add cX5_add 6 (some .int)) ({ frames := 0, cells := 0, slots := 0, locals := 0 })).room s m ([.ref rd, .int v0, .int v1, .int v2, .int v3] : List Value).toArray below meth c H locs 0 0 (MQ below (q_X5_add dC dI A rd v0 v1 v2 v3 rd_count rd_knownFirst rd_slot rd_hour rd_low rd_high rd_byHour k_rd_slot f_rd_slot k_rd_hour f_rd_hour k_rd_low f_rd_low k_rd_high f_rd_high k_rd_byHour f_rd_byHour) ([.ref rd, .int v0, .int v1, .int v2, .int v3] : List Value).toArray s 0 0 A) (F0 m 103 ls []) := by
          intro  H locs hP hD hS ls hl
          refine lv_aload_n hx hb dX5_add_103 rfl (lv_at hl 1 rfl) ?_
          refine va_get (D := (dC, dI)) (ci := 5) (v := .ref rd_byHour) (C := RX5) (T := TX5) (N := 7) hx hb hT inX5 hown hK hP 0 rfl rfl 6 (by decide) (hT _ mw_2_186) (fun _ h9 => h9) rfl dX5_add_104 ?_
          refine lv_iload hx hb dX5_add_107 (lv_at hl 0 rfl) ?_
          refine lv_aload_n hx hb dX5_add_109 rfl (lv_at hl 1 rfl) ?_
          refine va_get (D := (dC, dI)) (ci := 5) (v := .int rd_count) (C := RX5) (T := TX5) (N := 7) hx hb hT inX5 hown hK hP 0 rfl rfl 0 (by decide) (hT _ mw_2_178) (fun _ h9 => h9) rfl dX5_add_110 ?_
          refine va_iast hx hb hK hP hD hS 5 4 rfl rfl (vp_in_iff.mpr (by omega)) dX5_add_113 (fun H locs hP hD hS => ?_)
          have hP : va_P (dC, dI) vwCl [(rd, .inr (5, [.int rd_count, .int rd_knownFirst, .ref rd_slot, .ref rd_hour, .ref rd_low, .ref rd_high, .ref rd_byHour])), (rd_slot, .inl (k_rd_slot, 30, .inl f_2)), (rd_hour, .inl (k_rd_hour, 30, .inl f_3)), (rd_low, .inl (k_rd_low, 30, .inl f_4)), (rd_high, .inl (k_rd_high, 30, .inl f_5)), (rd_byHour, .inl (k_rd_byHour, 30, .inl (upd g_31_f5 (g_31_l5 : Int32).toNatClampNeg (rd_count : Int32))))] H := hP
          have hD : va_D A [(rd, .inr (5, [.int rd_count, .int rd_knownFirst, .ref rd_slot, .ref rd_hour, .ref rd_low, .ref rd_high, .ref rd_byHour])), (rd_slot, .inl (k_rd_slot, 30, .inl f_2)), (rd_hour, .inl (k_rd_hour, 30, .inl f_3)), (rd_low, .inl (k_rd_low, 30, .inl f_4)), (rd_high, .inl (k_rd_high, 30, .inl f_5)), (rd_byHour, .inl (k_rd_byHour, 30, .inl (upd g_31_f5 (g_31_l5 : Int32).toNatClampNeg (rd_count : Int32))))] := hD
          obtain ⟨f_45, hf_45, ef_45⟩ : ∃ g : Nat → Int32, Rg g 0 29 ∧ (upd g_31_f5 (g_31_l5 : Int32).toNatClampNeg (rd_count : Int32)) = g := ⟨_, Rg_upd hg_31_f5 (by omega), rfl⟩
          rw [ef_45] at hP hD
          clear ef_45
          refine lv_aload_n hx hb dX5_add_114 rfl (lv_at hl 1 rfl) ?_
          refine lv_dup hx hb dX5_add_115 rfl ?_
          refine va_get (D := (dC, dI)) (ci := 5) (v := .int rd_count) (C := RX5) (T := TX5) (N := 7) hx hb hT inX5 hown hK hP 0 rfl rfl 0 (by decide) (hT _ mw_2_178) (fun _ h9 => h9) rfl dX5_add_116 ?_
          refine lv_iconst (v := 1) hx hb dX5_add_119 (by decide) ?_
          refine lv_iadd hx hb dX5_add_120 ?_
          refine lv_topi (fun z_46 ez_46 => ?_)
          have kz_46 : z_46.toInt = rd_count.toInt + 1 := ti_add ez_46 rfl (by decide) (by omega) (by omega)
          clear ez_46
          refine va_put (D := (dC, dI)) (ci := 5) (v := .int z_46) (ty := .int) (C := RX5) (T := TX5) (N := 7) hx hb hT inX5 tyX5 tyX5_ok nmX5 hown hK hP hD hS 0 rfl rfl 0 (by decide) (hT _ mw_2_178) (fun _ h9 => h9) rfl (by decide +kernel) rfl rfl (Nat.le_of_ble_eq_true rfl) dX5_add_121 (fun H locs hP hD hS => ?_)
          have hP : va_P (dC, dI) vwCl [(rd, .inr (5, [.int z_46, .int rd_knownFirst, .ref rd_slot, .ref rd_hour, .ref rd_low, .ref rd_high, .ref rd_byHour])), (rd_slot, .inl (k_rd_slot, 30, .inl f_2)), (rd_hour, .inl (k_rd_hour, 30, .inl f_3)), (rd_low, .inl (k_rd_low, 30, .inl f_4)), (rd_high, .inl (k_rd_high, 30, .inl f_5)), (rd_byHour, .inl (k_rd_byHour, 30, .inl f_45))] H := hP
          have hD : va_D A [(rd, .inr (5, [.int z_46, .int rd_knownFirst, .ref rd_slot, .ref rd_hour, .ref rd_low, .ref rd_high, .ref rd_byHour])), (rd_slot, .inl (k_rd_slot, 30, .inl f_2)), (rd_hour, .inl (k_rd_hour, 30, .inl f_3)), (rd_low, .inl (k_rd_low, 30, .inl f_4)), (rd_high, .inl (k_rd_high, 30, .inl f_5)), (rd_byHour, .inl (k_rd_byHour, 30, .inl f_45))] := hD
          refine lv_aload_n hx hb dX5_add_124 rfl (lv_at hl 1 rfl) ?_
          refine va_get (D := (dC, dI)) (ci := 5) (v := .int z_46) (C := RX5) (T := TX5) (N := 7) hx hb hT inX5 hown hK hP 0 rfl rfl 0 (by decide) (hT _ mw_2_178) (fun _ h9 => h9) rfl dX5_add_125 ?_
          refine lv_iconst (v := 1) hx hb dX5_add_128 (by decide) ?_
          refine lv_isub hx hb dX5_add_129 ?_
          refine lv_topi (fun z_47 ez_47 => ?_)
          have kz_47 : z_47.toInt = z_46.toInt - 1 := ti_sub ez_47 rfl (by decide) (by omega) (by omega)
          clear ez_47
          have hP9 := hP.sub (ws' := [(rd, .inr (5, [.int z_46, .int rd_knownFirst, .ref rd_slot, .ref rd_hour, .ref rd_low, .ref rd_high, .ref rd_byHour])), (rd_slot, .inl (k_rd_slot, 30, .inl f_2)), (rd_hour, .inl (k_rd_hour, 30, .inl f_3)), (rd_low, .inl (k_rd_low, 30, .inl f_4)), (rd_high, .inl (k_rd_high, 30, .inl f_5)), (rd_byHour, .inl (k_rd_byHour, 30, .inl f_45))]) [0, 1, 2, 3, 4, 5] rfl
          have hD9 := hD.sub (ws' := [(rd, .inr (5, [.int z_46, .int rd_knownFirst, .ref rd_slot, .ref rd_hour, .ref rd_low, .ref rd_high, .ref rd_byHour])), (rd_slot, .inl (k_rd_slot, 30, .inl f_2)), (rd_hour, .inl (k_rd_hour, 30, .inl f_3)), (rd_low, .inl (k_rd_low, 30, .inl f_4)), (rd_high, .inl (k_rd_high, 30, .inl f_5)), (rd_byHour, .inl (k_rd_byHour, 30, .inl f_45))]) [0, 1, 2, 3, 4, 5] (by decide) rfl
          exact W.iret (v := z_47) hx hb hr (fun t ht hW => ⟨⟨z_47, z_47, rfl, rfl, z_46, f_2, f_3, f_4, f_5, f_45, (by omega), hf_2, hf_3, hf_45, (by omega), by rw [ht]; exact hP9, hD9⟩, hS.F ht⟩) hS.2.2 dX5_add_130
        refine lv_if_le (tgt := 103) hx hb dX5_add_60 (by decide) (fun c_48 => ?_) (fun c_48 => ?_)
        · have kc_48 := il_le c_48
          have := (by decide : (0 : Int32).toInt = 0)
          exact join_44  _ _ (hP.sub [0, 1, 2, 3, 4, 5] rfl) (hD.sub [0, 1, 2, 3, 4, 5] (by decide) rfl) hS _ (lv_sub hl [0, 1, 2, 3, 4, 5] rfl)
        · have kc_48 := il_nle c_48
          have := (by decide : (0 : Int32).toInt = 0)
          refine lv_aload_n hx hb dX5_add_63 rfl (lv_at hl 1 rfl) ?_
          refine va_get (D := (dC, dI)) (ci := 5) (v := .ref rd_hour) (C := RX5) (T := TX5) (N := 7) hx hb hT inX5 hown hK hP 0 rfl rfl 3 (by decide) (hT _ mw_2_183) (fun _ h9 => h9) rfl dX5_add_64 ?_
          refine lv_aload_n hx hb dX5_add_67 rfl (lv_at hl 1 rfl) ?_
          refine va_get (D := (dC, dI)) (ci := 5) (v := .ref rd_byHour) (C := RX5) (T := TX5) (N := 7) hx hb hT inX5 hown hK hP 0 rfl rfl 6 (by decide) (hT _ mw_2_186) (fun _ h9 => h9) rfl dX5_add_68 ?_
          refine lv_iload hx hb dX5_add_71 (lv_at hl 0 rfl) ?_
          refine lv_iconst (v := 1) hx hb dX5_add_73 (by decide) ?_
          refine lv_isub hx hb dX5_add_74 ?_
          refine lv_topi (fun z_49 ez_49 => ?_)
          have kz_49 : z_49.toInt = g_31_l5.toInt - 1 := ti_sub ez_49 rfl (by decide) (by omega) (by omega)
          clear ez_49
          refine va_iald hx hb hK hP 5 4 rfl rfl (vp_in_iff.mpr (by omega)) dX5_add_75 ?_
          refine lv_topi (fun z_50 ez_50 => ?_)
          have kz_50 : 0 ≤ z_50.toInt ∧ z_50.toInt ≤ 29 := by rw [ez_50]; exact hg_31_f5 _
          refine va_iald hx hb hK hP 2 1 rfl rfl (vp_in_iff.mpr (by omega)) dX5_add_76 ?_
          refine lv_topi (fun z_51 ez_51 => ?_)
          have kz_51 : 0 ≤ z_51.toInt ∧ z_51.toInt ≤ 1999 := by rw [ez_51]; exact hf_3 _
          refine lv_iload_n hx hb dX5_add_77 rfl (lv_at hl 3 rfl) ?_
          refine lv_icmp_le (tgt := 103) hx hb dX5_add_78 (by decide) (fun c_52 => ?_) (fun c_52 => ?_)
          · have kc_52 := il_le c_52
            exact join_44  _ _ (hP.sub [0, 1, 2, 3, 4, 5] rfl) (hD.sub [0, 1, 2, 3, 4, 5] (by decide) rfl) hS _ (lv_sub hl [0, 1, 2, 3, 4, 5] rfl)
          · have kc_52 := il_nle c_52
            refine lv_aload_n hx hb dX5_add_81 rfl (lv_at hl 1 rfl) ?_
            refine va_get (D := (dC, dI)) (ci := 5) (v := .ref rd_byHour) (C := RX5) (T := TX5) (N := 7) hx hb hT inX5 hown hK hP 0 rfl rfl 6 (by decide) (hT _ mw_2_186) (fun _ h9 => h9) rfl dX5_add_82 ?_
            refine lv_iload hx hb dX5_add_85 (lv_at hl 0 rfl) ?_
            refine lv_aload_n hx hb dX5_add_87 rfl (lv_at hl 1 rfl) ?_
            refine va_get (D := (dC, dI)) (ci := 5) (v := .ref rd_byHour) (C := RX5) (T := TX5) (N := 7) hx hb hT inX5 hown hK hP 0 rfl rfl 6 (by decide) (hT _ mw_2_186) (fun _ h9 => h9) rfl dX5_add_88 ?_
            refine lv_iload hx hb dX5_add_91 (lv_at hl 0 rfl) ?_
            refine lv_iconst (v := 1) hx hb dX5_add_93 (by decide) ?_
            refine lv_isub hx hb dX5_add_94 ?_
            refine lv_topi (fun z_53 ez_53 => ?_)
            have kz_53 : z_53.toInt = g_31_l5.toInt - 1 := ti_sub ez_53 rfl (by decide) (by omega) (by omega)
            clear ez_53
            refine va_iald hx hb hK hP 5 4 rfl rfl (vp_in_iff.mpr (by omega)) dX5_add_95 ?_
            refine lv_topi (fun z_54 ez_54 => ?_)
            have kz_54 : 0 ≤ z_54.toInt ∧ z_54.toInt ≤ 29 := by rw [ez_54]; exact hg_31_f5 _
            refine va_iast hx hb hK hP hD hS 5 4 rfl rfl (vp_in_iff.mpr (by omega)) dX5_add_96 (fun H locs hP hD hS => ?_)
            have hP : va_P (dC, dI) vwCl [(rd, .inr (5, [.int rd_count, .int rd_knownFirst, .ref rd_slot, .ref rd_hour, .ref rd_low, .ref rd_high, .ref rd_byHour])), (rd_slot, .inl (k_rd_slot, 30, .inl f_2)), (rd_hour, .inl (k_rd_hour, 30, .inl f_3)), (rd_low, .inl (k_rd_low, 30, .inl f_4)), (rd_high, .inl (k_rd_high, 30, .inl f_5)), (rd_byHour, .inl (k_rd_byHour, 30, .inl (upd g_31_f5 (g_31_l5 : Int32).toNatClampNeg (z_54 : Int32))))] H := hP
            have hD : va_D A [(rd, .inr (5, [.int rd_count, .int rd_knownFirst, .ref rd_slot, .ref rd_hour, .ref rd_low, .ref rd_high, .ref rd_byHour])), (rd_slot, .inl (k_rd_slot, 30, .inl f_2)), (rd_hour, .inl (k_rd_hour, 30, .inl f_3)), (rd_low, .inl (k_rd_low, 30, .inl f_4)), (rd_high, .inl (k_rd_high, 30, .inl f_5)), (rd_byHour, .inl (k_rd_byHour, 30, .inl (upd g_31_f5 (g_31_l5 : Int32).toNatClampNeg (z_54 : Int32))))] := hD
            obtain ⟨f_55, hf_55, ef_55⟩ : ∃ g : Nat → Int32, Rg g 0 29 ∧ (upd g_31_f5 (g_31_l5 : Int32).toNatClampNeg (z_54 : Int32)) = g := ⟨_, Rg_upd hg_31_f5 (by omega), rfl⟩
            rw [ef_55] at hP hD
            clear ef_55
            obtain ⟨z_56, ez_56⟩ : ∃ y : Int32, y = g_31_l5 + Int32.ofInt (-1) := ⟨_, rfl⟩
            have kz_56 : z_56.toInt = g_31_l5.toInt + (-1) := ti_add ez_56 rfl (by decide) (by omega) (by omega)
            refine lv_iinc (v := z_56) (lv' := [(5, .int z_56), (0, .ref rd), (1, .int v0), (2, .int v1), (3, .int v2), (4, .int v3)]) hx hb dX5_add_97 hl (k := 0) rfl (ez_56.symm) (by decide) rfl (fun ls hl => ?_)
            clear ez_56
            refine lv_goto (tgt := 58) hx hb dX5_add_100 (by decide) ?_
            exact ih32 z_56 f_55 (by omega) hf_55 (by omega) _ _ (hP.sub [0, 1, 2, 3, 4, 5] rfl) (hD.sub [0, 1, 2, 3, 4, 5] (by decide) rfl) hS _ (lv_sub hl [0, 1, 2, 3, 4, 5] rfl)
    exact loop_32 4294967296 rd_count f_rd_byHour (by omega) h_f_rd_byHour (by omega) _ _ (hP.sub [0, 1, 2, 3, 4, 5] rfl) (hD.sub [0, 1, 2, 3, 4, 5] (by decide) rfl) hS _ (lv_sub hl [0, 1, 2, 3, 4, 5] rfl)
  · have kc_1 := il_nlt c_1
    have := (by decide : (30 : Int32).toInt = 30)
    refine lv_iconst (v := (-1)) hx hb dX5_add_9 (by decide) ?_
    have hP9 := hP.sub (ws' := [(rd, .inr (5, [.int rd_count, .int rd_knownFirst, .ref rd_slot, .ref rd_hour, .ref rd_low, .ref rd_high, .ref rd_byHour])), (rd_slot, .inl (k_rd_slot, 30, .inl f_rd_slot)), (rd_hour, .inl (k_rd_hour, 30, .inl f_rd_hour)), (rd_low, .inl (k_rd_low, 30, .inl f_rd_low)), (rd_high, .inl (k_rd_high, 30, .inl f_rd_high)), (rd_byHour, .inl (k_rd_byHour, 30, .inl f_rd_byHour))]) [0, 1, 2, 3, 4, 5] rfl
    have hD9 := hD.sub (ws' := [(rd, .inr (5, [.int rd_count, .int rd_knownFirst, .ref rd_slot, .ref rd_hour, .ref rd_low, .ref rd_high, .ref rd_byHour])), (rd_slot, .inl (k_rd_slot, 30, .inl f_rd_slot)), (rd_hour, .inl (k_rd_hour, 30, .inl f_rd_hour)), (rd_low, .inl (k_rd_low, 30, .inl f_rd_low)), (rd_high, .inl (k_rd_high, 30, .inl f_rd_high)), (rd_byHour, .inl (k_rd_byHour, 30, .inl f_rd_byHour))]) [0, 1, 2, 3, 4, 5] (by decide) rfl
    have := (by decide : ((-1) : Int32).toInt = -1)
    have := (by decide : ((-1) : Int32).toInt = -1)
    exact W.iret (v := (-1)) hx hb hr (fun t ht hW => ⟨⟨(-1), ((-1) : Int32), rfl, rfl, rd_count, f_rd_slot, f_rd_hour, f_rd_low, f_rd_high, f_rd_byHour, (by omega), h_f_rd_slot, h_f_rd_hour, h_f_rd_byHour, (by omega), by rw [ht]; exact hP9, hD9⟩, hS.F ht⟩) hS.2.2 dX5_add_10
abbrev q_X5_isSo (dC : Nat → ClassId) (dI : Nat → Nat → Nat) (A : Nat → Prop) (rd : Nat) (v0 : Int32) (co : Nat) (rd_count : Int32) (rd_knownFirst : Int32) (rd_slot : Nat) (rd_hour : Nat) (rd_low : Nat) (rd_high : Nat) (rd_byHour : Nat) (k_rd_slot : ClassId) (f_rd_slot : Nat → Int32) (k_rd_low : ClassId) (f_rd_low : Nat → Int32) (k_rd_high : ClassId) (f_rd_high : Nat → Int32) (pl : Nat) (co_hour : Int32) (co_passings : Int32) (co_last : Nat) (co_passed : Nat) (co_keptCount : Nat) (co_watched : Int32) (co_widest : Int32) (co_deed : Int32) (co_week : Int32) (co_off : Nat) (co_since : Nat) (co_kept : Nat) (co_sorted : Nat) (k_co_off : ClassId) (f_co_off : Nat → Int32) (k_co_since : ClassId) (f_co_since : Nat → Int32) (pl_told : Nat) (pl_first : Nat) (pl_gain : Nat) (pl_custom : Nat) (pl_ruled : Nat) (pl_deeds : Int32) (pl_deedHour : Nat) (pl_deedPerson : Nat) (pl_deedClock : Nat) (k_pl_gain : ClassId) (f_pl_gain : Nat → Int32) : Array Value → State → Outcome → State → Prop := va_Qi (fun (r : Int32) (_ : Unit) => (0 ≤ r.toInt ∧ r.toInt ≤ 1)) (fun (_ : Unit) (t : State) => va_P (dC, dI) vwCl [(rd, .inr (5, [.int rd_count, .int rd_knownFirst, .ref rd_slot, .ref rd_hour, .ref rd_low, .ref rd_high, .ref rd_byHour])), (rd_slot, .inl (k_rd_slot, 30, .inl f_rd_slot)), (rd_low, .inl (k_rd_low, 30, .inl f_rd_low)), (rd_high, .inl (k_rd_high, 30, .inl f_rd_high)), (co, .inr (0, [.ref pl, .int co_hour, .int co_passings, .ref co_last, .ref co_passed, .ref co_keptCount, .int co_watched, .int co_widest, .int co_deed, .int co_week, .ref co_off, .ref co_since, .ref co_kept, .ref co_sorted])), (co_off, .inl (k_co_off, 10, .inl f_co_off)), (co_since, .inl (k_co_since, 10, .inl f_co_since)), (pl, .inr (3, [.ref pl_told, .ref pl_first, .ref pl_gain, .ref pl_custom, .ref pl_ruled, .int pl_deeds, .ref pl_deedHour, .ref pl_deedPerson, .ref pl_deedClock])), (pl_gain, .inl (k_pl_gain, 10, .inl f_pl_gain))] t.heap ∧ va_D A [(rd, .inr (5, [.int rd_count, .int rd_knownFirst, .ref rd_slot, .ref rd_hour, .ref rd_low, .ref rd_high, .ref rd_byHour])), (rd_slot, .inl (k_rd_slot, 30, .inl f_rd_slot)), (rd_low, .inl (k_rd_low, 30, .inl f_rd_low)), (rd_high, .inl (k_rd_high, 30, .inl f_rd_high)), (co, .inr (0, [.ref pl, .int co_hour, .int co_passings, .ref co_last, .ref co_passed, .ref co_keptCount, .int co_watched, .int co_widest, .int co_deed, .int co_week, .ref co_off, .ref co_since, .ref co_kept, .ref co_sorted])), (co_off, .inl (k_co_off, 10, .inl f_co_off)), (co_since, .inl (k_co_since, 10, .inl f_co_since)), (pl, .inr (3, [.ref pl_told, .ref pl_first, .ref pl_gain, .ref pl_custom, .ref pl_ruled, .int pl_deeds, .ref pl_deedHour, .ref pl_deedPerson, .ref pl_deedClock])), (pl_gain, .inl (k_pl_gain, 10, .inl f_pl_gain))]) A
set_option maxHeartbeats 4000000 in
set_option maxRecDepth 100000 in
theorem c_X5_isSo (l : Launch) (dC : Nat → ClassId) (dI : Nat → Nat → Nat) (sz : Nat) (rd : Nat) (v0 : Int32) (co : Nat) (rd_count : Int32) (rd_knownFirst : Int32) (rd_slot : Nat) (rd_hour : Nat) (rd_low : Nat) (rd_high : Nat) (rd_byHour : Nat) (k_rd_slot : ClassId) (f_rd_slot : Nat → Int32) (k_rd_low : ClassId) (f_rd_low : Nat → Int32) (k_rd_high : ClassId) (f_rd_high : Nat → Int32) (pl : Nat) (co_hour : Int32) (co_passings : Int32) (co_last : Nat) (co_passed : Nat) (co_keptCount : Nat) (co_watched : Int32) (co_widest : Int32) (co_deed : Int32) (co_week : Int32) (co_off : Nat) (co_since : Nat) (co_kept : Nat) (co_sorted : Nat) (k_co_off : ClassId) (f_co_off : Nat → Int32) (k_co_since : ClassId) (f_co_since : Nat → Int32) (pl_told : Nat) (pl_first : Nat) (pl_gain : Nat) (pl_custom : Nat) (pl_ruled : Nat) (pl_deeds : Int32) (pl_deedHour : Nat) (pl_deedPerson : Nat) (pl_deedClock : Nat) (k_pl_gain : ClassId) (f_pl_gain : Nat → Int32) (h_rd_count : 0 ≤ rd_count.toInt ∧ rd_count.toInt ≤ 30) (h_rd_knownFirst : (-1) ≤ rd_knownFirst.toInt ∧ rd_knownFirst.toInt ≤ 30) (h_f_rd_slot : Rg f_rd_slot 0 9) (h_co_hour : 0 ≤ co_hour.toInt ∧ co_hour.toInt ≤ 2000) (h_co_watched : 0 ≤ co_watched.toInt ∧ co_watched.toInt ≤ 1) (h_co_deed : 0 ≤ co_deed.toInt ∧ co_deed.toInt ≤ 16) (h_pl_deeds : 0 ≤ pl_deeds.toInt ∧ pl_deeds.toInt ≤ 16) (h_v0 : 0 ≤ v0.toInt ∧ v0.toInt ≤ 29) : Met l yX5_isSo (pw_w yX5_isSo cX5_isSo 4 (some .boolean)) ({ frames := 3, cells := 0, slots := 0, locals := 64 }) (va_Pc [.ref rd, .int v0, .ref co] (fun U => U.heap.size = sz ∧ va_P (dC, dI) vwCl [(rd, .inr (5, [.int rd_count, .int rd_knownFirst, .ref rd_slot, .ref rd_hour, .ref rd_low, .ref rd_high, .ref rd_byHour])), (rd_slot, .inl (k_rd_slot, 30, .inl f_rd_slot)), (rd_low, .inl (k_rd_low, 30, .inl f_rd_low)), (rd_high, .inl (k_rd_high, 30, .inl f_rd_high)), (co, .inr (0, [.ref pl, .int co_hour, .int co_passings, .ref co_last, .ref co_passed, .ref co_keptCount, .int co_watched, .int co_widest, .int co_deed, .int co_week, .ref co_off, .ref co_since, .ref co_kept, .ref co_sorted])), (co_off, .inl (k_co_off, 10, .inl f_co_off)), (co_since, .inl (k_co_since, 10, .inl f_co_since)), (pl, .inr (3, [.ref pl_told, .ref pl_first, .ref pl_gain, .ref pl_custom, .ref pl_ruled, .int pl_deeds, .ref pl_deedHour, .ref pl_deedPerson, .ref pl_deedClock])), (pl_gain, .inl (k_pl_gain, 10, .inl f_pl_gain))] U.heap ∧ va_K (dC, dI) vwCl [(k_rd_slot, .int), (k_rd_low, .int), (k_rd_high, .int), (k_co_off, .int), (k_co_since, .int), (k_pl_gain, .int)] U ∧ va_D (fun _ => True) [(rd, .inr (5, [.int rd_count, .int rd_knownFirst, .ref rd_slot, .ref rd_hour, .ref rd_low, .ref rd_high, .ref rd_byHour])), (rd_slot, .inl (k_rd_slot, 30, .inl f_rd_slot)), (rd_low, .inl (k_rd_low, 30, .inl f_rd_low)), (rd_high, .inl (k_rd_high, 30, .inl f_rd_high)), (co, .inr (0, [.ref pl, .int co_hour, .int co_passings, .ref co_last, .ref co_passed, .ref co_keptCount, .int co_watched, .int co_widest, .int co_deed, .int co_week, .ref co_off, .ref co_since, .ref co_kept, .ref co_sorted])), (co_off, .inl (k_co_off, 10, .inl f_co_off)), (co_since, .inl (k_co_since, 10, .inl f_co_since)), (pl, .inr (3, [.ref pl_told, .ref pl_first, .ref pl_gain, .ref pl_custom, .ref pl_ruled, .int pl_deeds, .ref pl_deedHour, .ref pl_deedPerson, .ref pl_deedClock])), (pl_gain, .inl (k_pl_gain, 10, .inl f_pl_gain))])) (q_X5_isSo dC dI (va_A [(rd, .inr (5, [.int rd_count, .int rd_knownFirst, .ref rd_slot, .ref rd_hour, .ref rd_low, .ref rd_high, .ref rd_byHour])), (rd_slot, .inl (k_rd_slot, 30, .inl f_rd_slot)), (rd_low, .inl (k_rd_low, 30, .inl f_rd_low)), (rd_high, .inl (k_rd_high, 30, .inl f_rd_high)), (co, .inr (0, [.ref pl, .int co_hour, .int co_passings, .ref co_last, .ref co_passed, .ref co_keptCount, .int co_watched, .int co_widest, .int co_deed, .int co_week, .ref co_off, .ref co_since, .ref co_kept, .ref co_sorted])), (co_off, .inl (k_co_off, 10, .inl f_co_off)), (co_since, .inl (k_co_since, 10, .inl f_co_since)), (pl, .inr (3, [.ref pl_told, .ref pl_first, .ref pl_gain, .ref pl_custom, .ref pl_ruled, .int pl_deeds, .ref pl_deedHour, .ref pl_deedPerson, .ref pl_deedClock])), (pl_gain, .inl (k_pl_gain, 10, .inl f_pl_gain))] sz) rd v0 co rd_count rd_knownFirst rd_slot rd_hour rd_low rd_high rd_byHour k_rd_slot f_rd_slot k_rd_low f_rd_low k_rd_high f_rd_high pl co_hour co_passings co_last co_passed co_keptCount co_watched co_widest co_deed co_week co_off co_since co_kept co_sorted k_co_off f_co_off k_co_since f_co_since pl_told pl_first pl_gain pl_custom pl_ruled pl_deeds pl_deedHour pl_deedPerson pl_deedClock k_pl_gain f_pl_gain) 0 0 (va_A [(rd, .inr (5, [.int rd_count, .int rd_knownFirst, .ref rd_slot, .ref rd_hour, .ref rd_low, .ref rd_high, .ref rd_byHour])), (rd_slot, .inl (k_rd_slot, 30, .inl f_rd_slot)), (rd_low, .inl (k_rd_low, 30, .inl f_rd_low)), (rd_high, .inl (k_rd_high, 30, .inl f_rd_high)), (co, .inr (0, [.ref pl, .int co_hour, .int co_passings, .ref co_last, .ref co_passed, .ref co_keptCount, .int co_watched, .int co_widest, .int co_deed, .int co_week, .ref co_off, .ref co_since, .ref co_kept, .ref co_sorted])), (co_off, .inl (k_co_off, 10, .inl f_co_off)), (co_since, .inl (k_co_since, 10, .inl f_co_since)), (pl, .inr (3, [.ref pl_told, .ref pl_first, .ref pl_gain, .ref pl_custom, .ref pl_ruled, .int pl_deeds, .ref pl_deedHour, .ref pl_deedPerson, .ref pl_deedClock])), (pl_gain, .inl (k_pl_gain, 10, .inl f_pl_gain))] sz) := by
  refine Met.ofW (cc := cX5_isSo) (maxL := 4) (ret := (some .boolean)) (by decide) rfl ?_
  intro p e s m args below meth c s₁ B hml hv
  obtain ⟨rfl, hsz, hP, hK, hD0⟩ := hv
  have hx := B.exec
  have hb := B.bytes
  have hr := B.returns
  have hts := atoms_spec (ws := (pw_w yX5_isSo cX5_isSo 4 (some .boolean))) B.pre
  have hT : ∀ w ∈ pw_T, w.before _ s = true := fun w h => hts w (List.mem_cons_of_mem _ h)
  have hown : s.vm.findClass RX5 = some m.cls := findClass_of_methodNamed B.named
  have hlocks := B.notSynchronized
  subst hsz
  have hD := hD0.self (sz := s.heap.size)
  generalize hAe : va_A [(rd, .inr (5, [.int rd_count, .int rd_knownFirst, .ref rd_slot, .ref rd_hour, .ref rd_low, .ref rd_high, .ref rd_byHour])), (rd_slot, .inl (k_rd_slot, 30, .inl f_rd_slot)), (rd_low, .inl (k_rd_low, 30, .inl f_rd_low)), (rd_high, .inl (k_rd_high, 30, .inl f_rd_high)), (co, .inr (0, [.ref pl, .int co_hour, .int co_passings, .ref co_last, .ref co_passed, .ref co_keptCount, .int co_watched, .int co_widest, .int co_deed, .int co_week, .ref co_off, .ref co_since, .ref co_kept, .ref co_sorted])), (co_off, .inl (k_co_off, 10, .inl f_co_off)), (co_since, .inl (k_co_since, 10, .inl f_co_since)), (pl, .inr (3, [.ref pl_told, .ref pl_first, .ref pl_gain, .ref pl_custom, .ref pl_ruled, .int pl_deeds, .ref pl_deedHour, .ref pl_deedPerson, .ref pl_deedClock])), (pl_gain, .inl (k_pl_gain, 10, .inl f_pl_gain))] s.heap.size = A at hD ⊢
  have hA : ∀ q : Nat, s.heap.size ≤ q → A q := fun q h => by rw [← hAe]; exact Or.inr h
  have hS : va_S A s.heap s.heap [] := va_S.rf
  have hP : va_P (dC, dI) vwCl [(rd, .inr (5, [.int rd_count, .int rd_knownFirst, .ref rd_slot, .ref rd_hour, .ref rd_low, .ref rd_high, .ref rd_byHour])), (rd_slot, .inl (k_rd_slot, 30, .inl f_rd_slot)), (rd_low, .inl (k_rd_low, 30, .inl f_rd_low)), (rd_high, .inl (k_rd_high, 30, .inl f_rd_high)), (co, .inr (0, [.ref pl, .int co_hour, .int co_passings, .ref co_last, .ref co_passed, .ref co_keptCount, .int co_watched, .int co_widest, .int co_deed, .int co_week, .ref co_off, .ref co_since, .ref co_kept, .ref co_sorted])), (co_off, .inl (k_co_off, 10, .inl f_co_off)), (co_since, .inl (k_co_since, 10, .inl f_co_since)), (pl, .inr (3, [.ref pl_told, .ref pl_first, .ref pl_gain, .ref pl_custom, .ref pl_ruled, .int pl_deeds, .ref pl_deedHour, .ref pl_deedPerson, .ref pl_deedClock])), (pl_gain, .inl (k_pl_gain, 10, .inl f_pl_gain))] s.heap := hP
  have hl := lv_entry ([.ref rd, .int v0, .ref co]) (n := 4) (Nat.le_of_ble_eq_true rfl)
  rw [lg_entry_eq]
  generalize (lg_sl ([.ref rd, .int v0, .ref co]) ++ List.replicate (4 - (lg_sl ([.ref rd, .int v0, .ref co])).length) Slot.unset).toArray = ls at hl ⊢
  have hl : lv_has ls 4 [(0, .ref rd), (1, .int v0), (2, .ref co)] := hl
  refine lv_aload_n hx hb dX5_isSo_0 rfl (lv_at hl 2 rfl) ?_
  refine lv_aload_n hx hb dX5_isSo_1 rfl (lv_at hl 0 rfl) ?_
  refine va_get (D := (dC, dI)) (ci := 5) (v := .ref rd_slot) (C := RX5) (T := TX5) (N := 7) hx hb hT inX5 hown hK hP 0 rfl rfl 2 (by decide) (hT _ mw_2_182) (fun _ h9 => h9) rfl dX5_isSo_2 ?_
  refine lv_iload_n hx hb dX5_isSo_5 rfl (lv_at hl 1 rfl) ?_
  refine va_iald hx hb hK hP 1 0 rfl rfl (vp_in_iff.mpr (by omega)) dX5_isSo_6 ?_
  refine lv_topi (fun z_1 ez_1 => ?_)
  have kz_1 : 0 ≤ z_1.toInt ∧ z_1.toInt ≤ 9 := by rw [ez_1]; exact h_f_rd_slot _
  have hPc := hP.sub (ws' := [(co, .inr (0, [.ref pl, .int co_hour, .int co_passings, .ref co_last, .ref co_passed, .ref co_keptCount, .int co_watched, .int co_widest, .int co_deed, .int co_week, .ref co_off, .ref co_since, .ref co_kept, .ref co_sorted])), (co_off, .inl (k_co_off, 10, .inl f_co_off)), (co_since, .inl (k_co_since, 10, .inl f_co_since)), (pl, .inr (3, [.ref pl_told, .ref pl_first, .ref pl_gain, .ref pl_custom, .ref pl_ruled, .int pl_deeds, .ref pl_deedHour, .ref pl_deedPerson, .ref pl_deedClock])), (pl_gain, .inl (k_pl_gain, 10, .inl f_pl_gain))]) [4, 5, 6, 7, 8] rfl
  have hDc := hD.sub (ws' := [(co, .inr (0, [.ref pl, .int co_hour, .int co_passings, .ref co_last, .ref co_passed, .ref co_keptCount, .int co_watched, .int co_widest, .int co_deed, .int co_week, .ref co_off, .ref co_since, .ref co_kept, .ref co_sorted])), (co_off, .inl (k_co_off, 10, .inl f_co_off)), (co_since, .inl (k_co_since, 10, .inl f_co_since)), (pl, .inr (3, [.ref pl_told, .ref pl_first, .ref pl_gain, .ref pl_custom, .ref pl_ruled, .int pl_deeds, .ref pl_deedHour, .ref pl_deedPerson, .ref pl_deedClock])), (pl_gain, .inl (k_pl_gain, 10, .inl f_pl_gain))]) [4, 5, 6, 7, 8] (by decide) rfl
  have hKc := hK.sub (tys' := [(k_co_off, .int), (k_co_since, .int), (k_pl_gain, .int)]) [3, 4, 5] rfl
  have hFc := va_free (wc := [(co, .inr (0, [.ref pl, .int co_hour, .int co_passings, .ref co_last, .ref co_passed, .ref co_keptCount, .int co_watched, .int co_widest, .int co_deed, .int co_week, .ref co_off, .ref co_since, .ref co_kept, .ref co_sorted])), (co_off, .inl (k_co_off, 10, .inl f_co_off)), (co_since, .inl (k_co_since, 10, .inl f_co_since)), (pl, .inr (3, [.ref pl_told, .ref pl_first, .ref pl_gain, .ref pl_custom, .ref pl_ruled, .int pl_deeds, .ref pl_deedHour, .ref pl_deedPerson, .ref pl_deedClock])), (pl_gain, .inl (k_pl_gain, 10, .inl f_pl_gain))]) hD hS hA [4, 5, 6, 7, 8] rfl
  refine va_calli (va_runV (As := [.int z_1]) (rest := []) ⟨hx, hb, hml, hown, hT⟩ (c_X0_offNow l dC dI s.heap.size co z_1 pl co_hour co_passings co_last co_passed co_keptCount co_watched co_widest co_deed co_week co_off co_since co_kept co_sorted k_co_off f_co_off k_co_since f_co_since pl_told pl_first pl_gain pl_custom pl_ruled pl_deeds pl_deedHour pl_deedPerson pl_deedClock k_pl_gain f_pl_gain (by omega) (by omega) (by omega) (by omega) (by omega)) (cwV 1 hT (gwV mw_5_35 mw_4_137 mw_4_138 mw_1_11 mw_4_139) rfl rfl rfl (by decide +kernel) ⟨Nat.le_of_ble_eq_true rfl, Nat.le_of_ble_eq_true rfl⟩) ⟨fun a U g mk q => by obtain ⟨q0, q1, qP, qK, qD⟩ := q; exact ⟨q0, q1, qP, va_K.moved (u := U) (U := U.calling g mk a) (Vm.Alike.refl U.vm) qK, qD⟩, va_recv hK hP (ci := 0) (q0 := 4) rfl rfl, fun U hU hW => ⟨rfl, by rw [hU], by rw [hU]; exact hPc, va_K.moved hW.alike hKc, hDc.weaken (fun _ _ _ _ => trivial)⟩⟩ rfl rfl hl.1 rfl (lv_room (Nat.le_of_ble_eq_true rfl)) dX5_isSo_7 ⟨Nat.le_of_ble_eq_true rfl, Nat.le_of_ble_eq_true rfl⟩) hS (fun q _ h => hFc q h) hFc (fun r_2 u t H1 locs ht hvm hw hB hz1 hk1 hS => ?_)
  obtain ⟨hP1, hD1⟩ := hB
  rw [ht] at hP1
  obtain ⟨hP, hD⟩ := va_join (wr := [(rd, .inr (5, [.int rd_count, .int rd_knownFirst, .ref rd_slot, .ref rd_hour, .ref rd_low, .ref rd_high, .ref rd_byHour])), (rd_slot, .inl (k_rd_slot, 30, .inl f_rd_slot)), (rd_low, .inl (k_rd_low, 30, .inl f_rd_low)), (rd_high, .inl (k_rd_high, 30, .inl f_rd_high))]) (w1 := [(co, .inr (0, [.ref pl, .int co_hour, .int co_passings, .ref co_last, .ref co_passed, .ref co_keptCount, .int co_watched, .int co_widest, .int co_deed, .int co_week, .ref co_off, .ref co_since, .ref co_kept, .ref co_sorted])), (co_off, .inl (k_co_off, 10, .inl f_co_off)), (co_since, .inl (k_co_since, 10, .inl f_co_since)), (pl, .inr (3, [.ref pl_told, .ref pl_first, .ref pl_gain, .ref pl_custom, .ref pl_ruled, .int pl_deeds, .ref pl_deedHour, .ref pl_deedPerson, .ref pl_deedClock])), (pl_gain, .inl (k_pl_gain, 10, .inl f_pl_gain))]) hP hD [4, 5, 6, 7, 8] [0, 1, 2, 3] rfl rfl (by decide) (by decide) hk1 hFc hP1 hD1
  generalize H1 = H at hP hS ⊢
  have hP : va_P (dC, dI) vwCl [(rd, .inr (5, [.int rd_count, .int rd_knownFirst, .ref rd_slot, .ref rd_hour, .ref rd_low, .ref rd_high, .ref rd_byHour])), (rd_slot, .inl (k_rd_slot, 30, .inl f_rd_slot)), (rd_low, .inl (k_rd_low, 30, .inl f_rd_low)), (rd_high, .inl (k_rd_high, 30, .inl f_rd_high)), (co, .inr (0, [.ref pl, .int co_hour, .int co_passings, .ref co_last, .ref co_passed, .ref co_keptCount, .int co_watched, .int co_widest, .int co_deed, .int co_week, .ref co_off, .ref co_since, .ref co_kept, .ref co_sorted])), (co_off, .inl (k_co_off, 10, .inl f_co_off)), (co_since, .inl (k_co_since, 10, .inl f_co_since)), (pl, .inr (3, [.ref pl_told, .ref pl_first, .ref pl_gain, .ref pl_custom, .ref pl_ruled, .int pl_deeds, .ref pl_deedHour, .ref pl_deedPerson, .ref pl_deedClock])), (pl_gain, .inl (k_pl_gain, 10, .inl f_pl_gain))] H := hP
  have hD : va_D A [(rd, .inr (5, [.int rd_count, .int rd_knownFirst, .ref rd_slot, .ref rd_hour, .ref rd_low, .ref rd_high, .ref rd_byHour])), (rd_slot, .inl (k_rd_slot, 30, .inl f_rd_slot)), (rd_low, .inl (k_rd_low, 30, .inl f_rd_low)), (rd_high, .inl (k_rd_high, 30, .inl f_rd_high)), (co, .inr (0, [.ref pl, .int co_hour, .int co_passings, .ref co_last, .ref co_passed, .ref co_keptCount, .int co_watched, .int co_widest, .int co_deed, .int co_week, .ref co_off, .ref co_since, .ref co_kept, .ref co_sorted])), (co_off, .inl (k_co_off, 10, .inl f_co_off)), (co_since, .inl (k_co_since, 10, .inl f_co_since)), (pl, .inr (3, [.ref pl_told, .ref pl_first, .ref pl_gain, .ref pl_custom, .ref pl_ruled, .int pl_deeds, .ref pl_deedHour, .ref pl_deedPerson, .ref pl_deedClock])), (pl_gain, .inl (k_pl_gain, 10, .inl f_pl_gain))] := hD
  clear hPc hDc hKc hFc hP1 hD1 hk1 hz1 ht hvm
  have hwr_2 : True := hw
  clear hw
  clear hwr_2
  refine lv_istore_n (lv' := [(3, .int r_2), (0, .ref rd), (1, .int v0), (2, .ref co)]) hx hb dX5_isSo_10 rfl hl (by decide) rfl (fun ls hl => ?_)
  refine lv_iload_n hx hb dX5_isSo_11 rfl (lv_at hl 0 rfl) ?_
  refine lv_aload_n hx hb dX5_isSo_12 rfl (lv_at hl 1 rfl) ?_
  refine va_get (D := (dC, dI)) (ci := 5) (v := .ref rd_low) (C := RX5) (T := TX5) (N := 7) hx hb hT inX5 hown hK hP 0 rfl rfl 4 (by decide) (hT _ mw_2_184) (fun _ h9 => h9) rfl dX5_isSo_13 ?_
  refine lv_iload_n hx hb dX5_isSo_16 rfl (lv_at hl 2 rfl) ?_
  refine va_iald hx hb hK hP 2 1 rfl rfl (vp_in_iff.mpr (by omega)) dX5_isSo_17 ?_
  refine lv_topi (fun z_3 ez_3 => ?_)
  refine lv_icmp_lt (tgt := 35) hx hb dX5_isSo_18 (by decide) (fun c_4 => ?_) (fun c_4 => ?_)
  · have kc_4 := il_lt c_4
    have := Int32.toInt_lt r_2; have := Int32.le_toInt r_2
    have := Int32.toInt_lt z_3; have := Int32.le_toInt z_3
    refine lv_iconst (v := 0) hx hb dX5_isSo_35 (by decide) ?_
    have hP9 := hP.sub (ws' := [(rd, .inr (5, [.int rd_count, .int rd_knownFirst, .ref rd_slot, .ref rd_hour, .ref rd_low, .ref rd_high, .ref rd_byHour])), (rd_slot, .inl (k_rd_slot, 30, .inl f_rd_slot)), (rd_low, .inl (k_rd_low, 30, .inl f_rd_low)), (rd_high, .inl (k_rd_high, 30, .inl f_rd_high)), (co, .inr (0, [.ref pl, .int co_hour, .int co_passings, .ref co_last, .ref co_passed, .ref co_keptCount, .int co_watched, .int co_widest, .int co_deed, .int co_week, .ref co_off, .ref co_since, .ref co_kept, .ref co_sorted])), (co_off, .inl (k_co_off, 10, .inl f_co_off)), (co_since, .inl (k_co_since, 10, .inl f_co_since)), (pl, .inr (3, [.ref pl_told, .ref pl_first, .ref pl_gain, .ref pl_custom, .ref pl_ruled, .int pl_deeds, .ref pl_deedHour, .ref pl_deedPerson, .ref pl_deedClock])), (pl_gain, .inl (k_pl_gain, 10, .inl f_pl_gain))]) [0, 1, 2, 3, 4, 5, 6, 7, 8] rfl
    have hD9 := hD.sub (ws' := [(rd, .inr (5, [.int rd_count, .int rd_knownFirst, .ref rd_slot, .ref rd_hour, .ref rd_low, .ref rd_high, .ref rd_byHour])), (rd_slot, .inl (k_rd_slot, 30, .inl f_rd_slot)), (rd_low, .inl (k_rd_low, 30, .inl f_rd_low)), (rd_high, .inl (k_rd_high, 30, .inl f_rd_high)), (co, .inr (0, [.ref pl, .int co_hour, .int co_passings, .ref co_last, .ref co_passed, .ref co_keptCount, .int co_watched, .int co_widest, .int co_deed, .int co_week, .ref co_off, .ref co_since, .ref co_kept, .ref co_sorted])), (co_off, .inl (k_co_off, 10, .inl f_co_off)), (co_since, .inl (k_co_since, 10, .inl f_co_since)), (pl, .inr (3, [.ref pl_told, .ref pl_first, .ref pl_gain, .ref pl_custom, .ref pl_ruled, .int pl_deeds, .ref pl_deedHour, .ref pl_deedPerson, .ref pl_deedClock])), (pl_gain, .inl (k_pl_gain, 10, .inl f_pl_gain))]) [0, 1, 2, 3, 4, 5, 6, 7, 8] (by decide) rfl
    have := (by decide : (0 : Int32).toInt = 0)
    exact W.zret (v := 0) hx hb hr (by decide) (fun t ht hW => ⟨⟨0, (), rfl, (by first | omega | (refine ⟨?_, ?_⟩ <;> omega) | rfl | (intros; omega)), by rw [ht]; exact hP9, hD9⟩, hS.F ht⟩) hS.2.2 dX5_isSo_36
  · have kc_4 := il_nlt c_4
    have := Int32.toInt_lt r_2; have := Int32.le_toInt r_2
    have := Int32.toInt_lt z_3; have := Int32.le_toInt z_3
    refine lv_iload_n hx hb dX5_isSo_21 rfl (lv_at hl 0 rfl) ?_
    refine lv_aload_n hx hb dX5_isSo_22 rfl (lv_at hl 1 rfl) ?_
    refine va_get (D := (dC, dI)) (ci := 5) (v := .ref rd_high) (C := RX5) (T := TX5) (N := 7) hx hb hT inX5 hown hK hP 0 rfl rfl 5 (by decide) (hT _ mw_2_185) (fun _ h9 => h9) rfl dX5_isSo_23 ?_
    refine lv_iload_n hx hb dX5_isSo_26 rfl (lv_at hl 2 rfl) ?_
    refine va_iald hx hb hK hP 3 2 rfl rfl (vp_in_iff.mpr (by omega)) dX5_isSo_27 ?_
    refine lv_topi (fun z_5 ez_5 => ?_)
    refine lv_icmp_gt (tgt := 35) hx hb dX5_isSo_28 (by decide) (fun c_6 => ?_) (fun c_6 => ?_)
    · have kc_6 := il_lt c_6
      have := Int32.toInt_lt z_5; have := Int32.le_toInt z_5
      refine lv_iconst (v := 0) hx hb dX5_isSo_35 (by decide) ?_
      have hP9 := hP.sub (ws' := [(rd, .inr (5, [.int rd_count, .int rd_knownFirst, .ref rd_slot, .ref rd_hour, .ref rd_low, .ref rd_high, .ref rd_byHour])), (rd_slot, .inl (k_rd_slot, 30, .inl f_rd_slot)), (rd_low, .inl (k_rd_low, 30, .inl f_rd_low)), (rd_high, .inl (k_rd_high, 30, .inl f_rd_high)), (co, .inr (0, [.ref pl, .int co_hour, .int co_passings, .ref co_last, .ref co_passed, .ref co_keptCount, .int co_watched, .int co_widest, .int co_deed, .int co_week, .ref co_off, .ref co_since, .ref co_kept, .ref co_sorted])), (co_off, .inl (k_co_off, 10, .inl f_co_off)), (co_since, .inl (k_co_since, 10, .inl f_co_since)), (pl, .inr (3, [.ref pl_told, .ref pl_first, .ref pl_gain, .ref pl_custom, .ref pl_ruled, .int pl_deeds, .ref pl_deedHour, .ref pl_deedPerson, .ref pl_deedClock])), (pl_gain, .inl (k_pl_gain, 10, .inl f_pl_gain))]) [0, 1, 2, 3, 4, 5, 6, 7, 8] rfl
      have hD9 := hD.sub (ws' := [(rd, .inr (5, [.int rd_count, .int rd_knownFirst, .ref rd_slot, .ref rd_hour, .ref rd_low, .ref rd_high, .ref rd_byHour])), (rd_slot, .inl (k_rd_slot, 30, .inl f_rd_slot)), (rd_low, .inl (k_rd_low, 30, .inl f_rd_low)), (rd_high, .inl (k_rd_high, 30, .inl f_rd_high)), (co, .inr (0, [.ref pl, .int co_hour, .int co_passings, .ref co_last, .ref co_passed, .ref co_keptCount, .int co_watched, .int co_widest, .int co_deed, .int co_week, .ref co_off, .ref co_since, .ref co_kept, .ref co_sorted])), (co_off, .inl (k_co_off, 10, .inl f_co_off)), (co_since, .inl (k_co_since, 10, .inl f_co_since)), (pl, .inr (3, [.ref pl_told, .ref pl_first, .ref pl_gain, .ref pl_custom, .ref pl_ruled, .int pl_deeds, .ref pl_deedHour, .ref pl_deedPerson, .ref pl_deedClock])), (pl_gain, .inl (k_pl_gain, 10, .inl f_pl_gain))]) [0, 1, 2, 3, 4, 5, 6, 7, 8] (by decide) rfl
      have := (by decide : (0 : Int32).toInt = 0)
      exact W.zret (v := 0) hx hb hr (by decide) (fun t ht hW => ⟨⟨0, (), rfl, (by first | omega | (refine ⟨?_, ?_⟩ <;> omega) | rfl | (intros; omega)), by rw [ht]; exact hP9, hD9⟩, hS.F ht⟩) hS.2.2 dX5_isSo_36
    · have kc_6 := il_nlt c_6
      have := Int32.toInt_lt z_5; have := Int32.le_toInt z_5
      refine lv_iconst (v := 1) hx hb dX5_isSo_31 (by decide) ?_
      refine lv_goto (tgt := 36) hx hb dX5_isSo_32 (by decide) ?_
      have hP9 := hP.sub (ws' := [(rd, .inr (5, [.int rd_count, .int rd_knownFirst, .ref rd_slot, .ref rd_hour, .ref rd_low, .ref rd_high, .ref rd_byHour])), (rd_slot, .inl (k_rd_slot, 30, .inl f_rd_slot)), (rd_low, .inl (k_rd_low, 30, .inl f_rd_low)), (rd_high, .inl (k_rd_high, 30, .inl f_rd_high)), (co, .inr (0, [.ref pl, .int co_hour, .int co_passings, .ref co_last, .ref co_passed, .ref co_keptCount, .int co_watched, .int co_widest, .int co_deed, .int co_week, .ref co_off, .ref co_since, .ref co_kept, .ref co_sorted])), (co_off, .inl (k_co_off, 10, .inl f_co_off)), (co_since, .inl (k_co_since, 10, .inl f_co_since)), (pl, .inr (3, [.ref pl_told, .ref pl_first, .ref pl_gain, .ref pl_custom, .ref pl_ruled, .int pl_deeds, .ref pl_deedHour, .ref pl_deedPerson, .ref pl_deedClock])), (pl_gain, .inl (k_pl_gain, 10, .inl f_pl_gain))]) [0, 1, 2, 3, 4, 5, 6, 7, 8] rfl
      have hD9 := hD.sub (ws' := [(rd, .inr (5, [.int rd_count, .int rd_knownFirst, .ref rd_slot, .ref rd_hour, .ref rd_low, .ref rd_high, .ref rd_byHour])), (rd_slot, .inl (k_rd_slot, 30, .inl f_rd_slot)), (rd_low, .inl (k_rd_low, 30, .inl f_rd_low)), (rd_high, .inl (k_rd_high, 30, .inl f_rd_high)), (co, .inr (0, [.ref pl, .int co_hour, .int co_passings, .ref co_last, .ref co_passed, .ref co_keptCount, .int co_watched, .int co_widest, .int co_deed, .int co_week, .ref co_off, .ref co_since, .ref co_kept, .ref co_sorted])), (co_off, .inl (k_co_off, 10, .inl f_co_off)), (co_since, .inl (k_co_since, 10, .inl f_co_since)), (pl, .inr (3, [.ref pl_told, .ref pl_first, .ref pl_gain, .ref pl_custom, .ref pl_ruled, .int pl_deeds, .ref pl_deedHour, .ref pl_deedPerson, .ref pl_deedClock])), (pl_gain, .inl (k_pl_gain, 10, .inl f_pl_gain))]) [0, 1, 2, 3, 4, 5, 6, 7, 8] (by decide) rfl
      have := (by decide : (1 : Int32).toInt = 1)
      exact W.zret (v := 1) hx hb hr (by decide) (fun t ht hW => ⟨⟨1, (), rfl, (by first | omega | (refine ⟨?_, ?_⟩ <;> omega) | rfl | (intros; omega)), by rw [ht]; exact hP9, hD9⟩, hS.F ht⟩) hS.2.2 dX5_isSo_36
