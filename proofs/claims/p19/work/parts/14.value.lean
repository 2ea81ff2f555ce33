theorem dX6_value_0 : decode cX6_value 0 = .ok (.iconst 0, 1) := by decide +kernel
theorem dX6_value_1 : decode cX6_value 1 = .ok (.istore_n 2, 1) := by decide +kernel
theorem dX6_value_2 : decode cX6_value 2 = .ok (.aload_n 0, 1) := by decide +kernel
theorem dX6_value_3 : decode cX6_value 3 = .ok (.getfield 18, 3) := by decide +kernel
theorem dX6_value_6 : decode cX6_value 6 = .ok (.iload_n 1, 1) := by decide +kernel
theorem dX6_value_8 : decode cX6_value 8 = .ok (.istore_n 3, 1) := by decide +kernel
theorem dX6_value_9 : decode cX6_value 9 = .ok (.iload_n 3, 1) := by decide +kernel
theorem dX6_value_10 : decode cX6_value 10 = .ok (.aload_n 0, 1) := by decide +kernel
theorem dX6_value_11 : decode cX6_value 11 = .ok (.getfield 21, 3) := by decide +kernel
theorem dX6_value_14 : decode cX6_value 14 = .ok (.iload_n 1, 1) := by decide +kernel
theorem dX6_value_202 : decode cX6_value 202 = .ok (.iload_n 2, 1) := by decide +kernel
theorem dX6_value_203 : decode cX6_value 203 = .ok (.iconst 1, 1) := by decide +kernel
theorem dX6_value_216 : decode cX6_value 216 = .ok (.ldc2_w 41, 3) := by decide +kernel
theorem dX6_value_219 : decode cX6_value 219 = .ok (.lreturn, 1) := by decide +kernel
theorem dX6_value_19 : decode cX6_value 19 = .ok (.aload_n 0, 1) := by decide +kernel
theorem dX6_value_20 : decode cX6_value 20 = .ok (.getfield 9, 3) := by decide +kernel
theorem dX6_value_23 : decode cX6_value 23 = .ok (.iload_n 3, 1) := by decide +kernel
theorem dX6_value_25 : decode cX6_value 25 = .ok (.istore 4, 2) := by decide +kernel
theorem dX6_value_27 : decode cX6_value 27 = .ok (.iload 4, 2) := by decide +kernel
theorem dX6_value_29 : decode cX6_value 29 = .ok (.iconst 1, 1) := by decide +kernel
theorem dX6_value_40 : decode cX6_value 40 = .ok (.iconst 0, 1) := by decide +kernel
theorem dX6_value_41 : decode cX6_value 41 = .ok (.goto 15, 3) := by decide +kernel
theorem dX6_value_56 : decode cX6_value 56 = .ok (.istore 5, 2) := by decide +kernel
theorem dX6_value_58 : decode cX6_value 58 = .ok (.iload_n 2, 1) := by decide +kernel
theorem dX6_value_59 : decode cX6_value 59 = .ok (.iload 5, 2) := by decide +kernel
theorem dX6_value_62 : decode cX6_value 62 = .ok (.istore_n 2, 1) := by decide +kernel
theorem dX6_value_63 : decode cX6_value 63 = .ok (.iload_n 2, 1) := by decide +kernel
theorem dX6_value_67 : decode cX6_value 67 = .ok (.iload_n 2, 1) := by decide +kernel
theorem dX6_value_68 : decode cX6_value 68 = .ok (.bipush 64, 2) := by decide +kernel
theorem dX6_value_77 : decode cX6_value 77 = .ok (.iload 4, 2) := by decide +kernel
theorem dX6_value_79 : decode cX6_value 79 = .ok (.iconst 1, 1) := by decide +kernel
theorem dX6_value_83 : decode cX6_value 83 = .ok (.aload_n 0, 1) := by decide +kernel
theorem dX6_value_84 : decode cX6_value 84 = .ok (.getfield 15, 3) := by decide +kernel
theorem dX6_value_87 : decode cX6_value 87 = .ok (.iload_n 3, 1) := by decide +kernel
theorem dX6_value_90 : decode cX6_value 90 = .ok (.lstore 6, 2) := by decide +kernel
theorem dX6_value_92 : decode cX6_value 92 = .ok (.goto 71, 3) := by decide +kernel
theorem dX6_value_163 : decode cX6_value 163 = .ok (.lload 6, 2) := by decide +kernel
theorem dX6_value_165 : decode cX6_value 165 = .ok (.ldc2_w 47, 3) := by decide +kernel
theorem dX6_value_181 : decode cX6_value 181 = .ok (.ldc2_w 41, 3) := by decide +kernel
theorem dX6_value_184 : decode cX6_value 184 = .ok (.lreturn, 1) := by decide +kernel
theorem dX6_value_172 : decode cX6_value 172 = .ok (.lload 6, 2) := by decide +kernel
theorem dX6_value_174 : decode cX6_value 174 = .ok (.ldc2_w 49, 3) := by decide +kernel
theorem dX6_value_185 : decode cX6_value 185 = .ok (.aload_n 0, 1) := by decide +kernel
theorem dX6_value_186 : decode cX6_value 186 = .ok (.getfield 28, 3) := by decide +kernel
theorem dX6_value_189 : decode cX6_value 189 = .ok (.iload_n 2, 1) := by decide +kernel
theorem dX6_value_190 : decode cX6_value 190 = .ok (.lload 6, 2) := by decide +kernel
theorem dX6_value_199 : decode cX6_value 199 = .ok (.goto (-190), 3) := by decide +kernel
theorem dX6_value_33 : decode cX6_value 33 = .ok (.iload 4, 2) := by decide +kernel
theorem dX6_value_35 : decode cX6_value 35 = .ok (.bipush 35, 2) := by decide +kernel
theorem dX6_value_44 : decode cX6_value 44 = .ok (.iload 4, 2) := by decide +kernel
theorem dX6_value_46 : decode cX6_value 46 = .ok (.bipush 34, 2) := by decide +kernel
theorem dX6_value_55 : decode cX6_value 55 = .ok (.iconst 2, 1) := by decide +kernel
theorem dX6_value_73 : decode cX6_value 73 = .ok (.ldc2_w 41, 3) := by decide +kernel
theorem dX6_value_76 : decode cX6_value 76 = .ok (.lreturn, 1) := by decide +kernel
theorem dX6_value_51 : decode cX6_value 51 = .ok (.iconst 1, 1) := by decide +kernel
theorem dX6_value_52 : decode cX6_value 52 = .ok (.goto 4, 3) := by decide +kernel
theorem dX6_value_95 : decode cX6_value 95 = .ok (.iload 5, 2) := by decide +kernel
theorem dX6_value_100 : decode cX6_value 100 = .ok (.aload_n 0, 1) := by decide +kernel
theorem dX6_value_101 : decode cX6_value 101 = .ok (.getfield 24, 3) := by decide +kernel
theorem dX6_value_104 : decode cX6_value 104 = .ok (.iload 4, 2) := by decide +kernel
theorem dX6_value_106 : decode cX6_value 106 = .ok (.bipush 35, 2) := by decide +kernel
theorem dX6_value_110 : decode cX6_value 110 = .ok (.lstore 6, 2) := by decide +kernel
theorem dX6_value_112 : decode cX6_value 112 = .ok (.goto 51, 3) := by decide +kernel
theorem dX6_value_207 : decode cX6_value 207 = .ok (.aload_n 0, 1) := by decide +kernel
theorem dX6_value_208 : decode cX6_value 208 = .ok (.getfield 28, 3) := by decide +kernel
theorem dX6_value_211 : decode cX6_value 211 = .ok (.iconst 0, 1) := by decide +kernel
theorem dX6_value_213 : decode cX6_value 213 = .ok (.goto 6, 3) := by decide +kernel
theorem dX6_value_115 : decode cX6_value 115 = .ok (.iload 5, 2) := by decide +kernel
theorem dX6_value_117 : decode cX6_value 117 = .ok (.iconst 1, 1) := by decide +kernel
theorem dX6_value_142 : decode cX6_value 142 = .ok (.iload 4, 2) := by decide +kernel
theorem dX6_value_144 : decode cX6_value 144 = .ok (.aload_n 0, 1) := by decide +kernel
theorem dX6_value_145 : decode cX6_value 145 = .ok (.getfield 28, 3) := by decide +kernel
theorem dX6_value_148 : decode cX6_value 148 = .ok (.iload_n 2, 1) := by decide +kernel
theorem dX6_value_150 : decode cX6_value 150 = .ok (.aload_n 0, 1) := by decide +kernel
theorem dX6_value_151 : decode cX6_value 151 = .ok (.getfield 28, 3) := by decide +kernel
theorem dX6_value_154 : decode cX6_value 154 = .ok (.iload_n 2, 1) := by decide +kernel
theorem dX6_value_155 : decode cX6_value 155 = .ok (.iconst 1, 1) := by decide +kernel
theorem dX6_value_158 : decode cX6_value 158 = .ok (.invokestatic 43, 3) := by decide +kernel
theorem dX6_value_161 : decode cX6_value 161 = .ok (.lstore 6, 2) := by decide +kernel
theorem dX6_value_121 : decode cX6_value 121 = .ok (.aload_n 0, 1) := by decide +kernel
theorem dX6_value_122 : decode cX6_value 122 = .ok (.getfield 28, 3) := by decide +kernel
theorem dX6_value_125 : decode cX6_value 125 = .ok (.iload_n 2, 1) := by decide +kernel
theorem dX6_value_127 : decode cX6_value 127 = .ok (.lconst 0, 1) := by decide +kernel
theorem dX6_value_136 : decode cX6_value 136 = .ok (.lconst 0, 1) := by decide +kernel
theorem dX6_value_132 : decode cX6_value 132 = .ok (.lconst 1, 1) := by decide +kernel
theorem dX6_value_133 : decode cX6_value 133 = .ok (.goto 4, 3) := by decide +kernel
theorem dX6_value_137 : decode cX6_value 137 = .ok (.lstore 6, 2) := by decide +kernel
theorem dX6_value_139 : decode cX6_value 139 = .ok (.goto 24, 3) := by decide +kernel
theorem dX6_value_7 : decode cX6_value 7 = .ok (.iaload, 1) := by decide +kernel
theorem dX6_value_15 : decode cX6_value 15 = .ok (.iaload, 1) := by decide +kernel
theorem dX6_value_16 : decode cX6_value 16 = .ok (.if_icmp .ge 186, 3) := by decide +kernel
theorem dX6_value_204 : decode cX6_value 204 = .ok (.if_icmp .ne 12, 3) := by decide +kernel
theorem dX6_value_212 : decode cX6_value 212 = .ok (.laload, 1) := by decide +kernel
theorem dX6_value_24 : decode cX6_value 24 = .ok (.iaload, 1) := by decide +kernel
theorem dX6_value_30 : decode cX6_value 30 = .ok (.if_icmp .eq 10, 3) := by decide +kernel
theorem dX6_value_61 : decode cX6_value 61 = .ok (.isub, 1) := by decide +kernel
theorem dX6_value_64 : decode cX6_value 64 = .ok (.ifCond .lt 9, 3) := by decide +kernel
theorem dX6_value_70 : decode cX6_value 70 = .ok (.if_icmp .lt 7, 3) := by decide +kernel
theorem dX6_value_80 : decode cX6_value 80 = .ok (.if_icmp .ne 15, 3) := by decide +kernel
theorem dX6_value_88 : decode cX6_value 88 = .ok (.iaload, 1) := by decide +kernel
theorem dX6_value_89 : decode cX6_value 89 = .ok (.i2l, 1) := by decide +kernel
theorem dX6_value_168 : decode cX6_value 168 = .ok (.lcmp, 1) := by decide +kernel
theorem dX6_value_169 : decode cX6_value 169 = .ok (.ifCond .gt 12, 3) := by decide +kernel
theorem dX6_value_177 : decode cX6_value 177 = .ok (.lcmp, 1) := by decide +kernel
theorem dX6_value_178 : decode cX6_value 178 = .ok (.ifCond .ge 7, 3) := by decide +kernel
theorem dX6_value_192 : decode cX6_value 192 = .ok (.lastore, 1) := by decide +kernel
theorem dX6_value_193 : decode cX6_value 193 = .ok (.iinc 2 1, 3) := by decide +kernel
theorem dX6_value_196 : decode cX6_value 196 = .ok (.iinc 3 1, 3) := by decide +kernel
theorem dX6_value_37 : decode cX6_value 37 = .ok (.if_icmp .lt 7, 3) := by decide +kernel
theorem dX6_value_48 : decode cX6_value 48 = .ok (.if_icmp .ne 7, 3) := by decide +kernel
theorem dX6_value_97 : decode cX6_value 97 = .ok (.ifCond .ne 18, 3) := by decide +kernel
theorem dX6_value_118 : decode cX6_value 118 = .ok (.if_icmp .ne 24, 3) := by decide +kernel
theorem dX6_value_149 : decode cX6_value 149 = .ok (.laload, 1) := by decide +kernel
theorem dX6_value_156 : decode cX6_value 156 = .ok (.iadd, 1) := by decide +kernel
theorem dX6_value_157 : decode cX6_value 157 = .ok (.laload, 1) := by decide +kernel
theorem dX6_value_126 : decode cX6_value 126 = .ok (.laload, 1) := by decide +kernel
theorem dX6_value_128 : decode cX6_value 128 = .ok (.lcmp, 1) := by decide +kernel
theorem dX6_value_129 : decode cX6_value 129 = .ok (.ifCond .ne 7, 3) := by decide +kernel
theorem dX6_value_108 : decode cX6_value 108 = .ok (.isub, 1) := by decide +kernel
theorem dX6_value_109 : decode cX6_value 109 = .ok (.laload, 1) := by decide +kernel
abbrev q_X6_value (dC : Nat → ClassId) (dI : Nat → Nat → Nat) (A : Nat → Prop) (ru : Nat) (vp : Int32) (ru_knots : Int32) (ru_kind : Nat) (ru_number : Nat) (ru_from : Nat) (ru_until : Nat) (ru_names : Nat) (ru_stack : Nat) (k_ru_kind : ClassId) (f_ru_kind : Nat → Int32) (k_ru_number : ClassId) (f_ru_number : Nat → Int32) (k_ru_from : ClassId) (f_ru_from : Nat → Int32) (k_ru_until : ClassId) (f_ru_until : Nat → Int32) (k_ru_names : ClassId) (f_ru_names : Nat → Int64) (k_ru_stack : ClassId) (f_ru_stack : Nat → Int64) : Array Value → State → Outcome → State → Prop := va_Ql (fun (r : Int64) (_ : Unit) => True) (fun (_ : Unit) (t : State) => ∃ (g_ru_stack : Nat → Int64), va_P (dC, dI) vwCl [(ru, .inr (6, [.int ru_knots, .ref ru_kind, .ref ru_number, .ref ru_from, .ref ru_until, .ref ru_names, .ref ru_stack])), (ru_kind, .inl (k_ru_kind, 64, .inl f_ru_kind)), (ru_number, .inl (k_ru_number, 64, .inl f_ru_number)), (ru_from, .inl (k_ru_from, 5, .inl f_ru_from)), (ru_until, .inl (k_ru_until, 5, .inl f_ru_until)), (ru_names, .inl (k_ru_names, 5, .inr (.inl f_ru_names))), (ru_stack, .inl (k_ru_stack, 64, .inr (.inl g_ru_stack)))] t.heap ∧ va_D A [(ru, .inr (6, [.int ru_knots, .ref ru_kind, .ref ru_number, .ref ru_from, .ref ru_until, .ref ru_names, .ref ru_stack])), (ru_kind, .inl (k_ru_kind, 64, .inl f_ru_kind)), (ru_number, .inl (k_ru_number, 64, .inl f_ru_number)), (ru_from, .inl (k_ru_from, 5, .inl f_ru_from)), (ru_until, .inl (k_ru_until, 5, .inl f_ru_until)), (ru_names, .inl (k_ru_names, 5, .inr (.inl f_ru_names))), (ru_stack, .inl (k_ru_stack, 64, .inr (.inl g_ru_stack)))]) A
set_option maxHeartbeats 4000000 in
set_option maxRecDepth 100000 in
theorem c_X6_value (l : Launch) (dC : Nat → ClassId) (dI : Nat → Nat → Nat) (sz : Nat) (ru : Nat) (vp : Int32) (ru_knots : Int32) (ru_kind : Nat) (ru_number : Nat) (ru_from : Nat) (ru_until : Nat) (ru_names : Nat) (ru_stack : Nat) (k_ru_kind : ClassId) (f_ru_kind : Nat → Int32) (k_ru_number : ClassId) (f_ru_number : Nat → Int32) (k_ru_from : ClassId) (f_ru_from : Nat → Int32) (k_ru_until : ClassId) (f_ru_until : Nat → Int32) (k_ru_names : ClassId) (f_ru_names : Nat → Int64) (k_ru_stack : ClassId) (f_ru_stack : Nat → Int64) (h_ru_knots : 0 ≤ ru_knots.toInt ∧ ru_knots.toInt ≤ 64) (h_f_ru_kind : Rg f_ru_kind 0 39) (h_f_ru_from : Rg f_ru_from 0 64) (h_f_ru_until : Rg f_ru_until 0 64) (h_vp : 0 ≤ vp.toInt ∧ vp.toInt ≤ 4) : Met l yX6_value (pw_w yX6_value cX6_value 8 (some .long)) ({ frames := 2, cells := 0, slots := 0, locals := 45 }) (va_Pc [.ref ru, .int vp] (fun U => U.heap.size = sz ∧ va_P (dC, dI) vwCl [(ru, .inr (6, [.int ru_knots, .ref ru_kind, .ref ru_number, .ref ru_from, .ref ru_until, .ref ru_names, .ref ru_stack])), (ru_kind, .inl (k_ru_kind, 64, .inl f_ru_kind)), (ru_number, .inl (k_ru_number, 64, .inl f_ru_number)), (ru_from, .inl (k_ru_from, 5, .inl f_ru_from)), (ru_until, .inl (k_ru_until, 5, .inl f_ru_until)), (ru_names, .inl (k_ru_names, 5, .inr (.inl f_ru_names))), (ru_stack, .inl (k_ru_stack, 64, .inr (.inl f_ru_stack)))] U.heap ∧ va_K (dC, dI) vwCl [(k_ru_kind, .int), (k_ru_number, .int), (k_ru_from, .int), (k_ru_until, .int), (k_ru_names, .long), (k_ru_stack, .long)] U ∧ va_D (fun _ => True) [(ru, .inr (6, [.int ru_knots, .ref ru_kind, .ref ru_number, .ref ru_from, .ref ru_until, .ref ru_names, .ref ru_stack])), (ru_kind, .inl (k_ru_kind, 64, .inl f_ru_kind)), (ru_number, .inl (k_ru_number, 64, .inl f_ru_number)), (ru_from, .inl (k_ru_from, 5, .inl f_ru_from)), (ru_until, .inl (k_ru_until, 5, .inl f_ru_until)), (ru_names, .inl (k_ru_names, 5, .inr (.inl f_ru_names))), (ru_stack, .inl (k_ru_stack, 64, .inr (.inl f_ru_stack)))])) (q_X6_value dC dI (va_A [(ru, .inr (6, [.int ru_knots, .ref ru_kind, .ref ru_number, .ref ru_from, .ref ru_until, .ref ru_names, .ref ru_stack])), (ru_kind, .inl (k_ru_kind, 64, .inl f_ru_kind)), (ru_number, .inl (k_ru_number, 64, .inl f_ru_number)), (ru_from, .inl (k_ru_from, 5, .inl f_ru_from)), (ru_until, .inl (k_ru_until, 5, .inl f_ru_until)), (ru_names, .inl (k_ru_names, 5, .inr (.inl f_ru_names))), (ru_stack, .inl (k_ru_stack, 64, .inr (.inl f_ru_stack)))] sz) ru vp ru_knots ru_kind ru_number ru_from ru_until ru_names ru_stack k_ru_kind f_ru_kind k_ru_number f_ru_number k_ru_from f_ru_from k_ru_until f_ru_until k_ru_names f_ru_names k_ru_stack f_ru_stack) 0 0 (va_A [(ru, .inr (6, [.int ru_knots, .ref ru_kind, .ref ru_number, .ref ru_from, .ref ru_until, .ref ru_names, .ref ru_stack])), (ru_kind, .inl (k_ru_kind, 64, .inl f_ru_kind)), (ru_number, .inl (k_ru_number, 64, .inl f_ru_number)), (ru_from, .inl (k_ru_from, 5, .inl f_ru_from)), (ru_until, .inl (k_ru_until, 5, .inl f_ru_until)), (ru_names, .inl (k_ru_names, 5, .inr (.inl f_ru_names))), (ru_stack, .inl (k_ru_stack, 64, .inr (.inl f_ru_stack)))] sz) := by
  refine Met.ofW (cc := cX6_value) (maxL := 8) (ret := (some .long)) (by decide) rfl ?_
  intro p e s m args below meth c s₁ B hml hv
  obtain ⟨rfl, hsz, hP, hK, hD0⟩ := hv
  have hx := B.exec
  have hb := B.bytes
  have hr := B.returns
  have hts := atoms_spec (ws := (pw_w yX6_value cX6_value 8 (some .long))) B.pre
  have hT : ∀ w ∈ pw_T, w.before _ s = true := fun w h => hts w (List.mem_cons_of_mem _ h)
  have hown : s.vm.findClass RX6 = some m.cls := findClass_of_methodNamed B.named
  have hlocks := B.notSynchronized
  subst hsz
  have hD := hD0.self (sz := s.heap.size)
  generalize hAe : va_A [(ru, .inr (6, [.int ru_knots, .ref ru_kind, .ref ru_number, .ref ru_from, .ref ru_until, .ref ru_names, .ref ru_stack])), (ru_kind, .inl (k_ru_kind, 64, .inl f_ru_kind)), (ru_number, .inl (k_ru_number, 64, .inl f_ru_number)), (ru_from, .inl (k_ru_from, 5, .inl f_ru_from)), (ru_until, .inl (k_ru_until, 5, .inl f_ru_until)), (ru_names, .inl (k_ru_names, 5, .inr (.inl f_ru_names))), (ru_stack, .inl (k_ru_stack, 64, .inr (.inl f_ru_stack)))] s.heap.size = A at hD ⊢
  have hA : ∀ q : Nat, s.heap.size ≤ q → A q := fun q h => by rw [← hAe]; exact Or.inr h
  have hS : va_S A s.heap s.heap [] := va_S.rf
  have hP : va_P (dC, dI) vwCl [(ru, .inr (6, [.int ru_knots, .ref ru_kind, .ref ru_number, .ref ru_from, .ref ru_until, .ref ru_names, .ref ru_stack])), (ru_kind, .inl (k_ru_kind, 64, .inl f_ru_kind)), (ru_number, .inl (k_ru_number, 64, .inl f_ru_number)), (ru_from, .inl (k_ru_from, 5, .inl f_ru_from)), (ru_until, .inl (k_ru_until, 5, .inl f_ru_until)), (ru_names, .inl (k_ru_names, 5, .inr (.inl f_ru_names))), (ru_stack, .inl (k_ru_stack, 64, .inr (.inl f_ru_stack)))] s.heap := hP
  have hl := lv_entry ([.ref ru, .int vp]) (n := 8) (Nat.le_of_ble_eq_true rfl)
  rw [lg_entry_eq]
  generalize (lg_sl ([.ref ru, .int vp]) ++ List.replicate (8 - (lg_sl ([.ref ru, .int vp])).length) Slot.unset).toArray = ls at hl ⊢
  have hl : lv_has ls 8 [(0, .ref ru), (1, .int vp)] := hl
  refine lv_iconst (v := 0) hx hb dX6_value_0 (by decide) ?_
  refine lv_istore_n (lv' := [(2, .int 0), (0, .ref ru), (1, .int vp)]) hx hb dX6_value_1 rfl hl (by decide) rfl (fun ls hl => ?_)
  refine lv_aload_n hx hb dX6_value_2 rfl (lv_at hl 1 rfl) ?_
  refine va_get (D := (dC, dI)) (ci := 6) (v := .ref ru_from) (C := RX6) (T := TX6) (N := 7) hx hb hT inX6 hown hK hP 0 rfl rfl 3 (by decide) (hT _ mw_1_168) (fun _ h9 => h9) rfl dX6_value_3 ?_
  refine lv_iload_n hx hb dX6_value_6 rfl (lv_at hl 2 rfl) ?_
  refine va_iald hx hb hK hP 3 2 rfl rfl (vp_in_iff.mpr (by omega)) dX6_value_7 ?_
  refine lv_topi (fun z_1 ez_1 => ?_)
  have kz_1 : 0 ≤ z_1.toInt ∧ z_1.toInt ≤ 64 := by rw [ez_1]; exact h_f_ru_from _
  refine lv_istore_n (lv' := [(3, .int z_1), (2, .int 0), (0, .ref ru), (1, .int vp)]) hx hb dX6_value_8 rfl hl (by decide) rfl (fun ls hl => ?_)
  have loop_76 : ∀ (fu : Nat), ∀ (g_75_l3 : Int32), ∀ (g_75_l2 : Int32), ∀ (g_75_f6 : Nat → Int64), (0 ≤ g_75_l3.toInt ∧ g_75_l3.toInt ≤ 64) → (0 ≤ g_75_l2.toInt ∧ g_75_l2.toInt ≤ 64) → (64 - g_75_l3.toInt < (fu : Int)) → ∀ (H : Heap) (locs : List Loc), va_P (dC, dI) vwCl [(ru, .inr (6, [.int ru_knots, .ref ru_kind, .ref ru_number, .ref ru_from, .ref ru_until, .ref ru_names, .ref ru_stack])), (ru_kind, .inl (k_ru_kind, 64, .inl f_ru_kind)), (ru_number, .inl (k_ru_number, 64, .inl f_ru_number)), (ru_from, .inl (k_ru_from, 5, .inl f_ru_from)), (ru_until, .inl (k_ru_until, 5, .inl f_ru_until)), (ru_names, .inl (k_ru_names, 5, .inr (.inl f_ru_names))), (ru_stack, .inl (k_ru_stack, 64, .inr (.inl g_75_f6)))] H → va_D A [(ru, .inr (6, [.int ru_knots, .ref ru_kind, .ref ru_number, .ref ru_from, .ref ru_until, .ref ru_names, .ref ru_stack])), (ru_kind, .inl (k_ru_kind, 64, .inl f_ru_kind)), (ru_number, .inl (k_ru_number, 64, .inl f_ru_number)), (ru_from, .inl (k_ru_from, 5, .inl f_ru_from)), (ru_until, .inl (k_ru_until, 5, .inl f_ru_until)), (ru_names, .inl (k_ru_names, 5, .inr (.inl f_ru_names))), (ru_stack, .inl (k_ru_stack, 64, .inr (.inl g_75_f6)))] → va_S A s.heap H locs → ∀ (ls : Array Slot), lv_has ls 8 [(3, .int g_75_l3), (2, .int g_75_l2), (0, .ref ru), (1, .int vp)] → W p l e (headSpec (pw_w yX6_value cX6_value 8 (some .long)) ({ frames := 2, cells := 0, slots := 0, locals := 45 })).room s m ([.ref ru, .int vp] : List Value).toArray below meth c H locs 0 0 (MQ below (q_X6_value dC dI A ru vp ru_knots ru_kind ru_number ru_from ru_until ru_names ru_stack k_ru_kind f_ru_kind k_ru_number f_ru_number k_ru_from f_ru_from k_ru_until f_ru_until k_ru_names f_ru_names k_ru_stack f_ru_stack) ([.ref ru, .int vp] : List Value).toArray s 0 0 A) (F0 m 9 ls []) := by
    intro fu
    induction fu with
    | zero => intro g_75_l3 g_75_l2 g_75_f6 hg_75_l3 hg_75_l2 hfu; exact absurd hfu (by omega)
    | succ fu76 ih76 =>
      intro g_75_l3 g_75_l2 g_75_f6 hg_75_l3 hg_75_l2 hfu76 H locs hP hD hS ls hl
      refine lv_iload_n hx hb dX6_value_9 rfl (lv_at hl 0 rfl) ?_
      refine lv_aload_n hx hb dX6_value_10 rfl (lv_at hl 2 rfl) ?_
      refine va_get (D := (dC, dI)) (ci := 6) (v := .ref ru_until) (C := RX6) (T := TX6) (N := 7) hx hb hT inX6 hown hK hP 0 rfl rfl 4 (by decide) (hT _ mw_1_170) (fun _ h9 => h9) rfl dX6_value_11 ?_
      refine lv_iload_n hx hb dX6_value_14 rfl (lv_at hl 3 rfl) ?_
      refine va_iald hx hb hK hP 4 3 rfl rfl (vp_in_iff.mpr (by omega)) dX6_value_15 ?_
      refine lv_topi (fun z_77 ez_77 => ?_)
      have kz_77 : 0 ≤ z_77.toInt ∧ z_77.toInt ≤ 64 := by rw [ez_77]; exact h_f_ru_until _
      refine lv_icmp_ge (tgt := 202) hx hb dX6_value_16 (by decide) (fun c_78 => ?_) (fun c_78 => ?_)
      · have kc_78 := il_le c_78
        refine lv_iload_n hx hb dX6_value_202 rfl (lv_at hl 1 rfl) ?_
        refine lv_iconst (v := 1) hx hb dX6_value_203 (by decide) ?_
        refine lv_icmp_ne (tgt := 216) hx hb dX6_value_204 (by decide) (fun c_79 => ?_) (fun c_79 => ?_)
        · have kc_79 := il_ne c_79
          have := (by decide : (1 : Int32).toInt = 1)
          refine lv_ldc2 (v := (-9223372036854775808)) hx hb hown (hT _ mw_4_92) dX6_value_216 ?_
          have hP9 := hP.sub (ws' := [(ru, .inr (6, [.int ru_knots, .ref ru_kind, .ref ru_number, .ref ru_from, .ref ru_until, .ref ru_names, .ref ru_stack])), (ru_kind, .inl (k_ru_kind, 64, .inl f_ru_kind)), (ru_number, .inl (k_ru_number, 64, .inl f_ru_number)), (ru_from, .inl (k_ru_from, 5, .inl f_ru_from)), (ru_until, .inl (k_ru_until, 5, .inl f_ru_until)), (ru_names, .inl (k_ru_names, 5, .inr (.inl f_ru_names))), (ru_stack, .inl (k_ru_stack, 64, .inr (.inl g_75_f6)))]) [0, 1, 2, 3, 4, 5, 6] rfl
          have hD9 := hD.sub (ws' := [(ru, .inr (6, [.int ru_knots, .ref ru_kind, .ref ru_number, .ref ru_from, .ref ru_until, .ref ru_names, .ref ru_stack])), (ru_kind, .inl (k_ru_kind, 64, .inl f_ru_kind)), (ru_number, .inl (k_ru_number, 64, .inl f_ru_number)), (ru_from, .inl (k_ru_from, 5, .inl f_ru_from)), (ru_until, .inl (k_ru_until, 5, .inl f_ru_until)), (ru_names, .inl (k_ru_names, 5, .inr (.inl f_ru_names))), (ru_stack, .inl (k_ru_stack, 64, .inr (.inl g_75_f6)))]) [0, 1, 2, 3, 4, 5, 6] (by decide) rfl
          exact W.lret (v := (-9223372036854775808)) hx hb hr (fun t ht hW => ⟨⟨(-9223372036854775808), (), rfl, trivial, g_75_f6, by rw [ht]; exact hP9, hD9⟩, hS.F ht⟩) hS.2.2 dX6_value_219
        · have kc_79 := il_eq c_79
          have := (by decide : (1 : Int32).toInt = 1)
          refine lv_aload_n hx hb dX6_value_207 rfl (lv_at hl 2 rfl) ?_
          refine va_get (D := (dC, dI)) (ci := 6) (v := .ref ru_stack) (C := RX6) (T := TX6) (N := 7) hx hb hT inX6 hown hK hP 0 rfl rfl 6 (by decide) (hT _ mw_1_173) (fun _ h9 => h9) rfl dX6_value_208 ?_
          refine lv_iconst (v := 0) hx hb dX6_value_211 (by decide) ?_
          refine va_lald hx hb hK hP 6 5 rfl rfl (pk_in 0 64 (by decide) (by decide) (by decide)) dX6_value_212 ?_
          refine lv_topl (fun z_80 ez_80 => ?_)
          clear ez_80
          refine lv_goto (tgt := 219) hx hb dX6_value_213 (by decide) ?_
          have hP9 := hP.sub (ws' := [(ru, .inr (6, [.int ru_knots, .ref ru_kind, .ref ru_number, .ref ru_from, .ref ru_until, .ref ru_names, .ref ru_stack])), (ru_kind, .inl (k_ru_kind, 64, .inl f_ru_kind)), (ru_number, .inl (k_ru_number, 64, .inl f_ru_number)), (ru_from, .inl (k_ru_from, 5, .inl f_ru_from)), (ru_until, .inl (k_ru_until, 5, .inl f_ru_until)), (ru_names, .inl (k_ru_names, 5, .inr (.inl f_ru_names))), (ru_stack, .inl (k_ru_stack, 64, .inr (.inl g_75_f6)))]) [0, 1, 2, 3, 4, 5, 6] rfl
          have hD9 := hD.sub (ws' := [(ru, .inr (6, [.int ru_knots, .ref ru_kind, .ref ru_number, .ref ru_from, .ref ru_until, .ref ru_names, .ref ru_stack])), (ru_kind, .inl (k_ru_kind, 64, .inl f_ru_kind)), (ru_number, .inl (k_ru_number, 64, .inl f_ru_number)), (ru_from, .inl (k_ru_from, 5, .inl f_ru_from)), (ru_until, .inl (k_ru_until, 5, .inl f_ru_until)), (ru_names, .inl (k_ru_names, 5, .inr (.inl f_ru_names))), (ru_stack, .inl (k_ru_stack, 64, .inr (.inl g_75_f6)))]) [0, 1, 2, 3, 4, 5, 6] (by decide) rfl
          exact W.lret (v := z_80) hx hb hr (fun t ht hW => ⟨⟨z_80, (), rfl, trivial, g_75_f6, by rw [ht]; exact hP9, hD9⟩, hS.F ht⟩) hS.2.2 dX6_value_219
      · have kc_78 := il_nle c_78
        refine lv_aload_n hx hb dX6_value_19 rfl (lv_at hl 2 rfl) ?_
        refine va_get (D := (dC, dI)) (ci := 6) (v := .ref ru_kind) (C := RX6) (T := TX6) (N := 7) hx hb hT inX6 hown hK hP 0 rfl rfl 1 (by decide) (hT _ mw_1_166) (fun _ h9 => h9) rfl dX6_value_20 ?_
        refine lv_iload_n hx hb dX6_value_23 rfl (lv_at hl 0 rfl) ?_
        refine va_iald hx hb hK hP 1 0 rfl rfl (vp_in_iff.mpr (by omega)) dX6_value_24 ?_
        refine lv_topi (fun z_81 ez_81 => ?_)
        have kz_81 : 0 ≤ z_81.toInt ∧ z_81.toInt ≤ 39 := by rw [ez_81]; exact h_f_ru_kind _
        refine lv_istore (lv' := [(4, .int z_81), (3, .int g_75_l3), (2, .int g_75_l2), (0, .ref ru), (1, .int vp)]) hx hb dX6_value_25 hl (by decide) rfl (fun ls hl => ?_)
        refine lv_iload hx hb dX6_value_27 (lv_at hl 0 rfl) ?_
        refine lv_iconst (v := 1) hx hb dX6_value_29 (by decide) ?_
        refine lv_icmp_eq (tgt := 40) hx hb dX6_value_30 (by decide) (fun c_82 => ?_) (fun c_82 => ?_)
        · have kc_82 := il_eq c_82
          have := (by decide : (1 : Int32).toInt = 1)
          refine lv_iconst (v := 0) hx hb dX6_value_40 (by decide) ?_
          refine lv_goto (tgt := 56) hx hb dX6_value_41 (by decide) ?_
          refine lv_istore (lv' := [(5, .int 0), (4, .int z_81), (3, .int g_75_l3), (2, .int g_75_l2), (0, .ref ru), (1, .int vp)]) hx hb dX6_value_56 hl (by decide) rfl (fun ls hl => ?_)
          refine lv_iload_n hx hb dX6_value_58 rfl (lv_at hl 3 rfl) ?_
          refine lv_iload hx hb dX6_value_59 (lv_at hl 0 rfl) ?_
          refine lv_isub hx hb dX6_value_61 ?_
          refine lv_topi (fun z_83 ez_83 => ?_)
          have kz_83 : z_83.toInt = g_75_l2.toInt - 0 := ti_sub ez_83 rfl (by decide) (by omega) (by omega)
          clear ez_83
          refine lv_istore_n (lv' := [(2, .int z_83), (5, .int 0), (4, .int z_81), (3, .int g_75_l3), (0, .ref ru), (1, .int vp)]) hx hb dX6_value_62 rfl hl (by decide) rfl (fun ls hl => ?_)
          refine lv_iload_n hx hb dX6_value_63 rfl (lv_at hl 0 rfl) ?_
          refine lv_if_lt (tgt := 73) hx hb dX6_value_64 (by decide) (fun c_84 => False.elim (by have := il_lt c_84; have := (by decide : (0 : Int32).toInt = 0); omega)) (fun c_84 => ?_)
          have kc_84 := il_nlt c_84
          have := (by decide : (0 : Int32).toInt = 0)
          refine lv_iload_n hx hb dX6_value_67 rfl (lv_at hl 0 rfl) ?_
          refine lv_bipush (v := 64) hx hb dX6_value_68 (by decide) ?_
          refine lv_icmp_lt (tgt := 77) hx hb dX6_value_70 (by decide) (fun c_85 => ?_) (fun c_85 => ?_)
          · have kc_85 := il_lt c_85
            have := (by decide : (64 : Int32).toInt = 64)
            refine lv_iload hx hb dX6_value_77 (lv_at hl 2 rfl) ?_
            refine lv_iconst (v := 1) hx hb dX6_value_79 (by decide) ?_
            refine lv_icmp_ne (tgt := 95) hx hb dX6_value_80 (by decide) (fun c_86 => False.elim (by have := il_ne c_86; have := (by decide : (1 : Int32).toInt = 1); omega)) (fun c_86 => ?_)
            have kc_86 := il_eq c_86
            have := (by decide : (1 : Int32).toInt = 1)
            refine lv_aload_n hx hb dX6_value_83 rfl (lv_at hl 4 rfl) ?_
            refine va_get (D := (dC, dI)) (ci := 6) (v := .ref ru_number) (C := RX6) (T := TX6) (N := 7) hx hb hT inX6 hown hK hP 0 rfl rfl 2 (by decide) (hT _ mw_1_167) (fun _ h9 => h9) rfl dX6_value_84 ?_
            refine lv_iload_n hx hb dX6_value_87 rfl (lv_at hl 3 rfl) ?_
            refine va_iald hx hb hK hP 2 1 rfl rfl (vp_in_iff.mpr (by omega)) dX6_value_88 ?_
            refine lv_topi (fun z_87 ez_87 => ?_)
            refine lv_i2l hx hb dX6_value_89 rfl ?_
            refine lv_topl (fun z_88 ez_88 => ?_)
            refine lv_lstore (lv' := [(6, .long z_88), (2, .int z_83), (5, .int 0), (4, .int z_81), (3, .int g_75_l3), (0, .ref ru), (1, .int vp)]) hx hb dX6_value_90 hl (by decide) rfl (fun ls hl => ?_)
            refine lv_goto (tgt := 163) hx hb dX6_value_92 (by decide) ?_
            refine lv_lload hx hb dX6_value_163 (lv_at hl 0 rfl) ?_
            refine lv_ldc2 (v := 1000000000000) hx hb hown (hT _ mw_4_99) dX6_value_165 ?_
            refine W.lcmp hx hb dX6_value_168 ?_
            refine lv_topi (fun z_89 ez_89 => ?_)
            have kz_89 : -1 ≤ z_89.toInt ∧ z_89.toInt ≤ 1 := lc_rng ez_89
            refine lv_if_gt (tgt := 181) hx hb dX6_value_169 (by decide) (fun c_90 => ?_) (fun c_90 => ?_)
            · have kc_90 := il_lt c_90
              have := (by decide : (0 : Int32).toInt = 0)
              refine lv_ldc2 (v := (-9223372036854775808)) hx hb hown (hT _ mw_4_92) dX6_value_181 ?_
              have hP9 := hP.sub (ws' := [(ru, .inr (6, [.int ru_knots, .ref ru_kind, .ref ru_number, .ref ru_from, .ref ru_until, .ref ru_names, .ref ru_stack])), (ru_kind, .inl (k_ru_kind, 64, .inl f_ru_kind)), (ru_number, .inl (k_ru_number, 64, .inl f_ru_number)), (ru_from, .inl (k_ru_from, 5, .inl f_ru_from)), (ru_until, .inl (k_ru_until, 5, .inl f_ru_until)), (ru_names, .inl (k_ru_names, 5, .inr (.inl f_ru_names))), (ru_stack, .inl (k_ru_stack, 64, .inr (.inl g_75_f6)))]) [0, 1, 2, 3, 4, 5, 6] rfl
              have hD9 := hD.sub (ws' := [(ru, .inr (6, [.int ru_knots, .ref ru_kind, .ref ru_number, .ref ru_from, .ref ru_until, .ref ru_names, .ref ru_stack])), (ru_kind, .inl (k_ru_kind, 64, .inl f_ru_kind)), (ru_number, .inl (k_ru_number, 64, .inl f_ru_number)), (ru_from, .inl (k_ru_from, 5, .inl f_ru_from)), (ru_until, .inl (k_ru_until, 5, .inl f_ru_until)), (ru_names, .inl (k_ru_names, 5, .inr (.inl f_ru_names))), (ru_stack, .inl (k_ru_stack, 64, .inr (.inl g_75_f6)))]) [0, 1, 2, 3, 4, 5, 6] (by decide) rfl
              exact W.lret (v := (-9223372036854775808)) hx hb hr (fun t ht hW => ⟨⟨(-9223372036854775808), (), rfl, trivial, g_75_f6, by rw [ht]; exact hP9, hD9⟩, hS.F ht⟩) hS.2.2 dX6_value_184
            · have kc_90 := il_nlt c_90
              have := (by decide : (0 : Int32).toInt = 0)
              refine lv_lload hx hb dX6_value_172 (lv_at hl 0 rfl) ?_
              refine lv_ldc2 (v := (-1000000000000)) hx hb hown (hT _ mw_4_100) dX6_value_174 ?_
              refine W.lcmp hx hb dX6_value_177 ?_
              refine lv_topi (fun z_91 ez_91 => ?_)
              have kz_91 : -1 ≤ z_91.toInt ∧ z_91.toInt ≤ 1 := lc_rng ez_91
              refine lv_if_ge (tgt := 185) hx hb dX6_value_178 (by decide) (fun c_92 => ?_) (fun c_92 => ?_)
              · have kc_92 := il_le c_92
                have := (by decide : (0 : Int32).toInt = 0)
                refine lv_aload_n hx hb dX6_value_185 rfl (lv_at hl 5 rfl) ?_
                refine va_get (D := (dC, dI)) (ci := 6) (v := .ref ru_stack) (C := RX6) (T := TX6) (N := 7) hx hb hT inX6 hown hK hP 0 rfl rfl 6 (by decide) (hT _ mw_1_173) (fun _ h9 => h9) rfl dX6_value_186 ?_
                refine lv_iload_n hx hb dX6_value_189 rfl (lv_at hl 1 rfl) ?_
                refine lv_lload hx hb dX6_value_190 (lv_at hl 0 rfl) ?_
                refine va_last hx hb hK hP hD hS 6 5 rfl rfl (vp_in_iff.mpr (by omega)) dX6_value_192 (fun H locs hP hD hS => ?_)
                have hP : va_P (dC, dI) vwCl [(ru, .inr (6, [.int ru_knots, .ref ru_kind, .ref ru_number, .ref ru_from, .ref ru_until, .ref ru_names, .ref ru_stack])), (ru_kind, .inl (k_ru_kind, 64, .inl f_ru_kind)), (ru_number, .inl (k_ru_number, 64, .inl f_ru_number)), (ru_from, .inl (k_ru_from, 5, .inl f_ru_from)), (ru_until, .inl (k_ru_until, 5, .inl f_ru_until)), (ru_names, .inl (k_ru_names, 5, .inr (.inl f_ru_names))), (ru_stack, .inl (k_ru_stack, 64, .inr (.inl (vp_updL g_75_f6 (z_83 : Int32).toNatClampNeg z_88))))] H := hP
                have hD : va_D A [(ru, .inr (6, [.int ru_knots, .ref ru_kind, .ref ru_number, .ref ru_from, .ref ru_until, .ref ru_names, .ref ru_stack])), (ru_kind, .inl (k_ru_kind, 64, .inl f_ru_kind)), (ru_number, .inl (k_ru_number, 64, .inl f_ru_number)), (ru_from, .inl (k_ru_from, 5, .inl f_ru_from)), (ru_until, .inl (k_ru_until, 5, .inl f_ru_until)), (ru_names, .inl (k_ru_names, 5, .inr (.inl f_ru_names))), (ru_stack, .inl (k_ru_stack, 64, .inr (.inl (vp_updL g_75_f6 (z_83 : Int32).toNatClampNeg z_88))))] := hD
                obtain ⟨f_93, ef_93⟩ : ∃ g : Nat → Int64, (vp_updL g_75_f6 (z_83 : Int32).toNatClampNeg z_88) = g := ⟨_, rfl⟩
                rw [ef_93] at hP hD
                clear ef_93
                obtain ⟨z_94, ez_94⟩ : ∃ y : Int32, y = z_83 + Int32.ofInt (1) := ⟨_, rfl⟩
                have kz_94 : z_94.toInt = z_83.toInt + (1) := ti_add ez_94 rfl (by decide) (by omega) (by omega)
                refine lv_iinc (v := z_94) (lv' := [(2, .int z_94), (6, .long z_88), (5, .int 0), (4, .int z_81), (3, .int g_75_l3), (0, .ref ru), (1, .int vp)]) hx hb dX6_value_193 hl (k := 1) rfl (ez_94.symm) (by decide) rfl (fun ls hl => ?_)
                clear ez_94
                obtain ⟨z_95, ez_95⟩ : ∃ y : Int32, y = g_75_l3 + Int32.ofInt (1) := ⟨_, rfl⟩
                have kz_95 : z_95.toInt = g_75_l3.toInt + (1) := ti_add ez_95 rfl (by decide) (by omega) (by omega)
                refine lv_iinc (v := z_95) (lv' := [(3, .int z_95), (2, .int z_94), (6, .long z_88), (5, .int 0), (4, .int z_81), (0, .ref ru), (1, .int vp)]) hx hb dX6_value_196 hl (k := 4) rfl (ez_95.symm) (by decide) rfl (fun ls hl => ?_)
                clear ez_95
                refine lv_goto (tgt := 9) hx hb dX6_value_199 (by decide) ?_
                exact ih76 z_95 z_94 f_93 (by omega) (by omega) (by omega) _ _ (hP.sub [0, 1, 2, 3, 4, 5, 6] rfl) (hD.sub [0, 1, 2, 3, 4, 5, 6] (by decide) rfl) hS _ (lv_sub hl [0, 1, 5, 6] rfl)
              · have kc_92 := il_nle c_92
                have := (by decide : (0 : Int32).toInt = 0)
                refine lv_ldc2 (v := (-9223372036854775808)) hx hb hown (hT _ mw_4_92) dX6_value_181 ?_
                have hP9 := hP.sub (ws' := [(ru, .inr (6, [.int ru_knots, .ref ru_kind, .ref ru_number, .ref ru_from, .ref ru_until, .ref ru_names, .ref ru_stack])), (ru_kind, .inl (k_ru_kind, 64, .inl f_ru_kind)), (ru_number, .inl (k_ru_number, 64, .inl f_ru_number)), (ru_from, .inl (k_ru_from, 5, .inl f_ru_from)), (ru_until, .inl (k_ru_until, 5, .inl f_ru_until)), (ru_names, .inl (k_ru_names, 5, .inr (.inl f_ru_names))), (ru_stack, .inl (k_ru_stack, 64, .inr (.inl g_75_f6)))]) [0, 1, 2, 3, 4, 5, 6] rfl
                have hD9 := hD.sub (ws' := [(ru, .inr (6, [.int ru_knots, .ref ru_kind, .ref ru_number, .ref ru_from, .ref ru_until, .ref ru_names, .ref ru_stack])), (ru_kind, .inl (k_ru_kind, 64, .inl f_ru_kind)), (ru_number, .inl (k_ru_number, 64, .inl f_ru_number)), (ru_from, .inl (k_ru_from, 5, .inl f_ru_from)), (ru_until, .inl (k_ru_until, 5, .inl f_ru_until)), (ru_names, .inl (k_ru_names, 5, .inr (.inl f_ru_names))), (ru_stack, .inl (k_ru_stack, 64, .inr (.inl g_75_f6)))]) [0, 1, 2, 3, 4, 5, 6] (by decide) rfl
                exact W.lret (v := (-9223372036854775808)) hx hb hr (fun t ht hW => ⟨⟨(-9223372036854775808), (), rfl, trivial, g_75_f6, by rw [ht]; exact hP9, hD9⟩, hS.F ht⟩) hS.2.2 dX6_value_184
          · have kc_85 := il_nlt c_85
            have := (by decide : (64 : Int32).toInt = 64)
            refine lv_ldc2 (v := (-9223372036854775808)) hx hb hown (hT _ mw_4_92) dX6_value_73 ?_
            have hP9 := hP.sub (ws' := [(ru, .inr (6, [.int ru_knots, .ref ru_kind, .ref ru_number, .ref ru_from, .ref ru_until, .ref ru_names, .ref ru_stack])), (ru_kind, .inl (k_ru_kind, 64, .inl f_ru_kind)), (ru_number, .inl (k_ru_number, 64, .inl f_ru_number)), (ru_from, .inl (k_ru_from, 5, .inl f_ru_from)), (ru_until, .inl (k_ru_until, 5, .inl f_ru_until)), (ru_names, .inl (k_ru_names, 5, .inr (.inl f_ru_names))), (ru_stack, .inl (k_ru_stack, 64, .inr (.inl g_75_f6)))]) [0, 1, 2, 3, 4, 5, 6] rfl
            have hD9 := hD.sub (ws' := [(ru, .inr (6, [.int ru_knots, .ref ru_kind, .ref ru_number, .ref ru_from, .ref ru_until, .ref ru_names, .ref ru_stack])), (ru_kind, .inl (k_ru_kind, 64, .inl f_ru_kind)), (ru_number, .inl (k_ru_number, 64, .inl f_ru_number)), (ru_from, .inl (k_ru_from, 5, .inl f_ru_from)), (ru_until, .inl (k_ru_until, 5, .inl f_ru_until)), (ru_names, .inl (k_ru_names, 5, .inr (.inl f_ru_names))), (ru_stack, .inl (k_ru_stack, 64, .inr (.inl g_75_f6)))]) [0, 1, 2, 3, 4, 5, 6] (by decide) rfl
            exact W.lret (v := (-9223372036854775808)) hx hb hr (fun t ht hW => ⟨⟨(-9223372036854775808), (), rfl, trivial, g_75_f6, by rw [ht]; exact hP9, hD9⟩, hS.F ht⟩) hS.2.2 dX6_value_76
        · have kc_82 := il_ne c_82
          have := (by decide : (1 : Int32).toInt = 1)
          refine lv_iload hx hb dX6_value_33 (lv_at hl 0 rfl) ?_
          refine lv_bipush (v := 35) hx hb dX6_value_35 (by decide) ?_
          refine lv_icmp_lt (tgt := 44) hx hb dX6_value_37 (by decide) (fun c_96 => ?_) (fun c_96 => ?_)
          · have kc_96 := il_lt c_96
            have := (by decide : (35 : Int32).toInt = 35)
            refine lv_iload hx hb dX6_value_44 (lv_at hl 0 rfl) ?_
            refine lv_bipush (v := 34) hx hb dX6_value_46 (by decide) ?_
            refine lv_icmp_ne (tgt := 55) hx hb dX6_value_48 (by decide) (fun c_97 => ?_) (fun c_97 => ?_)
            · have kc_97 := il_ne c_97
              have := (by decide : (34 : Int32).toInt = 34)
              refine lv_iconst (v := 2) hx hb dX6_value_55 (by decide) ?_
              refine lv_istore (lv' := [(5, .int 2), (4, .int z_81), (3, .int g_75_l3), (2, .int g_75_l2), (0, .ref ru), (1, .int vp)]) hx hb dX6_value_56 hl (by decide) rfl (fun ls hl => ?_)
              refine lv_iload_n hx hb dX6_value_58 rfl (lv_at hl 3 rfl) ?_
              refine lv_iload hx hb dX6_value_59 (lv_at hl 0 rfl) ?_
              refine lv_isub hx hb dX6_value_61 ?_
              refine lv_topi (fun z_98 ez_98 => ?_)
              have kz_98 : z_98.toInt = g_75_l2.toInt - 2 := ti_sub ez_98 rfl (by decide) (by omega) (by omega)
              clear ez_98
              refine lv_istore_n (lv' := [(2, .int z_98), (5, .int 2), (4, .int z_81), (3, .int g_75_l3), (0, .ref ru), (1, .int vp)]) hx hb dX6_value_62 rfl hl (by decide) rfl (fun ls hl => ?_)
              refine lv_iload_n hx hb dX6_value_63 rfl (lv_at hl 0 rfl) ?_
              refine lv_if_lt (tgt := 73) hx hb dX6_value_64 (by decide) (fun c_99 => ?_) (fun c_99 => ?_)
              · have kc_99 := il_lt c_99
                have := (by decide : (0 : Int32).toInt = 0)
                refine lv_ldc2 (v := (-9223372036854775808)) hx hb hown (hT _ mw_4_92) dX6_value_73 ?_
                have hP9 := hP.sub (ws' := [(ru, .inr (6, [.int ru_knots, .ref ru_kind, .ref ru_number, .ref ru_from, .ref ru_until, .ref ru_names, .ref ru_stack])), (ru_kind, .inl (k_ru_kind, 64, .inl f_ru_kind)), (ru_number, .inl (k_ru_number, 64, .inl f_ru_number)), (ru_from, .inl (k_ru_from, 5, .inl f_ru_from)), (ru_until, .inl (k_ru_until, 5, .inl f_ru_until)), (ru_names, .inl (k_ru_names, 5, .inr (.inl f_ru_names))), (ru_stack, .inl (k_ru_stack, 64, .inr (.inl g_75_f6)))]) [0, 1, 2, 3, 4, 5, 6] rfl
                have hD9 := hD.sub (ws' := [(ru, .inr (6, [.int ru_knots, .ref ru_kind, .ref ru_number, .ref ru_from, .ref ru_until, .ref ru_names, .ref ru_stack])), (ru_kind, .inl (k_ru_kind, 64, .inl f_ru_kind)), (ru_number, .inl (k_ru_number, 64, .inl f_ru_number)), (ru_from, .inl (k_ru_from, 5, .inl f_ru_from)), (ru_until, .inl (k_ru_until, 5, .inl f_ru_until)), (ru_names, .inl (k_ru_names, 5, .inr (.inl f_ru_names))), (ru_stack, .inl (k_ru_stack, 64, .inr (.inl g_75_f6)))]) [0, 1, 2, 3, 4, 5, 6] (by decide) rfl
                exact W.lret (v := (-9223372036854775808)) hx hb hr (fun t ht hW => ⟨⟨(-9223372036854775808), (), rfl, trivial, g_75_f6, by rw [ht]; exact hP9, hD9⟩, hS.F ht⟩) hS.2.2 dX6_value_76
              · have kc_99 := il_nlt c_99
                have := (by decide : (0 : Int32).toInt = 0)
                refine lv_iload_n hx hb dX6_value_67 rfl (lv_at hl 0 rfl) ?_
                refine lv_bipush (v := 64) hx hb dX6_value_68 (by decide) ?_
                refine lv_icmp_lt (tgt := 77) hx hb dX6_value_70 (by decide) (fun c_100 => ?_) (fun c_100 => False.elim (by have := il_nlt c_100; have := (by decide : (64 : Int32).toInt = 64); omega))
                have kc_100 := il_lt c_100
                have := (by decide : (64 : Int32).toInt = 64)
                refine lv_iload hx hb dX6_value_77 (lv_at hl 2 rfl) ?_
                refine lv_iconst (v := 1) hx hb dX6_value_79 (by decide) ?_
                refine lv_icmp_ne (tgt := 95) hx hb dX6_value_80 (by decide) (fun c_101 => ?_) (fun c_101 => False.elim (by have := il_eq c_101; have := (by decide : (1 : Int32).toInt = 1); omega))
                have kc_101 := il_ne c_101
                have := (by decide : (1 : Int32).toInt = 1)
                refine lv_iload hx hb dX6_value_95 (lv_at hl 1 rfl) ?_
                refine lv_if_ne (tgt := 115) hx hb dX6_value_97 (by decide) (fun c_102 => ?_) (fun c_102 => absurd c_102 (by decide))
                refine lv_iload hx hb dX6_value_115 (lv_at hl 1 rfl) ?_
                refine lv_iconst (v := 1) hx hb dX6_value_117 (by decide) ?_
                refine lv_icmp_ne (tgt := 142) hx hb dX6_value_118 (by decide) (fun c_103 => ?_) (fun c_103 => absurd c_103 (by decide))
                refine lv_iload hx hb dX6_value_142 (lv_at hl 2 rfl) ?_
                refine lv_aload_n hx hb dX6_value_144 rfl (lv_at hl 4 rfl) ?_
                refine va_get (D := (dC, dI)) (ci := 6) (v := .ref ru_stack) (C := RX6) (T := TX6) (N := 7) hx hb hT inX6 hown hK hP 0 rfl rfl 6 (by decide) (hT _ mw_1_173) (fun _ h9 => h9) rfl dX6_value_145 ?_
                refine lv_iload_n hx hb dX6_value_148 rfl (lv_at hl 0 rfl) ?_
                refine va_lald hx hb hK hP 6 5 rfl rfl (vp_in_iff.mpr (by omega)) dX6_value_149 ?_
                refine lv_topl (fun z_104 ez_104 => ?_)
                clear ez_104
                refine lv_aload_n hx hb dX6_value_150 rfl (lv_at hl 4 rfl) ?_
                refine va_get (D := (dC, dI)) (ci := 6) (v := .ref ru_stack) (C := RX6) (T := TX6) (N := 7) hx hb hT inX6 hown hK hP 0 rfl rfl 6 (by decide) (hT _ mw_1_173) (fun _ h9 => h9) rfl dX6_value_151 ?_
                refine lv_iload_n hx hb dX6_value_154 rfl (lv_at hl 0 rfl) ?_
                refine lv_iconst (v := 1) hx hb dX6_value_155 (by decide) ?_
                refine lv_iadd hx hb dX6_value_156 ?_
                refine lv_topi (fun z_105 ez_105 => ?_)
                have kz_105 : z_105.toInt = z_98.toInt + 1 := ti_add ez_105 rfl (by decide) (by omega) (by omega)
                clear ez_105
                refine va_lald hx hb hK hP 6 5 rfl rfl (vp_in_iff.mpr (by omega)) dX6_value_157 ?_
                refine lv_topl (fun z_106 ez_106 => ?_)
                clear ez_106
                have hPc := hP.sub (ws' := []) [] rfl
                have hDc := hD.sub (ws' := []) [] (by decide) rfl
                have hKc := hK.sub (tys' := []) [] rfl
                have hFc := va_free (wc := []) hD hS hA [] rfl
                refine va_calll (va_runS (As := [.int z_81, .long z_104, .long z_106]) (rest := []) ⟨hx, hb, hml, hown, hT⟩ (c_X6_joined l dC dI H.size z_81 z_104 z_106 ) (va_cwS 3 hT (gwS mw_4_93 mw_4_94 mw_1_9 mw_4_95) rfl rfl rfl (by decide +kernel) ⟨Nat.le_of_ble_eq_true rfl, Nat.le_of_ble_eq_true rfl⟩) ⟨fun a U g mk q => by obtain ⟨q0, q1, qP, qK, qD⟩ := q; exact ⟨q0, q1, qP, va_K.moved (u := U) (U := U.calling g mk a) (Vm.Alike.refl U.vm) qK, qD⟩, fun U hU hW => ⟨rfl, by rw [hU], by rw [hU]; exact hPc, va_K.moved hW.alike hKc, hDc.weaken (fun _ _ _ _ => trivial)⟩⟩ rfl rfl hl.1 rfl (lv_room (Nat.le_of_ble_eq_true rfl)) dX6_value_158 ⟨Nat.le_of_ble_eq_true rfl, Nat.le_of_ble_eq_true rfl⟩) hS (fun q _ h => hFc q h) hFc (fun r_107 u t H1 locs ht hvm hw hB hz1 hk1 hS => ?_)
                obtain ⟨hP1, hD1⟩ := hB
                rw [ht] at hP1
                obtain ⟨hP, hD⟩ := va_join (wr := [(ru, .inr (6, [.int ru_knots, .ref ru_kind, .ref ru_number, .ref ru_from, .ref ru_until, .ref ru_names, .ref ru_stack])), (ru_kind, .inl (k_ru_kind, 64, .inl f_ru_kind)), (ru_number, .inl (k_ru_number, 64, .inl f_ru_number)), (ru_from, .inl (k_ru_from, 5, .inl f_ru_from)), (ru_until, .inl (k_ru_until, 5, .inl f_ru_until)), (ru_names, .inl (k_ru_names, 5, .inr (.inl f_ru_names))), (ru_stack, .inl (k_ru_stack, 64, .inr (.inl g_75_f6)))]) (w1 := []) hP hD [] [0, 1, 2, 3, 4, 5, 6] rfl rfl (by decide) (by decide) hk1 hFc hP1 hD1
                generalize H1 = H at hP hS ⊢
                have hP : va_P (dC, dI) vwCl [(ru, .inr (6, [.int ru_knots, .ref ru_kind, .ref ru_number, .ref ru_from, .ref ru_until, .ref ru_names, .ref ru_stack])), (ru_kind, .inl (k_ru_kind, 64, .inl f_ru_kind)), (ru_number, .inl (k_ru_number, 64, .inl f_ru_number)), (ru_from, .inl (k_ru_from, 5, .inl f_ru_from)), (ru_until, .inl (k_ru_until, 5, .inl f_ru_until)), (ru_names, .inl (k_ru_names, 5, .inr (.inl f_ru_names))), (ru_stack, .inl (k_ru_stack, 64, .inr (.inl g_75_f6)))] H := hP
                have hD : va_D A [(ru, .inr (6, [.int ru_knots, .ref ru_kind, .ref ru_number, .ref ru_from, .ref ru_until, .ref ru_names, .ref ru_stack])), (ru_kind, .inl (k_ru_kind, 64, .inl f_ru_kind)), (ru_number, .inl (k_ru_number, 64, .inl f_ru_number)), (ru_from, .inl (k_ru_from, 5, .inl f_ru_from)), (ru_until, .inl (k_ru_until, 5, .inl f_ru_until)), (ru_names, .inl (k_ru_names, 5, .inr (.inl f_ru_names))), (ru_stack, .inl (k_ru_stack, 64, .inr (.inl g_75_f6)))] := hD
                clear hPc hDc hKc hFc hP1 hD1 hk1 hz1 ht hvm
                have hwr_107 : True := hw
                clear hw
                clear hwr_107
                refine lv_lstore (lv' := [(6, .long r_107), (2, .int z_98), (5, .int 2), (4, .int z_81), (3, .int g_75_l3), (0, .ref ru), (1, .int vp)]) hx hb dX6_value_161 hl (by decide) rfl (fun ls hl => ?_)
                refine lv_lload hx hb dX6_value_163 (lv_at hl 0 rfl) ?_
                refine lv_ldc2 (v := 1000000000000) hx hb hown (hT _ mw_4_99) dX6_value_165 ?_
                refine W.lcmp hx hb dX6_value_168 ?_
                refine lv_topi (fun z_108 ez_108 => ?_)
                have kz_108 : -1 ≤ z_108.toInt ∧ z_108.toInt ≤ 1 := lc_rng ez_108
                refine lv_if_gt (tgt := 181) hx hb dX6_value_169 (by decide) (fun c_109 => ?_) (fun c_109 => ?_)
                · have kc_109 := il_lt c_109
                  have := (by decide : (0 : Int32).toInt = 0)
                  refine lv_ldc2 (v := (-9223372036854775808)) hx hb hown (hT _ mw_4_92) dX6_value_181 ?_
                  have hP9 := hP.sub (ws' := [(ru, .inr (6, [.int ru_knots, .ref ru_kind, .ref ru_number, .ref ru_from, .ref ru_until, .ref ru_names, .ref ru_stack])), (ru_kind, .inl (k_ru_kind, 64, .inl f_ru_kind)), (ru_number, .inl (k_ru_number, 64, .inl f_ru_number)), (ru_from, .inl (k_ru_from, 5, .inl f_ru_from)), (ru_until, .inl (k_ru_until, 5, .inl f_ru_until)), (ru_names, .inl (k_ru_names, 5, .inr (.inl f_ru_names))), (ru_stack, .inl (k_ru_stack, 64, .inr (.inl g_75_f6)))]) [0, 1, 2, 3, 4, 5, 6] rfl
                  have hD9 := hD.sub (ws' := [(ru, .inr (6, [.int ru_knots, .ref ru_kind, .ref ru_number, .ref ru_from, .ref ru_until, .ref ru_names, .ref ru_stack])), (ru_kind, .inl (k_ru_kind, 64, .inl f_ru_kind)), (ru_number, .inl (k_ru_number, 64, .inl f_ru_number)), (ru_from, .inl (k_ru_from, 5, .inl f_ru_from)), (ru_until, .inl (k_ru_until, 5, .inl f_ru_until)), (ru_names, .inl (k_ru_names, 5, .inr (.inl f_ru_names))), (ru_stack, .inl (k_ru_stack, 64, .inr (.inl g_75_f6)))]) [0, 1, 2, 3, 4, 5, 6] (by decide) rfl
                  exact W.lret (v := (-9223372036854775808)) hx hb hr (fun t ht hW => ⟨⟨(-9223372036854775808), (), rfl, trivial, g_75_f6, by rw [ht]; exact hP9, hD9⟩, hS.F ht⟩) hS.2.2 dX6_value_184
                · have kc_109 := il_nlt c_109
                  have := (by decide : (0 : Int32).toInt = 0)
                  refine lv_lload hx hb dX6_value_172 (lv_at hl 0 rfl) ?_
                  refine lv_ldc2 (v := (-1000000000000)) hx hb hown (hT _ mw_4_100) dX6_value_174 ?_
                  refine W.lcmp hx hb dX6_value_177 ?_
                  refine lv_topi (fun z_110 ez_110 => ?_)
                  have kz_110 : -1 ≤ z_110.toInt ∧ z_110.toInt ≤ 1 := lc_rng ez_110
                  refine lv_if_ge (tgt := 185) hx hb dX6_value_178 (by decide) (fun c_111 => ?_) (fun c_111 => ?_)
                  · have kc_111 := il_le c_111
                    have := (by decide : (0 : Int32).toInt = 0)
                    refine lv_aload_n hx hb dX6_value_185 rfl (lv_at hl 5 rfl) ?_
                    refine va_get (D := (dC, dI)) (ci := 6) (v := .ref ru_stack) (C := RX6) (T := TX6) (N := 7) hx hb hT inX6 hown hK hP 0 rfl rfl 6 (by decide) (hT _ mw_1_173) (fun _ h9 => h9) rfl dX6_value_186 ?_
                    refine lv_iload_n hx hb dX6_value_189 rfl (lv_at hl 1 rfl) ?_
                    refine lv_lload hx hb dX6_value_190 (lv_at hl 0 rfl) ?_
                    refine va_last hx hb hK hP hD hS 6 5 rfl rfl (vp_in_iff.mpr (by omega)) dX6_value_192 (fun H locs hP hD hS => ?_)
                    have hP : va_P (dC, dI) vwCl [(ru, .inr (6, [.int ru_knots, .ref ru_kind, .ref ru_number, .ref ru_from, .ref ru_until, .ref ru_names, .ref ru_stack])), (ru_kind, .inl (k_ru_kind, 64, .inl f_ru_kind)), (ru_number, .inl (k_ru_number, 64, .inl f_ru_number)), (ru_from, .inl (k_ru_from, 5, .inl f_ru_from)), (ru_until, .inl (k_ru_until, 5, .inl f_ru_until)), (ru_names, .inl (k_ru_names, 5, .inr (.inl f_ru_names))), (ru_stack, .inl (k_ru_stack, 64, .inr (.inl (vp_updL g_75_f6 (z_98 : Int32).toNatClampNeg r_107))))] H := hP
                    have hD : va_D A [(ru, .inr (6, [.int ru_knots, .ref ru_kind, .ref ru_number, .ref ru_from, .ref ru_until, .ref ru_names, .ref ru_stack])), (ru_kind, .inl (k_ru_kind, 64, .inl f_ru_kind)), (ru_number, .inl (k_ru_number, 64, .inl f_ru_number)), (ru_from, .inl (k_ru_from, 5, .inl f_ru_from)), (ru_until, .inl (k_ru_until, 5, .inl f_ru_until)), (ru_names, .inl (k_ru_names, 5, .inr (.inl f_ru_names))), (ru_stack, .inl (k_ru_stack, 64, .inr (.inl (vp_updL g_75_f6 (z_98 : Int32).toNatClampNeg r_107))))] := hD
                    obtain ⟨f_112, ef_112⟩ : ∃ g : Nat → Int64, (vp_updL g_75_f6 (z_98 : Int32).toNatClampNeg r_107) = g := ⟨_, rfl⟩
                    rw [ef_112] at hP hD
                    clear ef_112
                    obtain ⟨z_113, ez_113⟩ : ∃ y : Int32, y = z_98 + Int32.ofInt (1) := ⟨_, rfl⟩
                    have kz_113 : z_113.toInt = z_98.toInt + (1) := ti_add ez_113 rfl (by decide) (by omega) (by omega)
                    refine lv_iinc (v := z_113) (lv' := [(2, .int z_113), (6, .long r_107), (5, .int 2), (4, .int z_81), (3, .int g_75_l3), (0, .ref ru), (1, .int vp)]) hx hb dX6_value_193 hl (k := 1) rfl (ez_113.symm) (by decide) rfl (fun ls hl => ?_)
                    clear ez_113
                    obtain ⟨z_114, ez_114⟩ : ∃ y : Int32, y = g_75_l3 + Int32.ofInt (1) := ⟨_, rfl⟩
                    have kz_114 : z_114.toInt = g_75_l3.toInt + (1) := ti_add ez_114 rfl (by decide) (by omega) (by omega)
                    refine lv_iinc (v := z_114) (lv' := [(3, .int z_114), (2, .int z_113), (6, .long r_107), (5, .int 2), (4, .int z_81), (0, .ref ru), (1, .int vp)]) hx hb dX6_value_196 hl (k := 4) rfl (ez_114.symm) (by decide) rfl (fun ls hl => ?_)
                    clear ez_114
                    refine lv_goto (tgt := 9) hx hb dX6_value_199 (by decide) ?_
                    exact ih76 z_114 z_113 f_112 (by omega) (by omega) (by omega) _ _ (hP.sub [0, 1, 2, 3, 4, 5, 6] rfl) (hD.sub [0, 1, 2, 3, 4, 5, 6] (by decide) rfl) hS _ (lv_sub hl [0, 1, 5, 6] rfl)
                  · have kc_111 := il_nle c_111
                    have := (by decide : (0 : Int32).toInt = 0)
                    refine lv_ldc2 (v := (-9223372036854775808)) hx hb hown (hT _ mw_4_92) dX6_value_181 ?_
                    have hP9 := hP.sub (ws' := [(ru, .inr (6, [.int ru_knots, .ref ru_kind, .ref ru_number, .ref ru_from, .ref ru_until, .ref ru_names, .ref ru_stack])), (ru_kind, .inl (k_ru_kind, 64, .inl f_ru_kind)), (ru_number, .inl (k_ru_number, 64, .inl f_ru_number)), (ru_from, .inl (k_ru_from, 5, .inl f_ru_from)), (ru_until, .inl (k_ru_until, 5, .inl f_ru_until)), (ru_names, .inl (k_ru_names, 5, .inr (.inl f_ru_names))), (ru_stack, .inl (k_ru_stack, 64, .inr (.inl g_75_f6)))]) [0, 1, 2, 3, 4, 5, 6] rfl
                    have hD9 := hD.sub (ws' := [(ru, .inr (6, [.int ru_knots, .ref ru_kind, .ref ru_number, .ref ru_from, .ref ru_until, .ref ru_names, .ref ru_stack])), (ru_kind, .inl (k_ru_kind, 64, .inl f_ru_kind)), (ru_number, .inl (k_ru_number, 64, .inl f_ru_number)), (ru_from, .inl (k_ru_from, 5, .inl f_ru_from)), (ru_until, .inl (k_ru_until, 5, .inl f_ru_until)), (ru_names, .inl (k_ru_names, 5, .inr (.inl f_ru_names))), (ru_stack, .inl (k_ru_stack, 64, .inr (.inl g_75_f6)))]) [0, 1, 2, 3, 4, 5, 6] (by decide) rfl
                    exact W.lret (v := (-9223372036854775808)) hx hb hr (fun t ht hW => ⟨⟨(-9223372036854775808), (), rfl, trivial, g_75_f6, by rw [ht]; exact hP9, hD9⟩, hS.F ht⟩) hS.2.2 dX6_value_184
            · have kc_97 := il_eq c_97
              have := (by decide : (34 : Int32).toInt = 34)
              refine lv_iconst (v := 1) hx hb dX6_value_51 (by decide) ?_
              refine lv_goto (tgt := 56) hx hb dX6_value_52 (by decide) ?_
              refine lv_istore (lv' := [(5, .int 1), (4, .int z_81), (3, .int g_75_l3), (2, .int g_75_l2), (0, .ref ru), (1, .int vp)]) hx hb dX6_value_56 hl (by decide) rfl (fun ls hl => ?_)
              refine lv_iload_n hx hb dX6_value_58 rfl (lv_at hl 3 rfl) ?_
              refine lv_iload hx hb dX6_value_59 (lv_at hl 0 rfl) ?_
              refine lv_isub hx hb dX6_value_61 ?_
              refine lv_topi (fun z_115 ez_115 => ?_)
              have kz_115 : z_115.toInt = g_75_l2.toInt - 1 := ti_sub ez_115 rfl (by decide) (by omega) (by omega)
              clear ez_115
              refine lv_istore_n (lv' := [(2, .int z_115), (5, .int 1), (4, .int z_81), (3, .int g_75_l3), (0, .ref ru), (1, .int vp)]) hx hb dX6_value_62 rfl hl (by decide) rfl (fun ls hl => ?_)
              refine lv_iload_n hx hb dX6_value_63 rfl (lv_at hl 0 rfl) ?_
              refine lv_if_lt (tgt := 73) hx hb dX6_value_64 (by decide) (fun c_116 => ?_) (fun c_116 => ?_)
              · have kc_116 := il_lt c_116
                have := (by decide : (0 : Int32).toInt = 0)
                refine lv_ldc2 (v := (-9223372036854775808)) hx hb hown (hT _ mw_4_92) dX6_value_73 ?_
                have hP9 := hP.sub (ws' := [(ru, .inr (6, [.int ru_knots, .ref ru_kind, .ref ru_number, .ref ru_from, .ref ru_until, .ref ru_names, .ref ru_stack])), (ru_kind, .inl (k_ru_kind, 64, .inl f_ru_kind)), (ru_number, .inl (k_ru_number, 64, .inl f_ru_number)), (ru_from, .inl (k_ru_from, 5, .inl f_ru_from)), (ru_until, .inl (k_ru_until, 5, .inl f_ru_until)), (ru_names, .inl (k_ru_names, 5, .inr (.inl f_ru_names))), (ru_stack, .inl (k_ru_stack, 64, .inr (.inl g_75_f6)))]) [0, 1, 2, 3, 4, 5, 6] rfl
                have hD9 := hD.sub (ws' := [(ru, .inr (6, [.int ru_knots, .ref ru_kind, .ref ru_number, .ref ru_from, .ref ru_until, .ref ru_names, .ref ru_stack])), (ru_kind, .inl (k_ru_kind, 64, .inl f_ru_kind)), (ru_number, .inl (k_ru_number, 64, .inl f_ru_number)), (ru_from, .inl (k_ru_from, 5, .inl f_ru_from)), (ru_until, .inl (k_ru_until, 5, .inl f_ru_until)), (ru_names, .inl (k_ru_names, 5, .inr (.inl f_ru_names))), (ru_stack, .inl (k_ru_stack, 64, .inr (.inl g_75_f6)))]) [0, 1, 2, 3, 4, 5, 6] (by decide) rfl
                exact W.lret (v := (-9223372036854775808)) hx hb hr (fun t ht hW => ⟨⟨(-9223372036854775808), (), rfl, trivial, g_75_f6, by rw [ht]; exact hP9, hD9⟩, hS.F ht⟩) hS.2.2 dX6_value_76
              · have kc_116 := il_nlt c_116
                have := (by decide : (0 : Int32).toInt = 0)
                refine lv_iload_n hx hb dX6_value_67 rfl (lv_at hl 0 rfl) ?_
                refine lv_bipush (v := 64) hx hb dX6_value_68 (by decide) ?_
                refine lv_icmp_lt (tgt := 77) hx hb dX6_value_70 (by decide) (fun c_117 => ?_) (fun c_117 => False.elim (by have := il_nlt c_117; have := (by decide : (64 : Int32).toInt = 64); omega))
                have kc_117 := il_lt c_117
                have := (by decide : (64 : Int32).toInt = 64)
                refine lv_iload hx hb dX6_value_77 (lv_at hl 2 rfl) ?_
                refine lv_iconst (v := 1) hx hb dX6_value_79 (by decide) ?_
                refine lv_icmp_ne (tgt := 95) hx hb dX6_value_80 (by decide) (fun c_118 => ?_) (fun c_118 => False.elim (by have := il_eq c_118; have := (by decide : (1 : Int32).toInt = 1); omega))
                have kc_118 := il_ne c_118
                have := (by decide : (1 : Int32).toInt = 1)
                refine lv_iload hx hb dX6_value_95 (lv_at hl 1 rfl) ?_
                refine lv_if_ne (tgt := 115) hx hb dX6_value_97 (by decide) (fun c_119 => ?_) (fun c_119 => absurd c_119 (by decide))
                refine lv_iload hx hb dX6_value_115 (lv_at hl 1 rfl) ?_
                refine lv_iconst (v := 1) hx hb dX6_value_117 (by decide) ?_
                refine lv_icmp_ne (tgt := 142) hx hb dX6_value_118 (by decide) (fun c_120 => absurd c_120 (by decide)) (fun c_120 => ?_)
                refine lv_aload_n hx hb dX6_value_121 rfl (lv_at hl 4 rfl) ?_
                refine va_get (D := (dC, dI)) (ci := 6) (v := .ref ru_stack) (C := RX6) (T := TX6) (N := 7) hx hb hT inX6 hown hK hP 0 rfl rfl 6 (by decide) (hT _ mw_1_173) (fun _ h9 => h9) rfl dX6_value_122 ?_
                refine lv_iload_n hx hb dX6_value_125 rfl (lv_at hl 0 rfl) ?_
                refine va_lald hx hb hK hP 6 5 rfl rfl (vp_in_iff.mpr (by omega)) dX6_value_126 ?_
                refine lv_topl (fun z_121 ez_121 => ?_)
                clear ez_121
                refine lv_lconst (v := 0) hx hb dX6_value_127 (by decide) ?_
                refine W.lcmp hx hb dX6_value_128 ?_
                refine lv_topi (fun z_122 ez_122 => ?_)
                have kz_122 : -1 ≤ z_122.toInt ∧ z_122.toInt ≤ 1 := lc_rng ez_122
                have join_126 : ∀ (g_125_s0 : Int64), ∀ (H : Heap) (locs : List Loc), va_P (dC, dI) vwCl [(ru, .inr (6, [.int ru_knots, .ref ru_kind, .ref ru_number, .ref ru_from, .ref ru_until, .ref ru_names, .ref ru_stack])), (ru_kind, .inl (k_ru_kind, 64, .inl f_ru_kind)), (ru_number, .inl (k_ru_number, 64, .inl f_ru_number)), (ru_from, .inl (k_ru_from, 5, .inl f_ru_from)), (ru_until, .inl (k_ru_until, 5, .inl f_ru_until)), (ru_names, .inl (k_ru_names, 5, .inr (.inl f_ru_names))), (ru_stack, .inl (k_ru_stack, 64, .inr (.inl g_75_f6)))] H → va_D A [(ru, .inr (6, [.int ru_knots, .ref ru_kind, .ref ru_number, .ref ru_from, .ref ru_until, .ref ru_names, .ref ru_stack])), (ru_kind, .inl (k_ru_kind, 64, .inl f_ru_kind)), (ru_number, .inl (k_ru_number, 64, .inl f_ru_number)), (ru_from, .inl (k_ru_from, 5, .inl f_ru_from)), (ru_until, .inl (k_ru_until, 5, .inl f_ru_until)), (ru_names, .inl (k_ru_names, 5, .inr (.inl f_ru_names))), (ru_stack, .inl (k_ru_stack, 64, .inr (.inl g_75_f6)))] → va_S A s.heap H locs → ∀ (ls : Array Slot), lv_has ls 8 [(2, .int z_115), (5, .int 1), (4, .int z_81), (3, .int g_75_l3), (0, .ref ru), (1, .int vp)] → W p l e (headSpec (pw_w yX6_value cX6_value 8 (some .long)) ({ frames := 2, cells := 0, slots := 0, locals := 45 })).room s m ([.ref ru, .int vp] : List Value).toArray below meth c H locs 0 0 (MQ below (q_X6_value dC dI A ru vp ru_knots ru_kind ru_number ru_from ru_until ru_names ru_stack k_ru_kind f_ru_kind k_ru_number f_ru_number k_ru_from f_ru_from k_ru_until f_ru_until k_ru_names f_ru_names k_ru_stack f_ru_stack) ([.ref ru, .int vp] : List Value).toArray s 0 0 A) (F0 m 137 ls [.long g_125_s0]) := by
                  intro g_125_s0 H locs hP hD hS ls hl
                  refine lv_lstore (lv' := [(6, .long g_125_s0), (2, .int z_115), (5, .int 1), (4, .int z_81), (3, .int g_75_l3), (0, .ref ru), (1, .int vp)]) hx hb dX6_value_137 hl (by decide) rfl (fun ls hl => ?_)
                  refine lv_goto (tgt := 163) hx hb dX6_value_139 (by decide) ?_
                  refine lv_lload hx hb dX6_value_163 (lv_at hl 0 rfl) ?_
                  refine lv_ldc2 (v := 1000000000000) hx hb hown (hT _ mw_4_99) dX6_value_165 ?_
                  refine W.lcmp hx hb dX6_value_168 ?_
                  refine lv_topi (fun z_127 ez_127 => ?_)
                  have kz_127 : -1 ≤ z_127.toInt ∧ z_127.toInt ≤ 1 := lc_rng ez_127
                  refine lv_if_gt (tgt := 181) hx hb dX6_value_169 (by decide) (fun c_128 => ?_) (fun c_128 => ?_)
                  · have kc_128 := il_lt c_128
                    have := (by decide : (0 : Int32).toInt = 0)
                    refine lv_ldc2 (v := (-9223372036854775808)) hx hb hown (hT _ mw_4_92) dX6_value_181 ?_
                    have hP9 := hP.sub (ws' := [(ru, .inr (6, [.int ru_knots, .ref ru_kind, .ref ru_number, .ref ru_from, .ref ru_until, .ref ru_names, .ref ru_stack])), (ru_kind, .inl (k_ru_kind, 64, .inl f_ru_kind)), (ru_number, .inl (k_ru_number, 64, .inl f_ru_number)), (ru_from, .inl (k_ru_from, 5, .inl f_ru_from)), (ru_until, .inl (k_ru_until, 5, .inl f_ru_until)), (ru_names, .inl (k_ru_names, 5, .inr (.inl f_ru_names))), (ru_stack, .inl (k_ru_stack, 64, .inr (.inl g_75_f6)))]) [0, 1, 2, 3, 4, 5, 6] rfl
                    have hD9 := hD.sub (ws' := [(ru, .inr (6, [.int ru_knots, .ref ru_kind, .ref ru_number, .ref ru_from, .ref ru_until, .ref ru_names, .ref ru_stack])), (ru_kind, .inl (k_ru_kind, 64, .inl f_ru_kind)), (ru_number, .inl (k_ru_number, 64, .inl f_ru_number)), (ru_from, .inl (k_ru_from, 5, .inl f_ru_from)), (ru_until, .inl (k_ru_until, 5, .inl f_ru_until)), (ru_names, .inl (k_ru_names, 5, .inr (.inl f_ru_names))), (ru_stack, .inl (k_ru_stack, 64, .inr (.inl g_75_f6)))]) [0, 1, 2, 3, 4, 5, 6] (by decide) rfl
                    exact W.lret (v := (-9223372036854775808)) hx hb hr (fun t ht hW => ⟨⟨(-9223372036854775808), (), rfl, trivial, g_75_f6, by rw [ht]; exact hP9, hD9⟩, hS.F ht⟩) hS.2.2 dX6_value_184
                  · have kc_128 := il_nlt c_128
                    have := (by decide : (0 : Int32).toInt = 0)
                    refine lv_lload hx hb dX6_value_172 (lv_at hl 0 rfl) ?_
                    refine lv_ldc2 (v := (-1000000000000)) hx hb hown (hT _ mw_4_100) dX6_value_174 ?_
                    refine W.lcmp hx hb dX6_value_177 ?_
                    refine lv_topi (fun z_129 ez_129 => ?_)
                    have kz_129 : -1 ≤ z_129.toInt ∧ z_129.toInt ≤ 1 := lc_rng ez_129
                    refine lv_if_ge (tgt := 185) hx hb dX6_value_178 (by decide) (fun c_130 => ?_) (fun c_130 => ?_)
                    · have kc_130 := il_le c_130
                      have := (by decide : (0 : Int32).toInt = 0)
                      refine lv_aload_n hx hb dX6_value_185 rfl (lv_at hl 5 rfl) ?_
                      refine va_get (D := (dC, dI)) (ci := 6) (v := .ref ru_stack) (C := RX6) (T := TX6) (N := 7) hx hb hT inX6 hown hK hP 0 rfl rfl 6 (by decide) (hT _ mw_1_173) (fun _ h9 => h9) rfl dX6_value_186 ?_
                      refine lv_iload_n hx hb dX6_value_189 rfl (lv_at hl 1 rfl) ?_
                      refine lv_lload hx hb dX6_value_190 (lv_at hl 0 rfl) ?_
                      refine va_last hx hb hK hP hD hS 6 5 rfl rfl (vp_in_iff.mpr (by omega)) dX6_value_192 (fun H locs hP hD hS => ?_)
                      have hP : va_P (dC, dI) vwCl [(ru, .inr (6, [.int ru_knots, .ref ru_kind, .ref ru_number, .ref ru_from, .ref ru_until, .ref ru_names, .ref ru_stack])), (ru_kind, .inl (k_ru_kind, 64, .inl f_ru_kind)), (ru_number, .inl (k_ru_number, 64, .inl f_ru_number)), (ru_from, .inl (k_ru_from, 5, .inl f_ru_from)), (ru_until, .inl (k_ru_until, 5, .inl f_ru_until)), (ru_names, .inl (k_ru_names, 5, .inr (.inl f_ru_names))), (ru_stack, .inl (k_ru_stack, 64, .inr (.inl (vp_updL g_75_f6 (z_115 : Int32).toNatClampNeg g_125_s0))))] H := hP
                      have hD : va_D A [(ru, .inr (6, [.int ru_knots, .ref ru_kind, .ref ru_number, .ref ru_from, .ref ru_until, .ref ru_names, .ref ru_stack])), (ru_kind, .inl (k_ru_kind, 64, .inl f_ru_kind)), (ru_number, .inl (k_ru_number, 64, .inl f_ru_number)), (ru_from, .inl (k_ru_from, 5, .inl f_ru_from)), (ru_until, .inl (k_ru_until, 5, .inl f_ru_until)), (ru_names, .inl (k_ru_names, 5, .inr (.inl f_ru_names))), (ru_stack, .inl (k_ru_stack, 64, .inr (.inl (vp_updL g_75_f6 (z_115 : Int32).toNatClampNeg g_125_s0))))] := hD
                      obtain ⟨f_131, ef_131⟩ : ∃ g : Nat → Int64, (vp_updL g_75_f6 (z_115 : Int32).toNatClampNeg g_125_s0) = g := ⟨_, rfl⟩
                      rw [ef_131] at hP hD
                      clear ef_131
                      obtain ⟨z_132, ez_132⟩ : ∃ y : Int32, y = z_115 + Int32.ofInt (1) := ⟨_, rfl⟩
                      have kz_132 : z_132.toInt = z_115.toInt + (1) := ti_add ez_132 rfl (by decide) (by omega) (by omega)
                      refine lv_iinc (v := z_132) (lv' := [(2, .int z_132), (6, .long g_125_s0), (5, .int 1), (4, .int z_81), (3, .int g_75_l3), (0, .ref ru), (1, .int vp)]) hx hb dX6_value_193 hl (k := 1) rfl (ez_132.symm) (by decide) rfl (fun ls hl => ?_)
                      clear ez_132
                      obtain ⟨z_133, ez_133⟩ : ∃ y : Int32, y = g_75_l3 + Int32.ofInt (1) := ⟨_, rfl⟩
                      have kz_133 : z_133.toInt = g_75_l3.toInt + (1) := ti_add ez_133 rfl (by decide) (by omega) (by omega)
                      refine lv_iinc (v := z_133) (lv' := [(3, .int z_133), (2, .int z_132), (6, .long g_125_s0), (5, .int 1), (4, .int z_81), (0, .ref ru), (1, .int vp)]) hx hb dX6_value_196 hl (k := 4) rfl (ez_133.symm) (by decide) rfl (fun ls hl => ?_)
                      clear ez_133
                      refine lv_goto (tgt := 9) hx hb dX6_value_199 (by decide) ?_
                      exact ih76 z_133 z_132 f_131 (by omega) (by omega) (by omega) _ _ (hP.sub [0, 1, 2, 3, 4, 5, 6] rfl) (hD.sub [0, 1, 2, 3, 4, 5, 6] (by decide) rfl) hS _ (lv_sub hl [0, 1, 5, 6] rfl)
                    · have kc_130 := il_nle c_130
                      have := (by decide : (0 : Int32).toInt = 0)
                      refine lv_ldc2 (v := (-9223372036854775808)) hx hb hown (hT _ mw_4_92) dX6_value_181 ?_
                      have hP9 := hP.sub (ws' := [(ru, .inr (6, [.int ru_knots, .ref ru_kind, .ref ru_number, .ref ru_from, .ref ru_until, .ref ru_names, .ref ru_stack])), (ru_kind, .inl (k_ru_kind, 64, .inl f_ru_kind)), (ru_number, .inl (k_ru_number, 64, .inl f_ru_number)), (ru_from, .inl (k_ru_from, 5, .inl f_ru_from)), (ru_until, .inl (k_ru_until, 5, .inl f_ru_until)), (ru_names, .inl (k_ru_names, 5, .inr (.inl f_ru_names))), (ru_stack, .inl (k_ru_stack, 64, .inr (.inl g_75_f6)))]) [0, 1, 2, 3, 4, 5, 6] rfl
                      have hD9 := hD.sub (ws' := [(ru, .inr (6, [.int ru_knots, .ref ru_kind, .ref ru_number, .ref ru_from, .ref ru_until, .ref ru_names, .ref ru_stack])), (ru_kind, .inl (k_ru_kind, 64, .inl f_ru_kind)), (ru_number, .inl (k_ru_number, 64, .inl f_ru_number)), (ru_from, .inl (k_ru_from, 5, .inl f_ru_from)), (ru_until, .inl (k_ru_until, 5, .inl f_ru_until)), (ru_names, .inl (k_ru_names, 5, .inr (.inl f_ru_names))), (ru_stack, .inl (k_ru_stack, 64, .inr (.inl g_75_f6)))]) [0, 1, 2, 3, 4, 5, 6] (by decide) rfl
                      exact W.lret (v := (-9223372036854775808)) hx hb hr (fun t ht hW => ⟨⟨(-9223372036854775808), (), rfl, trivial, g_75_f6, by rw [ht]; exact hP9, hD9⟩, hS.F ht⟩) hS.2.2 dX6_value_184
                refine lv_if_ne (tgt := 136) hx hb dX6_value_129 (by decide) (fun c_134 => ?_) (fun c_134 => ?_)
                · have kc_134 := il_ne c_134
                  have := (by decide : (0 : Int32).toInt = 0)
                  have nc_134 : ¬ z_121 = 0 := lc_ne ez_122 (by omega)
                  refine lv_lconst (v := 0) hx hb dX6_value_136 (by decide) ?_
                  exact join_126 (0 : Int64) _ _ (hP.sub [0, 1, 2, 3, 4, 5, 6] rfl) (hD.sub [0, 1, 2, 3, 4, 5, 6] (by decide) rfl) hS _ (lv_sub hl [0, 1, 2, 3, 4, 5] rfl)
                · have kc_134 := il_eq c_134
                  have := (by decide : (0 : Int32).toInt = 0)
                  refine lv_lconst (v := 1) hx hb dX6_value_132 (by decide) ?_
                  refine lv_goto (tgt := 137) hx hb dX6_value_133 (by decide) ?_
                  exact join_126 (1 : Int64) _ _ (hP.sub [0, 1, 2, 3, 4, 5, 6] rfl) (hD.sub [0, 1, 2, 3, 4, 5, 6] (by decide) rfl) hS _ (lv_sub hl [0, 1, 2, 3, 4, 5] rfl)
          · have kc_96 := il_nlt c_96
            have := (by decide : (35 : Int32).toInt = 35)
            refine lv_iconst (v := 0) hx hb dX6_value_40 (by decide) ?_
            refine lv_goto (tgt := 56) hx hb dX6_value_41 (by decide) ?_
            refine lv_istore (lv' := [(5, .int 0), (4, .int z_81), (3, .int g_75_l3), (2, .int g_75_l2), (0, .ref ru), (1, .int vp)]) hx hb dX6_value_56 hl (by decide) rfl (fun ls hl => ?_)
            refine lv_iload_n hx hb dX6_value_58 rfl (lv_at hl 3 rfl) ?_
            refine lv_iload hx hb dX6_value_59 (lv_at hl 0 rfl) ?_
            refine lv_isub hx hb dX6_value_61 ?_
            refine lv_topi (fun z_135 ez_135 => ?_)
            have kz_135 : z_135.toInt = g_75_l2.toInt - 0 := ti_sub ez_135 rfl (by decide) (by omega) (by omega)
            clear ez_135
            refine lv_istore_n (lv' := [(2, .int z_135), (5, .int 0), (4, .int z_81), (3, .int g_75_l3), (0, .ref ru), (1, .int vp)]) hx hb dX6_value_62 rfl hl (by decide) rfl (fun ls hl => ?_)
            refine lv_iload_n hx hb dX6_value_63 rfl (lv_at hl 0 rfl) ?_
            refine lv_if_lt (tgt := 73) hx hb dX6_value_64 (by decide) (fun c_136 => False.elim (by have := il_lt c_136; have := (by decide : (0 : Int32).toInt = 0); omega)) (fun c_136 => ?_)
            have kc_136 := il_nlt c_136
            have := (by decide : (0 : Int32).toInt = 0)
            refine lv_iload_n hx hb dX6_value_67 rfl (lv_at hl 0 rfl) ?_
            refine lv_bipush (v := 64) hx hb dX6_value_68 (by decide) ?_
            refine lv_icmp_lt (tgt := 77) hx hb dX6_value_70 (by decide) (fun c_137 => ?_) (fun c_137 => ?_)
            · have kc_137 := il_lt c_137
              have := (by decide : (64 : Int32).toInt = 64)
              refine lv_iload hx hb dX6_value_77 (lv_at hl 2 rfl) ?_
              refine lv_iconst (v := 1) hx hb dX6_value_79 (by decide) ?_
              refine lv_icmp_ne (tgt := 95) hx hb dX6_value_80 (by decide) (fun c_138 => ?_) (fun c_138 => False.elim (by have := il_eq c_138; have := (by decide : (1 : Int32).toInt = 1); omega))
              have kc_138 := il_ne c_138
              have := (by decide : (1 : Int32).toInt = 1)
              refine lv_iload hx hb dX6_value_95 (lv_at hl 1 rfl) ?_
              refine lv_if_ne (tgt := 115) hx hb dX6_value_97 (by decide) (fun c_139 => absurd c_139 (by decide)) (fun c_139 => ?_)
              refine lv_aload_n hx hb dX6_value_100 rfl (lv_at hl 4 rfl) ?_
              refine va_get (D := (dC, dI)) (ci := 6) (v := .ref ru_names) (C := RX6) (T := TX6) (N := 7) hx hb hT inX6 hown hK hP 0 rfl rfl 5 (by decide) (hT _ mw_1_172) (fun _ h9 => h9) rfl dX6_value_101 ?_
              refine lv_iload hx hb dX6_value_104 (lv_at hl 2 rfl) ?_
              refine lv_bipush (v := 35) hx hb dX6_value_106 (by decide) ?_
              refine lv_isub hx hb dX6_value_108 ?_
              refine lv_topi (fun z_140 ez_140 => ?_)
              have kz_140 : z_140.toInt = z_81.toInt - 35 := ti_sub ez_140 rfl (by decide) (by omega) (by omega)
              clear ez_140
              refine va_lald hx hb hK hP 5 4 rfl rfl (vp_in_iff.mpr (by omega)) dX6_value_109 ?_
              refine lv_topl (fun z_141 ez_141 => ?_)
              clear ez_141
              refine lv_lstore (lv' := [(6, .long z_141), (2, .int z_135), (5, .int 0), (4, .int z_81), (3, .int g_75_l3), (0, .ref ru), (1, .int vp)]) hx hb dX6_value_110 hl (by decide) rfl (fun ls hl => ?_)
              refine lv_goto (tgt := 163) hx hb dX6_value_112 (by decide) ?_
              refine lv_lload hx hb dX6_value_163 (lv_at hl 0 rfl) ?_
              refine lv_ldc2 (v := 1000000000000) hx hb hown (hT _ mw_4_99) dX6_value_165 ?_
              refine W.lcmp hx hb dX6_value_168 ?_
              refine lv_topi (fun z_142 ez_142 => ?_)
              have kz_142 : -1 ≤ z_142.toInt ∧ z_142.toInt ≤ 1 := lc_rng ez_142
              refine lv_if_gt (tgt := 181) hx hb dX6_value_169 (by decide) (fun c_143 => ?_) (fun c_143 => ?_)
              · have kc_143 := il_lt c_143
                have := (by decide : (0 : Int32).toInt = 0)
                refine lv_ldc2 (v := (-9223372036854775808)) hx hb hown (hT _ mw_4_92) dX6_value_181 ?_
                have hP9 := hP.sub (ws' := [(ru, .inr (6, [.int ru_knots, .ref ru_kind, .ref ru_number, .ref ru_from, .ref ru_until, .ref ru_names, .ref ru_stack])), (ru_kind, .inl (k_ru_kind, 64, .inl f_ru_kind)), (ru_number, .inl (k_ru_number, 64, .inl f_ru_number)), (ru_from, .inl (k_ru_from, 5, .inl f_ru_from)), (ru_until, .inl (k_ru_until, 5, .inl f_ru_until)), (ru_names, .inl (k_ru_names, 5, .inr (.inl f_ru_names))), (ru_stack, .inl (k_ru_stack, 64, .inr (.inl g_75_f6)))]) [0, 1, 2, 3, 4, 5, 6] rfl
                have hD9 := hD.sub (ws' := [(ru, .inr (6, [.int ru_knots, .ref ru_kind, .ref ru_number, .ref ru_from, .ref ru_until, .ref ru_names, .ref ru_stack])), (ru_kind, .inl (k_ru_kind, 64, .inl f_ru_kind)), (ru_number, .inl (k_ru_number, 64, .inl f_ru_number)), (ru_from, .inl (k_ru_from, 5, .inl f_ru_from)), (ru_until, .inl (k_ru_until, 5, .inl f_ru_until)), (ru_names, .inl (k_ru_names, 5, .inr (.inl f_ru_names))), (ru_stack, .inl (k_ru_stack, 64, .inr (.inl g_75_f6)))]) [0, 1, 2, 3, 4, 5, 6] (by decide) rfl
                exact W.lret (v := (-9223372036854775808)) hx hb hr (fun t ht hW => ⟨⟨(-9223372036854775808), (), rfl, trivial, g_75_f6, by rw [ht]; exact hP9, hD9⟩, hS.F ht⟩) hS.2.2 dX6_value_184
              · have kc_143 := il_nlt c_143
                have := (by decide : (0 : Int32).toInt = 0)
                refine lv_lload hx hb dX6_value_172 (lv_at hl 0 rfl) ?_
                refine lv_ldc2 (v := (-1000000000000)) hx hb hown (hT _ mw_4_100) dX6_value_174 ?_
                refine W.lcmp hx hb dX6_value_177 ?_
                refine lv_topi (fun z_144 ez_144 => ?_)
                have kz_144 : -1 ≤ z_144.toInt ∧ z_144.toInt ≤ 1 := lc_rng ez_144
                refine lv_if_ge (tgt := 185) hx hb dX6_value_178 (by decide) (fun c_145 => ?_) (fun c_145 => ?_)
                · have kc_145 := il_le c_145
                  have := (by decide : (0 : Int32).toInt = 0)
                  refine lv_aload_n hx hb dX6_value_185 rfl (lv_at hl 5 rfl) ?_
                  refine va_get (D := (dC, dI)) (ci := 6) (v := .ref ru_stack) (C := RX6) (T := TX6) (N := 7) hx hb hT inX6 hown hK hP 0 rfl rfl 6 (by decide) (hT _ mw_1_173) (fun _ h9 => h9) rfl dX6_value_186 ?_
                  refine lv_iload_n hx hb dX6_value_189 rfl (lv_at hl 1 rfl) ?_
                  refine lv_lload hx hb dX6_value_190 (lv_at hl 0 rfl) ?_
                  refine va_last hx hb hK hP hD hS 6 5 rfl rfl (vp_in_iff.mpr (by omega)) dX6_value_192 (fun H locs hP hD hS => ?_)
                  have hP : va_P (dC, dI) vwCl [(ru, .inr (6, [.int ru_knots, .ref ru_kind, .ref ru_number, .ref ru_from, .ref ru_until, .ref ru_names, .ref ru_stack])), (ru_kind, .inl (k_ru_kind, 64, .inl f_ru_kind)), (ru_number, .inl (k_ru_number, 64, .inl f_ru_number)), (ru_from, .inl (k_ru_from, 5, .inl f_ru_from)), (ru_until, .inl (k_ru_until, 5, .inl f_ru_until)), (ru_names, .inl (k_ru_names, 5, .inr (.inl f_ru_names))), (ru_stack, .inl (k_ru_stack, 64, .inr (.inl (vp_updL g_75_f6 (z_135 : Int32).toNatClampNeg z_141))))] H := hP
                  have hD : va_D A [(ru, .inr (6, [.int ru_knots, .ref ru_kind, .ref ru_number, .ref ru_from, .ref ru_until, .ref ru_names, .ref ru_stack])), (ru_kind, .inl (k_ru_kind, 64, .inl f_ru_kind)), (ru_number, .inl (k_ru_number, 64, .inl f_ru_number)), (ru_from, .inl (k_ru_from, 5, .inl f_ru_from)), (ru_until, .inl (k_ru_until, 5, .inl f_ru_until)), (ru_names, .inl (k_ru_names, 5, .inr (.inl f_ru_names))), (ru_stack, .inl (k_ru_stack, 64, .inr (.inl (vp_updL g_75_f6 (z_135 : Int32).toNatClampNeg z_141))))] := hD
                  obtain ⟨f_146, ef_146⟩ : ∃ g : Nat → Int64, (vp_updL g_75_f6 (z_135 : Int32).toNatClampNeg z_141) = g := ⟨_, rfl⟩
                  rw [ef_146] at hP hD
                  clear ef_146
                  obtain ⟨z_147, ez_147⟩ : ∃ y : Int32, y = z_135 + Int32.ofInt (1) := ⟨_, rfl⟩
                  have kz_147 : z_147.toInt = z_135.toInt + (1) := ti_add ez_147 rfl (by decide) (by omega) (by omega)
                  refine lv_iinc (v := z_147) (lv' := [(2, .int z_147), (6, .long z_141), (5, .int 0), (4, .int z_81), (3, .int g_75_l3), (0, .ref ru), (1, .int vp)]) hx hb dX6_value_193 hl (k := 1) rfl (ez_147.symm) (by decide) rfl (fun ls hl => ?_)
                  clear ez_147
                  obtain ⟨z_148, ez_148⟩ : ∃ y : Int32, y = g_75_l3 + Int32.ofInt (1) := ⟨_, rfl⟩
                  have kz_148 : z_148.toInt = g_75_l3.toInt + (1) := ti_add ez_148 rfl (by decide) (by omega) (by omega)
                  refine lv_iinc (v := z_148) (lv' := [(3, .int z_148), (2, .int z_147), (6, .long z_141), (5, .int 0), (4, .int z_81), (0, .ref ru), (1, .int vp)]) hx hb dX6_value_196 hl (k := 4) rfl (ez_148.symm) (by decide) rfl (fun ls hl => ?_)
                  clear ez_148
                  refine lv_goto (tgt := 9) hx hb dX6_value_199 (by decide) ?_
                  exact ih76 z_148 z_147 f_146 (by omega) (by omega) (by omega) _ _ (hP.sub [0, 1, 2, 3, 4, 5, 6] rfl) (hD.sub [0, 1, 2, 3, 4, 5, 6] (by decide) rfl) hS _ (lv_sub hl [0, 1, 5, 6] rfl)
                · have kc_145 := il_nle c_145
                  have := (by decide : (0 : Int32).toInt = 0)
                  refine lv_ldc2 (v := (-9223372036854775808)) hx hb hown (hT _ mw_4_92) dX6_value_181 ?_
                  have hP9 := hP.sub (ws' := [(ru, .inr (6, [.int ru_knots, .ref ru_kind, .ref ru_number, .ref ru_from, .ref ru_until, .ref ru_names, .ref ru_stack])), (ru_kind, .inl (k_ru_kind, 64, .inl f_ru_kind)), (ru_number, .inl (k_ru_number, 64, .inl f_ru_number)), (ru_from, .inl (k_ru_from, 5, .inl f_ru_from)), (ru_until, .inl (k_ru_until, 5, .inl f_ru_until)), (ru_names, .inl (k_ru_names, 5, .inr (.inl f_ru_names))), (ru_stack, .inl (k_ru_stack, 64, .inr (.inl g_75_f6)))]) [0, 1, 2, 3, 4, 5, 6] rfl
                  have hD9 := hD.sub (ws' := [(ru, .inr (6, [.int ru_knots, .ref ru_kind, .ref ru_number, .ref ru_from, .ref ru_until, .ref ru_names, .ref ru_stack])), (ru_kind, .inl (k_ru_kind, 64, .inl f_ru_kind)), (ru_number, .inl (k_ru_number, 64, .inl f_ru_number)), (ru_from, .inl (k_ru_from, 5, .inl f_ru_from)), (ru_until, .inl (k_ru_until, 5, .inl f_ru_until)), (ru_names, .inl (k_ru_names, 5, .inr (.inl f_ru_names))), (ru_stack, .inl (k_ru_stack, 64, .inr (.inl g_75_f6)))]) [0, 1, 2, 3, 4, 5, 6] (by decide) rfl
                  exact W.lret (v := (-9223372036854775808)) hx hb hr (fun t ht hW => ⟨⟨(-9223372036854775808), (), rfl, trivial, g_75_f6, by rw [ht]; exact hP9, hD9⟩, hS.F ht⟩) hS.2.2 dX6_value_184
            · have kc_137 := il_nlt c_137
              have := (by decide : (64 : Int32).toInt = 64)
              refine lv_ldc2 (v := (-9223372036854775808)) hx hb hown (hT _ mw_4_92) dX6_value_73 ?_
              have hP9 := hP.sub (ws' := [(ru, .inr (6, [.int ru_knots, .ref ru_kind, .ref ru_number, .ref ru_from, .ref ru_until, .ref ru_names, .ref ru_stack])), (ru_kind, .inl (k_ru_kind, 64, .inl f_ru_kind)), (ru_number, .inl (k_ru_number, 64, .inl f_ru_number)), (ru_from, .inl (k_ru_from, 5, .inl f_ru_from)), (ru_until, .inl (k_ru_until, 5, .inl f_ru_until)), (ru_names, .inl (k_ru_names, 5, .inr (.inl f_ru_names))), (ru_stack, .inl (k_ru_stack, 64, .inr (.inl g_75_f6)))]) [0, 1, 2, 3, 4, 5, 6] rfl
              have hD9 := hD.sub (ws' := [(ru, .inr (6, [.int ru_knots, .ref ru_kind, .ref ru_number, .ref ru_from, .ref ru_until, .ref ru_names, .ref ru_stack])), (ru_kind, .inl (k_ru_kind, 64, .inl f_ru_kind)), (ru_number, .inl (k_ru_number, 64, .inl f_ru_number)), (ru_from, .inl (k_ru_from, 5, .inl f_ru_from)), (ru_until, .inl (k_ru_until, 5, .inl f_ru_until)), (ru_names, .inl (k_ru_names, 5, .inr (.inl f_ru_names))), (ru_stack, .inl (k_ru_stack, 64, .inr (.inl g_75_f6)))]) [0, 1, 2, 3, 4, 5, 6] (by decide) rfl
              exact W.lret (v := (-9223372036854775808)) hx hb hr (fun t ht hW => ⟨⟨(-9223372036854775808), (), rfl, trivial, g_75_f6, by rw [ht]; exact hP9, hD9⟩, hS.F ht⟩) hS.2.2 dX6_value_76
  have := (by decide : (0 : Int32).toInt = 0)
  exact loop_76 4294967296 z_1 (0 : Int32) f_ru_stack (by omega) (by decide) (by omega) _ _ (hP.sub [0, 1, 2, 3, 4, 5, 6] rfl) (hD.sub [0, 1, 2, 3, 4, 5, 6] (by decide) rfl) hS _ (lv_sub hl [0, 1, 2, 3] rfl)
