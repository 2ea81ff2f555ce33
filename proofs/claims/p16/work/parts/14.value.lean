theorem dX6_value_0 : decode cX6_value 0 = .ok (.iconst 0, 1) := by decide +kernel
theorem dX6_value_1 : decode cX6_value 1 = .ok (.istore_n 2, 1) := by decide +kernel
theorem dX6_value_2 : decode cX6_value 2 = .ok (.aload_n 0, 1) := by decide +kernel
theorem dX6_value_3 : decode cX6_value 3 = .ok (.getfield 18, 3) := by decide +kernel
theorem dX6_value_6 : decode cX6_value 6 = .ok (.iload_n 1, 1) := by decide +kernel
theorem dX6_value_8 : decode cX6_value 8 = .ok (.istore_n 3, 1) := by decide +kernel
theorem dX6_value_9 : decode cX6_value 9 = .ok (.iload_n 3, 1) := by decide +kernel
theorem dX6_value_10 : decode cX6_value 10 = .ok (.aload_n 0, 1) := by decide +kernel
theorem dX6_value_11 : decode cX6_value 11 = .ok (.getfield 21, 3) := by decide +kernel
theorem dX6_value_14 : decode cX6_value 14 = .ok (.iload_n 1, 1) := by decide +kernel
theorem dX6_value_202 : decode cX6_value 202 = .ok (.iload_n 2, 1) := by decide +kernel
theorem dX6_value_203 : decode cX6_value 203 = .ok (.iconst 1, 1) := by decide +kernel
theorem dX6_value_216 : decode cX6_value 216 = .ok (.ldc2_w 41, 3) := by decide +kernel
theorem dX6_value_219 : decode cX6_value 219 = .ok (.lreturn, 1) := by decide +kernel
theorem dX6_value_19 : decode cX6_value 19 = .ok (.aload_n 0, 1) := by decide +kernel
theorem dX6_value_20 : decode cX6_value 20 = .ok (.getfield 9, 3) := by decide +kernel
theorem dX6_value_23 : decode cX6_value 23 = .ok (.iload_n 3, 1) := by decide +kernel
theorem dX6_value_25 : decode cX6_value 25 = .ok (.istore 4, 2) := by decide +kernel
theorem dX6_value_27 : decode cX6_value 27 = .ok (.iload 4, 2) := by decide +kernel
theorem dX6_value_29 : decode cX6_value 29 = .ok (.iconst 1, 1) := by decide +kernel
theorem dX6_value_40 : decode cX6_value 40 = .ok (.iconst 0, 1) := by decide +kernel
theorem dX6_value_41 : decode cX6_value 41 = .ok (.goto 15, 3) := by decide +kernel
theorem dX6_value_56 : decode cX6_value 56 = .ok (.istore 5, 2) := by decide +kernel
theorem dX6_value_58 : decode cX6_value 58 = .ok (.iload_n 2, 1) := by decide +kernel
theorem dX6_value_59 : decode cX6_value 59 = .ok (.iload 5, 2) := by decide +kernel
theorem dX6_value_62 : decode cX6_value 62 = .ok (.istore_n 2, 1) := by decide +kernel
theorem dX6_value_63 : decode cX6_value 63 = .ok (.iload_n 2, 1) := by decide +kernel
theorem dX6_value_67 : decode cX6_value 67 = .ok (.iload_n 2, 1) := by decide +kernel
theorem dX6_value_68 : decode cX6_value 68 = .ok (.bipush 64, 2) := by decide +kernel
theorem dX6_value_77 : decode cX6_value 77 = .ok (.iload 4, 2) := by decide +kernel
theorem dX6_value_79 : decode cX6_value 79 = .ok (.iconst 1, 1) := by decide +kernel
theorem dX6_value_83 : decode cX6_value 83 = .ok (.aload_n 0, 1) := by decide +kernel
theorem dX6_value_84 : decode cX6_value 84 = .ok (.getfield 15, 3) := by decide +kernel
theorem dX6_value_87 : decode cX6_value 87 = .ok (.iload_n 3, 1) := by decide +kernel
theorem dX6_value_90 : decode cX6_value 90 = .ok (.lstore 6, 2) := by decide +kernel
theorem dX6_value_92 : decode cX6_value 92 = .ok (.goto 71, 3) := by decide +kernel
theorem dX6_value_163 : decode cX6_value 163 = .ok (.lload 6, 2) := by decide +kernel
theorem dX6_value_165 : decode cX6_value 165 = .ok (.ldc2_w 47, 3) := by decide +kernel
theorem dX6_value_181 : decode cX6_value 181 = .ok (.ldc2_w 41, 3) := by decide +kernel
theorem dX6_value_184 : decode cX6_value 184 = .ok (.lreturn, 1) := by decide +kernel
theorem dX6_value_172 : decode cX6_value 172 = .ok (.lload 6, 2) := by decide +kernel
theorem dX6_value_174 : decode cX6_value 174 = .ok (.ldc2_w 49, 3) := by decide +kernel
theorem dX6_value_185 : decode cX6_value 185 = .ok (.aload_n 0, 1) := by decide +kernel
theorem dX6_value_186 : decode cX6_value 186 = .ok (.getfield 28, 3) := by decide +kernel
theorem dX6_value_189 : decode cX6_value 189 = .ok (.iload_n 2, 1) := by decide +kernel
theorem dX6_value_190 : decode cX6_value 190 = .ok (.lload 6, 2) := by decide +kernel
theorem dX6_value_199 : decode cX6_value 199 = .ok (.goto (-190), 3) := by decide +kernel
theorem dX6_value_33 : decode cX6_value 33 = .ok (.iload 4, 2) := by decide +kernel
theorem dX6_value_35 : decode cX6_value 35 = .ok (.bipush 35, 2) := by decide +kernel
theorem dX6_value_44 : decode cX6_value 44 = .ok (.iload 4, 2) := by decide +kernel
theorem dX6_value_46 : decode cX6_value 46 = .ok (.bipush 34, 2) := by decide +kernel
theorem dX6_value_55 : decode cX6_value 55 = .ok (.iconst 2, 1) := by decide +kernel
theorem dX6_value_73 : decode cX6_value 73 = .ok (.ldc2_w 41, 3) := by decide +kernel
theorem dX6_value_76 : decode cX6_value 76 = .ok (.lreturn, 1) := by decide +kernel
theorem dX6_value_51 : decode cX6_value 51 = .ok (.iconst 1, 1) := by decide +kernel
theorem dX6_value_52 : decode cX6_value 52 = .ok (.goto 4, 3) := by decide +kernel
theorem dX6_value_95 : decode cX6_value 95 = .ok (.iload 5, 2) := by decide +kernel
theorem dX6_value_100 : decode cX6_value 100 = .ok (.aload_n 0, 1) := by decide +kernel
theorem dX6_value_101 : decode cX6_value 101 = .ok (.getfield 24, 3) := by decide +kernel
theorem dX6_value_104 : decode cX6_value 104 = .ok (.iload 4, 2) := by decide +kernel
theorem dX6_value_106 : decode cX6_value 106 = .ok (.bipush 35, 2) := by decide +kernel
theorem dX6_value_110 : decode cX6_value 110 = .ok (.lstore 6, 2) := by decide +kernel
theorem dX6_value_112 : decode cX6_value 112 = .ok (.goto 51, 3) := by decide +kernel
theorem dX6_value_207 : decode cX6_value 207 = .ok (.aload_n 0, 1) := by decide +kernel
theorem dX6_value_208 : decode cX6_value 208 = .ok (.getfield 28, 3) := by decide +kernel
theorem dX6_value_211 : decode cX6_value 211 = .ok (.iconst 0, 1) := by decide +kernel
theorem dX6_value_213 : decode cX6_value 213 = .ok (.goto 6, 3) := by decide +kernel
theorem dX6_value_115 : decode cX6_value 115 = .ok (.iload 5, 2) := by decide +kernel
theorem dX6_value_117 : decode cX6_value 117 = .ok (.iconst 1, 1) := by decide +kernel
theorem dX6_value_142 : decode cX6_value 142 = .ok (.iload 4, 2) := by decide +kernel
theorem dX6_value_144 : decode cX6_value 144 = .ok (.aload_n 0, 1) := by decide +kernel
theorem dX6_value_145 : decode cX6_value 145 = .ok (.getfield 28, 3) := by decide +kernel
theorem dX6_value_148 : decode cX6_value 148 = .ok (.iload_n 2, 1) := by decide +kernel
theorem dX6_value_150 : decode cX6_value 150 = .ok (.aload_n 0, 1) := by decide +kernel
theorem dX6_value_151 : decode cX6_value 151 = .ok (.getfield 28, 3) := by decide +kernel
theorem dX6_value_154 : decode cX6_value 154 = .ok (.iload_n 2, 1) := by decide +kernel
theorem dX6_value_155 : decode cX6_value 155 = .ok (.iconst 1, 1) := by decide +kernel
theorem dX6_value_158 : decode cX6_value 158 = .ok (.invokestatic 43, 3) := by decide +kernel
theorem dX6_value_161 : decode cX6_value 161 = .ok (.lstore 6, 2) := by decide +kernel
theorem dX6_value_121 : decode cX6_value 121 = .ok (.aload_n 0, 1) := by decide +kernel
theorem dX6_value_122 : decode cX6_value 122 = .ok (.getfield 28, 3) := by decide +kernel
theorem dX6_value_125 : decode cX6_value 125 = .ok (.iload_n 2, 1) := by decide +kernel
theorem dX6_value_127 : decode cX6_value 127 = .ok (.lconst 0, 1) := by decide +kernel
theorem dX6_value_136 : decode cX6_value 136 = .ok (.lconst 0, 1) := by decide +kernel
theorem dX6_value_137 : decode cX6_value 137 = .ok (.lstore 6, 2) := by decide +kernel
theorem dX6_value_139 : decode cX6_value 139 = .ok (.goto 24, 3) := by decide +kernel
theorem dX6_value_132 : decode cX6_value 132 = .ok (.lconst 1, 1) := by decide +kernel
theorem dX6_value_133 : decode cX6_value 133 = .ok (.goto 4, 3) := by decide +kernel
theorem dX6_value_7 : decode cX6_value 7 = .ok (.iaload, 1) := by decide +kernel
theorem dX6_value_15 : decode cX6_value 15 = .ok (.iaload, 1) := by decide +kernel
theorem dX6_value_16 : decode cX6_value 16 = .ok (.if_icmp .ge 186, 3) := by decide +kernel
theorem dX6_value_204 : decode cX6_value 204 = .ok (.if_icmp .ne 12, 3) := by decide +kernel
theorem dX6_value_212 : decode cX6_value 212 = .ok (.laload, 1) := by decide +kernel
theorem dX6_value_24 : decode cX6_value 24 = .ok (.iaload, 1) := by decide +kernel
theorem dX6_value_30 : decode cX6_value 30 = .ok (.if_icmp .eq 10, 3) := by decide +kernel
theorem dX6_value_61 : decode cX6_value 61 = .ok (.isub, 1) := by decide +kernel
theorem dX6_value_64 : decode cX6_value 64 = .ok (.ifCond .lt 9, 3) := by decide +kernel
theorem dX6_value_70 : decode cX6_value 70 = .ok (.if_icmp .lt 7, 3) := by decide +kernel
theorem dX6_value_80 : decode cX6_value 80 = .ok (.if_icmp .ne 15, 3) := by decide +kernel
theorem dX6_value_88 : decode cX6_value 88 = .ok (.iaload, 1) := by decide +kernel
theorem dX6_value_89 : decode cX6_value 89 = .ok (.i2l, 1) := by decide +kernel
theorem dX6_value_168 : decode cX6_value 168 = .ok (.lcmp, 1) := by decide +kernel
theorem dX6_value_169 : decode cX6_value 169 = .ok (.ifCond .gt 12, 3) := by decide +kernel
theorem dX6_value_177 : decode cX6_value 177 = .ok (.lcmp, 1) := by decide +kernel
theorem dX6_value_178 : decode cX6_value 178 = .ok (.ifCond .ge 7, 3) := by decide +kernel
theorem dX6_value_192 : decode cX6_value 192 = .ok (.lastore, 1) := by decide +kernel
theorem dX6_value_193 : decode cX6_value 193 = .ok (.iinc 2 1, 3) := by decide +kernel
theorem dX6_value_196 : decode cX6_value 196 = .ok (.iinc 3 1, 3) := by decide +kernel
theorem dX6_value_37 : decode cX6_value 37 = .ok (.if_icmp .lt 7, 3) := by decide +kernel
theorem dX6_value_48 : decode cX6_value 48 = .ok (.if_icmp .ne 7, 3) := by decide +kernel
theorem dX6_value_97 : decode cX6_value 97 = .ok (.ifCond .ne 18, 3) := by decide +kernel
theorem dX6_value_118 : decode cX6_value 118 = .ok (.if_icmp .ne 24, 3) := by decide +kernel
theorem dX6_value_149 : decode cX6_value 149 = .ok (.laload, 1) := by decide +kernel
theorem dX6_value_156 : decode cX6_value 156 = .ok (.iadd, 1) := by decide +kernel
theorem dX6_value_157 : decode cX6_value 157 = .ok (.laload, 1) := by decide +kernel
theorem dX6_value_126 : decode cX6_value 126 = .ok (.laload, 1) := by decide +kernel
theorem dX6_value_128 : decode cX6_value 128 = .ok (.lcmp, 1) := by decide +kernel
theorem dX6_value_129 : decode cX6_value 129 = .ok (.ifCond .ne 7, 3) := by decide +kernel
theorem dX6_value_108 : decode cX6_value 108 = .ok (.isub, 1) := by decide +kernel
theorem dX6_value_109 : decode cX6_value 109 = .ok (.laload, 1) := by decide +kernel
abbrev q_X6_value (dC : Nat → ClassId) (dI : Nat → Nat → Nat) (A : Nat → Prop) (ru : Nat) (vp : Int32) (ru_knots : Int32) (ru_kind : Nat) (ru_number : Nat) (ru_from : Nat) (ru_until : Nat) (ru_names : Nat) (ru_stack : Nat) (k_ru_kind : ClassId) (f_ru_kind : Nat → Int32) (k_ru_number : ClassId) (f_ru_number : Nat → Int32) (k_ru_from : ClassId) (f_ru_from : Nat → Int32) (k_ru_until : ClassId) (f_ru_until : Nat → Int32) (k_ru_names : ClassId) (f_ru_names : Nat → Int64) (k_ru_stack : ClassId) (f_ru_stack : Nat → Int64) : Array Value → State → Outcome → State → Prop := va_Ql (fun (r : Int64) (_ : Unit) => r = evf (evr f_ru_names f_ru_kind f_ru_number (f_ru_from vp.toNatClampNeg).toInt.toNat ((f_ru_until vp.toNatClampNeg).toInt - (f_ru_from vp.toNatClampNeg).toInt).toNat)) (fun (_ : Unit) (t : State) => ∃ (g_ru_stack : Nat → Int64), va_P (dC, dI) vwCl [(ru, .inr (6, [.int ru_knots, .ref ru_kind, .ref ru_number, .ref ru_from, .ref ru_until, .ref ru_names, .ref ru_stack])), (ru_kind, .inl (k_ru_kind, 64, .inl f_ru_kind)), (ru_number, .inl (k_ru_number, 64, .inl f_ru_number)), (ru_from, .inl (k_ru_from, 5, .inl f_ru_from)), (ru_until, .inl (k_ru_until, 5, .inl f_ru_until)), (ru_names, .inl (k_ru_names, 5, .inr (.inl f_ru_names))), (ru_stack, .inl (k_ru_stack, 64, .inr (.inl g_ru_stack)))] t.heap ∧ va_D A [(ru, .inr (6, [.int ru_knots, .ref ru_kind, .ref ru_number, .ref ru_from, .ref ru_until, .ref ru_names, .ref ru_stack])), (ru_kind, .inl (k_ru_kind, 64, .inl f_ru_kind)), (ru_number, .inl (k_ru_number, 64, .inl f_ru_number)), (ru_from, .inl (k_ru_from, 5, .inl f_ru_from)), (ru_until, .inl (k_ru_until, 5, .inl f_ru_until)), (ru_names, .inl (k_ru_names, 5, .inr (.inl f_ru_names))), (ru_stack, .inl (k_ru_stack, 64, .inr (.inl g_ru_stack)))]) A
set_option maxHeartbeats 4000000 in
set_option maxRecDepth 100000 in
theorem c_X6_value (l : Launch) (dC : Nat → ClassId) (dI : Nat → Nat → Nat) (sz : Nat) (ru : Nat) (vp : Int32) (ru_knots : Int32) (ru_kind : Nat) (ru_number : Nat) (ru_from : Nat) (ru_until : Nat) (ru_names : Nat) (ru_stack : Nat) (k_ru_kind : ClassId) (f_ru_kind : Nat → Int32) (k_ru_number : ClassId) (f_ru_number : Nat → Int32) (k_ru_from : ClassId) (f_ru_from : Nat → Int32) (k_ru_until : ClassId) (f_ru_until : Nat → Int32) (k_ru_names : ClassId) (f_ru_names : Nat → Int64) (k_ru_stack : ClassId) (f_ru_stack : Nat → Int64) (h_ru_knots : 0 ≤ ru_knots.toInt ∧ ru_knots.toInt ≤ 64) (h_f_ru_kind : Rg f_ru_kind 0 39) (h_f_ru_from : Rg f_ru_from 0 64) (h_f_ru_until : Rg f_ru_until 0 64) (h_vp : 0 ≤ vp.toInt ∧ vp.toInt ≤ 4) : Met l yX6_value (pw_w yX6_value cX6_value 8 (some .long)) ({ frames := 2, cells := 0, slots := 0, locals := 45 }) (va_Pc [.ref ru, .int vp] (fun U => U.heap.size = sz ∧ va_P (dC, dI) vwCl [(ru, .inr (6, [.int ru_knots, .ref ru_kind, .ref ru_number, .ref ru_from, .ref ru_until, .ref ru_names, .ref ru_stack])), (ru_kind, .inl (k_ru_kind, 64, .inl f_ru_kind)), (ru_number, .inl (k_ru_number, 64, .inl f_ru_number)), (ru_from, .inl (k_ru_from, 5, .inl f_ru_from)), (ru_until, .inl (k_ru_until, 5, .inl f_ru_until)), (ru_names, .inl (k_ru_names, 5, .inr (.inl f_ru_names))), (ru_stack, .inl (k_ru_stack, 64, .inr (.inl f_ru_stack)))] U.heap ∧ va_K (dC, dI) vwCl [(k_ru_kind, .int), (k_ru_number, .int), (k_ru_from, .int), (k_ru_until, .int), (k_ru_names, .long), (k_ru_stack, .long)] U ∧ va_D (fun _ => True) [(ru, .inr (6, [.int ru_knots, .ref ru_kind, .ref ru_number, .ref ru_from, .ref ru_until, .ref ru_names, .ref ru_stack])), (ru_kind, .inl (k_ru_kind, 64, .inl f_ru_kind)), (ru_number, .inl (k_ru_number, 64, .inl f_ru_number)), (ru_from, .inl (k_ru_from, 5, .inl f_ru_from)), (ru_until, .inl (k_ru_until, 5, .inl f_ru_until)), (ru_names, .inl (k_ru_names, 5, .inr (.inl f_ru_names))), (ru_stack, .inl (k_ru_stack, 64, .inr (.inl f_ru_stack)))])) (q_X6_value dC dI (va_A [(ru, .inr (6, [.int ru_knots, .ref ru_kind, .ref ru_number, .ref ru_from, .ref ru_until, .ref ru_names, .ref ru_stack])), (ru_kind, .inl (k_ru_kind, 64, .inl f_ru_kind)), (ru_number, .inl (k_ru_number, 64, .inl f_ru_number)), (ru_from, .inl (k_ru_from, 5, .inl f_ru_from)), (ru_until, .inl (k_ru_until, 5, .inl f_ru_until)), (ru_names, .inl (k_ru_names, 5, .inr (.inl f_ru_names))), (ru_stack, .inl (k_ru_stack, 64, .inr (.inl f_ru_stack)))] sz) ru vp ru_knots ru_kind ru_number ru_from ru_until ru_names ru_stack k_ru_kind f_ru_kind k_ru_number f_ru_number k_ru_from f_ru_from k_ru_until f_ru_until k_ru_names f_ru_names k_ru_stack f_ru_stack) 0 0 (va_A [(ru, .inr (6, [.int ru_knots, .ref ru_kind, .ref ru_number, .ref ru_from, .ref ru_until, .ref ru_names, .ref ru_stack])), (ru_kind, .inl (k_ru_kind, 64, .inl f_ru_kind)), (ru_number, .inl (k_ru_number, 64, .inl f_ru_number)), (ru_from, .inl (k_ru_from, 5, .inl f_ru_from)), (ru_until, .inl (k_ru_until, 5, .inl f_ru_until)), (ru_names, .inl (k_ru_names, 5, .inr (.inl f_ru_names))), (ru_stack, .inl (k_ru_stack, 64, .inr (.inl f_ru_stack)))] sz) := by
  refine Met.ofW (cc := cX6_value) (maxL := 8) (ret := (some .long)) (by decide) rfl ?_
  intro p e s m args below meth c s₁ B hml hv
  obtain ⟨rfl, hsz, hP, hK, hD0⟩ := hv
  have hx := B.exec
  have hb := B.bytes
  have hr := B.returns
  have hts := atoms_spec (ws := (pw_w yX6_value cX6_value 8 (some .long))) B.pre
  have hT : ∀ w ∈ pw_T, w.before _ s = true := fun w h => hts w (List.mem_cons_of_mem _ h)
  have hown : s.vm.findClass RX6 = some m.cls := findClass_of_methodNamed B.named
  have hlocks := B.notSynchronized
  subst hsz
  have hD := hD0.self (sz := s.heap.size)
  generalize hAe : va_A [(ru, .inr (6, [.int ru_knots, .ref ru_kind, .ref ru_number, .ref ru_from, .ref ru_until, .ref ru_names, .ref ru_stack])), (ru_kind, .inl (k_ru_kind, 64, .inl f_ru_kind)), (ru_number, .inl (k_ru_number, 64, .inl f_ru_number)), (ru_from, .inl (k_ru_from, 5, .inl f_ru_from)), (ru_until, .inl (k_ru_until, 5, .inl f_ru_until)), (ru_names, .inl (k_ru_names, 5, .inr (.inl f_ru_names))), (ru_stack, .inl (k_ru_stack, 64, .inr (.inl f_ru_stack)))] s.heap.size = A at hD ⊢
  have hA : ∀ q : Nat, s.heap.size ≤ q → A q := fun q h => by rw [← hAe]; exact Or.inr h
  have hS : va_S A s.heap s.heap [] := va_S.rf
  have hP : va_P (dC, dI) vwCl [(ru, .inr (6, [.int ru_knots, .ref ru_kind, .ref ru_number, .ref ru_from, .ref ru_until, .ref ru_names, .ref ru_stack])), (ru_kind, .inl (k_ru_kind, 64, .inl f_ru_kind)), (ru_number, .inl (k_ru_number, 64, .inl f_ru_number)), (ru_from, .inl (k_ru_from, 5, .inl f_ru_from)), (ru_until, .inl (k_ru_until, 5, .inl f_ru_until)), (ru_names, .inl (k_ru_names, 5, .inr (.inl f_ru_names))), (ru_stack, .inl (k_ru_stack, 64, .inr (.inl f_ru_stack)))] s.heap := hP
  have hl := lv_entry ([.ref ru, .int vp]) (n := 8) (Nat.le_of_ble_eq_true rfl)
  rw [lg_entry_eq]
  generalize (lg_sl ([.ref ru, .int vp]) ++ List.replicate (8 - (lg_sl ([.ref ru, .int vp])).length) Slot.unset).toArray = ls at hl ⊢
  have hl : lv_has ls 8 [(0, .ref ru), (1, .int vp)] := hl
  refine lv_iconst (v := 0) hx hb dX6_value_0 (by decide) ?_
  refine lv_istore_n (lv' := [(2, .int 0), (0, .ref ru), (1, .int vp)]) hx hb dX6_value_1 rfl hl (by decide) rfl (fun ls hl => ?_)
  refine lv_aload_n hx hb dX6_value_2 rfl (lv_at hl 1 rfl) ?_
  refine va_get (D := (dC, dI)) (ci := 6) (v := .ref ru_from) (C := RX6) (T := TX6) (N := 7) hx hb hT inX6 hown hK hP 0 rfl rfl 3 (by decide) (hT _ mw_1_168) (fun _ h9 => h9) rfl dX6_value_3 ?_
  refine lv_iload_n hx hb dX6_value_6 rfl (lv_at hl 2 rfl) ?_
  refine va_iald hx hb hK hP 3 2 rfl rfl (vp_in_iff.mpr (by omega)) dX6_value_7 ?_
  refine lv_topi (fun z_1 ez_1 => ?_)
  have kz_1 : 0 ≤ z_1.toInt ∧ z_1.toInt ≤ 64 := by rw [ez_1]; exact h_f_ru_from _
  have := il_eq ez_1
  refine lv_istore_n (lv' := [(3, .int z_1), (2, .int 0), (0, .ref ru), (1, .int vp)]) hx hb dX6_value_8 rfl hl (by decide) rfl (fun ls hl => ?_)
  have loop_80 : ∀ (fu : Nat), ∀ (g_78_l3 : Int32), ∀ (g_78_l2 : Int32), ∀ (g_78_f6 : Nat → Int64), (0 ≤ g_78_l3.toInt ∧ g_78_l3.toInt ≤ 64) → (0 ≤ g_78_l2.toInt ∧ g_78_l2.toInt ≤ 64) → (EVi f_ru_names f_ru_kind f_ru_number (f_ru_from vp.toNatClampNeg) g_78_l3 g_78_l2 g_78_f6) → (g_78_l3.toInt ≤ (f_ru_until vp.toNatClampNeg).toInt ∨ g_78_l3.toInt = (f_ru_from vp.toNatClampNeg).toInt) → (64 - g_78_l3.toInt < (fu : Int)) → ∀ (H : Heap) (locs : List Loc), va_P (dC, dI) vwCl [(ru, .inr (6, [.int ru_knots, .ref ru_kind, .ref ru_number, .ref ru_from, .ref ru_until, .ref ru_names, .ref ru_stack])), (ru_kind, .inl (k_ru_kind, 64, .inl f_ru_kind)), (ru_number, .inl (k_ru_number, 64, .inl f_ru_number)), (ru_from, .inl (k_ru_from, 5, .inl f_ru_from)), (ru_until, .inl (k_ru_until, 5, .inl f_ru_until)), (ru_names, .inl (k_ru_names, 5, .inr (.inl f_ru_names))), (ru_stack, .inl (k_ru_stack, 64, .inr (.inl g_78_f6)))] H → va_D A [(ru, .inr (6, [.int ru_knots, .ref ru_kind, .ref ru_number, .ref ru_from, .ref ru_until, .ref ru_names, .ref ru_stack])), (ru_kind, .inl (k_ru_kind, 64, .inl f_ru_kind)), (ru_number, .inl (k_ru_number, 64, .inl f_ru_number)), (ru_from, .inl (k_ru_from, 5, .inl f_ru_from)), (ru_until, .inl (k_ru_until, 5, .inl f_ru_until)), (ru_names, .inl (k_ru_names, 5, .inr (.inl f_ru_names))), (ru_stack, .inl (k_ru_stack, 64, .inr (.inl g_78_f6)))] → va_S A s.heap H locs → ∀ (ls : Array Slot), lv_has ls 8 [(3, .int g_78_l3), (2, .int g_78_l2), (0, .ref ru), (1, .int vp)] → W p l e (headSpec (pw_w yX6_value cX6_value 8 (some .long)) ({ frames := 2, cells := 0, slots := 0, locals := 45 })).room s m ([.ref ru, .int vp] : List Value).toArray below meth c H locs 0 0 (MQ below (q_X6_value dC dI A ru vp ru_knots ru_kind ru_number ru_from ru_until ru_names ru_stack k_ru_kind f_ru_kind k_ru_number f_ru_number k_ru_from f_ru_from k_ru_until f_ru_until k_ru_names f_ru_names k_ru_stack f_ru_stack) ([.ref ru, .int vp] : List Value).toArray s 0 0 A) (F0 m 9 ls []) := by
    intro fu
    induction fu with
    | zero => intro g_78_l3 g_78_l2 g_78_f6 hg_78_l3 hg_78_l2 hi_ev_q_79 hx0 hfu; exact absurd hfu (by omega)
    | succ fu80 ih80 =>
      intro g_78_l3 g_78_l2 g_78_f6 hg_78_l3 hg_78_l2 hi_ev_q_79 hx0 hfu80 H locs hP hD hS ls hl
      refine lv_iload_n hx hb dX6_value_9 rfl (lv_at hl 0 rfl) ?_
      refine lv_aload_n hx hb dX6_value_10 rfl (lv_at hl 2 rfl) ?_
      refine va_get (D := (dC, dI)) (ci := 6) (v := .ref ru_until) (C := RX6) (T := TX6) (N := 7) hx hb hT inX6 hown hK hP 0 rfl rfl 4 (by decide) (hT _ mw_1_170) (fun _ h9 => h9) rfl dX6_value_11 ?_
      refine lv_iload_n hx hb dX6_value_14 rfl (lv_at hl 3 rfl) ?_
      refine va_iald hx hb hK hP 4 3 rfl rfl (vp_in_iff.mpr (by omega)) dX6_value_15 ?_
      refine lv_topi (fun z_81 ez_81 => ?_)
      have kz_81 : 0 ≤ z_81.toInt ∧ z_81.toInt ≤ 64 := by rw [ez_81]; exact h_f_ru_until _
      have := il_eq ez_81
      refine lv_icmp_ge (tgt := 202) hx hb dX6_value_16 (by decide) (fun c_82 => ?_) (fun c_82 => ?_)
      · have kc_82 := il_le c_82
        refine lv_iload_n hx hb dX6_value_202 rfl (lv_at hl 1 rfl) ?_
        refine lv_iconst (v := 1) hx hb dX6_value_203 (by decide) ?_
        refine lv_icmp_ne (tgt := 216) hx hb dX6_value_204 (by decide) (fun c_83 => ?_) (fun c_83 => ?_)
        · have kc_83 := il_ne c_83
          have := (by decide : (1 : Int32).toInt = 1)
          refine lv_ldc2 (v := (-9223372036854775808)) hx hb hown (hT _ mw_4_92) dX6_value_216 ?_
          have hP9 := hP.sub (ws' := [(ru, .inr (6, [.int ru_knots, .ref ru_kind, .ref ru_number, .ref ru_from, .ref ru_until, .ref ru_names, .ref ru_stack])), (ru_kind, .inl (k_ru_kind, 64, .inl f_ru_kind)), (ru_number, .inl (k_ru_number, 64, .inl f_ru_number)), (ru_from, .inl (k_ru_from, 5, .inl f_ru_from)), (ru_until, .inl (k_ru_until, 5, .inl f_ru_until)), (ru_names, .inl (k_ru_names, 5, .inr (.inl f_ru_names))), (ru_stack, .inl (k_ru_stack, 64, .inr (.inl g_78_f6)))]) [0, 1, 2, 3, 4, 5, 6] rfl
          have hD9 := hD.sub (ws' := [(ru, .inr (6, [.int ru_knots, .ref ru_kind, .ref ru_number, .ref ru_from, .ref ru_until, .ref ru_names, .ref ru_stack])), (ru_kind, .inl (k_ru_kind, 64, .inl f_ru_kind)), (ru_number, .inl (k_ru_number, 64, .inl f_ru_number)), (ru_from, .inl (k_ru_from, 5, .inl f_ru_from)), (ru_until, .inl (k_ru_until, 5, .inl f_ru_until)), (ru_names, .inl (k_ru_names, 5, .inr (.inl f_ru_names))), (ru_stack, .inl (k_ru_stack, 64, .inr (.inl g_78_f6)))]) [0, 1, 2, 3, 4, 5, 6] (by decide) rfl
          exact W.lret (v := (-9223372036854775808)) hx hb hr (fun t ht hW => ⟨⟨(-9223372036854775808), (), rfl, (EVi_2 hi_ev_q_79 (by omega) (by omega)), g_78_f6, by rw [ht]; exact hP9, hD9⟩, hS.F ht⟩) hS.2.2 dX6_value_219
        · have kc_83 := il_eq c_83
          have := (by decide : (1 : Int32).toInt = 1)
          refine lv_aload_n hx hb dX6_value_207 rfl (lv_at hl 2 rfl) ?_
          refine va_get (D := (dC, dI)) (ci := 6) (v := .ref ru_stack) (C := RX6) (T := TX6) (N := 7) hx hb hT inX6 hown hK hP 0 rfl rfl 6 (by decide) (hT _ mw_1_173) (fun _ h9 => h9) rfl dX6_value_208 ?_
          refine lv_iconst (v := 0) hx hb dX6_value_211 (by decide) ?_
          refine va_lald hx hb hK hP 6 5 rfl rfl (pk_in 0 64 (by decide) (by decide) (by decide)) dX6_value_212 ?_
          refine lv_topl (fun z_84 ez_84 => ?_)
          refine lv_goto (tgt := 219) hx hb dX6_value_213 (by decide) ?_
          have hP9 := hP.sub (ws' := [(ru, .inr (6, [.int ru_knots, .ref ru_kind, .ref ru_number, .ref ru_from, .ref ru_until, .ref ru_names, .ref ru_stack])), (ru_kind, .inl (k_ru_kind, 64, .inl f_ru_kind)), (ru_number, .inl (k_ru_number, 64, .inl f_ru_number)), (ru_from, .inl (k_ru_from, 5, .inl f_ru_from)), (ru_until, .inl (k_ru_until, 5, .inl f_ru_until)), (ru_names, .inl (k_ru_names, 5, .inr (.inl f_ru_names))), (ru_stack, .inl (k_ru_stack, 64, .inr (.inl g_78_f6)))]) [0, 1, 2, 3, 4, 5, 6] rfl
          have hD9 := hD.sub (ws' := [(ru, .inr (6, [.int ru_knots, .ref ru_kind, .ref ru_number, .ref ru_from, .ref ru_until, .ref ru_names, .ref ru_stack])), (ru_kind, .inl (k_ru_kind, 64, .inl f_ru_kind)), (ru_number, .inl (k_ru_number, 64, .inl f_ru_number)), (ru_from, .inl (k_ru_from, 5, .inl f_ru_from)), (ru_until, .inl (k_ru_until, 5, .inl f_ru_until)), (ru_names, .inl (k_ru_names, 5, .inr (.inl f_ru_names))), (ru_stack, .inl (k_ru_stack, 64, .inr (.inl g_78_f6)))]) [0, 1, 2, 3, 4, 5, 6] (by decide) rfl
          exact W.lret (v := z_84) hx hb hr (fun t ht hW => ⟨⟨z_84, (), rfl, (EVi_1 hi_ev_q_79 (by omega) (by omega) ez_84), g_78_f6, by rw [ht]; exact hP9, hD9⟩, hS.F ht⟩) hS.2.2 dX6_value_219
      · have kc_82 := il_nle c_82
        refine lv_aload_n hx hb dX6_value_19 rfl (lv_at hl 2 rfl) ?_
        refine va_get (D := (dC, dI)) (ci := 6) (v := .ref ru_kind) (C := RX6) (T := TX6) (N := 7) hx hb hT inX6 hown hK hP 0 rfl rfl 1 (by decide) (hT _ mw_1_166) (fun _ h9 => h9) rfl dX6_value_20 ?_
        refine lv_iload_n hx hb dX6_value_23 rfl (lv_at hl 0 rfl) ?_
        refine va_iald hx hb hK hP 1 0 rfl rfl (vp_in_iff.mpr (by omega)) dX6_value_24 ?_
        refine lv_topi (fun z_85 ez_85 => ?_)
        have kz_85 : 0 ≤ z_85.toInt ∧ z_85.toInt ≤ 39 := by rw [ez_85]; exact h_f_ru_kind _
        refine lv_istore (lv' := [(4, .int z_85), (3, .int g_78_l3), (2, .int g_78_l2), (0, .ref ru), (1, .int vp)]) hx hb dX6_value_25 hl (by decide) rfl (fun ls hl => ?_)
        refine lv_iload hx hb dX6_value_27 (lv_at hl 0 rfl) ?_
        refine lv_iconst (v := 1) hx hb dX6_value_29 (by decide) ?_
        refine lv_icmp_eq (tgt := 40) hx hb dX6_value_30 (by decide) (fun c_86 => ?_) (fun c_86 => ?_)
        · have kc_86 := il_eq c_86
          have := (by decide : (1 : Int32).toInt = 1)
          refine lv_iconst (v := 0) hx hb dX6_value_40 (by decide) ?_
          refine lv_goto (tgt := 56) hx hb dX6_value_41 (by decide) ?_
          refine lv_istore (lv' := [(5, .int 0), (4, .int z_85), (3, .int g_78_l3), (2, .int g_78_l2), (0, .ref ru), (1, .int vp)]) hx hb dX6_value_56 hl (by decide) rfl (fun ls hl => ?_)
          refine lv_iload_n hx hb dX6_value_58 rfl (lv_at hl 3 rfl) ?_
          refine lv_iload hx hb dX6_value_59 (lv_at hl 0 rfl) ?_
          refine lv_isub hx hb dX6_value_61 ?_
          refine lv_topi (fun z_87 ez_87 => ?_)
          have kz_87 : z_87.toInt = g_78_l2.toInt - 0 := ti_sub ez_87 rfl (by decide) (by omega) (by omega)
          clear ez_87
          refine lv_istore_n (lv' := [(2, .int z_87), (5, .int 0), (4, .int z_85), (3, .int g_78_l3), (0, .ref ru), (1, .int vp)]) hx hb dX6_value_62 rfl hl (by decide) rfl (fun ls hl => ?_)
          refine lv_iload_n hx hb dX6_value_63 rfl (lv_at hl 0 rfl) ?_
          refine lv_if_lt (tgt := 73) hx hb dX6_value_64 (by decide) (fun c_88 => False.elim (by have := il_lt c_88; have := (by decide : (0 : Int32).toInt = 0); omega)) (fun c_88 => ?_)
          have kc_88 := il_nlt c_88
          have := (by decide : (0 : Int32).toInt = 0)
          refine lv_iload_n hx hb dX6_value_67 rfl (lv_at hl 0 rfl) ?_
          refine lv_bipush (v := 64) hx hb dX6_value_68 (by decide) ?_
          refine lv_icmp_lt (tgt := 77) hx hb dX6_value_70 (by decide) (fun c_89 => ?_) (fun c_89 => ?_)
          · have kc_89 := il_lt c_89
            have := (by decide : (64 : Int32).toInt = 64)
            refine lv_iload hx hb dX6_value_77 (lv_at hl 2 rfl) ?_
            refine lv_iconst (v := 1) hx hb dX6_value_79 (by decide) ?_
            refine lv_icmp_ne (tgt := 95) hx hb dX6_value_80 (by decide) (fun c_90 => False.elim (by have := il_ne c_90; have := (by decide : (1 : Int32).toInt = 1); omega)) (fun c_90 => ?_)
            have kc_90 := il_eq c_90
            have := (by decide : (1 : Int32).toInt = 1)
            refine lv_aload_n hx hb dX6_value_83 rfl (lv_at hl 4 rfl) ?_
            refine va_get (D := (dC, dI)) (ci := 6) (v := .ref ru_number) (C := RX6) (T := TX6) (N := 7) hx hb hT inX6 hown hK hP 0 rfl rfl 2 (by decide) (hT _ mw_1_167) (fun _ h9 => h9) rfl dX6_value_84 ?_
            refine lv_iload_n hx hb dX6_value_87 rfl (lv_at hl 3 rfl) ?_
            refine va_iald hx hb hK hP 2 1 rfl rfl (vp_in_iff.mpr (by omega)) dX6_value_88 ?_
            refine lv_topi (fun z_91 ez_91 => ?_)
            refine lv_i2l hx hb dX6_value_89 rfl ?_
            refine lv_topl (fun z_92 ez_92 => ?_)
            refine lv_lstore (lv' := [(6, .long z_92), (2, .int z_87), (5, .int 0), (4, .int z_85), (3, .int g_78_l3), (0, .ref ru), (1, .int vp)]) hx hb dX6_value_90 hl (by decide) rfl (fun ls hl => ?_)
            refine lv_goto (tgt := 163) hx hb dX6_value_92 (by decide) ?_
            refine lv_lload hx hb dX6_value_163 (lv_at hl 0 rfl) ?_
            refine lv_ldc2 (v := 1000000000000) hx hb hown (hT _ mw_4_99) dX6_value_165 ?_
            refine W.lcmp hx hb dX6_value_168 ?_
            refine lv_topi (fun z_93 ez_93 => ?_)
            have kz_93 : -1 ≤ z_93.toInt ∧ z_93.toInt ≤ 1 := lc_rng ez_93
            refine lv_if_gt (tgt := 181) hx hb dX6_value_169 (by decide) (fun c_94 => ?_) (fun c_94 => ?_)
            · have kc_94 := il_lt c_94
              have := (by decide : (0 : Int32).toInt = 0)
              refine lv_ldc2 (v := (-9223372036854775808)) hx hb hown (hT _ mw_4_92) dX6_value_181 ?_
              have hP9 := hP.sub (ws' := [(ru, .inr (6, [.int ru_knots, .ref ru_kind, .ref ru_number, .ref ru_from, .ref ru_until, .ref ru_names, .ref ru_stack])), (ru_kind, .inl (k_ru_kind, 64, .inl f_ru_kind)), (ru_number, .inl (k_ru_number, 64, .inl f_ru_number)), (ru_from, .inl (k_ru_from, 5, .inl f_ru_from)), (ru_until, .inl (k_ru_until, 5, .inl f_ru_until)), (ru_names, .inl (k_ru_names, 5, .inr (.inl f_ru_names))), (ru_stack, .inl (k_ru_stack, 64, .inr (.inl g_78_f6)))]) [0, 1, 2, 3, 4, 5, 6] rfl
              have hD9 := hD.sub (ws' := [(ru, .inr (6, [.int ru_knots, .ref ru_kind, .ref ru_number, .ref ru_from, .ref ru_until, .ref ru_names, .ref ru_stack])), (ru_kind, .inl (k_ru_kind, 64, .inl f_ru_kind)), (ru_number, .inl (k_ru_number, 64, .inl f_ru_number)), (ru_from, .inl (k_ru_from, 5, .inl f_ru_from)), (ru_until, .inl (k_ru_until, 5, .inl f_ru_until)), (ru_names, .inl (k_ru_names, 5, .inr (.inl f_ru_names))), (ru_stack, .inl (k_ru_stack, 64, .inr (.inl g_78_f6)))]) [0, 1, 2, 3, 4, 5, 6] (by decide) rfl
              exact W.lret (v := (-9223372036854775808)) hx hb hr (fun t ht hW => ⟨⟨(-9223372036854775808), (), rfl, (EVi_x (u := (f_ru_until vp.toNatClampNeg)) hi_ev_q_79 (by omega) ez_85 (by omega) (Or.inr ⟨z_87, z_92, (by rw [evo_0 (by omega)]; omega), (by omega), (by rw [evv_1 (by omega), ez_92, ez_91]), evb_1 (show 0 < (lg_cmp z_92 1000000000000).toInt by rw [← ez_93]; omega)⟩)).symm, g_78_f6, by rw [ht]; exact hP9, hD9⟩, hS.F ht⟩) hS.2.2 dX6_value_184
            · have kc_94 := il_nlt c_94
              have := (by decide : (0 : Int32).toInt = 0)
              refine lv_lload hx hb dX6_value_172 (lv_at hl 0 rfl) ?_
              refine lv_ldc2 (v := (-1000000000000)) hx hb hown (hT _ mw_4_100) dX6_value_174 ?_
              refine W.lcmp hx hb dX6_value_177 ?_
              refine lv_topi (fun z_95 ez_95 => ?_)
              have kz_95 : -1 ≤ z_95.toInt ∧ z_95.toInt ≤ 1 := lc_rng ez_95
              refine lv_if_ge (tgt := 185) hx hb dX6_value_178 (by decide) (fun c_96 => ?_) (fun c_96 => ?_)
              · have kc_96 := il_le c_96
                have := (by decide : (0 : Int32).toInt = 0)
                refine lv_aload_n hx hb dX6_value_185 rfl (lv_at hl 5 rfl) ?_
                refine va_get (D := (dC, dI)) (ci := 6) (v := .ref ru_stack) (C := RX6) (T := TX6) (N := 7) hx hb hT inX6 hown hK hP 0 rfl rfl 6 (by decide) (hT _ mw_1_173) (fun _ h9 => h9) rfl dX6_value_186 ?_
                refine lv_iload_n hx hb dX6_value_189 rfl (lv_at hl 1 rfl) ?_
                refine lv_lload hx hb dX6_value_190 (lv_at hl 0 rfl) ?_
                refine va_last hx hb hK hP hD hS 6 5 rfl rfl (vp_in_iff.mpr (by omega)) dX6_value_192 (fun H locs hP hD hS => ?_)
                have hP : va_P (dC, dI) vwCl [(ru, .inr (6, [.int ru_knots, .ref ru_kind, .ref ru_number, .ref ru_from, .ref ru_until, .ref ru_names, .ref ru_stack])), (ru_kind, .inl (k_ru_kind, 64, .inl f_ru_kind)), (ru_number, .inl (k_ru_number, 64, .inl f_ru_number)), (ru_from, .inl (k_ru_from, 5, .inl f_ru_from)), (ru_until, .inl (k_ru_until, 5, .inl f_ru_until)), (ru_names, .inl (k_ru_names, 5, .inr (.inl f_ru_names))), (ru_stack, .inl (k_ru_stack, 64, .inr (.inl (vp_updL g_78_f6 (z_87 : Int32).toNatClampNeg z_92))))] H := hP
                have hD : va_D A [(ru, .inr (6, [.int ru_knots, .ref ru_kind, .ref ru_number, .ref ru_from, .ref ru_until, .ref ru_names, .ref ru_stack])), (ru_kind, .inl (k_ru_kind, 64, .inl f_ru_kind)), (ru_number, .inl (k_ru_number, 64, .inl f_ru_number)), (ru_from, .inl (k_ru_from, 5, .inl f_ru_from)), (ru_until, .inl (k_ru_until, 5, .inl f_ru_until)), (ru_names, .inl (k_ru_names, 5, .inr (.inl f_ru_names))), (ru_stack, .inl (k_ru_stack, 64, .inr (.inl (vp_updL g_78_f6 (z_87 : Int32).toNatClampNeg z_92))))] := hD
                obtain ⟨f_97, ef_97⟩ : ∃ g : Nat → Int64, (vp_updL g_78_f6 (z_87 : Int32).toNatClampNeg z_92) = g := ⟨_, rfl⟩
                rw [ef_97] at hP hD
                obtain ⟨z_98, ez_98⟩ : ∃ y : Int32, y = z_87 + Int32.ofInt (1) := ⟨_, rfl⟩
                have kz_98 : z_98.toInt = z_87.toInt + (1) := ti_add ez_98 rfl (by decide) (by omega) (by omega)
                refine lv_iinc (v := z_98) (lv' := [(2, .int z_98), (6, .long z_92), (5, .int 0), (4, .int z_85), (3, .int g_78_l3), (0, .ref ru), (1, .int vp)]) hx hb dX6_value_193 hl (k := 1) rfl (ez_98.symm) (by decide) rfl (fun ls hl => ?_)
                clear ez_98
                obtain ⟨z_99, ez_99⟩ : ∃ y : Int32, y = g_78_l3 + Int32.ofInt (1) := ⟨_, rfl⟩
                have kz_99 : z_99.toInt = g_78_l3.toInt + (1) := ti_add ez_99 rfl (by decide) (by omega) (by omega)
                refine lv_iinc (v := z_99) (lv' := [(3, .int z_99), (2, .int z_98), (6, .long z_92), (5, .int 0), (4, .int z_85), (0, .ref ru), (1, .int vp)]) hx hb dX6_value_196 hl (k := 4) rfl (ez_99.symm) (by decide) rfl (fun ls hl => ?_)
                clear ez_99
                refine lv_goto (tgt := 9) hx hb dX6_value_199 (by decide) ?_
                exact ih80 z_99 z_98 f_97 (by omega) (by omega) (EVi_s (t1 := z_87) hi_ev_q_79 (by omega) ez_85 (by rw [evo_0 (by omega)]; omega) (by omega) (by rw [evv_1 (by omega), ez_92, ez_91]) (evb_0 (show (lg_cmp z_92 1000000000000).toInt ≤ 0 by rw [← ez_93]; omega) (show 0 ≤ (lg_cmp z_92 (-1000000000000)).toInt by rw [← ez_95]; omega)) ef_97 (by omega) (by omega)) (by omega) (by omega) _ _ (hP.sub [0, 1, 2, 3, 4, 5, 6] rfl) (hD.sub [0, 1, 2, 3, 4, 5, 6] (by decide) rfl) hS _ (lv_sub hl [0, 1, 5, 6] rfl)
              · have kc_96 := il_nle c_96
                have := (by decide : (0 : Int32).toInt = 0)
                refine lv_ldc2 (v := (-9223372036854775808)) hx hb hown (hT _ mw_4_92) dX6_value_181 ?_
                have hP9 := hP.sub (ws' := [(ru, .inr (6, [.int ru_knots, .ref ru_kind, .ref ru_number, .ref ru_from, .ref ru_until, .ref ru_names, .ref ru_stack])), (ru_kind, .inl (k_ru_kind, 64, .inl f_ru_kind)), (ru_number, .inl (k_ru_number, 64, .inl f_ru_number)), (ru_from, .inl (k_ru_from, 5, .inl f_ru_from)), (ru_until, .inl (k_ru_until, 5, .inl f_ru_until)), (ru_names, .inl (k_ru_names, 5, .inr (.inl f_ru_names))), (ru_stack, .inl (k_ru_stack, 64, .inr (.inl g_78_f6)))]) [0, 1, 2, 3, 4, 5, 6] rfl
                have hD9 := hD.sub (ws' := [(ru, .inr (6, [.int ru_knots, .ref ru_kind, .ref ru_number, .ref ru_from, .ref ru_until, .ref ru_names, .ref ru_stack])), (ru_kind, .inl (k_ru_kind, 64, .inl f_ru_kind)), (ru_number, .inl (k_ru_number, 64, .inl f_ru_number)), (ru_from, .inl (k_ru_from, 5, .inl f_ru_from)), (ru_until, .inl (k_ru_until, 5, .inl f_ru_until)), (ru_names, .inl (k_ru_names, 5, .inr (.inl f_ru_names))), (ru_stack, .inl (k_ru_stack, 64, .inr (.inl g_78_f6)))]) [0, 1, 2, 3, 4, 5, 6] (by decide) rfl
                exact W.lret (v := (-9223372036854775808)) hx hb hr (fun t ht hW => ⟨⟨(-9223372036854775808), (), rfl, (EVi_x (u := (f_ru_until vp.toNatClampNeg)) hi_ev_q_79 (by omega) ez_85 (by omega) (Or.inr ⟨z_87, z_92, (by rw [evo_0 (by omega)]; omega), (by omega), (by rw [evv_1 (by omega), ez_92, ez_91]), evb_2 (show (lg_cmp z_92 (-1000000000000)).toInt < 0 by rw [← ez_95]; omega)⟩)).symm, g_78_f6, by rw [ht]; exact hP9, hD9⟩, hS.F ht⟩) hS.2.2 dX6_value_184
          · have kc_89 := il_nlt c_89
            have := (by decide : (64 : Int32).toInt = 64)
            refine lv_ldc2 (v := (-9223372036854775808)) hx hb hown (hT _ mw_4_92) dX6_value_73 ?_
            have hP9 := hP.sub (ws' := [(ru, .inr (6, [.int ru_knots, .ref ru_kind, .ref ru_number, .ref ru_from, .ref ru_until, .ref ru_names, .ref ru_stack])), (ru_kind, .inl (k_ru_kind, 64, .inl f_ru_kind)), (ru_number, .inl (k_ru_number, 64, .inl f_ru_number)), (ru_from, .inl (k_ru_from, 5, .inl f_ru_from)), (ru_until, .inl (k_ru_until, 5, .inl f_ru_until)), (ru_names, .inl (k_ru_names, 5, .inr (.inl f_ru_names))), (ru_stack, .inl (k_ru_stack, 64, .inr (.inl g_78_f6)))]) [0, 1, 2, 3, 4, 5, 6] rfl
            have hD9 := hD.sub (ws' := [(ru, .inr (6, [.int ru_knots, .ref ru_kind, .ref ru_number, .ref ru_from, .ref ru_until, .ref ru_names, .ref ru_stack])), (ru_kind, .inl (k_ru_kind, 64, .inl f_ru_kind)), (ru_number, .inl (k_ru_number, 64, .inl f_ru_number)), (ru_from, .inl (k_ru_from, 5, .inl f_ru_from)), (ru_until, .inl (k_ru_until, 5, .inl f_ru_until)), (ru_names, .inl (k_ru_names, 5, .inr (.inl f_ru_names))), (ru_stack, .inl (k_ru_stack, 64, .inr (.inl g_78_f6)))]) [0, 1, 2, 3, 4, 5, 6] (by decide) rfl
            exact W.lret (v := (-9223372036854775808)) hx hb hr (fun t ht hW => ⟨⟨(-9223372036854775808), (), rfl, (False.elim (by have := EVi_t hi_ev_q_79; omega)), g_78_f6, by rw [ht]; exact hP9, hD9⟩, hS.F ht⟩) hS.2.2 dX6_value_76
        · have kc_86 := il_ne c_86
          have := (by decide : (1 : Int32).toInt = 1)
          refine lv_iload hx hb dX6_value_33 (lv_at hl 0 rfl) ?_
          refine lv_bipush (v := 35) hx hb dX6_value_35 (by decide) ?_
          refine lv_icmp_lt (tgt := 44) hx hb dX6_value_37 (by decide) (fun c_100 => ?_) (fun c_100 => ?_)
          · have kc_100 := il_lt c_100
            have := (by decide : (35 : Int32).toInt = 35)
            refine lv_iload hx hb dX6_value_44 (lv_at hl 0 rfl) ?_
            refine lv_bipush (v := 34) hx hb dX6_value_46 (by decide) ?_
            refine lv_icmp_ne (tgt := 55) hx hb dX6_value_48 (by decide) (fun c_101 => ?_) (fun c_101 => ?_)
            · have kc_101 := il_ne c_101
              have := (by decide : (34 : Int32).toInt = 34)
              refine lv_iconst (v := 2) hx hb dX6_value_55 (by decide) ?_
              refine lv_istore (lv' := [(5, .int 2), (4, .int z_85), (3, .int g_78_l3), (2, .int g_78_l2), (0, .ref ru), (1, .int vp)]) hx hb dX6_value_56 hl (by decide) rfl (fun ls hl => ?_)
              refine lv_iload_n hx hb dX6_value_58 rfl (lv_at hl 3 rfl) ?_
              refine lv_iload hx hb dX6_value_59 (lv_at hl 0 rfl) ?_
              refine lv_isub hx hb dX6_value_61 ?_
              refine lv_topi (fun z_102 ez_102 => ?_)
              have kz_102 : z_102.toInt = g_78_l2.toInt - 2 := ti_sub ez_102 rfl (by decide) (by omega) (by omega)
              clear ez_102
              refine lv_istore_n (lv' := [(2, .int z_102), (5, .int 2), (4, .int z_85), (3, .int g_78_l3), (0, .ref ru), (1, .int vp)]) hx hb dX6_value_62 rfl hl (by decide) rfl (fun ls hl => ?_)
              refine lv_iload_n hx hb dX6_value_63 rfl (lv_at hl 0 rfl) ?_
              refine lv_if_lt (tgt := 73) hx hb dX6_value_64 (by decide) (fun c_103 => ?_) (fun c_103 => ?_)
              · have kc_103 := il_lt c_103
                have := (by decide : (0 : Int32).toInt = 0)
                refine lv_ldc2 (v := (-9223372036854775808)) hx hb hown (hT _ mw_4_92) dX6_value_73 ?_
                have hP9 := hP.sub (ws' := [(ru, .inr (6, [.int ru_knots, .ref ru_kind, .ref ru_number, .ref ru_from, .ref ru_until, .ref ru_names, .ref ru_stack])), (ru_kind, .inl (k_ru_kind, 64, .inl f_ru_kind)), (ru_number, .inl (k_ru_number, 64, .inl f_ru_number)), (ru_from, .inl (k_ru_from, 5, .inl f_ru_from)), (ru_until, .inl (k_ru_until, 5, .inl f_ru_until)), (ru_names, .inl (k_ru_names, 5, .inr (.inl f_ru_names))), (ru_stack, .inl (k_ru_stack, 64, .inr (.inl g_78_f6)))]) [0, 1, 2, 3, 4, 5, 6] rfl
                have hD9 := hD.sub (ws' := [(ru, .inr (6, [.int ru_knots, .ref ru_kind, .ref ru_number, .ref ru_from, .ref ru_until, .ref ru_names, .ref ru_stack])), (ru_kind, .inl (k_ru_kind, 64, .inl f_ru_kind)), (ru_number, .inl (k_ru_number, 64, .inl f_ru_number)), (ru_from, .inl (k_ru_from, 5, .inl f_ru_from)), (ru_until, .inl (k_ru_until, 5, .inl f_ru_until)), (ru_names, .inl (k_ru_names, 5, .inr (.inl f_ru_names))), (ru_stack, .inl (k_ru_stack, 64, .inr (.inl g_78_f6)))]) [0, 1, 2, 3, 4, 5, 6] (by decide) rfl
                exact W.lret (v := (-9223372036854775808)) hx hb hr (fun t ht hW => ⟨⟨(-9223372036854775808), (), rfl, (EVi_x (u := (f_ru_until vp.toNatClampNeg)) hi_ev_q_79 (by omega) ez_85 (by omega) (Or.inl (by rw [evo_2 (by omega) (by omega)]; omega))).symm, g_78_f6, by rw [ht]; exact hP9, hD9⟩, hS.F ht⟩) hS.2.2 dX6_value_76
              · have kc_103 := il_nlt c_103
                have := (by decide : (0 : Int32).toInt = 0)
                refine lv_iload_n hx hb dX6_value_67 rfl (lv_at hl 0 rfl) ?_
                refine lv_bipush (v := 64) hx hb dX6_value_68 (by decide) ?_
                refine lv_icmp_lt (tgt := 77) hx hb dX6_value_70 (by decide) (fun c_104 => ?_) (fun c_104 => False.elim (by have := il_nlt c_104; have := (by decide : (64 : Int32).toInt = 64); omega))
                have kc_104 := il_lt c_104
                have := (by decide : (64 : Int32).toInt = 64)
                refine lv_iload hx hb dX6_value_77 (lv_at hl 2 rfl) ?_
                refine lv_iconst (v := 1) hx hb dX6_value_79 (by decide) ?_
                refine lv_icmp_ne (tgt := 95) hx hb dX6_value_80 (by decide) (fun c_105 => ?_) (fun c_105 => False.elim (by have := il_eq c_105; have := (by decide : (1 : Int32).toInt = 1); omega))
                have kc_105 := il_ne c_105
                have := (by decide : (1 : Int32).toInt = 1)
                refine lv_iload hx hb dX6_value_95 (lv_at hl 1 rfl) ?_
                refine lv_if_ne (tgt := 115) hx hb dX6_value_97 (by decide) (fun c_106 => ?_) (fun c_106 => absurd c_106 (by decide))
                refine lv_iload hx hb dX6_value_115 (lv_at hl 1 rfl) ?_
                refine lv_iconst (v := 1) hx hb dX6_value_117 (by decide) ?_
                refine lv_icmp_ne (tgt := 142) hx hb dX6_value_118 (by decide) (fun c_107 => ?_) (fun c_107 => absurd c_107 (by decide))
                refine lv_iload hx hb dX6_value_142 (lv_at hl 2 rfl) ?_
                refine lv_aload_n hx hb dX6_value_144 rfl (lv_at hl 4 rfl) ?_
                refine va_get (D := (dC, dI)) (ci := 6) (v := .ref ru_stack) (C := RX6) (T := TX6) (N := 7) hx hb hT inX6 hown hK hP 0 rfl rfl 6 (by decide) (hT _ mw_1_173) (fun _ h9 => h9) rfl dX6_value_145 ?_
                refine lv_iload_n hx hb dX6_value_148 rfl (lv_at hl 0 rfl) ?_
                refine va_lald hx hb hK hP 6 5 rfl rfl (vp_in_iff.mpr (by omega)) dX6_value_149 ?_
                refine lv_topl (fun z_108 ez_108 => ?_)
                refine lv_aload_n hx hb dX6_value_150 rfl (lv_at hl 4 rfl) ?_
                refine va_get (D := (dC, dI)) (ci := 6) (v := .ref ru_stack) (C := RX6) (T := TX6) (N := 7) hx hb hT inX6 hown hK hP 0 rfl rfl 6 (by decide) (hT _ mw_1_173) (fun _ h9 => h9) rfl dX6_value_151 ?_
                refine lv_iload_n hx hb dX6_value_154 rfl (lv_at hl 0 rfl) ?_
                refine lv_iconst (v := 1) hx hb dX6_value_155 (by decide) ?_
                refine lv_iadd hx hb dX6_value_156 ?_
                refine lv_topi (fun z_109 ez_109 => ?_)
                have kz_109 : z_109.toInt = z_102.toInt + 1 := ti_add ez_109 rfl (by decide) (by omega) (by omega)
                clear ez_109
                refine va_lald hx hb hK hP 6 5 rfl rfl (vp_in_iff.mpr (by omega)) dX6_value_157 ?_
                refine lv_topl (fun z_110 ez_110 => ?_)
                have hPc := hP.sub (ws' := []) [] rfl
                have hDc := hD.sub (ws' := []) [] (by decide) rfl
                have hKc := hK.sub (tys' := []) [] rfl
                have hFc := va_free (wc := []) hD hS hA [] rfl
                refine va_calll (va_runS (As := [.int z_85, .long z_108, .long z_110]) (rest := []) ⟨hx, hb, hml, hown, hT⟩ (c_X6_joined l dC dI H.size z_85 z_108 z_110 ) (va_cwS 3 hT (gwS mw_4_93 mw_4_94 mw_1_9 mw_4_95) rfl rfl rfl (by decide +kernel) ⟨Nat.le_of_ble_eq_true rfl, Nat.le_of_ble_eq_true rfl⟩) ⟨fun a U g mk q => by obtain ⟨q0, q1, qP, qK, qD⟩ := q; exact ⟨q0, q1, qP, va_K.moved (u := U) (U := U.calling g mk a) (Vm.Alike.refl U.vm) qK, qD⟩, fun U hU hW => ⟨rfl, by rw [hU], by rw [hU]; exact hPc, va_K.moved hW.alike hKc, hDc.weaken (fun _ _ _ _ => trivial)⟩⟩ rfl rfl hl.1 rfl (lv_room (Nat.le_of_ble_eq_true rfl)) dX6_value_158 ⟨Nat.le_of_ble_eq_true rfl, Nat.le_of_ble_eq_true rfl⟩) hS (fun q _ h => hFc q h) hFc (fun r_111 u t H1 locs ht hvm hw hB hz1 hk1 hS => ?_)
                obtain ⟨hP1, hD1⟩ := hB
                rw [ht] at hP1
                obtain ⟨hP, hD⟩ := va_join (wr := [(ru, .inr (6, [.int ru_knots, .ref ru_kind, .ref ru_number, .ref ru_from, .ref ru_until, .ref ru_names, .ref ru_stack])), (ru_kind, .inl (k_ru_kind, 64, .inl f_ru_kind)), (ru_number, .inl (k_ru_number, 64, .inl f_ru_number)), (ru_from, .inl (k_ru_from, 5, .inl f_ru_from)), (ru_until, .inl (k_ru_until, 5, .inl f_ru_until)), (ru_names, .inl (k_ru_names, 5, .inr (.inl f_ru_names))), (ru_stack, .inl (k_ru_stack, 64, .inr (.inl g_78_f6)))]) (w1 := []) hP hD [] [0, 1, 2, 3, 4, 5, 6] rfl rfl (by decide) (by decide) hk1 hFc hP1 hD1
                generalize H1 = H at hP hS ⊢
                have hP : va_P (dC, dI) vwCl [(ru, .inr (6, [.int ru_knots, .ref ru_kind, .ref ru_number, .ref ru_from, .ref ru_until, .ref ru_names, .ref ru_stack])), (ru_kind, .inl (k_ru_kind, 64, .inl f_ru_kind)), (ru_number, .inl (k_ru_number, 64, .inl f_ru_number)), (ru_from, .inl (k_ru_from, 5, .inl f_ru_from)), (ru_until, .inl (k_ru_until, 5, .inl f_ru_until)), (ru_names, .inl (k_ru_names, 5, .inr (.inl f_ru_names))), (ru_stack, .inl (k_ru_stack, 64, .inr (.inl g_78_f6)))] H := hP
                have hD : va_D A [(ru, .inr (6, [.int ru_knots, .ref ru_kind, .ref ru_number, .ref ru_from, .ref ru_until, .ref ru_names, .ref ru_stack])), (ru_kind, .inl (k_ru_kind, 64, .inl f_ru_kind)), (ru_number, .inl (k_ru_number, 64, .inl f_ru_number)), (ru_from, .inl (k_ru_from, 5, .inl f_ru_from)), (ru_until, .inl (k_ru_until, 5, .inl f_ru_until)), (ru_names, .inl (k_ru_names, 5, .inr (.inl f_ru_names))), (ru_stack, .inl (k_ru_stack, 64, .inr (.inl g_78_f6)))] := hD
                clear hPc hDc hKc hFc hP1 hD1 hk1 hz1 ht hvm
                have hwr_111 : r_111 = evj z_85.toInt z_108 z_110 := hw
                clear hw
                refine lv_lstore (lv' := [(6, .long r_111), (2, .int z_102), (5, .int 2), (4, .int z_85), (3, .int g_78_l3), (0, .ref ru), (1, .int vp)]) hx hb dX6_value_161 hl (by decide) rfl (fun ls hl => ?_)
                refine lv_lload hx hb dX6_value_163 (lv_at hl 0 rfl) ?_
                refine lv_ldc2 (v := 1000000000000) hx hb hown (hT _ mw_4_99) dX6_value_165 ?_
                refine W.lcmp hx hb dX6_value_168 ?_
                refine lv_topi (fun z_112 ez_112 => ?_)
                have kz_112 : -1 ≤ z_112.toInt ∧ z_112.toInt ≤ 1 := lc_rng ez_112
                refine lv_if_gt (tgt := 181) hx hb dX6_value_169 (by decide) (fun c_113 => ?_) (fun c_113 => ?_)
                · have kc_113 := il_lt c_113
                  have := (by decide : (0 : Int32).toInt = 0)
                  refine lv_ldc2 (v := (-9223372036854775808)) hx hb hown (hT _ mw_4_92) dX6_value_181 ?_
                  have hP9 := hP.sub (ws' := [(ru, .inr (6, [.int ru_knots, .ref ru_kind, .ref ru_number, .ref ru_from, .ref ru_until, .ref ru_names, .ref ru_stack])), (ru_kind, .inl (k_ru_kind, 64, .inl f_ru_kind)), (ru_number, .inl (k_ru_number, 64, .inl f_ru_number)), (ru_from, .inl (k_ru_from, 5, .inl f_ru_from)), (ru_until, .inl (k_ru_until, 5, .inl f_ru_until)), (ru_names, .inl (k_ru_names, 5, .inr (.inl f_ru_names))), (ru_stack, .inl (k_ru_stack, 64, .inr (.inl g_78_f6)))]) [0, 1, 2, 3, 4, 5, 6] rfl
                  have hD9 := hD.sub (ws' := [(ru, .inr (6, [.int ru_knots, .ref ru_kind, .ref ru_number, .ref ru_from, .ref ru_until, .ref ru_names, .ref ru_stack])), (ru_kind, .inl (k_ru_kind, 64, .inl f_ru_kind)), (ru_number, .inl (k_ru_number, 64, .inl f_ru_number)), (ru_from, .inl (k_ru_from, 5, .inl f_ru_from)), (ru_until, .inl (k_ru_until, 5, .inl f_ru_until)), (ru_names, .inl (k_ru_names, 5, .inr (.inl f_ru_names))), (ru_stack, .inl (k_ru_stack, 64, .inr (.inl g_78_f6)))]) [0, 1, 2, 3, 4, 5, 6] (by decide) rfl
                  exact W.lret (v := (-9223372036854775808)) hx hb hr (fun t ht hW => ⟨⟨(-9223372036854775808), (), rfl, (EVi_x (u := (f_ru_until vp.toNatClampNeg)) hi_ev_q_79 (by omega) ez_85 (by omega) (Or.inr ⟨z_102, r_111, (by rw [evo_2 (by omega) (by omega)]; omega), (by omega), (hwr_111.trans (by rw [evv_4 (by omega) (by omega), ez_108, ez_110, show z_109.toNatClampNeg = z_102.toNatClampNeg + 1 by rw [tn_c, tn_c]; omega]; first | rfl | skip)), evb_1 (show 0 < (lg_cmp r_111 1000000000000).toInt by rw [← ez_112]; omega)⟩)).symm, g_78_f6, by rw [ht]; exact hP9, hD9⟩, hS.F ht⟩) hS.2.2 dX6_value_184
                · have kc_113 := il_nlt c_113
                  have := (by decide : (0 : Int32).toInt = 0)
                  refine lv_lload hx hb dX6_value_172 (lv_at hl 0 rfl) ?_
                  refine lv_ldc2 (v := (-1000000000000)) hx hb hown (hT _ mw_4_100) dX6_value_174 ?_
                  refine W.lcmp hx hb dX6_value_177 ?_
                  refine lv_topi (fun z_114 ez_114 => ?_)
                  have kz_114 : -1 ≤ z_114.toInt ∧ z_114.toInt ≤ 1 := lc_rng ez_114
                  refine lv_if_ge (tgt := 185) hx hb dX6_value_178 (by decide) (fun c_115 => ?_) (fun c_115 => ?_)
                  · have kc_115 := il_le c_115
                    have := (by decide : (0 : Int32).toInt = 0)
                    refine lv_aload_n hx hb dX6_value_185 rfl (lv_at hl 5 rfl) ?_
                    refine va_get (D := (dC, dI)) (ci := 6) (v := .ref ru_stack) (C := RX6) (T := TX6) (N := 7) hx hb hT inX6 hown hK hP 0 rfl rfl 6 (by decide) (hT _ mw_1_173) (fun _ h9 => h9) rfl dX6_value_186 ?_
                    refine lv_iload_n hx hb dX6_value_189 rfl (lv_at hl 1 rfl) ?_
                    refine lv_lload hx hb dX6_value_190 (lv_at hl 0 rfl) ?_
                    refine va_last hx hb hK hP hD hS 6 5 rfl rfl (vp_in_iff.mpr (by omega)) dX6_value_192 (fun H locs hP hD hS => ?_)
                    have hP : va_P (dC, dI) vwCl [(ru, .inr (6, [.int ru_knots, .ref ru_kind, .ref ru_number, .ref ru_from, .ref ru_until, .ref ru_names, .ref ru_stack])), (ru_kind, .inl (k_ru_kind, 64, .inl f_ru_kind)), (ru_number, .inl (k_ru_number, 64, .inl f_ru_number)), (ru_from, .inl (k_ru_from, 5, .inl f_ru_from)), (ru_until, .inl (k_ru_until, 5, .inl f_ru_until)), (ru_names, .inl (k_ru_names, 5, .inr (.inl f_ru_names))), (ru_stack, .inl (k_ru_stack, 64, .inr (.inl (vp_updL g_78_f6 (z_102 : Int32).toNatClampNeg r_111))))] H := hP
                    have hD : va_D A [(ru, .inr (6, [.int ru_knots, .ref ru_kind, .ref ru_number, .ref ru_from, .ref ru_until, .ref ru_names, .ref ru_stack])), (ru_kind, .inl (k_ru_kind, 64, .inl f_ru_kind)), (ru_number, .inl (k_ru_number, 64, .inl f_ru_number)), (ru_from, .inl (k_ru_from, 5, .inl f_ru_from)), (ru_until, .inl (k_ru_until, 5, .inl f_ru_until)), (ru_names, .inl (k_ru_names, 5, .inr (.inl f_ru_names))), (ru_stack, .inl (k_ru_stack, 64, .inr (.inl (vp_updL g_78_f6 (z_102 : Int32).toNatClampNeg r_111))))] := hD
                    obtain ⟨f_116, ef_116⟩ : ∃ g : Nat → Int64, (vp_updL g_78_f6 (z_102 : Int32).toNatClampNeg r_111) = g := ⟨_, rfl⟩
                    rw [ef_116] at hP hD
                    obtain ⟨z_117, ez_117⟩ : ∃ y : Int32, y = z_102 + Int32.ofInt (1) := ⟨_, rfl⟩
                    have kz_117 : z_117.toInt = z_102.toInt + (1) := ti_add ez_117 rfl (by decide) (by omega) (by omega)
                    refine lv_iinc (v := z_117) (lv' := [(2, .int z_117), (6, .long r_111), (5, .int 2), (4, .int z_85), (3, .int g_78_l3), (0, .ref ru), (1, .int vp)]) hx hb dX6_value_193 hl (k := 1) rfl (ez_117.symm) (by decide) rfl (fun ls hl => ?_)
                    clear ez_117
                    obtain ⟨z_118, ez_118⟩ : ∃ y : Int32, y = g_78_l3 + Int32.ofInt (1) := ⟨_, rfl⟩
                    have kz_118 : z_118.toInt = g_78_l3.toInt + (1) := ti_add ez_118 rfl (by decide) (by omega) (by omega)
                    refine lv_iinc (v := z_118) (lv' := [(3, .int z_118), (2, .int z_117), (6, .long r_111), (5, .int 2), (4, .int z_85), (0, .ref ru), (1, .int vp)]) hx hb dX6_value_196 hl (k := 4) rfl (ez_118.symm) (by decide) rfl (fun ls hl => ?_)
                    clear ez_118
                    refine lv_goto (tgt := 9) hx hb dX6_value_199 (by decide) ?_
                    exact ih80 z_118 z_117 f_116 (by omega) (by omega) (EVi_s (t1 := z_102) hi_ev_q_79 (by omega) ez_85 (by rw [evo_2 (by omega) (by omega)]; omega) (by omega) (hwr_111.trans (by rw [evv_4 (by omega) (by omega), ez_108, ez_110, show z_109.toNatClampNeg = z_102.toNatClampNeg + 1 by rw [tn_c, tn_c]; omega]; first | rfl | skip)) (evb_0 (show (lg_cmp r_111 1000000000000).toInt ≤ 0 by rw [← ez_112]; omega) (show 0 ≤ (lg_cmp r_111 (-1000000000000)).toInt by rw [← ez_114]; omega)) ef_116 (by omega) (by omega)) (by omega) (by omega) _ _ (hP.sub [0, 1, 2, 3, 4, 5, 6] rfl) (hD.sub [0, 1, 2, 3, 4, 5, 6] (by decide) rfl) hS _ (lv_sub hl [0, 1, 5, 6] rfl)
                  · have kc_115 := il_nle c_115
                    have := (by decide : (0 : Int32).toInt = 0)
                    refine lv_ldc2 (v := (-9223372036854775808)) hx hb hown (hT _ mw_4_92) dX6_value_181 ?_
                    have hP9 := hP.sub (ws' := [(ru, .inr (6, [.int ru_knots, .ref ru_kind, .ref ru_number, .ref ru_from, .ref ru_until, .ref ru_names, .ref ru_stack])), (ru_kind, .inl (k_ru_kind, 64, .inl f_ru_kind)), (ru_number, .inl (k_ru_number, 64, .inl f_ru_number)), (ru_from, .inl (k_ru_from, 5, .inl f_ru_from)), (ru_until, .inl (k_ru_until, 5, .inl f_ru_until)), (ru_names, .inl (k_ru_names, 5, .inr (.inl f_ru_names))), (ru_stack, .inl (k_ru_stack, 64, .inr (.inl g_78_f6)))]) [0, 1, 2, 3, 4, 5, 6] rfl
                    have hD9 := hD.sub (ws' := [(ru, .inr (6, [.int ru_knots, .ref ru_kind, .ref ru_number, .ref ru_from, .ref ru_until, .ref ru_names, .ref ru_stack])), (ru_kind, .inl (k_ru_kind, 64, .inl f_ru_kind)), (ru_number, .inl (k_ru_number, 64, .inl f_ru_number)), (ru_from, .inl (k_ru_from, 5, .inl f_ru_from)), (ru_until, .inl (k_ru_until, 5, .inl f_ru_until)), (ru_names, .inl (k_ru_names, 5, .inr (.inl f_ru_names))), (ru_stack, .inl (k_ru_stack, 64, .inr (.inl g_78_f6)))]) [0, 1, 2, 3, 4, 5, 6] (by decide) rfl
                    exact W.lret (v := (-9223372036854775808)) hx hb hr (fun t ht hW => ⟨⟨(-9223372036854775808), (), rfl, (EVi_x (u := (f_ru_until vp.toNatClampNeg)) hi_ev_q_79 (by omega) ez_85 (by omega) (Or.inr ⟨z_102, r_111, (by rw [evo_2 (by omega) (by omega)]; omega), (by omega), (hwr_111.trans (by rw [evv_4 (by omega) (by omega), ez_108, ez_110, show z_109.toNatClampNeg = z_102.toNatClampNeg + 1 by rw [tn_c, tn_c]; omega]; first | rfl | skip)), evb_2 (show (lg_cmp r_111 (-1000000000000)).toInt < 0 by rw [← ez_114]; omega)⟩)).symm, g_78_f6, by rw [ht]; exact hP9, hD9⟩, hS.F ht⟩) hS.2.2 dX6_value_184
            · have kc_101 := il_eq c_101
              have := (by decide : (34 : Int32).toInt = 34)
              refine lv_iconst (v := 1) hx hb dX6_value_51 (by decide) ?_
              refine lv_goto (tgt := 56) hx hb dX6_value_52 (by decide) ?_
              refine lv_istore (lv' := [(5, .int 1), (4, .int z_85), (3, .int g_78_l3), (2, .int g_78_l2), (0, .ref ru), (1, .int vp)]) hx hb dX6_value_56 hl (by decide) rfl (fun ls hl => ?_)
              refine lv_iload_n hx hb dX6_value_58 rfl (lv_at hl 3 rfl) ?_
              refine lv_iload hx hb dX6_value_59 (lv_at hl 0 rfl) ?_
              refine lv_isub hx hb dX6_value_61 ?_
              refine lv_topi (fun z_119 ez_119 => ?_)
              have kz_119 : z_119.toInt = g_78_l2.toInt - 1 := ti_sub ez_119 rfl (by decide) (by omega) (by omega)
              clear ez_119
              refine lv_istore_n (lv' := [(2, .int z_119), (5, .int 1), (4, .int z_85), (3, .int g_78_l3), (0, .ref ru), (1, .int vp)]) hx hb dX6_value_62 rfl hl (by decide) rfl (fun ls hl => ?_)
              refine lv_iload_n hx hb dX6_value_63 rfl (lv_at hl 0 rfl) ?_
              refine lv_if_lt (tgt := 73) hx hb dX6_value_64 (by decide) (fun c_120 => ?_) (fun c_120 => ?_)
              · have kc_120 := il_lt c_120
                have := (by decide : (0 : Int32).toInt = 0)
                refine lv_ldc2 (v := (-9223372036854775808)) hx hb hown (hT _ mw_4_92) dX6_value_73 ?_
                have hP9 := hP.sub (ws' := [(ru, .inr (6, [.int ru_knots, .ref ru_kind, .ref ru_number, .ref ru_from, .ref ru_until, .ref ru_names, .ref ru_stack])), (ru_kind, .inl (k_ru_kind, 64, .inl f_ru_kind)), (ru_number, .inl (k_ru_number, 64, .inl f_ru_number)), (ru_from, .inl (k_ru_from, 5, .inl f_ru_from)), (ru_until, .inl (k_ru_until, 5, .inl f_ru_until)), (ru_names, .inl (k_ru_names, 5, .inr (.inl f_ru_names))), (ru_stack, .inl (k_ru_stack, 64, .inr (.inl g_78_f6)))]) [0, 1, 2, 3, 4, 5, 6] rfl
                have hD9 := hD.sub (ws' := [(ru, .inr (6, [.int ru_knots, .ref ru_kind, .ref ru_number, .ref ru_from, .ref ru_until, .ref ru_names, .ref ru_stack])), (ru_kind, .inl (k_ru_kind, 64, .inl f_ru_kind)), (ru_number, .inl (k_ru_number, 64, .inl f_ru_number)), (ru_from, .inl (k_ru_from, 5, .inl f_ru_from)), (ru_until, .inl (k_ru_until, 5, .inl f_ru_until)), (ru_names, .inl (k_ru_names, 5, .inr (.inl f_ru_names))), (ru_stack, .inl (k_ru_stack, 64, .inr (.inl g_78_f6)))]) [0, 1, 2, 3, 4, 5, 6] (by decide) rfl
                exact W.lret (v := (-9223372036854775808)) hx hb hr (fun t ht hW => ⟨⟨(-9223372036854775808), (), rfl, (EVi_x (u := (f_ru_until vp.toNatClampNeg)) hi_ev_q_79 (by omega) ez_85 (by omega) (Or.inl (by rw [evo_1 (by omega)]; omega))).symm, g_78_f6, by rw [ht]; exact hP9, hD9⟩, hS.F ht⟩) hS.2.2 dX6_value_76
              · have kc_120 := il_nlt c_120
                have := (by decide : (0 : Int32).toInt = 0)
                refine lv_iload_n hx hb dX6_value_67 rfl (lv_at hl 0 rfl) ?_
                refine lv_bipush (v := 64) hx hb dX6_value_68 (by decide) ?_
                refine lv_icmp_lt (tgt := 77) hx hb dX6_value_70 (by decide) (fun c_121 => ?_) (fun c_121 => False.elim (by have := il_nlt c_121; have := (by decide : (64 : Int32).toInt = 64); omega))
                have kc_121 := il_lt c_121
                have := (by decide : (64 : Int32).toInt = 64)
                refine lv_iload hx hb dX6_value_77 (lv_at hl 2 rfl) ?_
                refine lv_iconst (v := 1) hx hb dX6_value_79 (by decide) ?_
                refine lv_icmp_ne (tgt := 95) hx hb dX6_value_80 (by decide) (fun c_122 => ?_) (fun c_122 => False.elim (by have := il_eq c_122; have := (by decide : (1 : Int32).toInt = 1); omega))
                have kc_122 := il_ne c_122
                have := (by decide : (1 : Int32).toInt = 1)
                refine lv_iload hx hb dX6_value_95 (lv_at hl 1 rfl) ?_
                refine lv_if_ne (tgt := 115) hx hb dX6_value_97 (by decide) (fun c_123 => ?_) (fun c_123 => absurd c_123 (by decide))
                refine lv_iload hx hb dX6_value_115 (lv_at hl 1 rfl) ?_
                refine lv_iconst (v := 1) hx hb dX6_value_117 (by decide) ?_
                refine lv_icmp_ne (tgt := 142) hx hb dX6_value_118 (by decide) (fun c_124 => absurd c_124 (by decide)) (fun c_124 => ?_)
                refine lv_aload_n hx hb dX6_value_121 rfl (lv_at hl 4 rfl) ?_
                refine va_get (D := (dC, dI)) (ci := 6) (v := .ref ru_stack) (C := RX6) (T := TX6) (N := 7) hx hb hT inX6 hown hK hP 0 rfl rfl 6 (by decide) (hT _ mw_1_173) (fun _ h9 => h9) rfl dX6_value_122 ?_
                refine lv_iload_n hx hb dX6_value_125 rfl (lv_at hl 0 rfl) ?_
                refine va_lald hx hb hK hP 6 5 rfl rfl (vp_in_iff.mpr (by omega)) dX6_value_126 ?_
                refine lv_topl (fun z_125 ez_125 => ?_)
                refine lv_lconst (v := 0) hx hb dX6_value_127 (by decide) ?_
                refine W.lcmp hx hb dX6_value_128 ?_
                refine lv_topi (fun z_126 ez_126 => ?_)
                have kz_126 : -1 ≤ z_126.toInt ∧ z_126.toInt ≤ 1 := lc_rng ez_126
                refine lv_if_ne (tgt := 136) hx hb dX6_value_129 (by decide) (fun c_127 => ?_) (fun c_127 => ?_)
                · have kc_127 := il_ne c_127
                  have := (by decide : (0 : Int32).toInt = 0)
                  have nc_127 : ¬ z_125 = 0 := lc_ne ez_126 (by omega)
                  refine lv_lconst (v := 0) hx hb dX6_value_136 (by decide) ?_
                  refine lv_lstore (lv' := [(6, .long 0), (2, .int z_119), (5, .int 1), (4, .int z_85), (3, .int g_78_l3), (0, .ref ru), (1, .int vp)]) hx hb dX6_value_137 hl (by decide) rfl (fun ls hl => ?_)
                  refine lv_goto (tgt := 163) hx hb dX6_value_139 (by decide) ?_
                  refine lv_lload hx hb dX6_value_163 (lv_at hl 0 rfl) ?_
                  refine lv_ldc2 (v := 1000000000000) hx hb hown (hT _ mw_4_99) dX6_value_165 ?_
                  refine W.lcmp hx hb dX6_value_168 ?_
                  refine lv_topi (fun z_128 ez_128 => ?_)
                  have kz_128 : -1 ≤ z_128.toInt ∧ z_128.toInt ≤ 1 := lc_rng ez_128
                  refine lv_if_gt (tgt := 181) hx hb dX6_value_169 (by decide) (fun c_129 => ?_) (fun c_129 => ?_)
                  · have kc_129 := il_lt c_129
                    have := (by decide : (0 : Int32).toInt = 0)
                    refine lv_ldc2 (v := (-9223372036854775808)) hx hb hown (hT _ mw_4_92) dX6_value_181 ?_
                    have hP9 := hP.sub (ws' := [(ru, .inr (6, [.int ru_knots, .ref ru_kind, .ref ru_number, .ref ru_from, .ref ru_until, .ref ru_names, .ref ru_stack])), (ru_kind, .inl (k_ru_kind, 64, .inl f_ru_kind)), (ru_number, .inl (k_ru_number, 64, .inl f_ru_number)), (ru_from, .inl (k_ru_from, 5, .inl f_ru_from)), (ru_until, .inl (k_ru_until, 5, .inl f_ru_until)), (ru_names, .inl (k_ru_names, 5, .inr (.inl f_ru_names))), (ru_stack, .inl (k_ru_stack, 64, .inr (.inl g_78_f6)))]) [0, 1, 2, 3, 4, 5, 6] rfl
                    have hD9 := hD.sub (ws' := [(ru, .inr (6, [.int ru_knots, .ref ru_kind, .ref ru_number, .ref ru_from, .ref ru_until, .ref ru_names, .ref ru_stack])), (ru_kind, .inl (k_ru_kind, 64, .inl f_ru_kind)), (ru_number, .inl (k_ru_number, 64, .inl f_ru_number)), (ru_from, .inl (k_ru_from, 5, .inl f_ru_from)), (ru_until, .inl (k_ru_until, 5, .inl f_ru_until)), (ru_names, .inl (k_ru_names, 5, .inr (.inl f_ru_names))), (ru_stack, .inl (k_ru_stack, 64, .inr (.inl g_78_f6)))]) [0, 1, 2, 3, 4, 5, 6] (by decide) rfl
                    exact W.lret (v := (-9223372036854775808)) hx hb hr (fun t ht hW => ⟨⟨(-9223372036854775808), (), rfl, (EVi_x (u := (f_ru_until vp.toNatClampNeg)) hi_ev_q_79 (by omega) ez_85 (by omega) (Or.inr ⟨z_119, 0, (by rw [evo_1 (by omega)]; omega), (by omega), (by rw [evv_3 (by omega), if_neg (show ¬ ((lg_cmp (g_78_f6 z_119.toInt.toNat) 0).toInt = 0) by rw [show g_78_f6 z_119.toInt.toNat = z_125 from ez_125.symm, ← ez_126]; omega)]), evb_1 (show 0 < (lg_cmp 0 1000000000000).toInt by rw [← ez_128]; omega)⟩)).symm, g_78_f6, by rw [ht]; exact hP9, hD9⟩, hS.F ht⟩) hS.2.2 dX6_value_184
                  · have kc_129 := il_nlt c_129
                    have := (by decide : (0 : Int32).toInt = 0)
                    refine lv_lload hx hb dX6_value_172 (lv_at hl 0 rfl) ?_
                    refine lv_ldc2 (v := (-1000000000000)) hx hb hown (hT _ mw_4_100) dX6_value_174 ?_
                    refine W.lcmp hx hb dX6_value_177 ?_
                    refine lv_topi (fun z_130 ez_130 => ?_)
                    have kz_130 : -1 ≤ z_130.toInt ∧ z_130.toInt ≤ 1 := lc_rng ez_130
                    refine lv_if_ge (tgt := 185) hx hb dX6_value_178 (by decide) (fun c_131 => ?_) (fun c_131 => ?_)
                    · have kc_131 := il_le c_131
                      have := (by decide : (0 : Int32).toInt = 0)
                      refine lv_aload_n hx hb dX6_value_185 rfl (lv_at hl 5 rfl) ?_
                      refine va_get (D := (dC, dI)) (ci := 6) (v := .ref ru_stack) (C := RX6) (T := TX6) (N := 7) hx hb hT inX6 hown hK hP 0 rfl rfl 6 (by decide) (hT _ mw_1_173) (fun _ h9 => h9) rfl dX6_value_186 ?_
                      refine lv_iload_n hx hb dX6_value_189 rfl (lv_at hl 1 rfl) ?_
                      refine lv_lload hx hb dX6_value_190 (lv_at hl 0 rfl) ?_
                      refine va_last hx hb hK hP hD hS 6 5 rfl rfl (vp_in_iff.mpr (by omega)) dX6_value_192 (fun H locs hP hD hS => ?_)
                      have hP : va_P (dC, dI) vwCl [(ru, .inr (6, [.int ru_knots, .ref ru_kind, .ref ru_number, .ref ru_from, .ref ru_until, .ref ru_names, .ref ru_stack])), (ru_kind, .inl (k_ru_kind, 64, .inl f_ru_kind)), (ru_number, .inl (k_ru_number, 64, .inl f_ru_number)), (ru_from, .inl (k_ru_from, 5, .inl f_ru_from)), (ru_until, .inl (k_ru_until, 5, .inl f_ru_until)), (ru_names, .inl (k_ru_names, 5, .inr (.inl f_ru_names))), (ru_stack, .inl (k_ru_stack, 64, .inr (.inl (vp_updL g_78_f6 (z_119 : Int32).toNatClampNeg 0))))] H := hP
                      have hD : va_D A [(ru, .inr (6, [.int ru_knots, .ref ru_kind, .ref ru_number, .ref ru_from, .ref ru_until, .ref ru_names, .ref ru_stack])), (ru_kind, .inl (k_ru_kind, 64, .inl f_ru_kind)), (ru_number, .inl (k_ru_number, 64, .inl f_ru_number)), (ru_from, .inl (k_ru_from, 5, .inl f_ru_from)), (ru_until, .inl (k_ru_until, 5, .inl f_ru_until)), (ru_names, .inl (k_ru_names, 5, .inr (.inl f_ru_names))), (ru_stack, .inl (k_ru_stack, 64, .inr (.inl (vp_updL g_78_f6 (z_119 : Int32).toNatClampNeg 0))))] := hD
                      obtain ⟨f_132, ef_132⟩ : ∃ g : Nat → Int64, (vp_updL g_78_f6 (z_119 : Int32).toNatClampNeg 0) = g := ⟨_, rfl⟩
                      rw [ef_132] at hP hD
                      obtain ⟨z_133, ez_133⟩ : ∃ y : Int32, y = z_119 + Int32.ofInt (1) := ⟨_, rfl⟩
                      have kz_133 : z_133.toInt = z_119.toInt + (1) := ti_add ez_133 rfl (by decide) (by omega) (by omega)
                      refine lv_iinc (v := z_133) (lv' := [(2, .int z_133), (6, .long 0), (5, .int 1), (4, .int z_85), (3, .int g_78_l3), (0, .ref ru), (1, .int vp)]) hx hb dX6_value_193 hl (k := 1) rfl (ez_133.symm) (by decide) rfl (fun ls hl => ?_)
                      clear ez_133
                      obtain ⟨z_134, ez_134⟩ : ∃ y : Int32, y = g_78_l3 + Int32.ofInt (1) := ⟨_, rfl⟩
                      have kz_134 : z_134.toInt = g_78_l3.toInt + (1) := ti_add ez_134 rfl (by decide) (by omega) (by omega)
                      refine lv_iinc (v := z_134) (lv' := [(3, .int z_134), (2, .int z_133), (6, .long 0), (5, .int 1), (4, .int z_85), (0, .ref ru), (1, .int vp)]) hx hb dX6_value_196 hl (k := 4) rfl (ez_134.symm) (by decide) rfl (fun ls hl => ?_)
                      clear ez_134
                      refine lv_goto (tgt := 9) hx hb dX6_value_199 (by decide) ?_
                      exact ih80 z_134 z_133 f_132 (by omega) (by omega) (EVi_s (t1 := z_119) hi_ev_q_79 (by omega) ez_85 (by rw [evo_1 (by omega)]; omega) (by omega) (by rw [evv_3 (by omega), if_neg (show ¬ ((lg_cmp (g_78_f6 z_119.toInt.toNat) 0).toInt = 0) by rw [show g_78_f6 z_119.toInt.toNat = z_125 from ez_125.symm, ← ez_126]; omega)]) (evb_0 (show (lg_cmp 0 1000000000000).toInt ≤ 0 by rw [← ez_128]; omega) (show 0 ≤ (lg_cmp 0 (-1000000000000)).toInt by rw [← ez_130]; omega)) ef_132 (by omega) (by omega)) (by omega) (by omega) _ _ (hP.sub [0, 1, 2, 3, 4, 5, 6] rfl) (hD.sub [0, 1, 2, 3, 4, 5, 6] (by decide) rfl) hS _ (lv_sub hl [0, 1, 5, 6] rfl)
                    · have kc_131 := il_nle c_131
                      have := (by decide : (0 : Int32).toInt = 0)
                      refine lv_ldc2 (v := (-9223372036854775808)) hx hb hown (hT _ mw_4_92) dX6_value_181 ?_
                      have hP9 := hP.sub (ws' := [(ru, .inr (6, [.int ru_knots, .ref ru_kind, .ref ru_number, .ref ru_from, .ref ru_until, .ref ru_names, .ref ru_stack])), (ru_kind, .inl (k_ru_kind, 64, .inl f_ru_kind)), (ru_number, .inl (k_ru_number, 64, .inl f_ru_number)), (ru_from, .inl (k_ru_from, 5, .inl f_ru_from)), (ru_until, .inl (k_ru_until, 5, .inl f_ru_until)), (ru_names, .inl (k_ru_names, 5, .inr (.inl f_ru_names))), (ru_stack, .inl (k_ru_stack, 64, .inr (.inl g_78_f6)))]) [0, 1, 2, 3, 4, 5, 6] rfl
                      have hD9 := hD.sub (ws' := [(ru, .inr (6, [.int ru_knots, .ref ru_kind, .ref ru_number, .ref ru_from, .ref ru_until, .ref ru_names, .ref ru_stack])), (ru_kind, .inl (k_ru_kind, 64, .inl f_ru_kind)), (ru_number, .inl (k_ru_number, 64, .inl f_ru_number)), (ru_from, .inl (k_ru_from, 5, .inl f_ru_from)), (ru_until, .inl (k_ru_until, 5, .inl f_ru_until)), (ru_names, .inl (k_ru_names, 5, .inr (.inl f_ru_names))), (ru_stack, .inl (k_ru_stack, 64, .inr (.inl g_78_f6)))]) [0, 1, 2, 3, 4, 5, 6] (by decide) rfl
                      exact W.lret (v := (-9223372036854775808)) hx hb hr (fun t ht hW => ⟨⟨(-9223372036854775808), (), rfl, (EVi_x (u := (f_ru_until vp.toNatClampNeg)) hi_ev_q_79 (by omega) ez_85 (by omega) (Or.inr ⟨z_119, 0, (by rw [evo_1 (by omega)]; omega), (by omega), (by rw [evv_3 (by omega), if_neg (show ¬ ((lg_cmp (g_78_f6 z_119.toInt.toNat) 0).toInt = 0) by rw [show g_78_f6 z_119.toInt.toNat = z_125 from ez_125.symm, ← ez_126]; omega)]), evb_2 (show (lg_cmp 0 (-1000000000000)).toInt < 0 by rw [← ez_130]; omega)⟩)).symm, g_78_f6, by rw [ht]; exact hP9, hD9⟩, hS.F ht⟩) hS.2.2 dX6_value_184
                · have kc_127 := il_eq c_127
                  have := (by decide : (0 : Int32).toInt = 0)
                  refine lv_lconst (v := 1) hx hb dX6_value_132 (by decide) ?_
                  refine lv_goto (tgt := 137) hx hb dX6_value_133 (by decide) ?_
                  refine lv_lstore (lv' := [(6, .long 1), (2, .int z_119), (5, .int 1), (4, .int z_85), (3, .int g_78_l3), (0, .ref ru), (1, .int vp)]) hx hb dX6_value_137 hl (by decide) rfl (fun ls hl => ?_)
                  refine lv_goto (tgt := 163) hx hb dX6_value_139 (by decide) ?_
                  refine lv_lload hx hb dX6_value_163 (lv_at hl 0 rfl) ?_
                  refine lv_ldc2 (v := 1000000000000) hx hb hown (hT _ mw_4_99) dX6_value_165 ?_
                  refine W.lcmp hx hb dX6_value_168 ?_
                  refine lv_topi (fun z_135 ez_135 => ?_)
                  have kz_135 : -1 ≤ z_135.toInt ∧ z_135.toInt ≤ 1 := lc_rng ez_135
                  refine lv_if_gt (tgt := 181) hx hb dX6_value_169 (by decide) (fun c_136 => ?_) (fun c_136 => ?_)
                  · have kc_136 := il_lt c_136
                    have := (by decide : (0 : Int32).toInt = 0)
                    refine lv_ldc2 (v := (-9223372036854775808)) hx hb hown (hT _ mw_4_92) dX6_value_181 ?_
                    have hP9 := hP.sub (ws' := [(ru, .inr (6, [.int ru_knots, .ref ru_kind, .ref ru_number, .ref ru_from, .ref ru_until, .ref ru_names, .ref ru_stack])), (ru_kind, .inl (k_ru_kind, 64, .inl f_ru_kind)), (ru_number, .inl (k_ru_number, 64, .inl f_ru_number)), (ru_from, .inl (k_ru_from, 5, .inl f_ru_from)), (ru_until, .inl (k_ru_until, 5, .inl f_ru_until)), (ru_names, .inl (k_ru_names, 5, .inr (.inl f_ru_names))), (ru_stack, .inl (k_ru_stack, 64, .inr (.inl g_78_f6)))]) [0, 1, 2, 3, 4, 5, 6] rfl
                    have hD9 := hD.sub (ws' := [(ru, .inr (6, [.int ru_knots, .ref ru_kind, .ref ru_number, .ref ru_from, .ref ru_until, .ref ru_names, .ref ru_stack])), (ru_kind, .inl (k_ru_kind, 64, .inl f_ru_kind)), (ru_number, .inl (k_ru_number, 64, .inl f_ru_number)), (ru_from, .inl (k_ru_from, 5, .inl f_ru_from)), (ru_until, .inl (k_ru_until, 5, .inl f_ru_until)), (ru_names, .inl (k_ru_names, 5, .inr (.inl f_ru_names))), (ru_stack, .inl (k_ru_stack, 64, .inr (.inl g_78_f6)))]) [0, 1, 2, 3, 4, 5, 6] (by decide) rfl
                    exact W.lret (v := (-9223372036854775808)) hx hb hr (fun t ht hW => ⟨⟨(-9223372036854775808), (), rfl, (EVi_x (u := (f_ru_until vp.toNatClampNeg)) hi_ev_q_79 (by omega) ez_85 (by omega) (Or.inr ⟨z_119, 1, (by rw [evo_1 (by omega)]; omega), (by omega), (by rw [evv_3 (by omega), if_pos (show (lg_cmp (g_78_f6 z_119.toInt.toNat) 0).toInt = 0 by rw [show g_78_f6 z_119.toInt.toNat = z_125 from ez_125.symm, ← ez_126]; omega)]), evb_1 (show 0 < (lg_cmp 1 1000000000000).toInt by rw [← ez_135]; omega)⟩)).symm, g_78_f6, by rw [ht]; exact hP9, hD9⟩, hS.F ht⟩) hS.2.2 dX6_value_184
                  · have kc_136 := il_nlt c_136
                    have := (by decide : (0 : Int32).toInt = 0)
                    refine lv_lload hx hb dX6_value_172 (lv_at hl 0 rfl) ?_
                    refine lv_ldc2 (v := (-1000000000000)) hx hb hown (hT _ mw_4_100) dX6_value_174 ?_
                    refine W.lcmp hx hb dX6_value_177 ?_
                    refine lv_topi (fun z_137 ez_137 => ?_)
                    have kz_137 : -1 ≤ z_137.toInt ∧ z_137.toInt ≤ 1 := lc_rng ez_137
                    refine lv_if_ge (tgt := 185) hx hb dX6_value_178 (by decide) (fun c_138 => ?_) (fun c_138 => ?_)
                    · have kc_138 := il_le c_138
                      have := (by decide : (0 : Int32).toInt = 0)
                      refine lv_aload_n hx hb dX6_value_185 rfl (lv_at hl 5 rfl) ?_
                      refine va_get (D := (dC, dI)) (ci := 6) (v := .ref ru_stack) (C := RX6) (T := TX6) (N := 7) hx hb hT inX6 hown hK hP 0 rfl rfl 6 (by decide) (hT _ mw_1_173) (fun _ h9 => h9) rfl dX6_value_186 ?_
                      refine lv_iload_n hx hb dX6_value_189 rfl (lv_at hl 1 rfl) ?_
                      refine lv_lload hx hb dX6_value_190 (lv_at hl 0 rfl) ?_
                      refine va_last hx hb hK hP hD hS 6 5 rfl rfl (vp_in_iff.mpr (by omega)) dX6_value_192 (fun H locs hP hD hS => ?_)
                      have hP : va_P (dC, dI) vwCl [(ru, .inr (6, [.int ru_knots, .ref ru_kind, .ref ru_number, .ref ru_from, .ref ru_until, .ref ru_names, .ref ru_stack])), (ru_kind, .inl (k_ru_kind, 64, .inl f_ru_kind)), (ru_number, .inl (k_ru_number, 64, .inl f_ru_number)), (ru_from, .inl (k_ru_from, 5, .inl f_ru_from)), (ru_until, .inl (k_ru_until, 5, .inl f_ru_until)), (ru_names, .inl (k_ru_names, 5, .inr (.inl f_ru_names))), (ru_stack, .inl (k_ru_stack, 64, .inr (.inl (vp_updL g_78_f6 (z_119 : Int32).toNatClampNeg 1))))] H := hP
                      have hD : va_D A [(ru, .inr (6, [.int ru_knots, .ref ru_kind, .ref ru_number, .ref ru_from, .ref ru_until, .ref ru_names, .ref ru_stack])), (ru_kind, .inl (k_ru_kind, 64, .inl f_ru_kind)), (ru_number, .inl (k_ru_number, 64, .inl f_ru_number)), (ru_from, .inl (k_ru_from, 5, .inl f_ru_from)), (ru_until, .inl (k_ru_until, 5, .inl f_ru_until)), (ru_names, .inl (k_ru_names, 5, .inr (.inl f_ru_names))), (ru_stack, .inl (k_ru_stack, 64, .inr (.inl (vp_updL g_78_f6 (z_119 : Int32).toNatClampNeg 1))))] := hD
                      obtain ⟨f_139, ef_139⟩ : ∃ g : Nat → Int64, (vp_updL g_78_f6 (z_119 : Int32).toNatClampNeg 1) = g := ⟨_, rfl⟩
                      rw [ef_139] at hP hD
                      obtain ⟨z_140, ez_140⟩ : ∃ y : Int32, y = z_119 + Int32.ofInt (1) := ⟨_, rfl⟩
                      have kz_140 : z_140.toInt = z_119.toInt + (1) := ti_add ez_140 rfl (by decide) (by omega) (by omega)
                      refine lv_iinc (v := z_140) (lv' := [(2, .int z_140), (6, .long 1), (5, .int 1), (4, .int z_85), (3, .int g_78_l3), (0, .ref ru), (1, .int vp)]) hx hb dX6_value_193 hl (k := 1) rfl (ez_140.symm) (by decide) rfl (fun ls hl => ?_)
                      clear ez_140
                      obtain ⟨z_141, ez_141⟩ : ∃ y : Int32, y = g_78_l3 + Int32.ofInt (1) := ⟨_, rfl⟩
                      have kz_141 : z_141.toInt = g_78_l3.toInt + (1) := ti_add ez_141 rfl (by decide) (by omega) (by omega)
                      refine lv_iinc (v := z_141) (lv' := [(3, .int z_141), (2, .int z_140), (6, .long 1), (5, .int 1), (4, .int z_85), (0, .ref ru), (1, .int vp)]) hx hb dX6_value_196 hl (k := 4) rfl (ez_141.symm) (by decide) rfl (fun ls hl => ?_)
                      clear ez_141
                      refine lv_goto (tgt := 9) hx hb dX6_value_199 (by decide) ?_
                      exact ih80 z_141 z_140 f_139 (by omega) (by omega) (EVi_s (t1 := z_119) hi_ev_q_79 (by omega) ez_85 (by rw [evo_1 (by omega)]; omega) (by omega) (by rw [evv_3 (by omega), if_pos (show (lg_cmp (g_78_f6 z_119.toInt.toNat) 0).toInt = 0 by rw [show g_78_f6 z_119.toInt.toNat = z_125 from ez_125.symm, ← ez_126]; omega)]) (evb_0 (show (lg_cmp 1 1000000000000).toInt ≤ 0 by rw [← ez_135]; omega) (show 0 ≤ (lg_cmp 1 (-1000000000000)).toInt by rw [← ez_137]; omega)) ef_139 (by omega) (by omega)) (by omega) (by omega) _ _ (hP.sub [0, 1, 2, 3, 4, 5, 6] rfl) (hD.sub [0, 1, 2, 3, 4, 5, 6] (by decide) rfl) hS _ (lv_sub hl [0, 1, 5, 6] rfl)
                    · have kc_138 := il_nle c_138
                      have := (by decide : (0 : Int32).toInt = 0)
                      refine lv_ldc2 (v := (-9223372036854775808)) hx hb hown (hT _ mw_4_92) dX6_value_181 ?_
                      have hP9 := hP.sub (ws' := [(ru, .inr (6, [.int ru_knots, .ref ru_kind, .ref ru_number, .ref ru_from, .ref ru_until, .ref ru_names, .ref ru_stack])), (ru_kind, .inl (k_ru_kind, 64, .inl f_ru_kind)), (ru_number, .inl (k_ru_number, 64, .inl f_ru_number)), (ru_from, .inl (k_ru_from, 5, .inl f_ru_from)), (ru_until, .inl (k_ru_until, 5, .inl f_ru_until)), (ru_names, .inl (k_ru_names, 5, .inr (.inl f_ru_names))), (ru_stack, .inl (k_ru_stack, 64, .inr (.inl g_78_f6)))]) [0, 1, 2, 3, 4, 5, 6] rfl
                      have hD9 := hD.sub (ws' := [(ru, .inr (6, [.int ru_knots, .ref ru_kind, .ref ru_number, .ref ru_from, .ref ru_until, .ref ru_names, .ref ru_stack])), (ru_kind, .inl (k_ru_kind, 64, .inl f_ru_kind)), (ru_number, .inl (k_ru_number, 64, .inl f_ru_number)), (ru_from, .inl (k_ru_from, 5, .inl f_ru_from)), (ru_until, .inl (k_ru_until, 5, .inl f_ru_until)), (ru_names, .inl (k_ru_names, 5, .inr (.inl f_ru_names))), (ru_stack, .inl (k_ru_stack, 64, .inr (.inl g_78_f6)))]) [0, 1, 2, 3, 4, 5, 6] (by decide) rfl
                      exact W.lret (v := (-9223372036854775808)) hx hb hr (fun t ht hW => ⟨⟨(-9223372036854775808), (), rfl, (EVi_x (u := (f_ru_until vp.toNatClampNeg)) hi_ev_q_79 (by omega) ez_85 (by omega) (Or.inr ⟨z_119, 1, (by rw [evo_1 (by omega)]; omega), (by omega), (by rw [evv_3 (by omega), if_pos (show (lg_cmp (g_78_f6 z_119.toInt.toNat) 0).toInt = 0 by rw [show g_78_f6 z_119.toInt.toNat = z_125 from ez_125.symm, ← ez_126]; omega)]), evb_2 (show (lg_cmp 1 (-1000000000000)).toInt < 0 by rw [← ez_137]; omega)⟩)).symm, g_78_f6, by rw [ht]; exact hP9, hD9⟩, hS.F ht⟩) hS.2.2 dX6_value_184
          · have kc_100 := il_nlt c_100
            have := (by decide : (35 : Int32).toInt = 35)
            refine lv_iconst (v := 0) hx hb dX6_value_40 (by decide) ?_
            refine lv_goto (tgt := 56) hx hb dX6_value_41 (by decide) ?_
            refine lv_istore (lv' := [(5, .int 0), (4, .int z_85), (3, .int g_78_l3), (2, .int g_78_l2), (0, .ref ru), (1, .int vp)]) hx hb dX6_value_56 hl (by decide) rfl (fun ls hl => ?_)
            refine lv_iload_n hx hb dX6_value_58 rfl (lv_at hl 3 rfl) ?_
            refine lv_iload hx hb dX6_value_59 (lv_at hl 0 rfl) ?_
            refine lv_isub hx hb dX6_value_61 ?_
            refine lv_topi (fun z_142 ez_142 => ?_)
            have kz_142 : z_142.toInt = g_78_l2.toInt - 0 := ti_sub ez_142 rfl (by decide) (by omega) (by omega)
            clear ez_142
            refine lv_istore_n (lv' := [(2, .int z_142), (5, .int 0), (4, .int z_85), (3, .int g_78_l3), (0, .ref ru), (1, .int vp)]) hx hb dX6_value_62 rfl hl (by decide) rfl (fun ls hl => ?_)
            refine lv_iload_n hx hb dX6_value_63 rfl (lv_at hl 0 rfl) ?_
            refine lv_if_lt (tgt := 73) hx hb dX6_value_64 (by decide) (fun c_143 => False.elim (by have := il_lt c_143; have := (by decide : (0 : Int32).toInt = 0); omega)) (fun c_143 => ?_)
            have kc_143 := il_nlt c_143
            have := (by decide : (0 : Int32).toInt = 0)
            refine lv_iload_n hx hb dX6_value_67 rfl (lv_at hl 0 rfl) ?_
            refine lv_bipush (v := 64) hx hb dX6_value_68 (by decide) ?_
            refine lv_icmp_lt (tgt := 77) hx hb dX6_value_70 (by decide) (fun c_144 => ?_) (fun c_144 => ?_)
            · have kc_144 := il_lt c_144
              have := (by decide : (64 : Int32).toInt = 64)
              refine lv_iload hx hb dX6_value_77 (lv_at hl 2 rfl) ?_
              refine lv_iconst (v := 1) hx hb dX6_value_79 (by decide) ?_
              refine lv_icmp_ne (tgt := 95) hx hb dX6_value_80 (by decide) (fun c_145 => ?_) (fun c_145 => False.elim (by have := il_eq c_145; have := (by decide : (1 : Int32).toInt = 1); omega))
              have kc_145 := il_ne c_145
              have := (by decide : (1 : Int32).toInt = 1)
              refine lv_iload hx hb dX6_value_95 (lv_at hl 1 rfl) ?_
              refine lv_if_ne (tgt := 115) hx hb dX6_value_97 (by decide) (fun c_146 => absurd c_146 (by decide)) (fun c_146 => ?_)
              refine lv_aload_n hx hb dX6_value_100 rfl (lv_at hl 4 rfl) ?_
              refine va_get (D := (dC, dI)) (ci := 6) (v := .ref ru_names) (C := RX6) (T := TX6) (N := 7) hx hb hT inX6 hown hK hP 0 rfl rfl 5 (by decide) (hT _ mw_1_172) (fun _ h9 => h9) rfl dX6_value_101 ?_
              refine lv_iload hx hb dX6_value_104 (lv_at hl 2 rfl) ?_
              refine lv_bipush (v := 35) hx hb dX6_value_106 (by decide) ?_
              refine lv_isub hx hb dX6_value_108 ?_
              refine lv_topi (fun z_147 ez_147 => ?_)
              have kz_147 : z_147.toInt = z_85.toInt - 35 := ti_sub ez_147 rfl (by decide) (by omega) (by omega)
              clear ez_147
              refine va_lald hx hb hK hP 5 4 rfl rfl (vp_in_iff.mpr (by omega)) dX6_value_109 ?_
              refine lv_topl (fun z_148 ez_148 => ?_)
              refine lv_lstore (lv' := [(6, .long z_148), (2, .int z_142), (5, .int 0), (4, .int z_85), (3, .int g_78_l3), (0, .ref ru), (1, .int vp)]) hx hb dX6_value_110 hl (by decide) rfl (fun ls hl => ?_)
              refine lv_goto (tgt := 163) hx hb dX6_value_112 (by decide) ?_
              refine lv_lload hx hb dX6_value_163 (lv_at hl 0 rfl) ?_
              refine lv_ldc2 (v := 1000000000000) hx hb hown (hT _ mw_4_99) dX6_value_165 ?_
              refine W.lcmp hx hb dX6_value_168 ?_
              refine lv_topi (fun z_149 ez_149 => ?_)
              have kz_149 : -1 ≤ z_149.toInt ∧ z_149.toInt ≤ 1 := lc_rng ez_149
              refine lv_if_gt (tgt := 181) hx hb dX6_value_169 (by decide) (fun c_150 => ?_) (fun c_150 => ?_)
              · have kc_150 := il_lt c_150
                have := (by decide : (0 : Int32).toInt = 0)
                refine lv_ldc2 (v := (-9223372036854775808)) hx hb hown (hT _ mw_4_92) dX6_value_181 ?_
                have hP9 := hP.sub (ws' := [(ru, .inr (6, [.int ru_knots, .ref ru_kind, .ref ru_number, .ref ru_from, .ref ru_until, .ref ru_names, .ref ru_stack])), (ru_kind, .inl (k_ru_kind, 64, .inl f_ru_kind)), (ru_number, .inl (k_ru_number, 64, .inl f_ru_number)), (ru_from, .inl (k_ru_from, 5, .inl f_ru_from)), (ru_until, .inl (k_ru_until, 5, .inl f_ru_until)), (ru_names, .inl (k_ru_names, 5, .inr (.inl f_ru_names))), (ru_stack, .inl (k_ru_stack, 64, .inr (.inl g_78_f6)))]) [0, 1, 2, 3, 4, 5, 6] rfl
                have hD9 := hD.sub (ws' := [(ru, .inr (6, [.int ru_knots, .ref ru_kind, .ref ru_number, .ref ru_from, .ref ru_until, .ref ru_names, .ref ru_stack])), (ru_kind, .inl (k_ru_kind, 64, .inl f_ru_kind)), (ru_number, .inl (k_ru_number, 64, .inl f_ru_number)), (ru_from, .inl (k_ru_from, 5, .inl f_ru_from)), (ru_until, .inl (k_ru_until, 5, .inl f_ru_until)), (ru_names, .inl (k_ru_names, 5, .inr (.inl f_ru_names))), (ru_stack, .inl (k_ru_stack, 64, .inr (.inl g_78_f6)))]) [0, 1, 2, 3, 4, 5, 6] (by decide) rfl
                exact W.lret (v := (-9223372036854775808)) hx hb hr (fun t ht hW => ⟨⟨(-9223372036854775808), (), rfl, (EVi_x (u := (f_ru_until vp.toNatClampNeg)) hi_ev_q_79 (by omega) ez_85 (by omega) (Or.inr ⟨z_142, z_148, (by rw [evo_0 (by omega)]; omega), (by omega), (by rw [evv_2 (by omega), ez_148, show z_147.toNatClampNeg = (z_85.toInt - 35).toNat by rw [tn_c]; omega]), evb_1 (show 0 < (lg_cmp z_148 1000000000000).toInt by rw [← ez_149]; omega)⟩)).symm, g_78_f6, by rw [ht]; exact hP9, hD9⟩, hS.F ht⟩) hS.2.2 dX6_value_184
              · have kc_150 := il_nlt c_150
                have := (by decide : (0 : Int32).toInt = 0)
                refine lv_lload hx hb dX6_value_172 (lv_at hl 0 rfl) ?_
                refine lv_ldc2 (v := (-1000000000000)) hx hb hown (hT _ mw_4_100) dX6_value_174 ?_
                refine W.lcmp hx hb dX6_value_177 ?_
                refine lv_topi (fun z_151 ez_151 => ?_)
                have kz_151 : -1 ≤ z_151.toInt ∧ z_151.toInt ≤ 1 := lc_rng ez_151
                refine lv_if_ge (tgt := 185) hx hb dX6_value_178 (by decide) (fun c_152 => ?_) (fun c_152 => ?_)
                · have kc_152 := il_le c_152
                  have := (by decide : (0 : Int32).toInt = 0)
                  refine lv_aload_n hx hb dX6_value_185 rfl (lv_at hl 5 rfl) ?_
                  refine va_get (D := (dC, dI)) (ci := 6) (v := .ref ru_stack) (C := RX6) (T := TX6) (N := 7) hx hb hT inX6 hown hK hP 0 rfl rfl 6 (by decide) (hT _ mw_1_173) (fun _ h9 => h9) rfl dX6_value_186 ?_
                  refine lv_iload_n hx hb dX6_value_189 rfl (lv_at hl 1 rfl) ?_
                  refine lv_lload hx hb dX6_value_190 (lv_at hl 0 rfl) ?_
                  refine va_last hx hb hK hP hD hS 6 5 rfl rfl (vp_in_iff.mpr (by omega)) dX6_value_192 (fun H locs hP hD hS => ?_)
                  have hP : va_P (dC, dI) vwCl [(ru, .inr (6, [.int ru_knots, .ref ru_kind, .ref ru_number, .ref ru_from, .ref ru_until, .ref ru_names, .ref ru_stack])), (ru_kind, .inl (k_ru_kind, 64, .inl f_ru_kind)), (ru_number, .inl (k_ru_number, 64, .inl f_ru_number)), (ru_from, .inl (k_ru_from, 5, .inl f_ru_from)), (ru_until, .inl (k_ru_until, 5, .inl f_ru_until)), (ru_names, .inl (k_ru_names, 5, .inr (.inl f_ru_names))), (ru_stack, .inl (k_ru_stack, 64, .inr (.inl (vp_updL g_78_f6 (z_142 : Int32).toNatClampNeg z_148))))] H := hP
                  have hD : va_D A [(ru, .inr (6, [.int ru_knots, .ref ru_kind, .ref ru_number, .ref ru_from, .ref ru_until, .ref ru_names, .ref ru_stack])), (ru_kind, .inl (k_ru_kind, 64, .inl f_ru_kind)), (ru_number, .inl (k_ru_number, 64, .inl f_ru_number)), (ru_from, .inl (k_ru_from, 5, .inl f_ru_from)), (ru_until, .inl (k_ru_until, 5, .inl f_ru_until)), (ru_names, .inl (k_ru_names, 5, .inr (.inl f_ru_names))), (ru_stack, .inl (k_ru_stack, 64, .inr (.inl (vp_updL g_78_f6 (z_142 : Int32).toNatClampNeg z_148))))] := hD
                  obtain ⟨f_153, ef_153⟩ : ∃ g : Nat → Int64, (vp_updL g_78_f6 (z_142 : Int32).toNatClampNeg z_148) = g := ⟨_, rfl⟩
                  rw [ef_153] at hP hD
                  obtain ⟨z_154, ez_154⟩ : ∃ y : Int32, y = z_142 + Int32.ofInt (1) := ⟨_, rfl⟩
                  have kz_154 : z_154.toInt = z_142.toInt + (1) := ti_add ez_154 rfl (by decide) (by omega) (by omega)
                  refine lv_iinc (v := z_154) (lv' := [(2, .int z_154), (6, .long z_148), (5, .int 0), (4, .int z_85), (3, .int g_78_l3), (0, .ref ru), (1, .int vp)]) hx hb dX6_value_193 hl (k := 1) rfl (ez_154.symm) (by decide) rfl (fun ls hl => ?_)
                  clear ez_154
                  obtain ⟨z_155, ez_155⟩ : ∃ y : Int32, y = g_78_l3 + Int32.ofInt (1) := ⟨_, rfl⟩
                  have kz_155 : z_155.toInt = g_78_l3.toInt + (1) := ti_add ez_155 rfl (by decide) (by omega) (by omega)
                  refine lv_iinc (v := z_155) (lv' := [(3, .int z_155), (2, .int z_154), (6, .long z_148), (5, .int 0), (4, .int z_85), (0, .ref ru), (1, .int vp)]) hx hb dX6_value_196 hl (k := 4) rfl (ez_155.symm) (by decide) rfl (fun ls hl => ?_)
                  clear ez_155
                  refine lv_goto (tgt := 9) hx hb dX6_value_199 (by decide) ?_
                  exact ih80 z_155 z_154 f_153 (by omega) (by omega) (EVi_s (t1 := z_142) hi_ev_q_79 (by omega) ez_85 (by rw [evo_0 (by omega)]; omega) (by omega) (by rw [evv_2 (by omega), ez_148, show z_147.toNatClampNeg = (z_85.toInt - 35).toNat by rw [tn_c]; omega]) (evb_0 (show (lg_cmp z_148 1000000000000).toInt ≤ 0 by rw [← ez_149]; omega) (show 0 ≤ (lg_cmp z_148 (-1000000000000)).toInt by rw [← ez_151]; omega)) ef_153 (by omega) (by omega)) (by omega) (by omega) _ _ (hP.sub [0, 1, 2, 3, 4, 5, 6] rfl) (hD.sub [0, 1, 2, 3, 4, 5, 6] (by decide) rfl) hS _ (lv_sub hl [0, 1, 5, 6] rfl)
                · have kc_152 := il_nle c_152
                  have := (by decide : (0 : Int32).toInt = 0)
                  refine lv_ldc2 (v := (-9223372036854775808)) hx hb hown (hT _ mw_4_92) dX6_value_181 ?_
                  have hP9 := hP.sub (ws' := [(ru, .inr (6, [.int ru_knots, .ref ru_kind, .ref ru_number, .ref ru_from, .ref ru_until, .ref ru_names, .ref ru_stack])), (ru_kind, .inl (k_ru_kind, 64, .inl f_ru_kind)), (ru_number, .inl (k_ru_number, 64, .inl f_ru_number)), (ru_from, .inl (k_ru_from, 5, .inl f_ru_from)), (ru_until, .inl (k_ru_until, 5, .inl f_ru_until)), (ru_names, .inl (k_ru_names, 5, .inr (.inl f_ru_names))), (ru_stack, .inl (k_ru_stack, 64, .inr (.inl g_78_f6)))]) [0, 1, 2, 3, 4, 5, 6] rfl
                  have hD9 := hD.sub (ws' := [(ru, .inr (6, [.int ru_knots, .ref ru_kind, .ref ru_number, .ref ru_from, .ref ru_until, .ref ru_names, .ref ru_stack])), (ru_kind, .inl (k_ru_kind, 64, .inl f_ru_kind)), (ru_number, .inl (k_ru_number, 64, .inl f_ru_number)), (ru_from, .inl (k_ru_from, 5, .inl f_ru_from)), (ru_until, .inl (k_ru_until, 5, .inl f_ru_until)), (ru_names, .inl (k_ru_names, 5, .inr (.inl f_ru_names))), (ru_stack, .inl (k_ru_stack, 64, .inr (.inl g_78_f6)))]) [0, 1, 2, 3, 4, 5, 6] (by decide) rfl
                  exact W.lret (v := (-9223372036854775808)) hx hb hr (fun t ht hW => ⟨⟨(-9223372036854775808), (), rfl, (EVi_x (u := (f_ru_until vp.toNatClampNeg)) hi_ev_q_79 (by omega) ez_85 (by omega) (Or.inr ⟨z_142, z_148, (by rw [evo_0 (by omega)]; omega), (by omega), (by rw [evv_2 (by omega), ez_148, show z_147.toNatClampNeg = (z_85.toInt - 35).toNat by rw [tn_c]; omega]), evb_2 (show (lg_cmp z_148 (-1000000000000)).toInt < 0 by rw [← ez_151]; omega)⟩)).symm, g_78_f6, by rw [ht]; exact hP9, hD9⟩, hS.F ht⟩) hS.2.2 dX6_value_184
            · have kc_144 := il_nlt c_144
              have := (by decide : (64 : Int32).toInt = 64)
              refine lv_ldc2 (v := (-9223372036854775808)) hx hb hown (hT _ mw_4_92) dX6_value_73 ?_
              have hP9 := hP.sub (ws' := [(ru, .inr (6, [.int ru_knots, .ref ru_kind, .ref ru_number, .ref ru_from, .ref ru_until, .ref ru_names, .ref ru_stack])), (ru_kind, .inl (k_ru_kind, 64, .inl f_ru_kind)), (ru_number, .inl (k_ru_number, 64, .inl f_ru_number)), (ru_from, .inl (k_ru_from, 5, .inl f_ru_from)), (ru_until, .inl (k_ru_until, 5, .inl f_ru_until)), (ru_names, .inl (k_ru_names, 5, .inr (.inl f_ru_names))), (ru_stack, .inl (k_ru_stack, 64, .inr (.inl g_78_f6)))]) [0, 1, 2, 3, 4, 5, 6] rfl
              have hD9 := hD.sub (ws' := [(ru, .inr (6, [.int ru_knots, .ref ru_kind, .ref ru_number, .ref ru_from, .ref ru_until, .ref ru_names, .ref ru_stack])), (ru_kind, .inl (k_ru_kind, 64, .inl f_ru_kind)), (ru_number, .inl (k_ru_number, 64, .inl f_ru_number)), (ru_from, .inl (k_ru_from, 5, .inl f_ru_from)), (ru_until, .inl (k_ru_until, 5, .inl f_ru_until)), (ru_names, .inl (k_ru_names, 5, .inr (.inl f_ru_names))), (ru_stack, .inl (k_ru_stack, 64, .inr (.inl g_78_f6)))]) [0, 1, 2, 3, 4, 5, 6] (by decide) rfl
              exact W.lret (v := (-9223372036854775808)) hx hb hr (fun t ht hW => ⟨⟨(-9223372036854775808), (), rfl, (False.elim (by have := EVi_t hi_ev_q_79; omega)), g_78_f6, by rw [ht]; exact hP9, hD9⟩, hS.F ht⟩) hS.2.2 dX6_value_76
  have := (by decide : (0 : Int32).toInt = 0)
  exact loop_80 4294967296 z_1 (0 : Int32) f_ru_stack (by omega) (by decide) (by rw [← ez_1]; exact EVi_0) (by omega) (by omega) _ _ (hP.sub [0, 1, 2, 3, 4, 5, 6] rfl) (hD.sub [0, 1, 2, 3, 4, 5, 6] (by decide) rfl) hS _ (lv_sub hl [0, 1, 2, 3] rfl)
