theorem dX6_clear_0 : decode cX6_clear 0 = .ok (.aload_n 0, 1) := by decide +kernel
theorem dX6_clear_1 : decode cX6_clear 1 = .ok (.iconst 0, 1) := by decide +kernel
theorem dX6_clear_2 : decode cX6_clear 2 = .ok (.putfield 31, 3) := by decide +kernel
theorem dX6_clear_5 : decode cX6_clear 5 = .ok (.aload_n 0, 1) := by decide +kernel
theorem dX6_clear_6 : decode cX6_clear 6 = .ok (.getfield 18, 3) := by decide +kernel
theorem dX6_clear_9 : decode cX6_clear 9 = .ok (.iconst 0, 1) := by decide +kernel
theorem dX6_clear_10 : decode cX6_clear 10 = .ok (.invokestatic 35, 3) := by decide +kernel
theorem dX6_clear_13 : decode cX6_clear 13 = .ok (.aload_n 0, 1) := by decide +kernel
theorem dX6_clear_14 : decode cX6_clear 14 = .ok (.getfield 21, 3) := by decide +kernel
theorem dX6_clear_17 : decode cX6_clear 17 = .ok (.iconst 0, 1) := by decide +kernel
theorem dX6_clear_18 : decode cX6_clear 18 = .ok (.invokestatic 35, 3) := by decide +kernel
theorem dX6_clear_21 : decode cX6_clear 21 = .ok (.return_, 1) := by decide +kernel
abbrev q_X6_clear (dC : Nat → ClassId) (dI : Nat → Nat → Nat) (A : Nat → Prop) (ru : Nat) (ru_knots : Int32) (ru_kind : Nat) (ru_number : Nat) (ru_from : Nat) (ru_until : Nat) (ru_names : Nat) (ru_stack : Nat) (k_ru_from : ClassId) (f_ru_from : Nat → Int32) (k_ru_until : ClassId) (f_ru_until : Nat → Int32) : Array Value → State → Outcome → State → Prop := va_Qv (fun _ : Unit => True) (fun (_ : Unit) (t : State) => ∃ (g_ru_from : Nat → Int32), ∃ (g_ru_until : Nat → Int32), (Rg g_ru_from 0 64) ∧ (Rg g_ru_until 0 64) ∧ (FLt g_ru_from (0 : Int32) 5) ∧ (FLt g_ru_until (0 : Int32) 5) ∧ va_P (dC, dI) vwCl [(ru, .inr (6, [.int 0, .ref ru_kind, .ref ru_number, .ref ru_from, .ref ru_until, .ref ru_names, .ref ru_stack])), (ru_from, .inl (k_ru_from, 5, .inl g_ru_from)), (ru_until, .inl (k_ru_until, 5, .inl g_ru_until))] t.heap ∧ va_D A [(ru, .inr (6, [.int 0, .ref ru_kind, .ref ru_number, .ref ru_from, .ref ru_until, .ref ru_names, .ref ru_stack])), (ru_from, .inl (k_ru_from, 5, .inl g_ru_from)), (ru_until, .inl (k_ru_until, 5, .inl g_ru_until))]) A
set_option maxHeartbeats 4000000 in
set_option maxRecDepth 100000 in
theorem c_X6_clear (l : Launch) (dC : Nat → ClassId) (dI : Nat → Nat → Nat) (sz : Nat) (ru : Nat) (ru_knots : Int32) (ru_kind : Nat) (ru_number : Nat) (ru_from : Nat) (ru_until : Nat) (ru_names : Nat) (ru_stack : Nat) (k_ru_from : ClassId) (f_ru_from : Nat → Int32) (k_ru_until : ClassId) (f_ru_until : Nat → Int32) (h_ru_knots : 0 ≤ ru_knots.toInt ∧ ru_knots.toInt ≤ 64) (h_f_ru_from : Rg f_ru_from 0 64) (h_f_ru_until : Rg f_ru_until 0 64) : Met l yX6_clear (pw_w yX6_clear cX6_clear 1 none) ({ frames := 1, cells := 0, slots := 0, locals := 23 }) (va_Pc [.ref ru] (fun U => U.heap.size = sz ∧ va_P (dC, dI) vwCl [(ru, .inr (6, [.int ru_knots, .ref ru_kind, .ref ru_number, .ref ru_from, .ref ru_until, .ref ru_names, .ref ru_stack])), (ru_from, .inl (k_ru_from, 5, .inl f_ru_from)), (ru_until, .inl (k_ru_until, 5, .inl f_ru_until))] U.heap ∧ va_K (dC, dI) vwCl [(k_ru_from, .int), (k_ru_until, .int)] U ∧ va_D (fun _ => True) [(ru, .inr (6, [.int ru_knots, .ref ru_kind, .ref ru_number, .ref ru_from, .ref ru_until, .ref ru_names, .ref ru_stack])), (ru_from, .inl (k_ru_from, 5, .inl f_ru_from)), (ru_until, .inl (k_ru_until, 5, .inl f_ru_until))])) (q_X6_clear dC dI (va_A [(ru, .inr (6, [.int ru_knots, .ref ru_kind, .ref ru_number, .ref ru_from, .ref ru_until, .ref ru_names, .ref ru_stack])), (ru_from, .inl (k_ru_from, 5, .inl f_ru_from)), (ru_until, .inl (k_ru_until, 5, .inl f_ru_until))] sz) ru ru_knots ru_kind ru_number ru_from ru_until ru_names ru_stack k_ru_from f_ru_from k_ru_until f_ru_until) 0 0 (va_A [(ru, .inr (6, [.int ru_knots, .ref ru_kind, .ref ru_number, .ref ru_from, .ref ru_until, .ref ru_names, .ref ru_stack])), (ru_from, .inl (k_ru_from, 5, .inl f_ru_from)), (ru_until, .inl (k_ru_until, 5, .inl f_ru_until))] sz) := by
  refine Met.ofW (cc := cX6_clear) (maxL := 1) (ret := none) (by decide) rfl ?_
  intro p e s m args below meth c s₁ B hml hv
  obtain ⟨rfl, hsz, hP, hK, hD0⟩ := hv
  have hx := B.exec
  have hb := B.bytes
  have hr := B.returns
  have hts := atoms_spec (ws := (pw_w yX6_clear cX6_clear 1 none)) B.pre
  have hT : ∀ w ∈ pw_T, w.before _ s = true := fun w h => hts w (List.mem_cons_of_mem _ h)
  have hown : s.vm.findClass RX6 = some m.cls := findClass_of_methodNamed B.named
  have hlocks := B.notSynchronized
  subst hsz
  have hD := hD0.self (sz := s.heap.size)
  generalize hAe : va_A [(ru, .inr (6, [.int ru_knots, .ref ru_kind, .ref ru_number, .ref ru_from, .ref ru_until, .ref ru_names, .ref ru_stack])), (ru_from, .inl (k_ru_from, 5, .inl f_ru_from)), (ru_until, .inl (k_ru_until, 5, .inl f_ru_until))] s.heap.size = A at hD ⊢
  have hA : ∀ q : Nat, s.heap.size ≤ q → A q := fun q h => by rw [← hAe]; exact Or.inr h
  have hS : va_S A s.heap s.heap [] := va_S.rf
  have hP : va_P (dC, dI) vwCl [(ru, .inr (6, [.int ru_knots, .ref ru_kind, .ref ru_number, .ref ru_from, .ref ru_until, .ref ru_names, .ref ru_stack])), (ru_from, .inl (k_ru_from, 5, .inl f_ru_from)), (ru_until, .inl (k_ru_until, 5, .inl f_ru_until))] s.heap := hP
  have hl := lv_entry ([.ref ru]) (n := 1) (Nat.le_of_ble_eq_true rfl)
  rw [lg_entry_eq]
  generalize (lg_sl ([.ref ru]) ++ List.replicate (1 - (lg_sl ([.ref ru])).length) Slot.unset).toArray = ls at hl ⊢
  have hl : lv_has ls 1 [(0, .ref ru)] := hl
  refine lv_aload_n hx hb dX6_clear_0 rfl (lv_at hl 0 rfl) ?_
  refine lv_iconst (v := 0) hx hb dX6_clear_1 (by decide) ?_
  refine va_put (D := (dC, dI)) (ci := 6) (v := .int 0) (ty := .int) (C := RX6) (T := TX6) (N := 7) hx hb hT inX6 tyX6 tyX6_ok nmX6 hown hK hP hD hS 0 rfl rfl 0 (by decide) (hT _ mw_1_163) (fun _ h9 => h9) rfl (by decide +kernel) rfl rfl (Nat.le_of_ble_eq_true rfl) dX6_clear_2 (fun H locs hP hD hS => ?_)
  have hP : va_P (dC, dI) vwCl [(ru, .inr (6, [.int 0, .ref ru_kind, .ref ru_number, .ref ru_from, .ref ru_until, .ref ru_names, .ref ru_stack])), (ru_from, .inl (k_ru_from, 5, .inl f_ru_from)), (ru_until, .inl (k_ru_until, 5, .inl f_ru_until))] H := hP
  have hD : va_D A [(ru, .inr (6, [.int 0, .ref ru_kind, .ref ru_number, .ref ru_from, .ref ru_until, .ref ru_names, .ref ru_stack])), (ru_from, .inl (k_ru_from, 5, .inl f_ru_from)), (ru_until, .inl (k_ru_until, 5, .inl f_ru_until))] := hD
  refine lv_aload_n hx hb dX6_clear_5 rfl (lv_at hl 0 rfl) ?_
  refine va_get (D := (dC, dI)) (ci := 6) (v := .ref ru_from) (C := RX6) (T := TX6) (N := 7) hx hb hT inX6 hown hK hP 0 rfl rfl 3 (by decide) (hT _ mw_1_168) (fun _ h9 => h9) rfl dX6_clear_6 ?_
  refine lv_iconst (v := 0) hx hb dX6_clear_9 (by decide) ?_
  have hPc := hP.sub (ws' := [(ru_from, .inl (k_ru_from, 5, .inl f_ru_from))]) [1] rfl
  have hDc := hD.sub (ws' := [(ru_from, .inl (k_ru_from, 5, .inl f_ru_from))]) [1] (by decide) rfl
  have hKc := hK.sub (tys' := [(k_ru_from, .int)]) [0] rfl
  have hFc := va_free (wc := [(ru_from, .inl (k_ru_from, 5, .inl f_ru_from))]) hD hS hA [1] rfl
  refine va_callv (va_runS (As := [.ref ru_from, .int 0]) (rest := []) ⟨hx, hb, hml, hown, hT⟩ (c_fill5b l dC dI H.size ru_from k_ru_from f_ru_from h_f_ru_from) (va_cwS 2 hT (gwS mw_3_123 mw_3_117 mw_1_18 mw_3_118) rfl rfl rfl (by decide +kernel) ⟨Nat.le_of_ble_eq_true rfl, Nat.le_of_ble_eq_true rfl⟩) ⟨fun a U g mk q => by obtain ⟨q0, q1, qP, qK, qD⟩ := q; exact ⟨q0, q1, qP, va_K.moved (u := U) (U := U.calling g mk a) (Vm.Alike.refl U.vm) qK, qD⟩, fun U hU hW => ⟨rfl, by rw [hU], by rw [hU]; exact hPc, va_K.moved hW.alike hKc, hDc.weaken (fun _ _ _ _ => trivial)⟩⟩ rfl rfl hl.1 rfl (lv_room (Nat.le_of_ble_eq_true rfl)) dX6_clear_10 ⟨Nat.le_of_ble_eq_true rfl, Nat.le_of_ble_eq_true rfl⟩) hS (fun q _ h => hFc q h) hFc (fun u t H1 locs ht hvm hw hB hz1 hk1 hS => ?_)
  obtain ⟨x_2, hpr_1_0, hpr_1_1, hP1, hD1⟩ := hB
  rw [ht] at hP1
  obtain ⟨hP, hD⟩ := va_join (wr := [(ru, .inr (6, [.int 0, .ref ru_kind, .ref ru_number, .ref ru_from, .ref ru_until, .ref ru_names, .ref ru_stack])), (ru_until, .inl (k_ru_until, 5, .inl f_ru_until))]) (w1 := [(ru_from, .inl (k_ru_from, 5, .inl x_2))]) hP hD [1] [0, 2] rfl rfl (by decide) (by decide) hk1 hFc hP1 hD1
  generalize H1 = H at hP hS ⊢
  have hP : va_P (dC, dI) vwCl [(ru, .inr (6, [.int 0, .ref ru_kind, .ref ru_number, .ref ru_from, .ref ru_until, .ref ru_names, .ref ru_stack])), (ru_until, .inl (k_ru_until, 5, .inl f_ru_until)), (ru_from, .inl (k_ru_from, 5, .inl x_2))] H := hP
  have hD : va_D A [(ru, .inr (6, [.int 0, .ref ru_kind, .ref ru_number, .ref ru_from, .ref ru_until, .ref ru_names, .ref ru_stack])), (ru_until, .inl (k_ru_until, 5, .inl f_ru_until)), (ru_from, .inl (k_ru_from, 5, .inl x_2))] := hD
  clear hPc hDc hKc hFc hP1 hD1 hk1 hz1 ht hvm
  clear hw
  refine lv_aload_n hx hb dX6_clear_13 rfl (lv_at hl 0 rfl) ?_
  refine va_get (D := (dC, dI)) (ci := 6) (v := .ref ru_until) (C := RX6) (T := TX6) (N := 7) hx hb hT inX6 hown hK hP 0 rfl rfl 4 (by decide) (hT _ mw_1_170) (fun _ h9 => h9) rfl dX6_clear_14 ?_
  refine lv_iconst (v := 0) hx hb dX6_clear_17 (by decide) ?_
  have hPc := hP.sub (ws' := [(ru_until, .inl (k_ru_until, 5, .inl f_ru_until))]) [1] rfl
  have hDc := hD.sub (ws' := [(ru_until, .inl (k_ru_until, 5, .inl f_ru_until))]) [1] (by decide) rfl
  have hKc := hK.sub (tys' := [(k_ru_until, .int)]) [1] rfl
  have hFc := va_free (wc := [(ru_until, .inl (k_ru_until, 5, .inl f_ru_until))]) hD hS hA [1] rfl
  refine va_callv (va_runS (As := [.ref ru_until, .int 0]) (rest := []) ⟨hx, hb, hml, hown, hT⟩ (c_fill5b l dC dI H.size ru_until k_ru_until f_ru_until h_f_ru_until) (va_cwS 2 hT (gwS mw_3_123 mw_3_117 mw_1_18 mw_3_118) rfl rfl rfl (by decide +kernel) ⟨Nat.le_of_ble_eq_true rfl, Nat.le_of_ble_eq_true rfl⟩) ⟨fun a U g mk q => by obtain ⟨q0, q1, qP, qK, qD⟩ := q; exact ⟨q0, q1, qP, va_K.moved (u := U) (U := U.calling g mk a) (Vm.Alike.refl U.vm) qK, qD⟩, fun U hU hW => ⟨rfl, by rw [hU], by rw [hU]; exact hPc, va_K.moved hW.alike hKc, hDc.weaken (fun _ _ _ _ => trivial)⟩⟩ rfl rfl hl.1 rfl (lv_room (Nat.le_of_ble_eq_true rfl)) dX6_clear_18 ⟨Nat.le_of_ble_eq_true rfl, Nat.le_of_ble_eq_true rfl⟩) hS (fun q _ h => hFc q h) hFc (fun u t H1 locs ht hvm hw hB hz1 hk1 hS => ?_)
  obtain ⟨x_4, hpr_3_0, hpr_3_1, hP1, hD1⟩ := hB
  rw [ht] at hP1
  obtain ⟨hP, hD⟩ := va_join (wr := [(ru, .inr (6, [.int 0, .ref ru_kind, .ref ru_number, .ref ru_from, .ref ru_until, .ref ru_names, .ref ru_stack])), (ru_from, .inl (k_ru_from, 5, .inl x_2))]) (w1 := [(ru_until, .inl (k_ru_until, 5, .inl x_4))]) hP hD [1] [0, 2] rfl rfl (by decide) (by decide) hk1 hFc hP1 hD1
  generalize H1 = H at hP hS ⊢
  have hP : va_P (dC, dI) vwCl [(ru, .inr (6, [.int 0, .ref ru_kind, .ref ru_number, .ref ru_from, .ref ru_until, .ref ru_names, .ref ru_stack])), (ru_from, .inl (k_ru_from, 5, .inl x_2)), (ru_until, .inl (k_ru_until, 5, .inl x_4))] H := hP
  have hD : va_D A [(ru, .inr (6, [.int 0, .ref ru_kind, .ref ru_number, .ref ru_from, .ref ru_until, .ref ru_names, .ref ru_stack])), (ru_from, .inl (k_ru_from, 5, .inl x_2)), (ru_until, .inl (k_ru_until, 5, .inl x_4))] := hD
  clear hPc hDc hKc hFc hP1 hD1 hk1 hz1 ht hvm
  clear hw
  have hP9 := hP.sub (ws' := [(ru, .inr (6, [.int 0, .ref ru_kind, .ref ru_number, .ref ru_from, .ref ru_until, .ref ru_names, .ref ru_stack])), (ru_from, .inl (k_ru_from, 5, .inl x_2)), (ru_until, .inl (k_ru_until, 5, .inl x_4))]) [0, 1, 2] rfl
  have hD9 := hD.sub (ws' := [(ru, .inr (6, [.int 0, .ref ru_kind, .ref ru_number, .ref ru_from, .ref ru_until, .ref ru_names, .ref ru_stack])), (ru_from, .inl (k_ru_from, 5, .inl x_2)), (ru_until, .inl (k_ru_until, 5, .inl x_4))]) [0, 1, 2] (by decide) rfl
  exact W.vret hx hb hr (fun t ht hW => ⟨⟨(), rfl, trivial, x_2, x_4, hpr_1_0, hpr_3_0, hpr_1_1, hpr_3_1, by rw [ht]; exact hP9, hD9⟩, hS.F ht⟩) hS.2.2 dX6_clear_21
