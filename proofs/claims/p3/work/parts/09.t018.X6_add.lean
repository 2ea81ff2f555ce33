theorem dX6_add_0 : decode cX6_add 0 = .ok (.aload_n 0, 1) := by decide +kernel
theorem dX6_add_1 : decode cX6_add 1 = .ok (.getfield 31, 3) := by decide +kernel
theorem dX6_add_4 : decode cX6_add 4 = .ok (.bipush 64, 2) := by decide +kernel
theorem dX6_add_39 : decode cX6_add 39 = .ok (.return_, 1) := by decide +kernel
theorem dX6_add_9 : decode cX6_add 9 = .ok (.aload_n 0, 1) := by decide +kernel
theorem dX6_add_10 : decode cX6_add 10 = .ok (.getfield 9, 3) := by decide +kernel
theorem dX6_add_13 : decode cX6_add 13 = .ok (.aload_n 0, 1) := by decide +kernel
theorem dX6_add_14 : decode cX6_add 14 = .ok (.getfield 31, 3) := by decide +kernel
theorem dX6_add_17 : decode cX6_add 17 = .ok (.iload_n 1, 1) := by decide +kernel
theorem dX6_add_19 : decode cX6_add 19 = .ok (.aload_n 0, 1) := by decide +kernel
theorem dX6_add_20 : decode cX6_add 20 = .ok (.getfield 15, 3) := by decide +kernel
theorem dX6_add_23 : decode cX6_add 23 = .ok (.aload_n 0, 1) := by decide +kernel
theorem dX6_add_24 : decode cX6_add 24 = .ok (.getfield 31, 3) := by decide +kernel
theorem dX6_add_27 : decode cX6_add 27 = .ok (.iload_n 2, 1) := by decide +kernel
theorem dX6_add_29 : decode cX6_add 29 = .ok (.aload_n 0, 1) := by decide +kernel
theorem dX6_add_30 : decode cX6_add 30 = .ok (.dup, 1) := by decide +kernel
theorem dX6_add_31 : decode cX6_add 31 = .ok (.getfield 31, 3) := by decide +kernel
theorem dX6_add_34 : decode cX6_add 34 = .ok (.iconst 1, 1) := by decide +kernel
theorem dX6_add_36 : decode cX6_add 36 = .ok (.putfield 31, 3) := by decide +kernel
theorem dX6_add_6 : decode cX6_add 6 = .ok (.if_icmp .ge 33, 3) := by decide +kernel
theorem dX6_add_18 : decode cX6_add 18 = .ok (.iastore, 1) := by decide +kernel
theorem dX6_add_28 : decode cX6_add 28 = .ok (.iastore, 1) := by decide +kernel
theorem dX6_add_35 : decode cX6_add 35 = .ok (.iadd, 1) := by decide +kernel
abbrev q_X6_add (dC : Nat → ClassId) (dI : Nat → Nat → Nat) (A : Nat → Prop) (ru : Nat) (vk : Int32) (vn : Int32) (ru_knots : Int32) (ru_kind : Nat) (ru_number : Nat) (ru_from : Nat) (ru_until : Nat) (ru_names : Nat) (ru_stack : Nat) (k_ru_kind : ClassId) (f_ru_kind : Nat → Int32) (k_ru_number : ClassId) (f_ru_number : Nat → Int32) : Array Value → State → Outcome → State → Prop := va_Qv (fun _ : Unit => True) (fun (_ : Unit) (t : State) => ∃ (e_ru_knots : Int32), ∃ (g_ru_kind : Nat → Int32), ∃ (g_ru_number : Nat → Int32), (0 ≤ e_ru_knots.toInt ∧ e_ru_knots.toInt ≤ 64) ∧ (Rg g_ru_kind 0 39) ∧ (ADx vk vn ru_knots f_ru_kind f_ru_number e_ru_knots g_ru_kind g_ru_number) ∧ va_P (dC, dI) vwCl [(ru, .inr (6, [.int e_ru_knots, .ref ru_kind, .ref ru_number, .ref ru_from, .ref ru_until, .ref ru_names, .ref ru_stack])), (ru_kind, .inl (k_ru_kind, 64, .inl g_ru_kind)), (ru_number, .inl (k_ru_number, 64, .inl g_ru_number))] t.heap ∧ va_D A [(ru, .inr (6, [.int e_ru_knots, .ref ru_kind, .ref ru_number, .ref ru_from, .ref ru_until, .ref ru_names, .ref ru_stack])), (ru_kind, .inl (k_ru_kind, 64, .inl g_ru_kind)), (ru_number, .inl (k_ru_number, 64, .inl g_ru_number))]) A
set_option maxHeartbeats 4000000 in
set_option maxRecDepth 100000 in
theorem c_X6_add (l : Launch) (dC : Nat → ClassId) (dI : Nat → Nat → Nat) (sz : Nat) (ru : Nat) (vk : Int32) (vn : Int32) (ru_knots : Int32) (ru_kind : Nat) (ru_number : Nat) (ru_from : Nat) (ru_until : Nat) (ru_names : Nat) (ru_stack : Nat) (k_ru_kind : ClassId) (f_ru_kind : Nat → Int32) (k_ru_number : ClassId) (f_ru_number : Nat → Int32) (h_ru_knots : 0 ≤ ru_knots.toInt ∧ ru_knots.toInt ≤ 64) (h_f_ru_kind : Rg f_ru_kind 0 39) (h_vk : 0 ≤ vk.toInt ∧ vk.toInt ≤ 39) : Met l yX6_add (pw_w yX6_add cX6_add 3 none) ({ frames := 0, cells := 0, slots := 0, locals := 0 }) (va_Pc [.ref ru, .int vk, .int vn] (fun U => U.heap.size = sz ∧ va_P (dC, dI) vwCl [(ru, .inr (6, [.int ru_knots, .ref ru_kind, .ref ru_number, .ref ru_from, .ref ru_until, .ref ru_names, .ref ru_stack])), (ru_kind, .inl (k_ru_kind, 64, .inl f_ru_kind)), (ru_number, .inl (k_ru_number, 64, .inl f_ru_number))] U.heap ∧ va_K (dC, dI) vwCl [(k_ru_kind, .int), (k_ru_number, .int)] U ∧ va_D (fun _ => True) [(ru, .inr (6, [.int ru_knots, .ref ru_kind, .ref ru_number, .ref ru_from, .ref ru_until, .ref ru_names, .ref ru_stack])), (ru_kind, .inl (k_ru_kind, 64, .inl f_ru_kind)), (ru_number, .inl (k_ru_number, 64, .inl f_ru_number))])) (q_X6_add dC dI (va_A [(ru, .inr (6, [.int ru_knots, .ref ru_kind, .ref ru_number, .ref ru_from, .ref ru_until, .ref ru_names, .ref ru_stack])), (ru_kind, .inl (k_ru_kind, 64, .inl f_ru_kind)), (ru_number, .inl (k_ru_number, 64, .inl f_ru_number))] sz) ru vk vn ru_knots ru_kind ru_number ru_from ru_until ru_names ru_stack k_ru_kind f_ru_kind k_ru_number f_ru_number) 0 0 (va_A [(ru, .inr (6, [.int ru_knots, .ref ru_kind, .ref ru_number, .ref ru_from, .ref ru_until, .ref ru_names, .ref ru_stack])), (ru_kind, .inl (k_ru_kind, 64, .inl f_ru_kind)), (ru_number, .inl (k_ru_number, 64, .inl f_ru_number))] sz) := by
  refine Met.ofW (cc := cX6_add) (maxL := 3) (ret := none) (by decide) rfl ?_
  intro p e s m args below meth c s₁ B hml hv
  obtain ⟨rfl, hsz, hP, hK, hD0⟩ := hv
  have hx := B.exec
  have hb := B.bytes
  have hr := B.returns
  have hts := atoms_spec (ws := (pw_w yX6_add cX6_add 3 none)) B.pre
  have hT : ∀ w ∈ pw_T, w.before _ s = true := fun w h => hts w (List.mem_cons_of_mem _ h)
  have hown : s.vm.findClass RX6 = some m.cls := findClass_of_methodNamed B.named
  have hlocks := B.notSynchronized
  subst hsz
  have hD := hD0.self (sz := s.heap.size)
  generalize hAe : va_A [(ru, .inr (6, [.int ru_knots, .ref ru_kind, .ref ru_number, .ref ru_from, .ref ru_until, .ref ru_names, .ref ru_stack])), (ru_kind, .inl (k_ru_kind, 64, .inl f_ru_kind)), (ru_number, .inl (k_ru_number, 64, .inl f_ru_number))] s.heap.size = A at hD ⊢
  have hA : ∀ q : Nat, s.heap.size ≤ q → A q := fun q h => by rw [← hAe]; exact Or.inr h
  have hS : va_S A s.heap s.heap [] := va_S.rf
  have hP : va_P (dC, dI) vwCl [(ru, .inr (6, [.int ru_knots, .ref ru_kind, .ref ru_number, .ref ru_from, .ref ru_until, .ref ru_names, .ref ru_stack])), (ru_kind, .inl (k_ru_kind, 64, .inl f_ru_kind)), (ru_number, .inl (k_ru_number, 64, .inl f_ru_number))] s.heap := hP
  have hl := lv_entry ([.ref ru, .int vk, .int vn]) (n := 3) (Nat.le_of_ble_eq_true rfl)
  rw [lg_entry_eq]
  generalize (lg_sl ([.ref ru, .int vk, .int vn]) ++ List.replicate (3 - (lg_sl ([.ref ru, .int vk, .int vn])).length) Slot.unset).toArray = ls at hl ⊢
  have hl : lv_has ls 3 [(0, .ref ru), (1, .int vk), (2, .int vn)] := hl
  refine lv_aload_n hx hb dX6_add_0 rfl (lv_at hl 0 rfl) ?_
  refine va_get (D := (dC, dI)) (ci := 6) (v := .int ru_knots) (C := RX6) (T := TX6) (N := 7) hx hb hT inX6 hown hK hP 0 rfl rfl 0 (by decide) (hT _ mw_1_163) (fun _ h9 => h9) rfl dX6_add_1 ?_
  refine lv_bipush (v := 64) hx hb dX6_add_4 (by decide) ?_
  refine lv_icmp_ge (tgt := 39) hx hb dX6_add_6 (by decide) (fun c_1 => ?_) (fun c_1 => ?_)
  · have kc_1 := il_le c_1
    have := (by decide : (64 : Int32).toInt = 64)
    have hP9 := hP.sub (ws' := [(ru, .inr (6, [.int ru_knots, .ref ru_kind, .ref ru_number, .ref ru_from, .ref ru_until, .ref ru_names, .ref ru_stack])), (ru_kind, .inl (k_ru_kind, 64, .inl f_ru_kind)), (ru_number, .inl (k_ru_number, 64, .inl f_ru_number))]) [0, 1, 2] rfl
    have hD9 := hD.sub (ws' := [(ru, .inr (6, [.int ru_knots, .ref ru_kind, .ref ru_number, .ref ru_from, .ref ru_until, .ref ru_names, .ref ru_stack])), (ru_kind, .inl (k_ru_kind, 64, .inl f_ru_kind)), (ru_number, .inl (k_ru_number, 64, .inl f_ru_number))]) [0, 1, 2] (by decide) rfl
    exact W.vret hx hb hr (fun t ht hW => ⟨⟨(), rfl, trivial, ru_knots, f_ru_kind, f_ru_number, (by omega), h_f_ru_kind, (Or.inr ⟨(by omega), rfl, rfl, rfl⟩), by rw [ht]; exact hP9, hD9⟩, hS.F ht⟩) hS.2.2 dX6_add_39
  · have kc_1 := il_nle c_1
    have := (by decide : (64 : Int32).toInt = 64)
    refine lv_aload_n hx hb dX6_add_9 rfl (lv_at hl 0 rfl) ?_
    refine va_get (D := (dC, dI)) (ci := 6) (v := .ref ru_kind) (C := RX6) (T := TX6) (N := 7) hx hb hT inX6 hown hK hP 0 rfl rfl 1 (by decide) (hT _ mw_1_166) (fun _ h9 => h9) rfl dX6_add_10 ?_
    refine lv_aload_n hx hb dX6_add_13 rfl (lv_at hl 0 rfl) ?_
    refine va_get (D := (dC, dI)) (ci := 6) (v := .int ru_knots) (C := RX6) (T := TX6) (N := 7) hx hb hT inX6 hown hK hP 0 rfl rfl 0 (by decide) (hT _ mw_1_163) (fun _ h9 => h9) rfl dX6_add_14 ?_
    refine lv_iload_n hx hb dX6_add_17 rfl (lv_at hl 1 rfl) ?_
    refine va_iast hx hb hK hP hD hS 1 0 rfl rfl (vp_in_iff.mpr (by omega)) dX6_add_18 (fun H locs hP hD hS => ?_)
    have hP : va_P (dC, dI) vwCl [(ru, .inr (6, [.int ru_knots, .ref ru_kind, .ref ru_number, .ref ru_from, .ref ru_until, .ref ru_names, .ref ru_stack])), (ru_kind, .inl (k_ru_kind, 64, .inl (upd f_ru_kind (ru_knots : Int32).toNatClampNeg (vk : Int32)))), (ru_number, .inl (k_ru_number, 64, .inl f_ru_number))] H := hP
    have hD : va_D A [(ru, .inr (6, [.int ru_knots, .ref ru_kind, .ref ru_number, .ref ru_from, .ref ru_until, .ref ru_names, .ref ru_stack])), (ru_kind, .inl (k_ru_kind, 64, .inl (upd f_ru_kind (ru_knots : Int32).toNatClampNeg (vk : Int32)))), (ru_number, .inl (k_ru_number, 64, .inl f_ru_number))] := hD
    obtain ⟨f_2, hf_2, ef_2⟩ : ∃ g : Nat → Int32, Rg g 0 39 ∧ (upd f_ru_kind (ru_knots : Int32).toNatClampNeg (vk : Int32)) = g := ⟨_, Rg_upd h_f_ru_kind (by omega), rfl⟩
    rw [ef_2] at hP hD
    refine lv_aload_n hx hb dX6_add_19 rfl (lv_at hl 0 rfl) ?_
    refine va_get (D := (dC, dI)) (ci := 6) (v := .ref ru_number) (C := RX6) (T := TX6) (N := 7) hx hb hT inX6 hown hK hP 0 rfl rfl 2 (by decide) (hT _ mw_1_167) (fun _ h9 => h9) rfl dX6_add_20 ?_
    refine lv_aload_n hx hb dX6_add_23 rfl (lv_at hl 0 rfl) ?_
    refine va_get (D := (dC, dI)) (ci := 6) (v := .int ru_knots) (C := RX6) (T := TX6) (N := 7) hx hb hT inX6 hown hK hP 0 rfl rfl 0 (by decide) (hT _ mw_1_163) (fun _ h9 => h9) rfl dX6_add_24 ?_
    refine lv_iload_n hx hb dX6_add_27 rfl (lv_at hl 2 rfl) ?_
    refine va_iast hx hb hK hP hD hS 2 1 rfl rfl (vp_in_iff.mpr (by omega)) dX6_add_28 (fun H locs hP hD hS => ?_)
    have hP : va_P (dC, dI) vwCl [(ru, .inr (6, [.int ru_knots, .ref ru_kind, .ref ru_number, .ref ru_from, .ref ru_until, .ref ru_names, .ref ru_stack])), (ru_kind, .inl (k_ru_kind, 64, .inl f_2)), (ru_number, .inl (k_ru_number, 64, .inl (upd f_ru_number (ru_knots : Int32).toNatClampNeg (vn : Int32))))] H := hP
    have hD : va_D A [(ru, .inr (6, [.int ru_knots, .ref ru_kind, .ref ru_number, .ref ru_from, .ref ru_until, .ref ru_names, .ref ru_stack])), (ru_kind, .inl (k_ru_kind, 64, .inl f_2)), (ru_number, .inl (k_ru_number, 64, .inl (upd f_ru_number (ru_knots : Int32).toNatClampNeg (vn : Int32))))] := hD
    obtain ⟨f_3, ef_3⟩ : ∃ g : Nat → Int32, (upd f_ru_number (ru_knots : Int32).toNatClampNeg (vn : Int32)) = g := ⟨_, rfl⟩
    rw [ef_3] at hP hD
    refine lv_aload_n hx hb dX6_add_29 rfl (lv_at hl 0 rfl) ?_
    refine lv_dup hx hb dX6_add_30 rfl ?_
    refine va_get (D := (dC, dI)) (ci := 6) (v := .int ru_knots) (C := RX6) (T := TX6) (N := 7) hx hb hT inX6 hown hK hP 0 rfl rfl 0 (by decide) (hT _ mw_1_163) (fun _ h9 => h9) rfl dX6_add_31 ?_
    refine lv_iconst (v := 1) hx hb dX6_add_34 (by decide) ?_
    refine lv_iadd hx hb dX6_add_35 ?_
    refine lv_topi (fun z_4 ez_4 => ?_)
    have kz_4 : z_4.toInt = ru_knots.toInt + 1 := ti_add ez_4 rfl (by decide) (by omega) (by omega)
    clear ez_4
    refine va_put (D := (dC, dI)) (ci := 6) (v := .int z_4) (ty := .int) (C := RX6) (T := TX6) (N := 7) hx hb hT inX6 tyX6 tyX6_ok nmX6 hown hK hP hD hS 0 rfl rfl 0 (by decide) (hT _ mw_1_163) (fun _ h9 => h9) rfl (by decide +kernel) rfl rfl (Nat.le_of_ble_eq_true rfl) dX6_add_36 (fun H locs hP hD hS => ?_)
    have hP : va_P (dC, dI) vwCl [(ru, .inr (6, [.int z_4, .ref ru_kind, .ref ru_number, .ref ru_from, .ref ru_until, .ref ru_names, .ref ru_stack])), (ru_kind, .inl (k_ru_kind, 64, .inl f_2)), (ru_number, .inl (k_ru_number, 64, .inl f_3))] H := hP
    have hD : va_D A [(ru, .inr (6, [.int z_4, .ref ru_kind, .ref ru_number, .ref ru_from, .ref ru_until, .ref ru_names, .ref ru_stack])), (ru_kind, .inl (k_ru_kind, 64, .inl f_2)), (ru_number, .inl (k_ru_number, 64, .inl f_3))] := hD
    have hP9 := hP.sub (ws' := [(ru, .inr (6, [.int z_4, .ref ru_kind, .ref ru_number, .ref ru_from, .ref ru_until, .ref ru_names, .ref ru_stack])), (ru_kind, .inl (k_ru_kind, 64, .inl f_2)), (ru_number, .inl (k_ru_number, 64, .inl f_3))]) [0, 1, 2] rfl
    have hD9 := hD.sub (ws' := [(ru, .inr (6, [.int z_4, .ref ru_kind, .ref ru_number, .ref ru_from, .ref ru_until, .ref ru_names, .ref ru_stack])), (ru_kind, .inl (k_ru_kind, 64, .inl f_2)), (ru_number, .inl (k_ru_number, 64, .inl f_3))]) [0, 1, 2] (by decide) rfl
    exact W.vret hx hb hr (fun t ht hW => ⟨⟨(), rfl, trivial, z_4, f_2, f_3, (by omega), hf_2, (Or.inl ⟨(by omega), (by omega), ef_2, ef_3⟩), by rw [ht]; exact hP9, hD9⟩, hS.F ht⟩) hS.2.2 dX6_add_39
