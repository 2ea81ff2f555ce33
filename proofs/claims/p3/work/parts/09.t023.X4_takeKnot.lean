theorem dX4_takeKnot_0 : decode cX4_takeKnot 0 = .ok (.aload_n 0, 1) := by decide +kernel
theorem dX4_takeKnot_1 : decode cX4_takeKnot 1 = .ok (.getfield 39, 3) := by decide +kernel
theorem dX4_takeKnot_4 : decode cX4_takeKnot 4 = .ok (.bipush 64, 2) := by decide +kernel
theorem dX4_takeKnot_17 : decode cX4_takeKnot 17 = .ok (.aload_n 0, 1) := by decide +kernel
theorem dX4_takeKnot_18 : decode cX4_takeKnot 18 = .ok (.dup, 1) := by decide +kernel
theorem dX4_takeKnot_19 : decode cX4_takeKnot 19 = .ok (.getfield 39, 3) := by decide +kernel
theorem dX4_takeKnot_22 : decode cX4_takeKnot 22 = .ok (.iconst 1, 1) := by decide +kernel
theorem dX4_takeKnot_24 : decode cX4_takeKnot 24 = .ok (.putfield 39, 3) := by decide +kernel
theorem dX4_takeKnot_27 : decode cX4_takeKnot 27 = .ok (.aload_n 0, 1) := by decide +kernel
theorem dX4_takeKnot_28 : decode cX4_takeKnot 28 = .ok (.invokevirtual 85, 3) := by decide +kernel
theorem dX4_takeKnot_31 : decode cX4_takeKnot 31 = .ok (.return_, 1) := by decide +kernel
theorem dX4_takeKnot_9 : decode cX4_takeKnot 9 = .ok (.aload_n 0, 1) := by decide +kernel
theorem dX4_takeKnot_10 : decode cX4_takeKnot 10 = .ok (.iconst 2, 1) := by decide +kernel
theorem dX4_takeKnot_11 : decode cX4_takeKnot 11 = .ok (.invokevirtual 67, 3) := by decide +kernel
theorem dX4_takeKnot_14 : decode cX4_takeKnot 14 = .ok (.goto 17, 3) := by decide +kernel
theorem dX4_takeKnot_6 : decode cX4_takeKnot 6 = .ok (.if_icmp .lt 11, 3) := by decide +kernel
theorem dX4_takeKnot_23 : decode cX4_takeKnot 23 = .ok (.iadd, 1) := by decide +kernel
abbrev q_X4_takeKnot (dC : Nat → ClassId) (dI : Nat → Nat → Nat) (A : Nat → Prop) (rr : Nat) (rr_tape : Nat) (rr_bytes : Int32) (rr_fault : Int32) (rr_place : Int32) (tk : Nat) (td : Nat) (rr_at : Int32) (rr_knots : Int32) (tk_count : Int32) (tk_kind : Nat) (tk_place : Nat) (tk_worth : Nat) (tk_language : Nat) (k_tk_kind : ClassId) (f_tk_kind : Nat → Int32) (k_tk_place : ClassId) (f_tk_place : Nat → Int32) (ge : Nat) : Array Value → State → Outcome → State → Prop := va_Qv (fun _ : Unit => True) (fun (_ : Unit) (t : State) => ∃ (e_rr_fault : Int32), ∃ (e_rr_place : Int32), ∃ (e_rr_at : Int32), ∃ (e_rr_knots : Int32), (0 ≤ e_rr_at.toInt ∧ e_rr_at.toInt ≤ 700) ∧ (0 ≤ e_rr_knots.toInt ∧ e_rr_knots.toInt ≤ 64) ∧ (FSt e_rr_fault rr_fault) ∧ (TKx f_tk_place ge rr_at rr_fault rr_place rr_knots e_rr_at e_rr_fault e_rr_place e_rr_knots) ∧ va_P (dC, dI) vwCl [(rr, .inr (4, [.ref rr_tape, .int rr_bytes, .int e_rr_fault, .int e_rr_place, .ref tk, .ref td, .int e_rr_at, .int e_rr_knots])), (tk, .inr (7, [.int tk_count, .ref tk_kind, .ref tk_place, .ref tk_worth, .ref tk_language])), (tk_kind, .inl (k_tk_kind, 701, .inl f_tk_kind)), (tk_place, .inl (k_tk_place, 701, .inl f_tk_place))] t.heap ∧ va_D A [(rr, .inr (4, [.ref rr_tape, .int rr_bytes, .int e_rr_fault, .int e_rr_place, .ref tk, .ref td, .int e_rr_at, .int e_rr_knots])), (tk, .inr (7, [.int tk_count, .ref tk_kind, .ref tk_place, .ref tk_worth, .ref tk_language])), (tk_kind, .inl (k_tk_kind, 701, .inl f_tk_kind)), (tk_place, .inl (k_tk_place, 701, .inl f_tk_place))]) A
set_option maxHeartbeats 4000000 in
set_option maxRecDepth 100000 in
theorem c_X4_takeKnot (l : Launch) (dC : Nat → ClassId) (dI : Nat → Nat → Nat) (sz : Nat) (rr : Nat) (rr_tape : Nat) (rr_bytes : Int32) (rr_fault : Int32) (rr_place : Int32) (tk : Nat) (td : Nat) (rr_at : Int32) (rr_knots : Int32) (tk_count : Int32) (tk_kind : Nat) (tk_place : Nat) (tk_worth : Nat) (tk_language : Nat) (k_tk_kind : ClassId) (f_tk_kind : Nat → Int32) (k_tk_place : ClassId) (f_tk_place : Nat → Int32) (ge : Nat) (h_rr_bytes : 0 ≤ rr_bytes.toInt ∧ rr_bytes.toInt ≤ 700) (h_rr_at : 0 ≤ rr_at.toInt ∧ rr_at.toInt ≤ 700) (h_rr_knots : 0 ≤ rr_knots.toInt ∧ rr_knots.toInt ≤ 64) (h_tk_count : 1 ≤ tk_count.toInt ∧ tk_count.toInt ≤ 701) (h_f_tk_kind : Rg f_tk_kind 0 39) (hce : tk_count.toInt = (ge : Int) + 1) : Met l yX4_takeKnot (pw_w yX4_takeKnot cX4_takeKnot 1 none) ({ frames := 1, cells := 0, slots := 0, locals := 21 }) (va_Pc [.ref rr] (fun U => U.heap.size = sz ∧ va_P (dC, dI) vwCl [(rr, .inr (4, [.ref rr_tape, .int rr_bytes, .int rr_fault, .int rr_place, .ref tk, .ref td, .int rr_at, .int rr_knots])), (tk, .inr (7, [.int tk_count, .ref tk_kind, .ref tk_place, .ref tk_worth, .ref tk_language])), (tk_kind, .inl (k_tk_kind, 701, .inl f_tk_kind)), (tk_place, .inl (k_tk_place, 701, .inl f_tk_place))] U.heap ∧ va_K (dC, dI) vwCl [(k_tk_kind, .int), (k_tk_place, .int)] U ∧ va_D (fun _ => True) [(rr, .inr (4, [.ref rr_tape, .int rr_bytes, .int rr_fault, .int rr_place, .ref tk, .ref td, .int rr_at, .int rr_knots])), (tk, .inr (7, [.int tk_count, .ref tk_kind, .ref tk_place, .ref tk_worth, .ref tk_language])), (tk_kind, .inl (k_tk_kind, 701, .inl f_tk_kind)), (tk_place, .inl (k_tk_place, 701, .inl f_tk_place))])) (q_X4_takeKnot dC dI (va_A [(rr, .inr (4, [.ref rr_tape, .int rr_bytes, .int rr_fault, .int rr_place, .ref tk, .ref td, .int rr_at, .int rr_knots])), (tk, .inr (7, [.int tk_count, .ref tk_kind, .ref tk_place, .ref tk_worth, .ref tk_language])), (tk_kind, .inl (k_tk_kind, 701, .inl f_tk_kind)), (tk_place, .inl (k_tk_place, 701, .inl f_tk_place))] sz) rr rr_tape rr_bytes rr_fault rr_place tk td rr_at rr_knots tk_count tk_kind tk_place tk_worth tk_language k_tk_kind f_tk_kind k_tk_place f_tk_place ge) 0 0 (va_A [(rr, .inr (4, [.ref rr_tape, .int rr_bytes, .int rr_fault, .int rr_place, .ref tk, .ref td, .int rr_at, .int rr_knots])), (tk, .inr (7, [.int tk_count, .ref tk_kind, .ref tk_place, .ref tk_worth, .ref tk_language])), (tk_kind, .inl (k_tk_kind, 701, .inl f_tk_kind)), (tk_place, .inl (k_tk_place, 701, .inl f_tk_place))] sz) := by
  refine Met.ofW (cc := cX4_takeKnot) (maxL := 1) (ret := none) (by decide) rfl ?_
  intro p e s m args below meth c s₁ B hml hv
  obtain ⟨rfl, hsz, hP, hK, hD0⟩ := hv
  have hx := B.exec
  have hb := B.bytes
  have hr := B.returns
  have hts := atoms_spec (ws := (pw_w yX4_takeKnot cX4_takeKnot 1 none)) B.pre
  have hT : ∀ w ∈ pw_T, w.before _ s = true := fun w h => hts w (List.mem_cons_of_mem _ h)
  have hown : s.vm.findClass RX4 = some m.cls := findClass_of_methodNamed B.named
  have hlocks := B.notSynchronized
  subst hsz
  have hD := hD0.self (sz := s.heap.size)
  generalize hAe : va_A [(rr, .inr (4, [.ref rr_tape, .int rr_bytes, .int rr_fault, .int rr_place, .ref tk, .ref td, .int rr_at, .int rr_knots])), (tk, .inr (7, [.int tk_count, .ref tk_kind, .ref tk_place, .ref tk_worth, .ref tk_language])), (tk_kind, .inl (k_tk_kind, 701, .inl f_tk_kind)), (tk_place, .inl (k_tk_place, 701, .inl f_tk_place))] s.heap.size = A at hD ⊢
  have hA : ∀ q : Nat, s.heap.size ≤ q → A q := fun q h => by rw [← hAe]; exact Or.inr h
  have hS : va_S A s.heap s.heap [] := va_S.rf
  have hP : va_P (dC, dI) vwCl [(rr, .inr (4, [.ref rr_tape, .int rr_bytes, .int rr_fault, .int rr_place, .ref tk, .ref td, .int rr_at, .int rr_knots])), (tk, .inr (7, [.int tk_count, .ref tk_kind, .ref tk_place, .ref tk_worth, .ref tk_language])), (tk_kind, .inl (k_tk_kind, 701, .inl f_tk_kind)), (tk_place, .inl (k_tk_place, 701, .inl f_tk_place))] s.heap := hP
  have hl := lv_entry ([.ref rr]) (n := 1) (Nat.le_of_ble_eq_true rfl)
  rw [lg_entry_eq]
  generalize (lg_sl ([.ref rr]) ++ List.replicate (1 - (lg_sl ([.ref rr])).length) Slot.unset).toArray = ls at hl ⊢
  have hl : lv_has ls 1 [(0, .ref rr)] := hl
  refine lv_aload_n hx hb dX4_takeKnot_0 rfl (lv_at hl 0 rfl) ?_
  refine va_get (D := (dC, dI)) (ci := 4) (v := .int rr_knots) (C := RX4) (T := TX4) (N := 8) hx hb hT inX4 hown hK hP 0 rfl rfl 7 (by decide) (hT _ mw_1_133) (fun _ h9 => h9) rfl dX4_takeKnot_1 ?_
  refine lv_bipush (v := 64) hx hb dX4_takeKnot_4 (by decide) ?_
  refine lv_icmp_lt (tgt := 17) hx hb dX4_takeKnot_6 (by decide) (fun c_1 => ?_) (fun c_1 => ?_)
  · have kc_1 := il_lt c_1
    have := (by decide : (64 : Int32).toInt = 64)
    refine lv_aload_n hx hb dX4_takeKnot_17 rfl (lv_at hl 0 rfl) ?_
    refine lv_dup hx hb dX4_takeKnot_18 rfl ?_
    refine va_get (D := (dC, dI)) (ci := 4) (v := .int rr_knots) (C := RX4) (T := TX4) (N := 8) hx hb hT inX4 hown hK hP 0 rfl rfl 7 (by decide) (hT _ mw_1_133) (fun _ h9 => h9) rfl dX4_takeKnot_19 ?_
    refine lv_iconst (v := 1) hx hb dX4_takeKnot_22 (by decide) ?_
    refine lv_iadd hx hb dX4_takeKnot_23 ?_
    refine lv_topi (fun z_2 ez_2 => ?_)
    have kz_2 : z_2.toInt = rr_knots.toInt + 1 := ti_add ez_2 rfl (by decide) (by omega) (by omega)
    clear ez_2
    refine va_put (D := (dC, dI)) (ci := 4) (v := .int z_2) (ty := .int) (C := RX4) (T := TX4) (N := 8) hx hb hT inX4 tyX4 tyX4_ok nmX4 hown hK hP hD hS 0 rfl rfl 7 (by decide) (hT _ mw_1_133) (fun _ h9 => h9) rfl (by decide +kernel) rfl rfl (Nat.le_of_ble_eq_true rfl) dX4_takeKnot_24 (fun H locs hP hD hS => ?_)
    have hP : va_P (dC, dI) vwCl [(rr, .inr (4, [.ref rr_tape, .int rr_bytes, .int rr_fault, .int rr_place, .ref tk, .ref td, .int rr_at, .int z_2])), (tk, .inr (7, [.int tk_count, .ref tk_kind, .ref tk_place, .ref tk_worth, .ref tk_language])), (tk_kind, .inl (k_tk_kind, 701, .inl f_tk_kind)), (tk_place, .inl (k_tk_place, 701, .inl f_tk_place))] H := hP
    have hD : va_D A [(rr, .inr (4, [.ref rr_tape, .int rr_bytes, .int rr_fault, .int rr_place, .ref tk, .ref td, .int rr_at, .int z_2])), (tk, .inr (7, [.int tk_count, .ref tk_kind, .ref tk_place, .ref tk_worth, .ref tk_language])), (tk_kind, .inl (k_tk_kind, 701, .inl f_tk_kind)), (tk_place, .inl (k_tk_place, 701, .inl f_tk_place))] := hD
    refine lv_aload_n hx hb dX4_takeKnot_27 rfl (lv_at hl 0 rfl) ?_
    have hPc := hP.sub (ws' := [(rr, .inr (4, [.ref rr_tape, .int rr_bytes, .int rr_fault, .int rr_place, .ref tk, .ref td, .int rr_at, .int z_2])), (tk, .inr (7, [.int tk_count, .ref tk_kind, .ref tk_place, .ref tk_worth, .ref tk_language]))]) [0, 1] rfl
    have hDc := hD.sub (ws' := [(rr, .inr (4, [.ref rr_tape, .int rr_bytes, .int rr_fault, .int rr_place, .ref tk, .ref td, .int rr_at, .int z_2])), (tk, .inr (7, [.int tk_count, .ref tk_kind, .ref tk_place, .ref tk_worth, .ref tk_language]))]) [0, 1] (by decide) rfl
    have hKc := hK.sub (tys' := []) [] rfl
    have hFc := va_free (wc := [(rr, .inr (4, [.ref rr_tape, .int rr_bytes, .int rr_fault, .int rr_place, .ref tk, .ref td, .int rr_at, .int z_2])), (tk, .inr (7, [.int tk_count, .ref tk_kind, .ref tk_place, .ref tk_worth, .ref tk_language]))]) hD hS hA [0, 1] rfl
    refine va_callv (va_runV (As := []) (rest := []) ⟨hx, hb, hml, hown, hT⟩ (c_X4_step l dC dI H.size rr rr_tape rr_bytes rr_fault rr_place tk td rr_at z_2 tk_count tk_kind tk_place tk_worth tk_language ge (by omega) (by omega) (by omega) (by omega) hce) (cwV 0 hT (gwV mw_3_136 mw_3_138 mp_1_8 mw_1_2 mw_3_139) rfl rfl rfl (by decide +kernel) ⟨Nat.le_of_ble_eq_true rfl, Nat.le_of_ble_eq_true rfl⟩) ⟨fun a U g mk q => by obtain ⟨q0, q1, qP, qK, qD⟩ := q; exact ⟨q0, q1, qP, va_K.moved (u := U) (U := U.calling g mk a) (Vm.Alike.refl U.vm) qK, qD⟩, va_recv hK hP (ci := 4) (q0 := 0) rfl rfl, fun U hU hW => ⟨rfl, by rw [hU], by rw [hU]; exact hPc, va_K.moved hW.alike hKc, hDc.weaken (fun _ _ _ _ => trivial)⟩⟩ rfl rfl hl.1 rfl (lv_room (Nat.le_of_ble_eq_true rfl)) dX4_takeKnot_28 ⟨Nat.le_of_ble_eq_true rfl, Nat.le_of_ble_eq_true rfl⟩) hS (fun q _ h => hFc q h) hFc (fun u t H1 locs ht hvm hw hB hz1 hk1 hS => ?_)
    obtain ⟨x_4, hpr_3_0, hpr_3_1, hP1, hD1⟩ := hB
    rw [ht] at hP1
    obtain ⟨hP, hD⟩ := va_join (wr := [(tk_kind, .inl (k_tk_kind, 701, .inl f_tk_kind)), (tk_place, .inl (k_tk_place, 701, .inl f_tk_place))]) (w1 := [(rr, .inr (4, [.ref rr_tape, .int rr_bytes, .int rr_fault, .int rr_place, .ref tk, .ref td, .int x_4, .int z_2])), (tk, .inr (7, [.int tk_count, .ref tk_kind, .ref tk_place, .ref tk_worth, .ref tk_language]))]) hP hD [0, 1] [2, 3] rfl rfl (by decide) (by decide) hk1 hFc hP1 hD1
    generalize H1 = H at hP hS ⊢
    have hP : va_P (dC, dI) vwCl [(tk_kind, .inl (k_tk_kind, 701, .inl f_tk_kind)), (tk_place, .inl (k_tk_place, 701, .inl f_tk_place)), (rr, .inr (4, [.ref rr_tape, .int rr_bytes, .int rr_fault, .int rr_place, .ref tk, .ref td, .int x_4, .int z_2])), (tk, .inr (7, [.int tk_count, .ref tk_kind, .ref tk_place, .ref tk_worth, .ref tk_language]))] H := hP
    have hD : va_D A [(tk_kind, .inl (k_tk_kind, 701, .inl f_tk_kind)), (tk_place, .inl (k_tk_place, 701, .inl f_tk_place)), (rr, .inr (4, [.ref rr_tape, .int rr_bytes, .int rr_fault, .int rr_place, .ref tk, .ref td, .int x_4, .int z_2])), (tk, .inr (7, [.int tk_count, .ref tk_kind, .ref tk_place, .ref tk_worth, .ref tk_language]))] := hD
    clear hPc hDc hKc hFc hP1 hD1 hk1 hz1 ht hvm
    clear hw
    have hP9 := hP.sub (ws' := [(rr, .inr (4, [.ref rr_tape, .int rr_bytes, .int rr_fault, .int rr_place, .ref tk, .ref td, .int x_4, .int z_2])), (tk, .inr (7, [.int tk_count, .ref tk_kind, .ref tk_place, .ref tk_worth, .ref tk_language])), (tk_kind, .inl (k_tk_kind, 701, .inl f_tk_kind)), (tk_place, .inl (k_tk_place, 701, .inl f_tk_place))]) [2, 3, 0, 1] rfl
    have hD9 := hD.sub (ws' := [(rr, .inr (4, [.ref rr_tape, .int rr_bytes, .int rr_fault, .int rr_place, .ref tk, .ref td, .int x_4, .int z_2])), (tk, .inr (7, [.int tk_count, .ref tk_kind, .ref tk_place, .ref tk_worth, .ref tk_language])), (tk_kind, .inl (k_tk_kind, 701, .inl f_tk_kind)), (tk_place, .inl (k_tk_place, 701, .inl f_tk_place))]) [2, 3, 0, 1] (by decide) rfl
    exact W.vret hx hb hr (fun t ht hW => ⟨⟨(), rfl, trivial, rr_fault, rr_place, x_4, z_2, (by omega), (by omega), (fun h => h), (Or.inl ⟨(by omega), (by omega), rfl, rfl, hpr_3_1⟩), by rw [ht]; exact hP9, hD9⟩, hS.F ht⟩) hS.2.2 dX4_takeKnot_31
  · have kc_1 := il_nlt c_1
    have := (by decide : (64 : Int32).toInt = 64)
    refine lv_aload_n hx hb dX4_takeKnot_9 rfl (lv_at hl 0 rfl) ?_
    refine lv_iconst (v := 2) hx hb dX4_takeKnot_10 (by decide) ?_
    have hPc := hP.sub (ws' := [(rr, .inr (4, [.ref rr_tape, .int rr_bytes, .int rr_fault, .int rr_place, .ref tk, .ref td, .int rr_at, .int rr_knots])), (tk, .inr (7, [.int tk_count, .ref tk_kind, .ref tk_place, .ref tk_worth, .ref tk_language])), (tk_place, .inl (k_tk_place, 701, .inl f_tk_place))]) [0, 1, 3] rfl
    have hDc := hD.sub (ws' := [(rr, .inr (4, [.ref rr_tape, .int rr_bytes, .int rr_fault, .int rr_place, .ref tk, .ref td, .int rr_at, .int rr_knots])), (tk, .inr (7, [.int tk_count, .ref tk_kind, .ref tk_place, .ref tk_worth, .ref tk_language])), (tk_place, .inl (k_tk_place, 701, .inl f_tk_place))]) [0, 1, 3] (by decide) rfl
    have hKc := hK.sub (tys' := [(k_tk_place, .int)]) [1] rfl
    have hFc := va_free (wc := [(rr, .inr (4, [.ref rr_tape, .int rr_bytes, .int rr_fault, .int rr_place, .ref tk, .ref td, .int rr_at, .int rr_knots])), (tk, .inr (7, [.int tk_count, .ref tk_kind, .ref tk_place, .ref tk_worth, .ref tk_language])), (tk_place, .inl (k_tk_place, 701, .inl f_tk_place))]) hD hS hA [0, 1, 3] rfl
    have := (by decide : (2 : Int32).toInt = 2)
    refine va_callv (va_runV (As := [.int 2]) (rest := []) ⟨hx, hb, hml, hown, hT⟩ (c_X4_refuse l dC dI s.heap.size rr (2 : Int32) rr_tape rr_bytes rr_fault rr_place tk td rr_at rr_knots tk_count tk_kind tk_place tk_worth tk_language k_tk_place f_tk_place ge (by omega) (by omega) (by omega) (by omega) (by decide) hce) (cwV 1 hT (gwV mw_3_132 mw_3_134 mp_1_7 mw_1_2 mw_3_135) rfl rfl rfl (by decide +kernel) ⟨Nat.le_of_ble_eq_true rfl, Nat.le_of_ble_eq_true rfl⟩) ⟨fun a U g mk q => by obtain ⟨q0, q1, qP, qK, qD⟩ := q; exact ⟨q0, q1, qP, va_K.moved (u := U) (U := U.calling g mk a) (Vm.Alike.refl U.vm) qK, qD⟩, va_recv hK hP (ci := 4) (q0 := 0) rfl rfl, fun U hU hW => ⟨rfl, by rw [hU], by rw [hU]; exact hPc, va_K.moved hW.alike hKc, hDc.weaken (fun _ _ _ _ => trivial)⟩⟩ rfl rfl hl.1 rfl (lv_room (Nat.le_of_ble_eq_true rfl)) dX4_takeKnot_11 ⟨Nat.le_of_ble_eq_true rfl, Nat.le_of_ble_eq_true rfl⟩) hS (fun q _ h => hFc q h) hFc (fun u t H1 locs ht hvm hw hB hz1 hk1 hS => ?_)
    obtain ⟨x_6, x_7, x_8, hpr_5_0, hpr_5_1, hpr_5_2, hP1, hD1⟩ := hB
    rw [ht] at hP1
    obtain ⟨hP, hD⟩ := va_join (wr := [(tk_kind, .inl (k_tk_kind, 701, .inl f_tk_kind))]) (w1 := [(rr, .inr (4, [.ref rr_tape, .int rr_bytes, .int x_6, .int x_7, .ref tk, .ref td, .int x_8, .int rr_knots])), (tk, .inr (7, [.int tk_count, .ref tk_kind, .ref tk_place, .ref tk_worth, .ref tk_language])), (tk_place, .inl (k_tk_place, 701, .inl f_tk_place))]) hP hD [0, 1, 3] [2] rfl rfl (by decide) (by decide) hk1 hFc hP1 hD1
    generalize H1 = H at hP hS ⊢
    have hP : va_P (dC, dI) vwCl [(tk_kind, .inl (k_tk_kind, 701, .inl f_tk_kind)), (rr, .inr (4, [.ref rr_tape, .int rr_bytes, .int x_6, .int x_7, .ref tk, .ref td, .int x_8, .int rr_knots])), (tk, .inr (7, [.int tk_count, .ref tk_kind, .ref tk_place, .ref tk_worth, .ref tk_language])), (tk_place, .inl (k_tk_place, 701, .inl f_tk_place))] H := hP
    have hD : va_D A [(tk_kind, .inl (k_tk_kind, 701, .inl f_tk_kind)), (rr, .inr (4, [.ref rr_tape, .int rr_bytes, .int x_6, .int x_7, .ref tk, .ref td, .int x_8, .int rr_knots])), (tk, .inr (7, [.int tk_count, .ref tk_kind, .ref tk_place, .ref tk_worth, .ref tk_language])), (tk_place, .inl (k_tk_place, 701, .inl f_tk_place))] := hD
    clear hPc hDc hKc hFc hP1 hD1 hk1 hz1 ht hvm
    clear hw
    refine lv_goto (tgt := 31) hx hb dX4_takeKnot_14 (by decide) ?_
    have hP9 := hP.sub (ws' := [(rr, .inr (4, [.ref rr_tape, .int rr_bytes, .int x_6, .int x_7, .ref tk, .ref td, .int x_8, .int rr_knots])), (tk, .inr (7, [.int tk_count, .ref tk_kind, .ref tk_place, .ref tk_worth, .ref tk_language])), (tk_kind, .inl (k_tk_kind, 701, .inl f_tk_kind)), (tk_place, .inl (k_tk_place, 701, .inl f_tk_place))]) [1, 2, 0, 3] rfl
    have hD9 := hD.sub (ws' := [(rr, .inr (4, [.ref rr_tape, .int rr_bytes, .int x_6, .int x_7, .ref tk, .ref td, .int x_8, .int rr_knots])), (tk, .inr (7, [.int tk_count, .ref tk_kind, .ref tk_place, .ref tk_worth, .ref tk_language])), (tk_kind, .inl (k_tk_kind, 701, .inl f_tk_kind)), (tk_place, .inl (k_tk_place, 701, .inl f_tk_place))]) [1, 2, 0, 3] (by decide) rfl
    exact W.vret hx hb hr (fun t ht hW => ⟨⟨(), rfl, trivial, x_6, x_7, x_8, rr_knots, (by omega), (by omega), (fun h => absurd h hpr_5_1), (Or.inr ⟨(by omega), rfl, by have z := hpr_5_2; rw [show ((2 : Int32).toInt) = 2 by decide] at z; exact z⟩), by rw [ht]; exact hP9, hD9⟩, hS.F ht⟩) hS.2.2 dX4_takeKnot_31
