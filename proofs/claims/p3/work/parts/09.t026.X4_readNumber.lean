theorem dX4_readNumber_0 : decode cX4_readNumber 0 = .ok (.aload_n 0, 1) := by decide +kernel
theorem dX4_readNumber_1 : decode cX4_readNumber 1 = .ok (.getfield 25, 3) := by decide +kernel
theorem dX4_readNumber_4 : decode cX4_readNumber 4 = .ok (.getfield 140, 3) := by decide +kernel
theorem dX4_readNumber_7 : decode cX4_readNumber 7 = .ok (.aload_n 0, 1) := by decide +kernel
theorem dX4_readNumber_8 : decode cX4_readNumber 8 = .ok (.getfield 36, 3) := by decide +kernel
theorem dX4_readNumber_12 : decode cX4_readNumber 12 = .ok (.istore_n 3, 1) := by decide +kernel
theorem dX4_readNumber_13 : decode cX4_readNumber 13 = .ok (.aload_n 0, 1) := by decide +kernel
theorem dX4_readNumber_14 : decode cX4_readNumber 14 = .ok (.invokevirtual 51, 3) := by decide +kernel
theorem dX4_readNumber_17 : decode cX4_readNumber 17 = .ok (.iconst 1, 1) := by decide +kernel
theorem dX4_readNumber_29 : decode cX4_readNumber 29 = .ok (.iload_n 3, 1) := by decide +kernel
theorem dX4_readNumber_30 : decode cX4_readNumber 30 = .ok (.iload_n 1, 1) := by decide +kernel
theorem dX4_readNumber_39 : decode cX4_readNumber 39 = .ok (.aload_n 0, 1) := by decide +kernel
theorem dX4_readNumber_40 : decode cX4_readNumber 40 = .ok (.iconst 2, 1) := by decide +kernel
theorem dX4_readNumber_41 : decode cX4_readNumber 41 = .ok (.invokevirtual 67, 3) := by decide +kernel
theorem dX4_readNumber_44 : decode cX4_readNumber 44 = .ok (.goto 9, 3) := by decide +kernel
theorem dX4_readNumber_53 : decode cX4_readNumber 53 = .ok (.iconst 0, 1) := by decide +kernel
theorem dX4_readNumber_54 : decode cX4_readNumber 54 = .ok (.ireturn, 1) := by decide +kernel
theorem dX4_readNumber_34 : decode cX4_readNumber 34 = .ok (.iload_n 3, 1) := by decide +kernel
theorem dX4_readNumber_35 : decode cX4_readNumber 35 = .ok (.iload_n 2, 1) := by decide +kernel
theorem dX4_readNumber_47 : decode cX4_readNumber 47 = .ok (.aload_n 0, 1) := by decide +kernel
theorem dX4_readNumber_48 : decode cX4_readNumber 48 = .ok (.invokevirtual 85, 3) := by decide +kernel
theorem dX4_readNumber_51 : decode cX4_readNumber 51 = .ok (.iload_n 3, 1) := by decide +kernel
theorem dX4_readNumber_52 : decode cX4_readNumber 52 = .ok (.ireturn, 1) := by decide +kernel
theorem dX4_readNumber_21 : decode cX4_readNumber 21 = .ok (.aload_n 0, 1) := by decide +kernel
theorem dX4_readNumber_22 : decode cX4_readNumber 22 = .ok (.iconst 1, 1) := by decide +kernel
theorem dX4_readNumber_23 : decode cX4_readNumber 23 = .ok (.invokevirtual 67, 3) := by decide +kernel
theorem dX4_readNumber_26 : decode cX4_readNumber 26 = .ok (.goto 27, 3) := by decide +kernel
theorem dX4_readNumber_11 : decode cX4_readNumber 11 = .ok (.iaload, 1) := by decide +kernel
theorem dX4_readNumber_18 : decode cX4_readNumber 18 = .ok (.if_icmp .eq 11, 3) := by decide +kernel
theorem dX4_readNumber_31 : decode cX4_readNumber 31 = .ok (.if_icmp .lt 8, 3) := by decide +kernel
theorem dX4_readNumber_36 : decode cX4_readNumber 36 = .ok (.if_icmp .le 11, 3) := by decide +kernel
abbrev q_X4_readNumber (dC : Nat → ClassId) (dI : Nat → Nat → Nat) (A : Nat → Prop) (rr : Nat) (va : Int32) (vb : Int32) (rr_tape : Nat) (rr_bytes : Int32) (rr_fault : Int32) (rr_place : Int32) (tk : Nat) (td : Nat) (rr_at : Int32) (rr_knots : Int32) (tk_count : Int32) (tk_kind : Nat) (tk_place : Nat) (tk_worth : Nat) (tk_language : Nat) (k_tk_kind : ClassId) (f_tk_kind : Nat → Int32) (k_tk_place : ClassId) (f_tk_place : Nat → Int32) (k_tk_worth : ClassId) (f_tk_worth : Nat → Int32) (ge : Nat) : Array Value → State → Outcome → State → Prop := va_Qi (fun (r : Int32) (e_r : Int32) => r = e_r) (fun (e_r : Int32) (t : State) => ∃ (e_rr_fault : Int32), ∃ (e_rr_place : Int32), ∃ (e_rr_at : Int32), (0 ≤ e_rr_at.toInt ∧ e_rr_at.toInt ≤ 700) ∧ (FSt e_rr_fault rr_fault) ∧ (NMx f_tk_kind f_tk_worth f_tk_place ge va.toInt vb.toInt rr_at rr_fault rr_place e_rr_at e_rr_fault e_rr_place e_r) ∧ ((e_rr_fault.toInt ≠ 0 ∧ e_r.toInt = 0) ∨ (va.toInt ≤ e_r.toInt ∧ e_r.toInt ≤ vb.toInt)) ∧ va_P (dC, dI) vwCl [(rr, .inr (4, [.ref rr_tape, .int rr_bytes, .int e_rr_fault, .int e_rr_place, .ref tk, .ref td, .int e_rr_at, .int rr_knots])), (tk, .inr (7, [.int tk_count, .ref tk_kind, .ref tk_place, .ref tk_worth, .ref tk_language])), (tk_kind, .inl (k_tk_kind, 701, .inl f_tk_kind)), (tk_place, .inl (k_tk_place, 701, .inl f_tk_place)), (tk_worth, .inl (k_tk_worth, 701, .inl f_tk_worth))] t.heap ∧ va_D A [(rr, .inr (4, [.ref rr_tape, .int rr_bytes, .int e_rr_fault, .int e_rr_place, .ref tk, .ref td, .int e_rr_at, .int rr_knots])), (tk, .inr (7, [.int tk_count, .ref tk_kind, .ref tk_place, .ref tk_worth, .ref tk_language])), (tk_kind, .inl (k_tk_kind, 701, .inl f_tk_kind)), (tk_place, .inl (k_tk_place, 701, .inl f_tk_place)), (tk_worth, .inl (k_tk_worth, 701, .inl f_tk_worth))]) A
set_option maxHeartbeats 4000000 in
set_option maxRecDepth 100000 in
theorem c_X4_readNumber (l : Launch) (dC : Nat → ClassId) (dI : Nat → Nat → Nat) (sz : Nat) (rr : Nat) (va : Int32) (vb : Int32) (rr_tape : Nat) (rr_bytes : Int32) (rr_fault : Int32) (rr_place : Int32) (tk : Nat) (td : Nat) (rr_at : Int32) (rr_knots : Int32) (tk_count : Int32) (tk_kind : Nat) (tk_place : Nat) (tk_worth : Nat) (tk_language : Nat) (k_tk_kind : ClassId) (f_tk_kind : Nat → Int32) (k_tk_place : ClassId) (f_tk_place : Nat → Int32) (k_tk_worth : ClassId) (f_tk_worth : Nat → Int32) (ge : Nat) (h_rr_bytes : 0 ≤ rr_bytes.toInt ∧ rr_bytes.toInt ≤ 700) (h_rr_at : 0 ≤ rr_at.toInt ∧ rr_at.toInt ≤ 700) (h_rr_knots : 0 ≤ rr_knots.toInt ∧ rr_knots.toInt ≤ 64) (h_tk_count : 1 ≤ tk_count.toInt ∧ tk_count.toInt ≤ 701) (h_f_tk_kind : Rg f_tk_kind 0 39) (hce : tk_count.toInt = (ge : Int) + 1) : Met l yX4_readNumber (pw_w yX4_readNumber cX4_readNumber 4 (some .int)) ({ frames := 1, cells := 0, slots := 0, locals := 21 }) (va_Pc [.ref rr, .int va, .int vb] (fun U => U.heap.size = sz ∧ va_P (dC, dI) vwCl [(rr, .inr (4, [.ref rr_tape, .int rr_bytes, .int rr_fault, .int rr_place, .ref tk, .ref td, .int rr_at, .int rr_knots])), (tk, .inr (7, [.int tk_count, .ref tk_kind, .ref tk_place, .ref tk_worth, .ref tk_language])), (tk_kind, .inl (k_tk_kind, 701, .inl f_tk_kind)), (tk_place, .inl (k_tk_place, 701, .inl f_tk_place)), (tk_worth, .inl (k_tk_worth, 701, .inl f_tk_worth))] U.heap ∧ va_K (dC, dI) vwCl [(k_tk_kind, .int), (k_tk_place, .int), (k_tk_worth, .int)] U ∧ va_D (fun _ => True) [(rr, .inr (4, [.ref rr_tape, .int rr_bytes, .int rr_fault, .int rr_place, .ref tk, .ref td, .int rr_at, .int rr_knots])), (tk, .inr (7, [.int tk_count, .ref tk_kind, .ref tk_place, .ref tk_worth, .ref tk_language])), (tk_kind, .inl (k_tk_kind, 701, .inl f_tk_kind)), (tk_place, .inl (k_tk_place, 701, .inl f_tk_place)), (tk_worth, .inl (k_tk_worth, 701, .inl f_tk_worth))])) (q_X4_readNumber dC dI (va_A [(rr, .inr (4, [.ref rr_tape, .int rr_bytes, .int rr_fault, .int rr_place, .ref tk, .ref td, .int rr_at, .int rr_knots])), (tk, .inr (7, [.int tk_count, .ref tk_kind, .ref tk_place, .ref tk_worth, .ref tk_language])), (tk_kind, .inl (k_tk_kind, 701, .inl f_tk_kind)), (tk_place, .inl (k_tk_place, 701, .inl f_tk_place)), (tk_worth, .inl (k_tk_worth, 701, .inl f_tk_worth))] sz) rr va vb rr_tape rr_bytes rr_fault rr_place tk td rr_at rr_knots tk_count tk_kind tk_place tk_worth tk_language k_tk_kind f_tk_kind k_tk_place f_tk_place k_tk_worth f_tk_worth ge) 0 0 (va_A [(rr, .inr (4, [.ref rr_tape, .int rr_bytes, .int rr_fault, .int rr_place, .ref tk, .ref td, .int rr_at, .int rr_knots])), (tk, .inr (7, [.int tk_count, .ref tk_kind, .ref tk_place, .ref tk_worth, .ref tk_language])), (tk_kind, .inl (k_tk_kind, 701, .inl f_tk_kind)), (tk_place, .inl (k_tk_place, 701, .inl f_tk_place)), (tk_worth, .inl (k_tk_worth, 701, .inl f_tk_worth))] sz) := by
  refine Met.ofW (cc := cX4_readNumber) (maxL := 4) (ret := (some .int)) (by decide) rfl ?_
  intro p e s m args below meth c s₁ B hml hv
  obtain ⟨rfl, hsz, hP, hK, hD0⟩ := hv
  have hx := B.exec
  have hb := B.bytes
  have hr := B.returns
  have hts := atoms_spec (ws := (pw_w yX4_readNumber cX4_readNumber 4 (some .int))) B.pre
  have hT : ∀ w ∈ pw_T, w.before _ s = true := fun w h => hts w (List.mem_cons_of_mem _ h)
  have hown : s.vm.findClass RX4 = some m.cls := findClass_of_methodNamed B.named
  have hlocks := B.notSynchronized
  subst hsz
  have hD := hD0.self (sz := s.heap.size)
  generalize hAe : va_A [(rr, .inr (4, [.ref rr_tape, .int rr_bytes, .int rr_fault, .int rr_place, .ref tk, .ref td, .int rr_at, .int rr_knots])), (tk, .inr (7, [.int tk_count, .ref tk_kind, .ref tk_place, .ref tk_worth, .ref tk_language])), (tk_kind, .inl (k_tk_kind, 701, .inl f_tk_kind)), (tk_place, .inl (k_tk_place, 701, .inl f_tk_place)), (tk_worth, .inl (k_tk_worth, 701, .inl f_tk_worth))] s.heap.size = A at hD ⊢
  have hA : ∀ q : Nat, s.heap.size ≤ q → A q := fun q h => by rw [← hAe]; exact Or.inr h
  have hS : va_S A s.heap s.heap [] := va_S.rf
  have hP : va_P (dC, dI) vwCl [(rr, .inr (4, [.ref rr_tape, .int rr_bytes, .int rr_fault, .int rr_place, .ref tk, .ref td, .int rr_at, .int rr_knots])), (tk, .inr (7, [.int tk_count, .ref tk_kind, .ref tk_place, .ref tk_worth, .ref tk_language])), (tk_kind, .inl (k_tk_kind, 701, .inl f_tk_kind)), (tk_place, .inl (k_tk_place, 701, .inl f_tk_place)), (tk_worth, .inl (k_tk_worth, 701, .inl f_tk_worth))] s.heap := hP
  have hl := lv_entry ([.ref rr, .int va, .int vb]) (n := 4) (Nat.le_of_ble_eq_true rfl)
  rw [lg_entry_eq]
  generalize (lg_sl ([.ref rr, .int va, .int vb]) ++ List.replicate (4 - (lg_sl ([.ref rr, .int va, .int vb])).length) Slot.unset).toArray = ls at hl ⊢
  have hl : lv_has ls 4 [(0, .ref rr), (1, .int va), (2, .int vb)] := hl
  refine lv_aload_n hx hb dX4_readNumber_0 rfl (lv_at hl 0 rfl) ?_
  refine va_get (D := (dC, dI)) (ci := 4) (v := .ref tk) (C := RX4) (T := TX4) (N := 8) hx hb hT inX4 hown hK hP 0 rfl rfl 4 (by decide) (hT _ mw_1_130) (fun _ h9 => h9) rfl dX4_readNumber_1 ?_
  refine va_get (D := (dC, dI)) (ci := 7) (v := .ref tk_worth) (C := RX7) (T := TX7) (N := 5) hx hb hT inX7 hown hK hP 1 rfl rfl 3 (by decide) (hT _ mw_1_108) (fun _ h9 => h9) rfl dX4_readNumber_4 ?_
  refine lv_aload_n hx hb dX4_readNumber_7 rfl (lv_at hl 0 rfl) ?_
  refine va_get (D := (dC, dI)) (ci := 4) (v := .int rr_at) (C := RX4) (T := TX4) (N := 8) hx hb hT inX4 hown hK hP 0 rfl rfl 6 (by decide) (hT _ mw_1_132) (fun _ h9 => h9) rfl dX4_readNumber_8 ?_
  refine va_iald hx hb hK hP 4 2 rfl rfl (vp_in_iff.mpr (by omega)) dX4_readNumber_11 ?_
  refine lv_topi (fun z_1 ez_1 => ?_)
  refine lv_istore_n (lv' := [(3, .int z_1), (0, .ref rr), (1, .int va), (2, .int vb)]) hx hb dX4_readNumber_12 rfl hl (by decide) rfl (fun ls hl => ?_)
  refine lv_aload_n hx hb dX4_readNumber_13 rfl (lv_at hl 1 rfl) ?_
  have hPc := hP.sub (ws' := [(rr, .inr (4, [.ref rr_tape, .int rr_bytes, .int rr_fault, .int rr_place, .ref tk, .ref td, .int rr_at, .int rr_knots])), (tk, .inr (7, [.int tk_count, .ref tk_kind, .ref tk_place, .ref tk_worth, .ref tk_language])), (tk_kind, .inl (k_tk_kind, 701, .inl f_tk_kind))]) [0, 1, 2] rfl
  have hDc := hD.sub (ws' := [(rr, .inr (4, [.ref rr_tape, .int rr_bytes, .int rr_fault, .int rr_place, .ref tk, .ref td, .int rr_at, .int rr_knots])), (tk, .inr (7, [.int tk_count, .ref tk_kind, .ref tk_place, .ref tk_worth, .ref tk_language])), (tk_kind, .inl (k_tk_kind, 701, .inl f_tk_kind))]) [0, 1, 2] (by decide) rfl
  have hKc := hK.sub (tys' := [(k_tk_kind, .int)]) [0] rfl
  have hFc := va_free (wc := [(rr, .inr (4, [.ref rr_tape, .int rr_bytes, .int rr_fault, .int rr_place, .ref tk, .ref td, .int rr_at, .int rr_knots])), (tk, .inr (7, [.int tk_count, .ref tk_kind, .ref tk_place, .ref tk_worth, .ref tk_language])), (tk_kind, .inl (k_tk_kind, 701, .inl f_tk_kind))]) hD hS hA [0, 1, 2] rfl
  refine va_calli (va_runV (As := []) (rest := []) ⟨hx, hb, hml, hown, hT⟩ (c_X4_kind l dC dI s.heap.size rr rr_tape rr_bytes rr_fault rr_place tk td rr_at rr_knots tk_count tk_kind tk_place tk_worth tk_language k_tk_kind f_tk_kind (by omega) (by omega) (by omega) (by omega) h_f_tk_kind) (cwV 0 hT (gwV mw_3_124 mw_3_126 mp_1_5 mw_1_2 mw_3_127) rfl rfl rfl (by decide +kernel) ⟨Nat.le_of_ble_eq_true rfl, Nat.le_of_ble_eq_true rfl⟩) ⟨fun a U g mk q => by obtain ⟨q0, q1, qP, qK, qD⟩ := q; exact ⟨q0, q1, qP, va_K.moved (u := U) (U := U.calling g mk a) (Vm.Alike.refl U.vm) qK, qD⟩, va_recv hK hP (ci := 4) (q0 := 0) rfl rfl, fun U hU hW => ⟨rfl, by rw [hU], by rw [hU]; exact hPc, va_K.moved hW.alike hKc, hDc.weaken (fun _ _ _ _ => trivial)⟩⟩ rfl rfl hl.1 rfl (lv_room (Nat.le_of_ble_eq_true rfl)) dX4_readNumber_14 ⟨Nat.le_of_ble_eq_true rfl, Nat.le_of_ble_eq_true rfl⟩) hS (fun q _ h => hFc q h) hFc (fun r_2 u t H1 locs ht hvm hw hB hz1 hk1 hS => ?_)
  obtain ⟨hP1, hD1⟩ := hB
  rw [ht] at hP1
  obtain ⟨hP, hD⟩ := va_join (wr := [(tk_place, .inl (k_tk_place, 701, .inl f_tk_place)), (tk_worth, .inl (k_tk_worth, 701, .inl f_tk_worth))]) (w1 := [(rr, .inr (4, [.ref rr_tape, .int rr_bytes, .int rr_fault, .int rr_place, .ref tk, .ref td, .int rr_at, .int rr_knots])), (tk, .inr (7, [.int tk_count, .ref tk_kind, .ref tk_place, .ref tk_worth, .ref tk_language])), (tk_kind, .inl (k_tk_kind, 701, .inl f_tk_kind))]) hP hD [0, 1, 2] [3, 4] rfl rfl (by decide) (by decide) hk1 hFc hP1 hD1
  generalize H1 = H at hP hS ⊢
  have hP : va_P (dC, dI) vwCl [(tk_place, .inl (k_tk_place, 701, .inl f_tk_place)), (tk_worth, .inl (k_tk_worth, 701, .inl f_tk_worth)), (rr, .inr (4, [.ref rr_tape, .int rr_bytes, .int rr_fault, .int rr_place, .ref tk, .ref td, .int rr_at, .int rr_knots])), (tk, .inr (7, [.int tk_count, .ref tk_kind, .ref tk_place, .ref tk_worth, .ref tk_language])), (tk_kind, .inl (k_tk_kind, 701, .inl f_tk_kind))] H := hP
  have hD : va_D A [(tk_place, .inl (k_tk_place, 701, .inl f_tk_place)), (tk_worth, .inl (k_tk_worth, 701, .inl f_tk_worth)), (rr, .inr (4, [.ref rr_tape, .int rr_bytes, .int rr_fault, .int rr_place, .ref tk, .ref td, .int rr_at, .int rr_knots])), (tk, .inr (7, [.int tk_count, .ref tk_kind, .ref tk_place, .ref tk_worth, .ref tk_language])), (tk_kind, .inl (k_tk_kind, 701, .inl f_tk_kind))] := hD
  clear hPc hDc hKc hFc hP1 hD1 hk1 hz1 ht hvm
  have hwr_2 : (0 ≤ r_2.toInt ∧ r_2.toInt ≤ 39) ∧ (r_2 = f_tk_kind rr_at.toNatClampNeg) := hw
  clear hw
  refine lv_iconst (v := 1) hx hb dX4_readNumber_17 (by decide) ?_
  refine lv_icmp_eq (tgt := 29) hx hb dX4_readNumber_18 (by decide) (fun c_3 => ?_) (fun c_3 => ?_)
  · have kc_3 := il_eq c_3
    have := (by decide : (1 : Int32).toInt = 1)
    refine lv_iload_n hx hb dX4_readNumber_29 rfl (lv_at hl 0 rfl) ?_
    refine lv_iload_n hx hb dX4_readNumber_30 rfl (lv_at hl 2 rfl) ?_
    refine lv_icmp_lt (tgt := 39) hx hb dX4_readNumber_31 (by decide) (fun c_4 => ?_) (fun c_4 => ?_)
    · have kc_4 := il_lt c_4
      have := Int32.toInt_lt z_1; have := Int32.le_toInt z_1
      have := Int32.toInt_lt va; have := Int32.le_toInt va
      refine lv_aload_n hx hb dX4_readNumber_39 rfl (lv_at hl 1 rfl) ?_
      refine lv_iconst (v := 2) hx hb dX4_readNumber_40 (by decide) ?_
      have hPc := hP.sub (ws' := [(rr, .inr (4, [.ref rr_tape, .int rr_bytes, .int rr_fault, .int rr_place, .ref tk, .ref td, .int rr_at, .int rr_knots])), (tk, .inr (7, [.int tk_count, .ref tk_kind, .ref tk_place, .ref tk_worth, .ref tk_language])), (tk_place, .inl (k_tk_place, 701, .inl f_tk_place))]) [2, 3, 0] rfl
      have hDc := hD.sub (ws' := [(rr, .inr (4, [.ref rr_tape, .int rr_bytes, .int rr_fault, .int rr_place, .ref tk, .ref td, .int rr_at, .int rr_knots])), (tk, .inr (7, [.int tk_count, .ref tk_kind, .ref tk_place, .ref tk_worth, .ref tk_language])), (tk_place, .inl (k_tk_place, 701, .inl f_tk_place))]) [2, 3, 0] (by decide) rfl
      have hKc := hK.sub (tys' := [(k_tk_place, .int)]) [1] rfl
      have hFc := va_free (wc := [(rr, .inr (4, [.ref rr_tape, .int rr_bytes, .int rr_fault, .int rr_place, .ref tk, .ref td, .int rr_at, .int rr_knots])), (tk, .inr (7, [.int tk_count, .ref tk_kind, .ref tk_place, .ref tk_worth, .ref tk_language])), (tk_place, .inl (k_tk_place, 701, .inl f_tk_place))]) hD hS hA [2, 3, 0] rfl
      have := (by decide : (2 : Int32).toInt = 2)
      refine va_callv (va_runV (As := [.int 2]) (rest := []) ⟨hx, hb, hml, hown, hT⟩ (c_X4_refuse l dC dI H.size rr (2 : Int32) rr_tape rr_bytes rr_fault rr_place tk td rr_at rr_knots tk_count tk_kind tk_place tk_worth tk_language k_tk_place f_tk_place ge (by omega) (by omega) (by omega) (by omega) (by decide) hce) (cwV 1 hT (gwV mw_3_132 mw_3_134 mp_1_7 mw_1_2 mw_3_135) rfl rfl rfl (by decide +kernel) ⟨Nat.le_of_ble_eq_true rfl, Nat.le_of_ble_eq_true rfl⟩) ⟨fun a U g mk q => by obtain ⟨q0, q1, qP, qK, qD⟩ := q; exact ⟨q0, q1, qP, va_K.moved (u := U) (U := U.calling g mk a) (Vm.Alike.refl U.vm) qK, qD⟩, va_recv hK hP (ci := 4) (q0 := 2) rfl rfl, fun U hU hW => ⟨rfl, by rw [hU], by rw [hU]; exact hPc, va_K.moved hW.alike hKc, hDc.weaken (fun _ _ _ _ => trivial)⟩⟩ rfl rfl hl.1 rfl (lv_room (Nat.le_of_ble_eq_true rfl)) dX4_readNumber_41 ⟨Nat.le_of_ble_eq_true rfl, Nat.le_of_ble_eq_true rfl⟩) hS (fun q _ h => hFc q h) hFc (fun u t H1 locs ht hvm hw hB hz1 hk1 hS => ?_)
      obtain ⟨x_6, x_7, x_8, hpr_5_0, hpr_5_1, hpr_5_2, hP1, hD1⟩ := hB
      rw [ht] at hP1
      obtain ⟨hP, hD⟩ := va_join (wr := [(tk_worth, .inl (k_tk_worth, 701, .inl f_tk_worth)), (tk_kind, .inl (k_tk_kind, 701, .inl f_tk_kind))]) (w1 := [(rr, .inr (4, [.ref rr_tape, .int rr_bytes, .int x_6, .int x_7, .ref tk, .ref td, .int x_8, .int rr_knots])), (tk, .inr (7, [.int tk_count, .ref tk_kind, .ref tk_place, .ref tk_worth, .ref tk_language])), (tk_place, .inl (k_tk_place, 701, .inl f_tk_place))]) hP hD [2, 3, 0] [1, 4] rfl rfl (by decide) (by decide) hk1 hFc hP1 hD1
      generalize H1 = H at hP hS ⊢
      have hP : va_P (dC, dI) vwCl [(tk_worth, .inl (k_tk_worth, 701, .inl f_tk_worth)), (tk_kind, .inl (k_tk_kind, 701, .inl f_tk_kind)), (rr, .inr (4, [.ref rr_tape, .int rr_bytes, .int x_6, .int x_7, .ref tk, .ref td, .int x_8, .int rr_knots])), (tk, .inr (7, [.int tk_count, .ref tk_kind, .ref tk_place, .ref tk_worth, .ref tk_language])), (tk_place, .inl (k_tk_place, 701, .inl f_tk_place))] H := hP
      have hD : va_D A [(tk_worth, .inl (k_tk_worth, 701, .inl f_tk_worth)), (tk_kind, .inl (k_tk_kind, 701, .inl f_tk_kind)), (rr, .inr (4, [.ref rr_tape, .int rr_bytes, .int x_6, .int x_7, .ref tk, .ref td, .int x_8, .int rr_knots])), (tk, .inr (7, [.int tk_count, .ref tk_kind, .ref tk_place, .ref tk_worth, .ref tk_language])), (tk_place, .inl (k_tk_place, 701, .inl f_tk_place))] := hD
      clear hPc hDc hKc hFc hP1 hD1 hk1 hz1 ht hvm
      clear hw
      refine lv_goto (tgt := 53) hx hb dX4_readNumber_44 (by decide) ?_
      refine lv_iconst (v := 0) hx hb dX4_readNumber_53 (by decide) ?_
      have hP9 := hP.sub (ws' := [(rr, .inr (4, [.ref rr_tape, .int rr_bytes, .int x_6, .int x_7, .ref tk, .ref td, .int x_8, .int rr_knots])), (tk, .inr (7, [.int tk_count, .ref tk_kind, .ref tk_place, .ref tk_worth, .ref tk_language])), (tk_kind, .inl (k_tk_kind, 701, .inl f_tk_kind)), (tk_place, .inl (k_tk_place, 701, .inl f_tk_place)), (tk_worth, .inl (k_tk_worth, 701, .inl f_tk_worth))]) [2, 3, 1, 4, 0] rfl
      have hD9 := hD.sub (ws' := [(rr, .inr (4, [.ref rr_tape, .int rr_bytes, .int x_6, .int x_7, .ref tk, .ref td, .int x_8, .int rr_knots])), (tk, .inr (7, [.int tk_count, .ref tk_kind, .ref tk_place, .ref tk_worth, .ref tk_language])), (tk_kind, .inl (k_tk_kind, 701, .inl f_tk_kind)), (tk_place, .inl (k_tk_place, 701, .inl f_tk_place)), (tk_worth, .inl (k_tk_worth, 701, .inl f_tk_worth))]) [2, 3, 1, 4, 0] (by decide) rfl
      have := (by decide : (0 : Int32).toInt = 0)
      have := (by decide : (0 : Int32).toInt = 0)
      exact W.iret (v := 0) hx hb hr (fun t ht hW => ⟨⟨0, (0 : Int32), rfl, rfl, x_6, x_7, x_8, (by omega), (fun h => absurd h hpr_5_1), (Or.inr (Or.inl ⟨(by rw [← hwr_2.2]; omega), (by rw [← ez_1]; omega), (by decide), (by have z := hpr_5_2; rw [show ((2 : Int32).toInt) = 2 by decide] at z; exact z)⟩)), (by first | omega | exact Or.inl ⟨(by first | assumption | omega), (by decide)⟩), by rw [ht]; exact hP9, hD9⟩, hS.F ht⟩) hS.2.2 dX4_readNumber_54
    · have kc_4 := il_nlt c_4
      have := Int32.toInt_lt z_1; have := Int32.le_toInt z_1
      have := Int32.toInt_lt va; have := Int32.le_toInt va
      refine lv_iload_n hx hb dX4_readNumber_34 rfl (lv_at hl 0 rfl) ?_
      refine lv_iload_n hx hb dX4_readNumber_35 rfl (lv_at hl 3 rfl) ?_
      refine lv_icmp_le (tgt := 47) hx hb dX4_readNumber_36 (by decide) (fun c_9 => ?_) (fun c_9 => ?_)
      · have kc_9 := il_le c_9
        have := Int32.toInt_lt vb; have := Int32.le_toInt vb
        refine lv_aload_n hx hb dX4_readNumber_47 rfl (lv_at hl 1 rfl) ?_
        have hPc := hP.sub (ws' := [(rr, .inr (4, [.ref rr_tape, .int rr_bytes, .int rr_fault, .int rr_place, .ref tk, .ref td, .int rr_at, .int rr_knots])), (tk, .inr (7, [.int tk_count, .ref tk_kind, .ref tk_place, .ref tk_worth, .ref tk_language]))]) [2, 3] rfl
        have hDc := hD.sub (ws' := [(rr, .inr (4, [.ref rr_tape, .int rr_bytes, .int rr_fault, .int rr_place, .ref tk, .ref td, .int rr_at, .int rr_knots])), (tk, .inr (7, [.int tk_count, .ref tk_kind, .ref tk_place, .ref tk_worth, .ref tk_language]))]) [2, 3] (by decide) rfl
        have hKc := hK.sub (tys' := []) [] rfl
        have hFc := va_free (wc := [(rr, .inr (4, [.ref rr_tape, .int rr_bytes, .int rr_fault, .int rr_place, .ref tk, .ref td, .int rr_at, .int rr_knots])), (tk, .inr (7, [.int tk_count, .ref tk_kind, .ref tk_place, .ref tk_worth, .ref tk_language]))]) hD hS hA [2, 3] rfl
        refine va_callv (va_runV (As := []) (rest := []) ⟨hx, hb, hml, hown, hT⟩ (c_X4_step l dC dI H.size rr rr_tape rr_bytes rr_fault rr_place tk td rr_at rr_knots tk_count tk_kind tk_place tk_worth tk_language ge (by omega) (by omega) (by omega) (by omega) hce) (cwV 0 hT (gwV mw_3_136 mw_3_138 mp_1_8 mw_1_2 mw_3_139) rfl rfl rfl (by decide +kernel) ⟨Nat.le_of_ble_eq_true rfl, Nat.le_of_ble_eq_true rfl⟩) ⟨fun a U g mk q => by obtain ⟨q0, q1, qP, qK, qD⟩ := q; exact ⟨q0, q1, qP, va_K.moved (u := U) (U := U.calling g mk a) (Vm.Alike.refl U.vm) qK, qD⟩, va_recv hK hP (ci := 4) (q0 := 2) rfl rfl, fun U hU hW => ⟨rfl, by rw [hU], by rw [hU]; exact hPc, va_K.moved hW.alike hKc, hDc.weaken (fun _ _ _ _ => trivial)⟩⟩ rfl rfl hl.1 rfl (lv_room (Nat.le_of_ble_eq_true rfl)) dX4_readNumber_48 ⟨Nat.le_of_ble_eq_true rfl, Nat.le_of_ble_eq_true rfl⟩) hS (fun q _ h => hFc q h) hFc (fun u t H1 locs ht hvm hw hB hz1 hk1 hS => ?_)
        obtain ⟨x_11, hpr_10_0, hpr_10_1, hP1, hD1⟩ := hB
        rw [ht] at hP1
        obtain ⟨hP, hD⟩ := va_join (wr := [(tk_place, .inl (k_tk_place, 701, .inl f_tk_place)), (tk_worth, .inl (k_tk_worth, 701, .inl f_tk_worth)), (tk_kind, .inl (k_tk_kind, 701, .inl f_tk_kind))]) (w1 := [(rr, .inr (4, [.ref rr_tape, .int rr_bytes, .int rr_fault, .int rr_place, .ref tk, .ref td, .int x_11, .int rr_knots])), (tk, .inr (7, [.int tk_count, .ref tk_kind, .ref tk_place, .ref tk_worth, .ref tk_language]))]) hP hD [2, 3] [0, 1, 4] rfl rfl (by decide) (by decide) hk1 hFc hP1 hD1
        generalize H1 = H at hP hS ⊢
        have hP : va_P (dC, dI) vwCl [(tk_place, .inl (k_tk_place, 701, .inl f_tk_place)), (tk_worth, .inl (k_tk_worth, 701, .inl f_tk_worth)), (tk_kind, .inl (k_tk_kind, 701, .inl f_tk_kind)), (rr, .inr (4, [.ref rr_tape, .int rr_bytes, .int rr_fault, .int rr_place, .ref tk, .ref td, .int x_11, .int rr_knots])), (tk, .inr (7, [.int tk_count, .ref tk_kind, .ref tk_place, .ref tk_worth, .ref tk_language]))] H := hP
        have hD : va_D A [(tk_place, .inl (k_tk_place, 701, .inl f_tk_place)), (tk_worth, .inl (k_tk_worth, 701, .inl f_tk_worth)), (tk_kind, .inl (k_tk_kind, 701, .inl f_tk_kind)), (rr, .inr (4, [.ref rr_tape, .int rr_bytes, .int rr_fault, .int rr_place, .ref tk, .ref td, .int x_11, .int rr_knots])), (tk, .inr (7, [.int tk_count, .ref tk_kind, .ref tk_place, .ref tk_worth, .ref tk_language]))] := hD
        clear hPc hDc hKc hFc hP1 hD1 hk1 hz1 ht hvm
        clear hw
        refine lv_iload_n hx hb dX4_readNumber_51 rfl (lv_at hl 0 rfl) ?_
        have hP9 := hP.sub (ws' := [(rr, .inr (4, [.ref rr_tape, .int rr_bytes, .int rr_fault, .int rr_place, .ref tk, .ref td, .int x_11, .int rr_knots])), (tk, .inr (7, [.int tk_count, .ref tk_kind, .ref tk_place, .ref tk_worth, .ref tk_language])), (tk_kind, .inl (k_tk_kind, 701, .inl f_tk_kind)), (tk_place, .inl (k_tk_place, 701, .inl f_tk_place)), (tk_worth, .inl (k_tk_worth, 701, .inl f_tk_worth))]) [3, 4, 2, 0, 1] rfl
        have hD9 := hD.sub (ws' := [(rr, .inr (4, [.ref rr_tape, .int rr_bytes, .int rr_fault, .int rr_place, .ref tk, .ref td, .int x_11, .int rr_knots])), (tk, .inr (7, [.int tk_count, .ref tk_kind, .ref tk_place, .ref tk_worth, .ref tk_language])), (tk_kind, .inl (k_tk_kind, 701, .inl f_tk_kind)), (tk_place, .inl (k_tk_place, 701, .inl f_tk_place)), (tk_worth, .inl (k_tk_worth, 701, .inl f_tk_worth))]) [3, 4, 2, 0, 1] (by decide) rfl
        exact W.iret (v := z_1) hx hb hr (fun t ht hW => ⟨⟨z_1, z_1, rfl, rfl, rr_fault, rr_place, x_11, (by omega), (fun h => h), (Or.inl ⟨(by rw [← hwr_2.2]; omega), (by rw [← ez_1]; omega), (by rw [← ez_1]; omega), ez_1, rfl, rfl, hpr_10_1⟩), (by first | omega | exact Or.inl ⟨(by first | assumption | omega), (by decide)⟩), by rw [ht]; exact hP9, hD9⟩, hS.F ht⟩) hS.2.2 dX4_readNumber_52
      · have kc_9 := il_nle c_9
        have := Int32.toInt_lt vb; have := Int32.le_toInt vb
        refine lv_aload_n hx hb dX4_readNumber_39 rfl (lv_at hl 1 rfl) ?_
        refine lv_iconst (v := 2) hx hb dX4_readNumber_40 (by decide) ?_
        have hPc := hP.sub (ws' := [(rr, .inr (4, [.ref rr_tape, .int rr_bytes, .int rr_fault, .int rr_place, .ref tk, .ref td, .int rr_at, .int rr_knots])), (tk, .inr (7, [.int tk_count, .ref tk_kind, .ref tk_place, .ref tk_worth, .ref tk_language])), (tk_place, .inl (k_tk_place, 701, .inl f_tk_place))]) [2, 3, 0] rfl
        have hDc := hD.sub (ws' := [(rr, .inr (4, [.ref rr_tape, .int rr_bytes, .int rr_fault, .int rr_place, .ref tk, .ref td, .int rr_at, .int rr_knots])), (tk, .inr (7, [.int tk_count, .ref tk_kind, .ref tk_place, .ref tk_worth, .ref tk_language])), (tk_place, .inl (k_tk_place, 701, .inl f_tk_place))]) [2, 3, 0] (by decide) rfl
        have hKc := hK.sub (tys' := [(k_tk_place, .int)]) [1] rfl
        have hFc := va_free (wc := [(rr, .inr (4, [.ref rr_tape, .int rr_bytes, .int rr_fault, .int rr_place, .ref tk, .ref td, .int rr_at, .int rr_knots])), (tk, .inr (7, [.int tk_count, .ref tk_kind, .ref tk_place, .ref tk_worth, .ref tk_language])), (tk_place, .inl (k_tk_place, 701, .inl f_tk_place))]) hD hS hA [2, 3, 0] rfl
        have := (by decide : (2 : Int32).toInt = 2)
        refine va_callv (va_runV (As := [.int 2]) (rest := []) ⟨hx, hb, hml, hown, hT⟩ (c_X4_refuse l dC dI H.size rr (2 : Int32) rr_tape rr_bytes rr_fault rr_place tk td rr_at rr_knots tk_count tk_kind tk_place tk_worth tk_language k_tk_place f_tk_place ge (by omega) (by omega) (by omega) (by omega) (by decide) hce) (cwV 1 hT (gwV mw_3_132 mw_3_134 mp_1_7 mw_1_2 mw_3_135) rfl rfl rfl (by decide +kernel) ⟨Nat.le_of_ble_eq_true rfl, Nat.le_of_ble_eq_true rfl⟩) ⟨fun a U g mk q => by obtain ⟨q0, q1, qP, qK, qD⟩ := q; exact ⟨q0, q1, qP, va_K.moved (u := U) (U := U.calling g mk a) (Vm.Alike.refl U.vm) qK, qD⟩, va_recv hK hP (ci := 4) (q0 := 2) rfl rfl, fun U hU hW => ⟨rfl, by rw [hU], by rw [hU]; exact hPc, va_K.moved hW.alike hKc, hDc.weaken (fun _ _ _ _ => trivial)⟩⟩ rfl rfl hl.1 rfl (lv_room (Nat.le_of_ble_eq_true rfl)) dX4_readNumber_41 ⟨Nat.le_of_ble_eq_true rfl, Nat.le_of_ble_eq_true rfl⟩) hS (fun q _ h => hFc q h) hFc (fun u t H1 locs ht hvm hw hB hz1 hk1 hS => ?_)
        obtain ⟨x_13, x_14, x_15, hpr_12_0, hpr_12_1, hpr_12_2, hP1, hD1⟩ := hB
        rw [ht] at hP1
        obtain ⟨hP, hD⟩ := va_join (wr := [(tk_worth, .inl (k_tk_worth, 701, .inl f_tk_worth)), (tk_kind, .inl (k_tk_kind, 701, .inl f_tk_kind))]) (w1 := [(rr, .inr (4, [.ref rr_tape, .int rr_bytes, .int x_13, .int x_14, .ref tk, .ref td, .int x_15, .int rr_knots])), (tk, .inr (7, [.int tk_count, .ref tk_kind, .ref tk_place, .ref tk_worth, .ref tk_language])), (tk_place, .inl (k_tk_place, 701, .inl f_tk_place))]) hP hD [2, 3, 0] [1, 4] rfl rfl (by decide) (by decide) hk1 hFc hP1 hD1
        generalize H1 = H at hP hS ⊢
        have hP : va_P (dC, dI) vwCl [(tk_worth, .inl (k_tk_worth, 701, .inl f_tk_worth)), (tk_kind, .inl (k_tk_kind, 701, .inl f_tk_kind)), (rr, .inr (4, [.ref rr_tape, .int rr_bytes, .int x_13, .int x_14, .ref tk, .ref td, .int x_15, .int rr_knots])), (tk, .inr (7, [.int tk_count, .ref tk_kind, .ref tk_place, .ref tk_worth, .ref tk_language])), (tk_place, .inl (k_tk_place, 701, .inl f_tk_place))] H := hP
        have hD : va_D A [(tk_worth, .inl (k_tk_worth, 701, .inl f_tk_worth)), (tk_kind, .inl (k_tk_kind, 701, .inl f_tk_kind)), (rr, .inr (4, [.ref rr_tape, .int rr_bytes, .int x_13, .int x_14, .ref tk, .ref td, .int x_15, .int rr_knots])), (tk, .inr (7, [.int tk_count, .ref tk_kind, .ref tk_place, .ref tk_worth, .ref tk_language])), (tk_place, .inl (k_tk_place, 701, .inl f_tk_place))] := hD
        clear hPc hDc hKc hFc hP1 hD1 hk1 hz1 ht hvm
        clear hw
        refine lv_goto (tgt := 53) hx hb dX4_readNumber_44 (by decide) ?_
        refine lv_iconst (v := 0) hx hb dX4_readNumber_53 (by decide) ?_
        have hP9 := hP.sub (ws' := [(rr, .inr (4, [.ref rr_tape, .int rr_bytes, .int x_13, .int x_14, .ref tk, .ref td, .int x_15, .int rr_knots])), (tk, .inr (7, [.int tk_count, .ref tk_kind, .ref tk_place, .ref tk_worth, .ref tk_language])), (tk_kind, .inl (k_tk_kind, 701, .inl f_tk_kind)), (tk_place, .inl (k_tk_place, 701, .inl f_tk_place)), (tk_worth, .inl (k_tk_worth, 701, .inl f_tk_worth))]) [2, 3, 1, 4, 0] rfl
        have hD9 := hD.sub (ws' := [(rr, .inr (4, [.ref rr_tape, .int rr_bytes, .int x_13, .int x_14, .ref tk, .ref td, .int x_15, .int rr_knots])), (tk, .inr (7, [.int tk_count, .ref tk_kind, .ref tk_place, .ref tk_worth, .ref tk_language])), (tk_kind, .inl (k_tk_kind, 701, .inl f_tk_kind)), (tk_place, .inl (k_tk_place, 701, .inl f_tk_place)), (tk_worth, .inl (k_tk_worth, 701, .inl f_tk_worth))]) [2, 3, 1, 4, 0] (by decide) rfl
        have := (by decide : (0 : Int32).toInt = 0)
        have := (by decide : (0 : Int32).toInt = 0)
        exact W.iret (v := 0) hx hb hr (fun t ht hW => ⟨⟨0, (0 : Int32), rfl, rfl, x_13, x_14, x_15, (by omega), (fun h => absurd h hpr_12_1), (Or.inr (Or.inl ⟨(by rw [← hwr_2.2]; omega), (by rw [← ez_1]; omega), (by decide), (by have z := hpr_12_2; rw [show ((2 : Int32).toInt) = 2 by decide] at z; exact z)⟩)), (by first | omega | exact Or.inl ⟨(by first | assumption | omega), (by decide)⟩), by rw [ht]; exact hP9, hD9⟩, hS.F ht⟩) hS.2.2 dX4_readNumber_54
  · have kc_3 := il_ne c_3
    have := (by decide : (1 : Int32).toInt = 1)
    refine lv_aload_n hx hb dX4_readNumber_21 rfl (lv_at hl 1 rfl) ?_
    refine lv_iconst (v := 1) hx hb dX4_readNumber_22 (by decide) ?_
    have hPc := hP.sub (ws' := [(rr, .inr (4, [.ref rr_tape, .int rr_bytes, .int rr_fault, .int rr_place, .ref tk, .ref td, .int rr_at, .int rr_knots])), (tk, .inr (7, [.int tk_count, .ref tk_kind, .ref tk_place, .ref tk_worth, .ref tk_language])), (tk_place, .inl (k_tk_place, 701, .inl f_tk_place))]) [2, 3, 0] rfl
    have hDc := hD.sub (ws' := [(rr, .inr (4, [.ref rr_tape, .int rr_bytes, .int rr_fault, .int rr_place, .ref tk, .ref td, .int rr_at, .int rr_knots])), (tk, .inr (7, [.int tk_count, .ref tk_kind, .ref tk_place, .ref tk_worth, .ref tk_language])), (tk_place, .inl (k_tk_place, 701, .inl f_tk_place))]) [2, 3, 0] (by decide) rfl
    have hKc := hK.sub (tys' := [(k_tk_place, .int)]) [1] rfl
    have hFc := va_free (wc := [(rr, .inr (4, [.ref rr_tape, .int rr_bytes, .int rr_fault, .int rr_place, .ref tk, .ref td, .int rr_at, .int rr_knots])), (tk, .inr (7, [.int tk_count, .ref tk_kind, .ref tk_place, .ref tk_worth, .ref tk_language])), (tk_place, .inl (k_tk_place, 701, .inl f_tk_place))]) hD hS hA [2, 3, 0] rfl
    have := (by decide : (1 : Int32).toInt = 1)
    refine va_callv (va_runV (As := [.int 1]) (rest := []) ⟨hx, hb, hml, hown, hT⟩ (c_X4_refuse l dC dI H.size rr (1 : Int32) rr_tape rr_bytes rr_fault rr_place tk td rr_at rr_knots tk_count tk_kind tk_place tk_worth tk_language k_tk_place f_tk_place ge (by omega) (by omega) (by omega) (by omega) (by decide) hce) (cwV 1 hT (gwV mw_3_132 mw_3_134 mp_1_7 mw_1_2 mw_3_135) rfl rfl rfl (by decide +kernel) ⟨Nat.le_of_ble_eq_true rfl, Nat.le_of_ble_eq_true rfl⟩) ⟨fun a U g mk q => by obtain ⟨q0, q1, qP, qK, qD⟩ := q; exact ⟨q0, q1, qP, va_K.moved (u := U) (U := U.calling g mk a) (Vm.Alike.refl U.vm) qK, qD⟩, va_recv hK hP (ci := 4) (q0 := 2) rfl rfl, fun U hU hW => ⟨rfl, by rw [hU], by rw [hU]; exact hPc, va_K.moved hW.alike hKc, hDc.weaken (fun _ _ _ _ => trivial)⟩⟩ rfl rfl hl.1 rfl (lv_room (Nat.le_of_ble_eq_true rfl)) dX4_readNumber_23 ⟨Nat.le_of_ble_eq_true rfl, Nat.le_of_ble_eq_true rfl⟩) hS (fun q _ h => hFc q h) hFc (fun u t H1 locs ht hvm hw hB hz1 hk1 hS => ?_)
    obtain ⟨x_17, x_18, x_19, hpr_16_0, hpr_16_1, hpr_16_2, hP1, hD1⟩ := hB
    rw [ht] at hP1
    obtain ⟨hP, hD⟩ := va_join (wr := [(tk_worth, .inl (k_tk_worth, 701, .inl f_tk_worth)), (tk_kind, .inl (k_tk_kind, 701, .inl f_tk_kind))]) (w1 := [(rr, .inr (4, [.ref rr_tape, .int rr_bytes, .int x_17, .int x_18, .ref tk, .ref td, .int x_19, .int rr_knots])), (tk, .inr (7, [.int tk_count, .ref tk_kind, .ref tk_place, .ref tk_worth, .ref tk_language])), (tk_place, .inl (k_tk_place, 701, .inl f_tk_place))]) hP hD [2, 3, 0] [1, 4] rfl rfl (by decide) (by decide) hk1 hFc hP1 hD1
    generalize H1 = H at hP hS ⊢
    have hP : va_P (dC, dI) vwCl [(tk_worth, .inl (k_tk_worth, 701, .inl f_tk_worth)), (tk_kind, .inl (k_tk_kind, 701, .inl f_tk_kind)), (rr, .inr (4, [.ref rr_tape, .int rr_bytes, .int x_17, .int x_18, .ref tk, .ref td, .int x_19, .int rr_knots])), (tk, .inr (7, [.int tk_count, .ref tk_kind, .ref tk_place, .ref tk_worth, .ref tk_language])), (tk_place, .inl (k_tk_place, 701, .inl f_tk_place))] H := hP
    have hD : va_D A [(tk_worth, .inl (k_tk_worth, 701, .inl f_tk_worth)), (tk_kind, .inl (k_tk_kind, 701, .inl f_tk_kind)), (rr, .inr (4, [.ref rr_tape, .int rr_bytes, .int x_17, .int x_18, .ref tk, .ref td, .int x_19, .int rr_knots])), (tk, .inr (7, [.int tk_count, .ref tk_kind, .ref tk_place, .ref tk_worth, .ref tk_language])), (tk_place, .inl (k_tk_place, 701, .inl f_tk_place))] := hD
    clear hPc hDc hKc hFc hP1 hD1 hk1 hz1 ht hvm
    clear hw
    refine lv_goto (tgt := 53) hx hb dX4_readNumber_26 (by decide) ?_
    refine lv_iconst (v := 0) hx hb dX4_readNumber_53 (by decide) ?_
    have hP9 := hP.sub (ws' := [(rr, .inr (4, [.ref rr_tape, .int rr_bytes, .int x_17, .int x_18, .ref tk, .ref td, .int x_19, .int rr_knots])), (tk, .inr (7, [.int tk_count, .ref tk_kind, .ref tk_place, .ref tk_worth, .ref tk_language])), (tk_kind, .inl (k_tk_kind, 701, .inl f_tk_kind)), (tk_place, .inl (k_tk_place, 701, .inl f_tk_place)), (tk_worth, .inl (k_tk_worth, 701, .inl f_tk_worth))]) [2, 3, 1, 4, 0] rfl
    have hD9 := hD.sub (ws' := [(rr, .inr (4, [.ref rr_tape, .int rr_bytes, .int x_17, .int x_18, .ref tk, .ref td, .int x_19, .int rr_knots])), (tk, .inr (7, [.int tk_count, .ref tk_kind, .ref tk_place, .ref tk_worth, .ref tk_language])), (tk_kind, .inl (k_tk_kind, 701, .inl f_tk_kind)), (tk_place, .inl (k_tk_place, 701, .inl f_tk_place)), (tk_worth, .inl (k_tk_worth, 701, .inl f_tk_worth))]) [2, 3, 1, 4, 0] (by decide) rfl
    have := (by decide : (0 : Int32).toInt = 0)
    have := (by decide : (0 : Int32).toInt = 0)
    exact W.iret (v := 0) hx hb hr (fun t ht hW => ⟨⟨0, (0 : Int32), rfl, rfl, x_17, x_18, x_19, (by omega), (fun h => absurd h hpr_16_1), (Or.inr (Or.inr ⟨(by rw [← hwr_2.2]; omega), (by decide), (by have z := hpr_16_2; rw [show ((1 : Int32).toInt) = 1 by decide] at z; exact z)⟩)), (by first | omega | exact Or.inl ⟨(by first | assumption | omega), (by decide)⟩), by rw [ht]; exact hP9, hD9⟩, hS.F ht⟩) hS.2.2 dX4_readNumber_54
