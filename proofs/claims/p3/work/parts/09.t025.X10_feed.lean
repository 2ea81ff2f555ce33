theorem dX10_feed_0 : decode cX10_feed 0 = .ok (.aload_n 0, 1) := by decide +kernel
theorem dX10_feed_1 : decode cX10_feed 1 = .ok (.getfield 16, 3) := by decide +kernel
theorem dX10_feed_4 : decode cX10_feed 4 = .ok (.getfield 95, 3) := by decide +kernel
theorem dX10_feed_7 : decode cX10_feed 7 = .ok (.bipush 20, 2) := by decide +kernel
theorem dX10_feed_10 : decode cX10_feed 10 = .ok (.sipush 700, 3) := by decide +kernel
theorem dX10_feed_18 : decode cX10_feed 18 = .ok (.aload_n 0, 1) := by decide +kernel
theorem dX10_feed_19 : decode cX10_feed 19 = .ok (.getfield 16, 3) := by decide +kernel
theorem dX10_feed_22 : decode cX10_feed 22 = .ok (.iload_n 1, 1) := by decide +kernel
theorem dX10_feed_23 : decode cX10_feed 23 = .ok (.invokevirtual 99, 3) := by decide +kernel
theorem dX10_feed_26 : decode cX10_feed 26 = .ok (.aload_n 0, 1) := by decide +kernel
theorem dX10_feed_27 : decode cX10_feed 27 = .ok (.getfield 16, 3) := by decide +kernel
theorem dX10_feed_30 : decode cX10_feed 30 = .ok (.iload_n 2, 1) := by decide +kernel
theorem dX10_feed_31 : decode cX10_feed 31 = .ok (.invokevirtual 99, 3) := by decide +kernel
theorem dX10_feed_34 : decode cX10_feed 34 = .ok (.aload_n 0, 1) := by decide +kernel
theorem dX10_feed_35 : decode cX10_feed 35 = .ok (.getfield 16, 3) := by decide +kernel
theorem dX10_feed_38 : decode cX10_feed 38 = .ok (.iload_n 3, 1) := by decide +kernel
theorem dX10_feed_39 : decode cX10_feed 39 = .ok (.invokevirtual 99, 3) := by decide +kernel
theorem dX10_feed_42 : decode cX10_feed 42 = .ok (.aload_n 0, 1) := by decide +kernel
theorem dX10_feed_43 : decode cX10_feed 43 = .ok (.getfield 16, 3) := by decide +kernel
theorem dX10_feed_46 : decode cX10_feed 46 = .ok (.iload 4, 2) := by decide +kernel
theorem dX10_feed_48 : decode cX10_feed 48 = .ok (.invokevirtual 99, 3) := by decide +kernel
theorem dX10_feed_51 : decode cX10_feed 51 = .ok (.aload_n 0, 1) := by decide +kernel
theorem dX10_feed_52 : decode cX10_feed 52 = .ok (.getfield 16, 3) := by decide +kernel
theorem dX10_feed_55 : decode cX10_feed 55 = .ok (.iload 5, 2) := by decide +kernel
theorem dX10_feed_57 : decode cX10_feed 57 = .ok (.invokevirtual 99, 3) := by decide +kernel
theorem dX10_feed_60 : decode cX10_feed 60 = .ok (.aload_n 0, 1) := by decide +kernel
theorem dX10_feed_61 : decode cX10_feed 61 = .ok (.getfield 16, 3) := by decide +kernel
theorem dX10_feed_64 : decode cX10_feed 64 = .ok (.getfield 95, 3) := by decide +kernel
theorem dX10_feed_67 : decode cX10_feed 67 = .ok (.ireturn, 1) := by decide +kernel
theorem dX10_feed_16 : decode cX10_feed 16 = .ok (.iconst (-1), 1) := by decide +kernel
theorem dX10_feed_17 : decode cX10_feed 17 = .ok (.ireturn, 1) := by decide +kernel
theorem dX10_feed_9 : decode cX10_feed 9 = .ok (.iadd, 1) := by decide +kernel
theorem dX10_feed_13 : decode cX10_feed 13 = .ok (.if_icmp .le 5, 3) := by decide +kernel
abbrev q_X10_feed (dC : Nat → ClassId) (dI : Nat → Nat → Nat) (A : Nat → Prop) (xx : Nat) (v0 : Int32) (v1 : Int32) (v2 : Int32) (v3 : Int32) (v4 : Int32) (rr : Nat) (td : Nat) (tb : Nat) (pl : Nat) (pb : Nat) (cn : Nat) (ci : Nat) (xx_imageKept : Int32) (cp : Nat) (ct : Nat) (hs : Nat) (rd : Nat) (wy : Nat) (ea : Nat) (eb : Nat) (rr_tape : Nat) (rr_bytes : Int32) (rr_fault : Int32) (rr_place : Int32) (rr_tokens : Nat) (rr_told : Value) (rr_at : Int32) (rr_knots : Int32) (k_rr_tape : ClassId) (f_rr_tape : Nat → Int32) : Array Value → State → Outcome → State → Prop := va_Qi (fun (r : Int32) (_ : Unit) => (680 < rr_bytes.toInt ∧ r.toInt = -1) ∨ (rr_bytes.toInt ≤ 680 ∧ r.toInt = rr_bytes.toInt + 20)) (fun (_ : Unit) (t : State) => ∃ (e_rr_bytes : Int32), ∃ (g_rr_tape : Nat → Int32), (0 ≤ e_rr_bytes.toInt ∧ e_rr_bytes.toInt ≤ 700) ∧ (Rg g_rr_tape (-128) 127) ∧ ((680 < rr_bytes.toInt ∧ e_rr_bytes.toInt = rr_bytes.toInt) ∨ (rr_bytes.toInt ≤ 680 ∧ e_rr_bytes.toInt = rr_bytes.toInt + 20)) ∧ ((680 < rr_bytes.toInt ∧ g_rr_tape = f_rr_tape) ∨ (rr_bytes.toInt ≤ 680 ∧ FDX f_rr_tape g_rr_tape rr_bytes v0 v1 v2 v3 v4)) ∧ va_P (dC, dI) vwCl [(xx, .inr (10, [.ref rr, .ref td, .ref tb, .ref pl, .ref pb, .ref cn, .ref ci, .int xx_imageKept, .ref cp, .ref ct, .ref hs, .ref rd, .ref wy, .ref ea, .ref eb])), (rr, .inr (4, [.ref rr_tape, .int e_rr_bytes, .int rr_fault, .int rr_place, .ref rr_tokens, rr_told, .int rr_at, .int rr_knots])), (rr_tape, .inl (k_rr_tape, 700, .inl g_rr_tape))] t.heap ∧ va_D A [(xx, .inr (10, [.ref rr, .ref td, .ref tb, .ref pl, .ref pb, .ref cn, .ref ci, .int xx_imageKept, .ref cp, .ref ct, .ref hs, .ref rd, .ref wy, .ref ea, .ref eb])), (rr, .inr (4, [.ref rr_tape, .int e_rr_bytes, .int rr_fault, .int rr_place, .ref rr_tokens, rr_told, .int rr_at, .int rr_knots])), (rr_tape, .inl (k_rr_tape, 700, .inl g_rr_tape))]) A
set_option maxHeartbeats 4000000 in
set_option maxRecDepth 100000 in
theorem c_X10_feed (l : Launch) (dC : Nat → ClassId) (dI : Nat → Nat → Nat) (sz : Nat) (xx : Nat) (v0 : Int32) (v1 : Int32) (v2 : Int32) (v3 : Int32) (v4 : Int32) (rr : Nat) (td : Nat) (tb : Nat) (pl : Nat) (pb : Nat) (cn : Nat) (ci : Nat) (xx_imageKept : Int32) (cp : Nat) (ct : Nat) (hs : Nat) (rd : Nat) (wy : Nat) (ea : Nat) (eb : Nat) (rr_tape : Nat) (rr_bytes : Int32) (rr_fault : Int32) (rr_place : Int32) (rr_tokens : Nat) (rr_told : Value) (rr_at : Int32) (rr_knots : Int32) (k_rr_tape : ClassId) (f_rr_tape : Nat → Int32) (h_xx_imageKept : 0 ≤ xx_imageKept.toInt ∧ xx_imageKept.toInt ≤ 1) (h_rr_bytes : 0 ≤ rr_bytes.toInt ∧ rr_bytes.toInt ≤ 700) (h_rr_at : 0 ≤ rr_at.toInt ∧ rr_at.toInt ≤ 700) (h_rr_knots : 0 ≤ rr_knots.toInt ∧ rr_knots.toInt ≤ 64) (h_f_rr_tape : Rg f_rr_tape (-128) 127) : Met l yX10_feed (pw_w yX10_feed cX10_feed 6 (some .int)) ({ frames := 1, cells := 0, slots := 0, locals := 22 }) (va_Pc [.ref xx, .int v0, .int v1, .int v2, .int v3, .int v4] (fun U => U.heap.size = sz ∧ va_P (dC, dI) vwCl [(xx, .inr (10, [.ref rr, .ref td, .ref tb, .ref pl, .ref pb, .ref cn, .ref ci, .int xx_imageKept, .ref cp, .ref ct, .ref hs, .ref rd, .ref wy, .ref ea, .ref eb])), (rr, .inr (4, [.ref rr_tape, .int rr_bytes, .int rr_fault, .int rr_place, .ref rr_tokens, rr_told, .int rr_at, .int rr_knots])), (rr_tape, .inl (k_rr_tape, 700, .inl f_rr_tape))] U.heap ∧ va_K (dC, dI) vwCl [(k_rr_tape, .byte)] U ∧ va_D (fun _ => True) [(xx, .inr (10, [.ref rr, .ref td, .ref tb, .ref pl, .ref pb, .ref cn, .ref ci, .int xx_imageKept, .ref cp, .ref ct, .ref hs, .ref rd, .ref wy, .ref ea, .ref eb])), (rr, .inr (4, [.ref rr_tape, .int rr_bytes, .int rr_fault, .int rr_place, .ref rr_tokens, rr_told, .int rr_at, .int rr_knots])), (rr_tape, .inl (k_rr_tape, 700, .inl f_rr_tape))])) (q_X10_feed dC dI (va_A [(xx, .inr (10, [.ref rr, .ref td, .ref tb, .ref pl, .ref pb, .ref cn, .ref ci, .int xx_imageKept, .ref cp, .ref ct, .ref hs, .ref rd, .ref wy, .ref ea, .ref eb])), (rr, .inr (4, [.ref rr_tape, .int rr_bytes, .int rr_fault, .int rr_place, .ref rr_tokens, rr_told, .int rr_at, .int rr_knots])), (rr_tape, .inl (k_rr_tape, 700, .inl f_rr_tape))] sz) xx v0 v1 v2 v3 v4 rr td tb pl pb cn ci xx_imageKept cp ct hs rd wy ea eb rr_tape rr_bytes rr_fault rr_place rr_tokens rr_told rr_at rr_knots k_rr_tape f_rr_tape) 0 0 (va_A [(xx, .inr (10, [.ref rr, .ref td, .ref tb, .ref pl, .ref pb, .ref cn, .ref ci, .int xx_imageKept, .ref cp, .ref ct, .ref hs, .ref rd, .ref wy, .ref ea, .ref eb])), (rr, .inr (4, [.ref rr_tape, .int rr_bytes, .int rr_fault, .int rr_place, .ref rr_tokens, rr_told, .int rr_at, .int rr_knots])), (rr_tape, .inl (k_rr_tape, 700, .inl f_rr_tape))] sz) := by
  refine Met.ofW (cc := cX10_feed) (maxL := 6) (ret := (some .int)) (by decide) rfl ?_
  intro p e s m args below meth c s₁ B hml hv
  obtain ⟨rfl, hsz, hP, hK, hD0⟩ := hv
  have hx := B.exec
  have hb := B.bytes
  have hr := B.returns
  have hts := atoms_spec (ws := (pw_w yX10_feed cX10_feed 6 (some .int))) B.pre
  have hT : ∀ w ∈ pw_T, w.before _ s = true := fun w h => hts w (List.mem_cons_of_mem _ h)
  have hown : s.vm.findClass RX10 = some m.cls := findClass_of_methodNamed B.named
  have hlocks := B.notSynchronized
  subst hsz
  have hD := hD0.self (sz := s.heap.size)
  generalize hAe : va_A [(xx, .inr (10, [.ref rr, .ref td, .ref tb, .ref pl, .ref pb, .ref cn, .ref ci, .int xx_imageKept, .ref cp, .ref ct, .ref hs, .ref rd, .ref wy, .ref ea, .ref eb])), (rr, .inr (4, [.ref rr_tape, .int rr_bytes, .int rr_fault, .int rr_place, .ref rr_tokens, rr_told, .int rr_at, .int rr_knots])), (rr_tape, .inl (k_rr_tape, 700, .inl f_rr_tape))] s.heap.size = A at hD ⊢
  have hA : ∀ q : Nat, s.heap.size ≤ q → A q := fun q h => by rw [← hAe]; exact Or.inr h
  have hS : va_S A s.heap s.heap [] := va_S.rf
  have hP : va_P (dC, dI) vwCl [(xx, .inr (10, [.ref rr, .ref td, .ref tb, .ref pl, .ref pb, .ref cn, .ref ci, .int xx_imageKept, .ref cp, .ref ct, .ref hs, .ref rd, .ref wy, .ref ea, .ref eb])), (rr, .inr (4, [.ref rr_tape, .int rr_bytes, .int rr_fault, .int rr_place, .ref rr_tokens, rr_told, .int rr_at, .int rr_knots])), (rr_tape, .inl (k_rr_tape, 700, .inl f_rr_tape))] s.heap := hP
  have hl := lv_entry ([.ref xx, .int v0, .int v1, .int v2, .int v3, .int v4]) (n := 6) (Nat.le_of_ble_eq_true rfl)
  rw [lg_entry_eq]
  generalize (lg_sl ([.ref xx, .int v0, .int v1, .int v2, .int v3, .int v4]) ++ List.replicate (6 - (lg_sl ([.ref xx, .int v0, .int v1, .int v2, .int v3, .int v4])).length) Slot.unset).toArray = ls at hl ⊢
  have hl : lv_has ls 6 [(0, .ref xx), (1, .int v0), (2, .int v1), (3, .int v2), (4, .int v3), (5, .int v4)] := hl
  refine lv_aload_n hx hb dX10_feed_0 rfl (lv_at hl 0 rfl) ?_
  refine va_get (D := (dC, dI)) (ci := 10) (v := .ref rr) (C := RX10) (T := TX10) (N := 15) hx hb hT inX10 hown hK hP 0 rfl rfl 0 (by decide) (hT _ mw_3_13) (fun _ h9 => h9) rfl dX10_feed_1 ?_
  refine va_get (D := (dC, dI)) (ci := 4) (v := .int rr_bytes) (C := RX4) (T := TX4) (N := 8) hx hb hT inX4 hown hK hP 1 rfl rfl 1 (by decide) (hT _ mw_1_124) (fun _ h9 => h9) rfl dX10_feed_4 ?_
  refine lv_bipush (v := 20) hx hb dX10_feed_7 (by decide) ?_
  refine lv_iadd hx hb dX10_feed_9 ?_
  refine lv_topi (fun z_1 ez_1 => ?_)
  have kz_1 : z_1.toInt = rr_bytes.toInt + 20 := ti_add ez_1 rfl (by decide) (by omega) (by omega)
  clear ez_1
  refine lv_sipush (v := 700) hx hb dX10_feed_10 (by decide) ?_
  refine lv_icmp_le (tgt := 18) hx hb dX10_feed_13 (by decide) (fun c_2 => ?_) (fun c_2 => ?_)
  · have kc_2 := il_le c_2
    have := (by decide : (700 : Int32).toInt = 700)
    refine lv_aload_n hx hb dX10_feed_18 rfl (lv_at hl 0 rfl) ?_
    refine va_get (D := (dC, dI)) (ci := 10) (v := .ref rr) (C := RX10) (T := TX10) (N := 15) hx hb hT inX10 hown hK hP 0 rfl rfl 0 (by decide) (hT _ mw_3_13) (fun _ h9 => h9) rfl dX10_feed_19 ?_
    refine lv_iload_n hx hb dX10_feed_22 rfl (lv_at hl 1 rfl) ?_
    have hPc := hP.sub (ws' := [(rr, .inr (4, [.ref rr_tape, .int rr_bytes, .int rr_fault, .int rr_place, .ref rr_tokens, rr_told, .int rr_at, .int rr_knots])), (rr_tape, .inl (k_rr_tape, 700, .inl f_rr_tape))]) [1, 2] rfl
    have hDc := hD.sub (ws' := [(rr, .inr (4, [.ref rr_tape, .int rr_bytes, .int rr_fault, .int rr_place, .ref rr_tokens, rr_told, .int rr_at, .int rr_knots])), (rr_tape, .inl (k_rr_tape, 700, .inl f_rr_tape))]) [1, 2] (by decide) rfl
    have hKc := hK.sub (tys' := [(k_rr_tape, .byte)]) [0] rfl
    have hFc := va_free (wc := [(rr, .inr (4, [.ref rr_tape, .int rr_bytes, .int rr_fault, .int rr_place, .ref rr_tokens, rr_told, .int rr_at, .int rr_knots])), (rr_tape, .inl (k_rr_tape, 700, .inl f_rr_tape))]) hD hS hA [1, 2] rfl
    refine va_callv (va_runV (As := [.int v0]) (rest := []) ⟨hx, hb, hml, hown, hT⟩ (c_X4_take l dC dI s.heap.size rr v0 rr_tape rr_bytes rr_fault rr_place rr_tokens (rr_told) rr_at rr_knots k_rr_tape f_rr_tape (by omega) (by omega) (by omega) h_f_rr_tape (by omega)) (cwV 1 hT (gwV mw_3_63 mw_3_64 mw_3_65 mw_1_2 mw_3_66) rfl rfl rfl (by decide +kernel) ⟨Nat.le_of_ble_eq_true rfl, Nat.le_of_ble_eq_true rfl⟩) ⟨fun a U g mk q => by obtain ⟨q0, q1, qP, qK, qD⟩ := q; exact ⟨q0, q1, qP, va_K.moved (u := U) (U := U.calling g mk a) (Vm.Alike.refl U.vm) qK, qD⟩, va_recv hK hP (ci := 4) (q0 := 1) rfl rfl, fun U hU hW => ⟨rfl, by rw [hU], by rw [hU]; exact hPc, va_K.moved hW.alike hKc, hDc.weaken (fun _ _ _ _ => trivial)⟩⟩ rfl rfl hl.1 rfl (lv_room (Nat.le_of_ble_eq_true rfl)) dX10_feed_23 ⟨Nat.le_of_ble_eq_true rfl, Nat.le_of_ble_eq_true rfl⟩) hS (fun q _ h => hFc q h) hFc (fun u t H1 locs ht hvm hw hB hz1 hk1 hS => ?_)
    obtain ⟨x_4, x_5, hpr_3_0, hpr_3_1, hpr_3_2, hpr_3_3, hP1, hD1⟩ := hB
    rw [ht] at hP1
    obtain ⟨hP, hD⟩ := va_join (wr := [(xx, .inr (10, [.ref rr, .ref td, .ref tb, .ref pl, .ref pb, .ref cn, .ref ci, .int xx_imageKept, .ref cp, .ref ct, .ref hs, .ref rd, .ref wy, .ref ea, .ref eb]))]) (w1 := [(rr, .inr (4, [.ref rr_tape, .int x_4, .int rr_fault, .int rr_place, .ref rr_tokens, rr_told, .int rr_at, .int rr_knots])), (rr_tape, .inl (k_rr_tape, 700, .inl x_5))]) hP hD [1, 2] [0] rfl rfl (by decide) (by decide) hk1 hFc hP1 hD1
    generalize H1 = H at hP hS ⊢
    have hP : va_P (dC, dI) vwCl [(xx, .inr (10, [.ref rr, .ref td, .ref tb, .ref pl, .ref pb, .ref cn, .ref ci, .int xx_imageKept, .ref cp, .ref ct, .ref hs, .ref rd, .ref wy, .ref ea, .ref eb])), (rr, .inr (4, [.ref rr_tape, .int x_4, .int rr_fault, .int rr_place, .ref rr_tokens, rr_told, .int rr_at, .int rr_knots])), (rr_tape, .inl (k_rr_tape, 700, .inl x_5))] H := hP
    have hD : va_D A [(xx, .inr (10, [.ref rr, .ref td, .ref tb, .ref pl, .ref pb, .ref cn, .ref ci, .int xx_imageKept, .ref cp, .ref ct, .ref hs, .ref rd, .ref wy, .ref ea, .ref eb])), (rr, .inr (4, [.ref rr_tape, .int x_4, .int rr_fault, .int rr_place, .ref rr_tokens, rr_told, .int rr_at, .int rr_knots])), (rr_tape, .inl (k_rr_tape, 700, .inl x_5))] := hD
    clear hPc hDc hKc hFc hP1 hD1 hk1 hz1 ht hvm
    clear hw
    refine lv_aload_n hx hb dX10_feed_26 rfl (lv_at hl 0 rfl) ?_
    refine va_get (D := (dC, dI)) (ci := 10) (v := .ref rr) (C := RX10) (T := TX10) (N := 15) hx hb hT inX10 hown hK hP 0 rfl rfl 0 (by decide) (hT _ mw_3_13) (fun _ h9 => h9) rfl dX10_feed_27 ?_
    refine lv_iload_n hx hb dX10_feed_30 rfl (lv_at hl 2 rfl) ?_
    have hPc := hP.sub (ws' := [(rr, .inr (4, [.ref rr_tape, .int x_4, .int rr_fault, .int rr_place, .ref rr_tokens, rr_told, .int rr_at, .int rr_knots])), (rr_tape, .inl (k_rr_tape, 700, .inl x_5))]) [1, 2] rfl
    have hDc := hD.sub (ws' := [(rr, .inr (4, [.ref rr_tape, .int x_4, .int rr_fault, .int rr_place, .ref rr_tokens, rr_told, .int rr_at, .int rr_knots])), (rr_tape, .inl (k_rr_tape, 700, .inl x_5))]) [1, 2] (by decide) rfl
    have hKc := hK.sub (tys' := [(k_rr_tape, .byte)]) [0] rfl
    have hFc := va_free (wc := [(rr, .inr (4, [.ref rr_tape, .int x_4, .int rr_fault, .int rr_place, .ref rr_tokens, rr_told, .int rr_at, .int rr_knots])), (rr_tape, .inl (k_rr_tape, 700, .inl x_5))]) hD hS hA [1, 2] rfl
    refine va_callv (va_runV (As := [.int v1]) (rest := []) ⟨hx, hb, hml, hown, hT⟩ (c_X4_take l dC dI H.size rr v1 rr_tape x_4 rr_fault rr_place rr_tokens (rr_told) rr_at rr_knots k_rr_tape x_5 (by omega) (by omega) (by omega) hpr_3_1 (by omega)) (cwV 1 hT (gwV mw_3_63 mw_3_64 mw_3_65 mw_1_2 mw_3_66) rfl rfl rfl (by decide +kernel) ⟨Nat.le_of_ble_eq_true rfl, Nat.le_of_ble_eq_true rfl⟩) ⟨fun a U g mk q => by obtain ⟨q0, q1, qP, qK, qD⟩ := q; exact ⟨q0, q1, qP, va_K.moved (u := U) (U := U.calling g mk a) (Vm.Alike.refl U.vm) qK, qD⟩, va_recv hK hP (ci := 4) (q0 := 1) rfl rfl, fun U hU hW => ⟨rfl, by rw [hU], by rw [hU]; exact hPc, va_K.moved hW.alike hKc, hDc.weaken (fun _ _ _ _ => trivial)⟩⟩ rfl rfl hl.1 rfl (lv_room (Nat.le_of_ble_eq_true rfl)) dX10_feed_31 ⟨Nat.le_of_ble_eq_true rfl, Nat.le_of_ble_eq_true rfl⟩) hS (fun q _ h => hFc q h) hFc (fun u t H1 locs ht hvm hw hB hz1 hk1 hS => ?_)
    obtain ⟨x_7, x_8, hpr_6_0, hpr_6_1, hpr_6_2, hpr_6_3, hP1, hD1⟩ := hB
    rw [ht] at hP1
    obtain ⟨hP, hD⟩ := va_join (wr := [(xx, .inr (10, [.ref rr, .ref td, .ref tb, .ref pl, .ref pb, .ref cn, .ref ci, .int xx_imageKept, .ref cp, .ref ct, .ref hs, .ref rd, .ref wy, .ref ea, .ref eb]))]) (w1 := [(rr, .inr (4, [.ref rr_tape, .int x_7, .int rr_fault, .int rr_place, .ref rr_tokens, rr_told, .int rr_at, .int rr_knots])), (rr_tape, .inl (k_rr_tape, 700, .inl x_8))]) hP hD [1, 2] [0] rfl rfl (by decide) (by decide) hk1 hFc hP1 hD1
    generalize H1 = H at hP hS ⊢
    have hP : va_P (dC, dI) vwCl [(xx, .inr (10, [.ref rr, .ref td, .ref tb, .ref pl, .ref pb, .ref cn, .ref ci, .int xx_imageKept, .ref cp, .ref ct, .ref hs, .ref rd, .ref wy, .ref ea, .ref eb])), (rr, .inr (4, [.ref rr_tape, .int x_7, .int rr_fault, .int rr_place, .ref rr_tokens, rr_told, .int rr_at, .int rr_knots])), (rr_tape, .inl (k_rr_tape, 700, .inl x_8))] H := hP
    have hD : va_D A [(xx, .inr (10, [.ref rr, .ref td, .ref tb, .ref pl, .ref pb, .ref cn, .ref ci, .int xx_imageKept, .ref cp, .ref ct, .ref hs, .ref rd, .ref wy, .ref ea, .ref eb])), (rr, .inr (4, [.ref rr_tape, .int x_7, .int rr_fault, .int rr_place, .ref rr_tokens, rr_told, .int rr_at, .int rr_knots])), (rr_tape, .inl (k_rr_tape, 700, .inl x_8))] := hD
    clear hPc hDc hKc hFc hP1 hD1 hk1 hz1 ht hvm
    clear hw
    refine lv_aload_n hx hb dX10_feed_34 rfl (lv_at hl 0 rfl) ?_
    refine va_get (D := (dC, dI)) (ci := 10) (v := .ref rr) (C := RX10) (T := TX10) (N := 15) hx hb hT inX10 hown hK hP 0 rfl rfl 0 (by decide) (hT _ mw_3_13) (fun _ h9 => h9) rfl dX10_feed_35 ?_
    refine lv_iload_n hx hb dX10_feed_38 rfl (lv_at hl 3 rfl) ?_
    have hPc := hP.sub (ws' := [(rr, .inr (4, [.ref rr_tape, .int x_7, .int rr_fault, .int rr_place, .ref rr_tokens, rr_told, .int rr_at, .int rr_knots])), (rr_tape, .inl (k_rr_tape, 700, .inl x_8))]) [1, 2] rfl
    have hDc := hD.sub (ws' := [(rr, .inr (4, [.ref rr_tape, .int x_7, .int rr_fault, .int rr_place, .ref rr_tokens, rr_told, .int rr_at, .int rr_knots])), (rr_tape, .inl (k_rr_tape, 700, .inl x_8))]) [1, 2] (by decide) rfl
    have hKc := hK.sub (tys' := [(k_rr_tape, .byte)]) [0] rfl
    have hFc := va_free (wc := [(rr, .inr (4, [.ref rr_tape, .int x_7, .int rr_fault, .int rr_place, .ref rr_tokens, rr_told, .int rr_at, .int rr_knots])), (rr_tape, .inl (k_rr_tape, 700, .inl x_8))]) hD hS hA [1, 2] rfl
    refine va_callv (va_runV (As := [.int v2]) (rest := []) ⟨hx, hb, hml, hown, hT⟩ (c_X4_take l dC dI H.size rr v2 rr_tape x_7 rr_fault rr_place rr_tokens (rr_told) rr_at rr_knots k_rr_tape x_8 (by omega) (by omega) (by omega) hpr_6_1 (by omega)) (cwV 1 hT (gwV mw_3_63 mw_3_64 mw_3_65 mw_1_2 mw_3_66) rfl rfl rfl (by decide +kernel) ⟨Nat.le_of_ble_eq_true rfl, Nat.le_of_ble_eq_true rfl⟩) ⟨fun a U g mk q => by obtain ⟨q0, q1, qP, qK, qD⟩ := q; exact ⟨q0, q1, qP, va_K.moved (u := U) (U := U.calling g mk a) (Vm.Alike.refl U.vm) qK, qD⟩, va_recv hK hP (ci := 4) (q0 := 1) rfl rfl, fun U hU hW => ⟨rfl, by rw [hU], by rw [hU]; exact hPc, va_K.moved hW.alike hKc, hDc.weaken (fun _ _ _ _ => trivial)⟩⟩ rfl rfl hl.1 rfl (lv_room (Nat.le_of_ble_eq_true rfl)) dX10_feed_39 ⟨Nat.le_of_ble_eq_true rfl, Nat.le_of_ble_eq_true rfl⟩) hS (fun q _ h => hFc q h) hFc (fun u t H1 locs ht hvm hw hB hz1 hk1 hS => ?_)
    obtain ⟨x_10, x_11, hpr_9_0, hpr_9_1, hpr_9_2, hpr_9_3, hP1, hD1⟩ := hB
    rw [ht] at hP1
    obtain ⟨hP, hD⟩ := va_join (wr := [(xx, .inr (10, [.ref rr, .ref td, .ref tb, .ref pl, .ref pb, .ref cn, .ref ci, .int xx_imageKept, .ref cp, .ref ct, .ref hs, .ref rd, .ref wy, .ref ea, .ref eb]))]) (w1 := [(rr, .inr (4, [.ref rr_tape, .int x_10, .int rr_fault, .int rr_place, .ref rr_tokens, rr_told, .int rr_at, .int rr_knots])), (rr_tape, .inl (k_rr_tape, 700, .inl x_11))]) hP hD [1, 2] [0] rfl rfl (by decide) (by decide) hk1 hFc hP1 hD1
    generalize H1 = H at hP hS ⊢
    have hP : va_P (dC, dI) vwCl [(xx, .inr (10, [.ref rr, .ref td, .ref tb, .ref pl, .ref pb, .ref cn, .ref ci, .int xx_imageKept, .ref cp, .ref ct, .ref hs, .ref rd, .ref wy, .ref ea, .ref eb])), (rr, .inr (4, [.ref rr_tape, .int x_10, .int rr_fault, .int rr_place, .ref rr_tokens, rr_told, .int rr_at, .int rr_knots])), (rr_tape, .inl (k_rr_tape, 700, .inl x_11))] H := hP
    have hD : va_D A [(xx, .inr (10, [.ref rr, .ref td, .ref tb, .ref pl, .ref pb, .ref cn, .ref ci, .int xx_imageKept, .ref cp, .ref ct, .ref hs, .ref rd, .ref wy, .ref ea, .ref eb])), (rr, .inr (4, [.ref rr_tape, .int x_10, .int rr_fault, .int rr_place, .ref rr_tokens, rr_told, .int rr_at, .int rr_knots])), (rr_tape, .inl (k_rr_tape, 700, .inl x_11))] := hD
    clear hPc hDc hKc hFc hP1 hD1 hk1 hz1 ht hvm
    clear hw
    refine lv_aload_n hx hb dX10_feed_42 rfl (lv_at hl 0 rfl) ?_
    refine va_get (D := (dC, dI)) (ci := 10) (v := .ref rr) (C := RX10) (T := TX10) (N := 15) hx hb hT inX10 hown hK hP 0 rfl rfl 0 (by decide) (hT _ mw_3_13) (fun _ h9 => h9) rfl dX10_feed_43 ?_
    refine lv_iload hx hb dX10_feed_46 (lv_at hl 4 rfl) ?_
    have hPc := hP.sub (ws' := [(rr, .inr (4, [.ref rr_tape, .int x_10, .int rr_fault, .int rr_place, .ref rr_tokens, rr_told, .int rr_at, .int rr_knots])), (rr_tape, .inl (k_rr_tape, 700, .inl x_11))]) [1, 2] rfl
    have hDc := hD.sub (ws' := [(rr, .inr (4, [.ref rr_tape, .int x_10, .int rr_fault, .int rr_place, .ref rr_tokens, rr_told, .int rr_at, .int rr_knots])), (rr_tape, .inl (k_rr_tape, 700, .inl x_11))]) [1, 2] (by decide) rfl
    have hKc := hK.sub (tys' := [(k_rr_tape, .byte)]) [0] rfl
    have hFc := va_free (wc := [(rr, .inr (4, [.ref rr_tape, .int x_10, .int rr_fault, .int rr_place, .ref rr_tokens, rr_told, .int rr_at, .int rr_knots])), (rr_tape, .inl (k_rr_tape, 700, .inl x_11))]) hD hS hA [1, 2] rfl
    refine va_callv (va_runV (As := [.int v3]) (rest := []) ⟨hx, hb, hml, hown, hT⟩ (c_X4_take l dC dI H.size rr v3 rr_tape x_10 rr_fault rr_place rr_tokens (rr_told) rr_at rr_knots k_rr_tape x_11 (by omega) (by omega) (by omega) hpr_9_1 (by omega)) (cwV 1 hT (gwV mw_3_63 mw_3_64 mw_3_65 mw_1_2 mw_3_66) rfl rfl rfl (by decide +kernel) ⟨Nat.le_of_ble_eq_true rfl, Nat.le_of_ble_eq_true rfl⟩) ⟨fun a U g mk q => by obtain ⟨q0, q1, qP, qK, qD⟩ := q; exact ⟨q0, q1, qP, va_K.moved (u := U) (U := U.calling g mk a) (Vm.Alike.refl U.vm) qK, qD⟩, va_recv hK hP (ci := 4) (q0 := 1) rfl rfl, fun U hU hW => ⟨rfl, by rw [hU], by rw [hU]; exact hPc, va_K.moved hW.alike hKc, hDc.weaken (fun _ _ _ _ => trivial)⟩⟩ rfl rfl hl.1 rfl (lv_room (Nat.le_of_ble_eq_true rfl)) dX10_feed_48 ⟨Nat.le_of_ble_eq_true rfl, Nat.le_of_ble_eq_true rfl⟩) hS (fun q _ h => hFc q h) hFc (fun u t H1 locs ht hvm hw hB hz1 hk1 hS => ?_)
    obtain ⟨x_13, x_14, hpr_12_0, hpr_12_1, hpr_12_2, hpr_12_3, hP1, hD1⟩ := hB
    rw [ht] at hP1
    obtain ⟨hP, hD⟩ := va_join (wr := [(xx, .inr (10, [.ref rr, .ref td, .ref tb, .ref pl, .ref pb, .ref cn, .ref ci, .int xx_imageKept, .ref cp, .ref ct, .ref hs, .ref rd, .ref wy, .ref ea, .ref eb]))]) (w1 := [(rr, .inr (4, [.ref rr_tape, .int x_13, .int rr_fault, .int rr_place, .ref rr_tokens, rr_told, .int rr_at, .int rr_knots])), (rr_tape, .inl (k_rr_tape, 700, .inl x_14))]) hP hD [1, 2] [0] rfl rfl (by decide) (by decide) hk1 hFc hP1 hD1
    generalize H1 = H at hP hS ⊢
    have hP : va_P (dC, dI) vwCl [(xx, .inr (10, [.ref rr, .ref td, .ref tb, .ref pl, .ref pb, .ref cn, .ref ci, .int xx_imageKept, .ref cp, .ref ct, .ref hs, .ref rd, .ref wy, .ref ea, .ref eb])), (rr, .inr (4, [.ref rr_tape, .int x_13, .int rr_fault, .int rr_place, .ref rr_tokens, rr_told, .int rr_at, .int rr_knots])), (rr_tape, .inl (k_rr_tape, 700, .inl x_14))] H := hP
    have hD : va_D A [(xx, .inr (10, [.ref rr, .ref td, .ref tb, .ref pl, .ref pb, .ref cn, .ref ci, .int xx_imageKept, .ref cp, .ref ct, .ref hs, .ref rd, .ref wy, .ref ea, .ref eb])), (rr, .inr (4, [.ref rr_tape, .int x_13, .int rr_fault, .int rr_place, .ref rr_tokens, rr_told, .int rr_at, .int rr_knots])), (rr_tape, .inl (k_rr_tape, 700, .inl x_14))] := hD
    clear hPc hDc hKc hFc hP1 hD1 hk1 hz1 ht hvm
    clear hw
    refine lv_aload_n hx hb dX10_feed_51 rfl (lv_at hl 0 rfl) ?_
    refine va_get (D := (dC, dI)) (ci := 10) (v := .ref rr) (C := RX10) (T := TX10) (N := 15) hx hb hT inX10 hown hK hP 0 rfl rfl 0 (by decide) (hT _ mw_3_13) (fun _ h9 => h9) rfl dX10_feed_52 ?_
    refine lv_iload hx hb dX10_feed_55 (lv_at hl 5 rfl) ?_
    have hPc := hP.sub (ws' := [(rr, .inr (4, [.ref rr_tape, .int x_13, .int rr_fault, .int rr_place, .ref rr_tokens, rr_told, .int rr_at, .int rr_knots])), (rr_tape, .inl (k_rr_tape, 700, .inl x_14))]) [1, 2] rfl
    have hDc := hD.sub (ws' := [(rr, .inr (4, [.ref rr_tape, .int x_13, .int rr_fault, .int rr_place, .ref rr_tokens, rr_told, .int rr_at, .int rr_knots])), (rr_tape, .inl (k_rr_tape, 700, .inl x_14))]) [1, 2] (by decide) rfl
    have hKc := hK.sub (tys' := [(k_rr_tape, .byte)]) [0] rfl
    have hFc := va_free (wc := [(rr, .inr (4, [.ref rr_tape, .int x_13, .int rr_fault, .int rr_place, .ref rr_tokens, rr_told, .int rr_at, .int rr_knots])), (rr_tape, .inl (k_rr_tape, 700, .inl x_14))]) hD hS hA [1, 2] rfl
    refine va_callv (va_runV (As := [.int v4]) (rest := []) ⟨hx, hb, hml, hown, hT⟩ (c_X4_take l dC dI H.size rr v4 rr_tape x_13 rr_fault rr_place rr_tokens (rr_told) rr_at rr_knots k_rr_tape x_14 (by omega) (by omega) (by omega) hpr_12_1 (by omega)) (cwV 1 hT (gwV mw_3_63 mw_3_64 mw_3_65 mw_1_2 mw_3_66) rfl rfl rfl (by decide +kernel) ⟨Nat.le_of_ble_eq_true rfl, Nat.le_of_ble_eq_true rfl⟩) ⟨fun a U g mk q => by obtain ⟨q0, q1, qP, qK, qD⟩ := q; exact ⟨q0, q1, qP, va_K.moved (u := U) (U := U.calling g mk a) (Vm.Alike.refl U.vm) qK, qD⟩, va_recv hK hP (ci := 4) (q0 := 1) rfl rfl, fun U hU hW => ⟨rfl, by rw [hU], by rw [hU]; exact hPc, va_K.moved hW.alike hKc, hDc.weaken (fun _ _ _ _ => trivial)⟩⟩ rfl rfl hl.1 rfl (lv_room (Nat.le_of_ble_eq_true rfl)) dX10_feed_57 ⟨Nat.le_of_ble_eq_true rfl, Nat.le_of_ble_eq_true rfl⟩) hS (fun q _ h => hFc q h) hFc (fun u t H1 locs ht hvm hw hB hz1 hk1 hS => ?_)
    obtain ⟨x_16, x_17, hpr_15_0, hpr_15_1, hpr_15_2, hpr_15_3, hP1, hD1⟩ := hB
    rw [ht] at hP1
    obtain ⟨hP, hD⟩ := va_join (wr := [(xx, .inr (10, [.ref rr, .ref td, .ref tb, .ref pl, .ref pb, .ref cn, .ref ci, .int xx_imageKept, .ref cp, .ref ct, .ref hs, .ref rd, .ref wy, .ref ea, .ref eb]))]) (w1 := [(rr, .inr (4, [.ref rr_tape, .int x_16, .int rr_fault, .int rr_place, .ref rr_tokens, rr_told, .int rr_at, .int rr_knots])), (rr_tape, .inl (k_rr_tape, 700, .inl x_17))]) hP hD [1, 2] [0] rfl rfl (by decide) (by decide) hk1 hFc hP1 hD1
    generalize H1 = H at hP hS ⊢
    have hP : va_P (dC, dI) vwCl [(xx, .inr (10, [.ref rr, .ref td, .ref tb, .ref pl, .ref pb, .ref cn, .ref ci, .int xx_imageKept, .ref cp, .ref ct, .ref hs, .ref rd, .ref wy, .ref ea, .ref eb])), (rr, .inr (4, [.ref rr_tape, .int x_16, .int rr_fault, .int rr_place, .ref rr_tokens, rr_told, .int rr_at, .int rr_knots])), (rr_tape, .inl (k_rr_tape, 700, .inl x_17))] H := hP
    have hD : va_D A [(xx, .inr (10, [.ref rr, .ref td, .ref tb, .ref pl, .ref pb, .ref cn, .ref ci, .int xx_imageKept, .ref cp, .ref ct, .ref hs, .ref rd, .ref wy, .ref ea, .ref eb])), (rr, .inr (4, [.ref rr_tape, .int x_16, .int rr_fault, .int rr_place, .ref rr_tokens, rr_told, .int rr_at, .int rr_knots])), (rr_tape, .inl (k_rr_tape, 700, .inl x_17))] := hD
    clear hPc hDc hKc hFc hP1 hD1 hk1 hz1 ht hvm
    clear hw
    refine lv_aload_n hx hb dX10_feed_60 rfl (lv_at hl 0 rfl) ?_
    refine va_get (D := (dC, dI)) (ci := 10) (v := .ref rr) (C := RX10) (T := TX10) (N := 15) hx hb hT inX10 hown hK hP 0 rfl rfl 0 (by decide) (hT _ mw_3_13) (fun _ h9 => h9) rfl dX10_feed_61 ?_
    refine va_get (D := (dC, dI)) (ci := 4) (v := .int x_16) (C := RX4) (T := TX4) (N := 8) hx hb hT inX4 hown hK hP 1 rfl rfl 1 (by decide) (hT _ mw_1_124) (fun _ h9 => h9) rfl dX10_feed_64 ?_
    have hP9 := hP.sub (ws' := [(xx, .inr (10, [.ref rr, .ref td, .ref tb, .ref pl, .ref pb, .ref cn, .ref ci, .int xx_imageKept, .ref cp, .ref ct, .ref hs, .ref rd, .ref wy, .ref ea, .ref eb])), (rr, .inr (4, [.ref rr_tape, .int x_16, .int rr_fault, .int rr_place, .ref rr_tokens, rr_told, .int rr_at, .int rr_knots])), (rr_tape, .inl (k_rr_tape, 700, .inl x_17))]) [0, 1, 2] rfl
    have hD9 := hD.sub (ws' := [(xx, .inr (10, [.ref rr, .ref td, .ref tb, .ref pl, .ref pb, .ref cn, .ref ci, .int xx_imageKept, .ref cp, .ref ct, .ref hs, .ref rd, .ref wy, .ref ea, .ref eb])), (rr, .inr (4, [.ref rr_tape, .int x_16, .int rr_fault, .int rr_place, .ref rr_tokens, rr_told, .int rr_at, .int rr_knots])), (rr_tape, .inl (k_rr_tape, 700, .inl x_17))]) [0, 1, 2] (by decide) rfl
    exact W.iret (v := x_16) hx hb hr (fun t ht hW => ⟨⟨x_16, (), rfl, (by first | omega | (refine ⟨?_, ?_⟩ <;> omega) | rfl | (intros; omega)), x_16, x_17, (by omega), hpr_15_1, (by omega), (Or.inr ⟨(by omega), FDX_5 hpr_3_3 hpr_6_3 hpr_9_3 hpr_12_3 hpr_15_3 (by omega) (by omega) (by omega) (by omega) (by omega)⟩), by rw [ht]; exact hP9, hD9⟩, hS.F ht⟩) hS.2.2 dX10_feed_67
  · have kc_2 := il_nle c_2
    have := (by decide : (700 : Int32).toInt = 700)
    refine lv_iconst (v := (-1)) hx hb dX10_feed_16 (by decide) ?_
    have hP9 := hP.sub (ws' := [(xx, .inr (10, [.ref rr, .ref td, .ref tb, .ref pl, .ref pb, .ref cn, .ref ci, .int xx_imageKept, .ref cp, .ref ct, .ref hs, .ref rd, .ref wy, .ref ea, .ref eb])), (rr, .inr (4, [.ref rr_tape, .int rr_bytes, .int rr_fault, .int rr_place, .ref rr_tokens, rr_told, .int rr_at, .int rr_knots])), (rr_tape, .inl (k_rr_tape, 700, .inl f_rr_tape))]) [0, 1, 2] rfl
    have hD9 := hD.sub (ws' := [(xx, .inr (10, [.ref rr, .ref td, .ref tb, .ref pl, .ref pb, .ref cn, .ref ci, .int xx_imageKept, .ref cp, .ref ct, .ref hs, .ref rd, .ref wy, .ref ea, .ref eb])), (rr, .inr (4, [.ref rr_tape, .int rr_bytes, .int rr_fault, .int rr_place, .ref rr_tokens, rr_told, .int rr_at, .int rr_knots])), (rr_tape, .inl (k_rr_tape, 700, .inl f_rr_tape))]) [0, 1, 2] (by decide) rfl
    have := (by decide : ((-1) : Int32).toInt = -1)
    exact W.iret (v := (-1)) hx hb hr (fun t ht hW => ⟨⟨(-1), (), rfl, (by first | omega | (refine ⟨?_, ?_⟩ <;> omega) | rfl | (intros; omega)), rr_bytes, f_rr_tape, (by omega), h_f_rr_tape, (by omega), (Or.inl ⟨(by omega), rfl⟩), by rw [ht]; exact hP9, hD9⟩, hS.F ht⟩) hS.2.2 dX10_feed_17
