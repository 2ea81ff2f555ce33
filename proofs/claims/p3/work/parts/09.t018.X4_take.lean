theorem dX4_take_0 : decode cX4_take 0 = .ok (.bipush 24, 2) := by decide +kernel
theorem dX4_take_2 : decode cX4_take 2 = .ok (.istore_n 2, 1) := by decide +kernel
theorem dX4_take_3 : decode cX4_take 3 = .ok (.iload_n 2, 1) := by decide +kernel
theorem dX4_take_7 : decode cX4_take 7 = .ok (.aload_n 0, 1) := by decide +kernel
theorem dX4_take_8 : decode cX4_take 8 = .ok (.getfield 29, 3) := by decide +kernel
theorem dX4_take_11 : decode cX4_take 11 = .ok (.sipush 700, 3) := by decide +kernel
theorem dX4_take_46 : decode cX4_take 46 = .ok (.return_, 1) := by decide +kernel
theorem dX4_take_17 : decode cX4_take 17 = .ok (.aload_n 0, 1) := by decide +kernel
theorem dX4_take_18 : decode cX4_take 18 = .ok (.getfield 9, 3) := by decide +kernel
theorem dX4_take_21 : decode cX4_take 21 = .ok (.aload_n 0, 1) := by decide +kernel
theorem dX4_take_22 : decode cX4_take 22 = .ok (.getfield 29, 3) := by decide +kernel
theorem dX4_take_25 : decode cX4_take 25 = .ok (.iload_n 1, 1) := by decide +kernel
theorem dX4_take_26 : decode cX4_take 26 = .ok (.iload_n 2, 1) := by decide +kernel
theorem dX4_take_30 : decode cX4_take 30 = .ok (.aload_n 0, 1) := by decide +kernel
theorem dX4_take_31 : decode cX4_take 31 = .ok (.dup, 1) := by decide +kernel
theorem dX4_take_32 : decode cX4_take 32 = .ok (.getfield 29, 3) := by decide +kernel
theorem dX4_take_35 : decode cX4_take 35 = .ok (.iconst 1, 1) := by decide +kernel
theorem dX4_take_37 : decode cX4_take 37 = .ok (.putfield 29, 3) := by decide +kernel
theorem dX4_take_43 : decode cX4_take 43 = .ok (.goto (-40), 3) := by decide +kernel
theorem dX4_take_4 : decode cX4_take 4 = .ok (.ifCond .lt 42, 3) := by decide +kernel
theorem dX4_take_14 : decode cX4_take 14 = .ok (.if_icmp .ge 32, 3) := by decide +kernel
theorem dX4_take_27 : decode cX4_take 27 = .ok (.ishr, 1) := by decide +kernel
theorem dX4_take_28 : decode cX4_take 28 = .ok (.i2b, 1) := by decide +kernel
theorem dX4_take_29 : decode cX4_take 29 = .ok (.bastore, 1) := by decide +kernel
theorem dX4_take_36 : decode cX4_take 36 = .ok (.iadd, 1) := by decide +kernel
theorem dX4_take_40 : decode cX4_take 40 = .ok (.iinc 2 (-8), 3) := by decide +kernel
abbrev q_X4_take (dC : Nat → ClassId) (dI : Nat → Nat → Nat) (A : Nat → Prop) (rr : Nat) (vn : Int32) (rr_tape : Nat) (rr_bytes : Int32) (rr_fault : Int32) (rr_place : Int32) (rr_tokens : Nat) (rr_told : Value) (rr_at : Int32) (rr_knots : Int32) (k_rr_tape : ClassId) (f_rr_tape : Nat → Int32) : Array Value → State → Outcome → State → Prop := va_Qv (fun _ : Unit => True) (fun (_ : Unit) (t : State) => ∃ (e_rr_bytes : Int32), ∃ (g_rr_tape : Nat → Int32), (0 ≤ e_rr_bytes.toInt ∧ e_rr_bytes.toInt ≤ 700) ∧ (Rg g_rr_tape (-128) 127) ∧ (e_rr_bytes.toInt = rr_bytes.toInt + 4) ∧ (TKe f_rr_tape g_rr_tape rr_bytes vn) ∧ va_P (dC, dI) vwCl [(rr, .inr (4, [.ref rr_tape, .int e_rr_bytes, .int rr_fault, .int rr_place, .ref rr_tokens, rr_told, .int rr_at, .int rr_knots])), (rr_tape, .inl (k_rr_tape, 700, .inl g_rr_tape))] t.heap ∧ va_D A [(rr, .inr (4, [.ref rr_tape, .int e_rr_bytes, .int rr_fault, .int rr_place, .ref rr_tokens, rr_told, .int rr_at, .int rr_knots])), (rr_tape, .inl (k_rr_tape, 700, .inl g_rr_tape))]) A
set_option maxHeartbeats 4000000 in
set_option maxRecDepth 100000 in
theorem c_X4_take (l : Launch) (dC : Nat → ClassId) (dI : Nat → Nat → Nat) (sz : Nat) (rr : Nat) (vn : Int32) (rr_tape : Nat) (rr_bytes : Int32) (rr_fault : Int32) (rr_place : Int32) (rr_tokens : Nat) (rr_told : Value) (rr_at : Int32) (rr_knots : Int32) (k_rr_tape : ClassId) (f_rr_tape : Nat → Int32) (h_rr_bytes : 0 ≤ rr_bytes.toInt ∧ rr_bytes.toInt ≤ 700) (h_rr_at : 0 ≤ rr_at.toInt ∧ rr_at.toInt ≤ 700) (h_rr_knots : 0 ≤ rr_knots.toInt ∧ rr_knots.toInt ≤ 64) (h_f_rr_tape : Rg f_rr_tape (-128) 127) (h4 : rr_bytes.toInt ≤ 696) : Met l yX4_take (pw_w yX4_take cX4_take 3 none) ({ frames := 0, cells := 0, slots := 0, locals := 0 }) (va_Pc [.ref rr, .int vn] (fun U => U.heap.size = sz ∧ va_P (dC, dI) vwCl [(rr, .inr (4, [.ref rr_tape, .int rr_bytes, .int rr_fault, .int rr_place, .ref rr_tokens, rr_told, .int rr_at, .int rr_knots])), (rr_tape, .inl (k_rr_tape, 700, .inl f_rr_tape))] U.heap ∧ va_K (dC, dI) vwCl [(k_rr_tape, .byte)] U ∧ va_D (fun _ => True) [(rr, .inr (4, [.ref rr_tape, .int rr_bytes, .int rr_fault, .int rr_place, .ref rr_tokens, rr_told, .int rr_at, .int rr_knots])), (rr_tape, .inl (k_rr_tape, 700, .inl f_rr_tape))])) (q_X4_take dC dI (va_A [(rr, .inr (4, [.ref rr_tape, .int rr_bytes, .int rr_fault, .int rr_place, .ref rr_tokens, rr_told, .int rr_at, .int rr_knots])), (rr_tape, .inl (k_rr_tape, 700, .inl f_rr_tape))] sz) rr vn rr_tape rr_bytes rr_fault rr_place rr_tokens rr_told rr_at rr_knots k_rr_tape f_rr_tape) 0 0 (va_A [(rr, .inr (4, [.ref rr_tape, .int rr_bytes, .int rr_fault, .int rr_place, .ref rr_tokens, rr_told, .int rr_at, .int rr_knots])), (rr_tape, .inl (k_rr_tape, 700, .inl f_rr_tape))] sz) := by
  refine Met.ofW (cc := cX4_take) (maxL := 3) (ret := none) (by decide) rfl ?_
  intro p e s m args below meth c s₁ B hml hv
  obtain ⟨rfl, hsz, hP, hK, hD0⟩ := hv
  have hx := B.exec
  have hb := B.bytes
  have hr := B.returns
  have hts := atoms_spec (ws := (pw_w yX4_take cX4_take 3 none)) B.pre
  have hT : ∀ w ∈ pw_T, w.before _ s = true := fun w h => hts w (List.mem_cons_of_mem _ h)
  have hown : s.vm.findClass RX4 = some m.cls := findClass_of_methodNamed B.named
  have hlocks := B.notSynchronized
  subst hsz
  have hD := hD0.self (sz := s.heap.size)
  generalize hAe : va_A [(rr, .inr (4, [.ref rr_tape, .int rr_bytes, .int rr_fault, .int rr_place, .ref rr_tokens, rr_told, .int rr_at, .int rr_knots])), (rr_tape, .inl (k_rr_tape, 700, .inl f_rr_tape))] s.heap.size = A at hD ⊢
  have hA : ∀ q : Nat, s.heap.size ≤ q → A q := fun q h => by rw [← hAe]; exact Or.inr h
  have hS : va_S A s.heap s.heap [] := va_S.rf
  have hP : va_P (dC, dI) vwCl [(rr, .inr (4, [.ref rr_tape, .int rr_bytes, .int rr_fault, .int rr_place, .ref rr_tokens, rr_told, .int rr_at, .int rr_knots])), (rr_tape, .inl (k_rr_tape, 700, .inl f_rr_tape))] s.heap := hP
  have hl := lv_entry ([.ref rr, .int vn]) (n := 3) (Nat.le_of_ble_eq_true rfl)
  rw [lg_entry_eq]
  generalize (lg_sl ([.ref rr, .int vn]) ++ List.replicate (3 - (lg_sl ([.ref rr, .int vn])).length) Slot.unset).toArray = ls at hl ⊢
  have hl : lv_has ls 3 [(0, .ref rr), (1, .int vn)] := hl
  refine lv_bipush (v := 24) hx hb dX4_take_0 (by decide) ?_
  refine lv_istore_n (lv' := [(2, .int 24), (0, .ref rr), (1, .int vn)]) hx hb dX4_take_2 rfl hl (by decide) rfl (fun ls hl => ?_)
  have loop_11 : ∀ (fu : Nat), ∀ (g_9_l2 : Int32), ∀ (g_9_rr_1 : Int32), ∀ (g_9_f1 : Nat → Int32), ((-8) ≤ g_9_l2.toInt ∧ g_9_l2.toInt ≤ 24) → (0 ≤ g_9_rr_1.toInt ∧ g_9_rr_1.toInt ≤ 700) → (Rg g_9_f1 (-128) 127) → (TKq f_rr_tape g_9_f1 rr_bytes g_9_rr_1 vn g_9_l2) → (8 * (g_9_rr_1.toInt - rr_bytes.toInt) + g_9_l2.toInt = 24) → (g_9_l2.toInt + 8 < (fu : Int)) → ∀ (H : Heap) (locs : List Loc), va_P (dC, dI) vwCl [(rr, .inr (4, [.ref rr_tape, .int g_9_rr_1, .int rr_fault, .int rr_place, .ref rr_tokens, rr_told, .int rr_at, .int rr_knots])), (rr_tape, .inl (k_rr_tape, 700, .inl g_9_f1))] H → va_D A [(rr, .inr (4, [.ref rr_tape, .int g_9_rr_1, .int rr_fault, .int rr_place, .ref rr_tokens, rr_told, .int rr_at, .int rr_knots])), (rr_tape, .inl (k_rr_tape, 700, .inl g_9_f1))] → va_S A s.heap H locs → ∀ (ls : Array Slot), lv_has ls 3 [(2, .int g_9_l2), (0, .ref rr), (1, .int vn)] → W p l e (headSpec (pw_w yX4_take cX4_take 3 none) ({ frames := 0, cells := 0, slots := 0, locals := 0 })).room s m ([.ref rr, .int vn] : List Value).toArray below meth c H locs 0 0 (MQ below (q_X4_take dC dI A rr vn rr_tape rr_bytes rr_fault rr_place rr_tokens rr_told rr_at rr_knots k_rr_tape f_rr_tape) ([.ref rr, .int vn] : List Value).toArray s 0 0 A) (F0 m 3 ls []) := by
    intro fu
    induction fu with
    | zero => intro g_9_l2 g_9_rr_1 g_9_f1 hg_9_l2 hg_9_rr_1 hg_9_f1 hi_tk_q_10 hx0 hfu; exact absurd hfu (by omega)
    | succ fu11 ih11 =>
      intro g_9_l2 g_9_rr_1 g_9_f1 hg_9_l2 hg_9_rr_1 hg_9_f1 hi_tk_q_10 hx0 hfu11 H locs hP hD hS ls hl
      refine lv_iload_n hx hb dX4_take_3 rfl (lv_at hl 0 rfl) ?_
      refine lv_if_lt (tgt := 46) hx hb dX4_take_4 (by decide) (fun c_12 => ?_) (fun c_12 => ?_)
      · have kc_12 := il_lt c_12
        have := (by decide : (0 : Int32).toInt = 0)
        have hP9 := hP.sub (ws' := [(rr, .inr (4, [.ref rr_tape, .int g_9_rr_1, .int rr_fault, .int rr_place, .ref rr_tokens, rr_told, .int rr_at, .int rr_knots])), (rr_tape, .inl (k_rr_tape, 700, .inl g_9_f1))]) [0, 1] rfl
        have hD9 := hD.sub (ws' := [(rr, .inr (4, [.ref rr_tape, .int g_9_rr_1, .int rr_fault, .int rr_place, .ref rr_tokens, rr_told, .int rr_at, .int rr_knots])), (rr_tape, .inl (k_rr_tape, 700, .inl g_9_f1))]) [0, 1] (by decide) rfl
        exact W.vret hx hb hr (fun t ht hW => ⟨⟨(), rfl, trivial, g_9_rr_1, g_9_f1, (by omega), hg_9_f1, (by omega), (TKq_e hi_tk_q_10 (by omega)), by rw [ht]; exact hP9, hD9⟩, hS.F ht⟩) hS.2.2 dX4_take_46
      · have kc_12 := il_nlt c_12
        have := (by decide : (0 : Int32).toInt = 0)
        refine lv_aload_n hx hb dX4_take_7 rfl (lv_at hl 1 rfl) ?_
        refine va_get (D := (dC, dI)) (ci := 4) (v := .int g_9_rr_1) (C := RX4) (T := TX4) (N := 8) hx hb hT inX4 hown hK hP 0 rfl rfl 1 (by decide) (hT _ mw_1_125) (fun _ h9 => h9) rfl dX4_take_8 ?_
        refine lv_sipush (v := 700) hx hb dX4_take_11 (by decide) ?_
        refine lv_icmp_ge (tgt := 46) hx hb dX4_take_14 (by decide) (fun c_13 => ?_) (fun c_13 => ?_)
        · have kc_13 := il_le c_13
          have := (by decide : (700 : Int32).toInt = 700)
          have hP9 := hP.sub (ws' := [(rr, .inr (4, [.ref rr_tape, .int g_9_rr_1, .int rr_fault, .int rr_place, .ref rr_tokens, rr_told, .int rr_at, .int rr_knots])), (rr_tape, .inl (k_rr_tape, 700, .inl g_9_f1))]) [0, 1] rfl
          have hD9 := hD.sub (ws' := [(rr, .inr (4, [.ref rr_tape, .int g_9_rr_1, .int rr_fault, .int rr_place, .ref rr_tokens, rr_told, .int rr_at, .int rr_knots])), (rr_tape, .inl (k_rr_tape, 700, .inl g_9_f1))]) [0, 1] (by decide) rfl
          exact W.vret hx hb hr (fun t ht hW => ⟨⟨(), rfl, trivial, g_9_rr_1, g_9_f1, (by omega), hg_9_f1, (by omega), (TKq_e hi_tk_q_10 (by omega)), by rw [ht]; exact hP9, hD9⟩, hS.F ht⟩) hS.2.2 dX4_take_46
        · have kc_13 := il_nle c_13
          have := (by decide : (700 : Int32).toInt = 700)
          refine lv_aload_n hx hb dX4_take_17 rfl (lv_at hl 1 rfl) ?_
          refine va_get (D := (dC, dI)) (ci := 4) (v := .ref rr_tape) (C := RX4) (T := TX4) (N := 8) hx hb hT inX4 hown hK hP 0 rfl rfl 0 (by decide) (hT _ mw_1_123) (fun _ h9 => h9) rfl dX4_take_18 ?_
          refine lv_aload_n hx hb dX4_take_21 rfl (lv_at hl 1 rfl) ?_
          refine va_get (D := (dC, dI)) (ci := 4) (v := .int g_9_rr_1) (C := RX4) (T := TX4) (N := 8) hx hb hT inX4 hown hK hP 0 rfl rfl 1 (by decide) (hT _ mw_1_125) (fun _ h9 => h9) rfl dX4_take_22 ?_
          refine lv_iload_n hx hb dX4_take_25 rfl (lv_at hl 2 rfl) ?_
          refine lv_iload_n hx hb dX4_take_26 rfl (lv_at hl 0 rfl) ?_
          refine lv_ishr hx hb dX4_take_27 ?_
          refine lv_topi (fun z_14 ez_14 => ?_)
          refine lv_i2b hx hb dX4_take_28 rfl ?_
          refine lv_topi (fun z_15 ez_15 => ?_)
          refine va_bast hx hb hK hP hD hS 1 0 rfl rfl (vp_in_iff.mpr (by omega)) dX4_take_29 (fun H locs hP hD hS => ?_)
          have hP : va_P (dC, dI) vwCl [(rr, .inr (4, [.ref rr_tape, .int g_9_rr_1, .int rr_fault, .int rr_place, .ref rr_tokens, rr_told, .int rr_at, .int rr_knots])), (rr_tape, .inl (k_rr_tape, 700, .inl (upd g_9_f1 (g_9_rr_1 : Int32).toNatClampNeg (vp_nar .byte (z_15 : Int32)))))] H := hP
          have hD : va_D A [(rr, .inr (4, [.ref rr_tape, .int g_9_rr_1, .int rr_fault, .int rr_place, .ref rr_tokens, rr_told, .int rr_at, .int rr_knots])), (rr_tape, .inl (k_rr_tape, 700, .inl (upd g_9_f1 (g_9_rr_1 : Int32).toNatClampNeg (vp_nar .byte (z_15 : Int32)))))] := hD
          obtain ⟨f_16, hf_16, ef_16⟩ : ∃ g : Nat → Int32, Rg g (-128) 127 ∧ (upd g_9_f1 (g_9_rr_1 : Int32).toNatClampNeg (vp_nar .byte (z_15 : Int32))) = g := ⟨_, Rg_upd hg_9_f1 (nb_rng _), rfl⟩
          rw [ef_16] at hP hD
          refine lv_aload_n hx hb dX4_take_30 rfl (lv_at hl 1 rfl) ?_
          refine lv_dup hx hb dX4_take_31 rfl ?_
          refine va_get (D := (dC, dI)) (ci := 4) (v := .int g_9_rr_1) (C := RX4) (T := TX4) (N := 8) hx hb hT inX4 hown hK hP 0 rfl rfl 1 (by decide) (hT _ mw_1_125) (fun _ h9 => h9) rfl dX4_take_32 ?_
          refine lv_iconst (v := 1) hx hb dX4_take_35 (by decide) ?_
          refine lv_iadd hx hb dX4_take_36 ?_
          refine lv_topi (fun z_17 ez_17 => ?_)
          have kz_17 : z_17.toInt = g_9_rr_1.toInt + 1 := ti_add ez_17 rfl (by decide) (by omega) (by omega)
          clear ez_17
          refine va_put (D := (dC, dI)) (ci := 4) (v := .int z_17) (ty := .int) (C := RX4) (T := TX4) (N := 8) hx hb hT inX4 tyX4 tyX4_ok nmX4 hown hK hP hD hS 0 rfl rfl 1 (by decide) (hT _ mw_1_125) (fun _ h9 => h9) rfl (by decide +kernel) rfl rfl (Nat.le_of_ble_eq_true rfl) dX4_take_37 (fun H locs hP hD hS => ?_)
          have hP : va_P (dC, dI) vwCl [(rr, .inr (4, [.ref rr_tape, .int z_17, .int rr_fault, .int rr_place, .ref rr_tokens, rr_told, .int rr_at, .int rr_knots])), (rr_tape, .inl (k_rr_tape, 700, .inl f_16))] H := hP
          have hD : va_D A [(rr, .inr (4, [.ref rr_tape, .int z_17, .int rr_fault, .int rr_place, .ref rr_tokens, rr_told, .int rr_at, .int rr_knots])), (rr_tape, .inl (k_rr_tape, 700, .inl f_16))] := hD
          obtain ⟨z_18, ez_18⟩ : ∃ y : Int32, y = g_9_l2 + Int32.ofInt (-8) := ⟨_, rfl⟩
          have kz_18 : z_18.toInt = g_9_l2.toInt + (-8) := ti_add ez_18 rfl (by decide) (by omega) (by omega)
          refine lv_iinc (v := z_18) (lv' := [(2, .int z_18), (0, .ref rr), (1, .int vn)]) hx hb dX4_take_40 hl (k := 0) rfl (ez_18.symm) (by decide) rfl (fun ls hl => ?_)
          clear ez_18
          refine lv_goto (tgt := 3) hx hb dX4_take_43 (by decide) ?_
          exact ih11 z_18 z_17 f_16 (by omega) (by omega) hf_16 (TKq_s hi_tk_q_10 ez_14 ez_15 ef_16 (by omega) (by omega) (by omega) (by omega) (by omega)) (by omega) (by omega) _ _ (hP.sub [0, 1] rfl) (hD.sub [0, 1] (by decide) rfl) hS _ (lv_sub hl [0, 1, 2] rfl)
  have := (by decide : (24 : Int32).toInt = 24)
  exact loop_11 4294967296 (24 : Int32) rr_bytes f_rr_tape (by decide) (by omega) h_f_rr_tape TKq_0 (by omega) (by omega) _ _ (hP.sub [0, 1] rfl) (hD.sub [0, 1] (by decide) rfl) hS _ (lv_sub hl [0, 1, 2] rfl)
