theorem dX4_take_0 : decode cX4_take 0 = .ok (.bipush 24, 2) := by decide +kernel
theorem dX4_take_2 : decode cX4_take 2 = .ok (.istore_n 2, 1) := by decide +kernel
theorem dX4_take_3 : decode cX4_take 3 = .ok (.iload_n 2, 1) := by decide +kernel
theorem dX4_take_7 : decode cX4_take 7 = .ok (.aload_n 0, 1) := by decide +kernel
theorem dX4_take_8 : decode cX4_take 8 = .ok (.getfield 29, 3) := by decide +kernel
theorem dX4_take_11 : decode cX4_take 11 = .ok (.sipush 700, 3) := by decide +kernel
theorem dX4_take_46 : decode cX4_take 46 = .ok (.return_, 1) := by decide +kernel
theorem dX4_take_17 : decode cX4_take 17 = .ok (.aload_n 0, 1) := by decide +kernel
theorem dX4_take_18 : decode cX4_take 18 = .ok (.getfield 9, 3) := by decide +kernel
theorem dX4_take_21 : decode cX4_take 21 = .ok (.aload_n 0, 1) := by decide +kernel
theorem dX4_take_22 : decode cX4_take 22 = .ok (.getfield 29, 3) := by decide +kernel
theorem dX4_take_25 : decode cX4_take 25 = .ok (.iload_n 1, 1) := by decide +kernel
theorem dX4_take_26 : decode cX4_take 26 = .ok (.iload_n 2, 1) := by decide +kernel
theorem dX4_take_30 : decode cX4_take 30 = .ok (.aload_n 0, 1) := by decide +kernel
theorem dX4_take_31 : decode cX4_take 31 = .ok (.dup, 1) := by decide +kernel
theorem dX4_take_32 : decode cX4_take 32 = .ok (.getfield 29, 3) := by decide +kernel
theorem dX4_take_35 : decode cX4_take 35 = .ok (.iconst 1, 1) := by decide +kernel
theorem dX4_take_37 : decode cX4_take 37 = .ok (.putfield 29, 3) := by decide +kernel
theorem dX4_take_43 : decode cX4_take 43 = .ok (.goto (-40), 3) := by decide +kernel
theorem dX4_take_4 : decode cX4_take 4 = .ok (.ifCond .lt 42, 3) := by decide +kernel
theorem dX4_take_14 : decode cX4_take 14 = .ok (.if_icmp .ge 32, 3) := by decide +kernel
theorem dX4_take_27 : decode cX4_take 27 = .ok (.ishr, 1) := by decide +kernel
theorem dX4_take_28 : decode cX4_take 28 = .ok (.i2b, 1) := by decide +kernel
theorem dX4_take_29 : decode cX4_take 29 = .ok (.bastore, 1) := by decide +kernel
theorem dX4_take_36 : decode cX4_take 36 = .ok (.iadd, 1) := by decide +kernel
theorem dX4_take_40 : decode cX4_take 40 = .ok (.iinc 2 (-8), 3) := by decide +kernel
theorem dX4_kind_0 : decode cX4_kind 0 = .ok (.aload_n 0, 1) := by decide +kernel
theorem dX4_kind_1 : decode cX4_kind 1 = .ok (.getfield 25, 3) := by decide +kernel
theorem dX4_kind_4 : decode cX4_kind 4 = .ok (.getfield 77, 3) := by decide +kernel
theorem dX4_kind_7 : decode cX4_kind 7 = .ok (.aload_n 0, 1) := by decide +kernel
theorem dX4_kind_8 : decode cX4_kind 8 = .ok (.getfield 36, 3) := by decide +kernel
theorem dX4_kind_12 : decode cX4_kind 12 = .ok (.ireturn, 1) := by decide +kernel
theorem dX4_kind_11 : decode cX4_kind 11 = .ok (.iaload, 1) := by decide +kernel
theorem dX4_step_0 : decode cX4_step 0 = .ok (.aload_n 0, 1) := by decide +kernel
theorem dX4_step_1 : decode cX4_step 1 = .ok (.getfield 36, 3) := by decide +kernel
theorem dX4_step_4 : decode cX4_step 4 = .ok (.iconst 1, 1) := by decide +kernel
theorem dX4_step_6 : decode cX4_step 6 = .ok (.aload_n 0, 1) := by decide +kernel
theorem dX4_step_7 : decode cX4_step 7 = .ok (.getfield 25, 3) := by decide +kernel
theorem dX4_step_10 : decode cX4_step 10 = .ok (.getfield 80, 3) := by decide +kernel
theorem dX4_step_26 : decode cX4_step 26 = .ok (.return_, 1) := by decide +kernel
theorem dX4_step_16 : decode cX4_step 16 = .ok (.aload_n 0, 1) := by decide +kernel
theorem dX4_step_17 : decode cX4_step 17 = .ok (.dup, 1) := by decide +kernel
theorem dX4_step_18 : decode cX4_step 18 = .ok (.getfield 36, 3) := by decide +kernel
theorem dX4_step_21 : decode cX4_step 21 = .ok (.iconst 1, 1) := by decide +kernel
theorem dX4_step_23 : decode cX4_step 23 = .ok (.putfield 36, 3) := by decide +kernel
theorem dX4_step_5 : decode cX4_step 5 = .ok (.iadd, 1) := by decide +kernel
theorem dX4_step_13 : decode cX4_step 13 = .ok (.if_icmp .ge 13, 3) := by decide +kernel
theorem dX4_step_22 : decode cX4_step 22 = .ok (.iadd, 1) := by decide +kernel
theorem dX4_refuse_0 : decode cX4_refuse 0 = .ok (.aload_n 0, 1) := by decide +kernel
theorem dX4_refuse_1 : decode cX4_refuse 1 = .ok (.getfield 15, 3) := by decide +kernel
theorem dX4_refuse_28 : decode cX4_refuse 28 = .ok (.aload_n 0, 1) := by decide +kernel
theorem dX4_refuse_29 : decode cX4_refuse 29 = .ok (.aload_n 0, 1) := by decide +kernel
theorem dX4_refuse_30 : decode cX4_refuse 30 = .ok (.getfield 25, 3) := by decide +kernel
theorem dX4_refuse_33 : decode cX4_refuse 33 = .ok (.getfield 80, 3) := by decide +kernel
theorem dX4_refuse_36 : decode cX4_refuse 36 = .ok (.iconst 1, 1) := by decide +kernel
theorem dX4_refuse_38 : decode cX4_refuse 38 = .ok (.putfield 36, 3) := by decide +kernel
theorem dX4_refuse_41 : decode cX4_refuse 41 = .ok (.return_, 1) := by decide +kernel
theorem dX4_refuse_7 : decode cX4_refuse 7 = .ok (.aload_n 0, 1) := by decide +kernel
theorem dX4_refuse_8 : decode cX4_refuse 8 = .ok (.iload_n 1, 1) := by decide +kernel
theorem dX4_refuse_9 : decode cX4_refuse 9 = .ok (.putfield 15, 3) := by decide +kernel
theorem dX4_refuse_12 : decode cX4_refuse 12 = .ok (.aload_n 0, 1) := by decide +kernel
theorem dX4_refuse_13 : decode cX4_refuse 13 = .ok (.aload_n 0, 1) := by decide +kernel
theorem dX4_refuse_14 : decode cX4_refuse 14 = .ok (.getfield 25, 3) := by decide +kernel
theorem dX4_refuse_17 : decode cX4_refuse 17 = .ok (.getfield 83, 3) := by decide +kernel
theorem dX4_refuse_20 : decode cX4_refuse 20 = .ok (.aload_n 0, 1) := by decide +kernel
theorem dX4_refuse_21 : decode cX4_refuse 21 = .ok (.getfield 36, 3) := by decide +kernel
theorem dX4_refuse_25 : decode cX4_refuse 25 = .ok (.putfield 19, 3) := by decide +kernel
theorem dX4_refuse_4 : decode cX4_refuse 4 = .ok (.ifCond .ne 24, 3) := by decide +kernel
theorem dX4_refuse_37 : decode cX4_refuse 37 = .ok (.isub, 1) := by decide +kernel
theorem dX4_refuse_24 : decode cX4_refuse 24 = .ok (.iaload, 1) := by decide +kernel
theorem dX4_expect_0 : decode cX4_expect 0 = .ok (.aload_n 0, 1) := by decide +kernel
theorem dX4_expect_1 : decode cX4_expect 1 = .ok (.invokevirtual 51, 3) := by decide +kernel
theorem dX4_expect_4 : decode cX4_expect 4 = .ok (.iload_n 1, 1) := by decide +kernel
theorem dX4_expect_15 : decode cX4_expect 15 = .ok (.aload_n 0, 1) := by decide +kernel
theorem dX4_expect_16 : decode cX4_expect 16 = .ok (.iconst 1, 1) := by decide +kernel
theorem dX4_expect_17 : decode cX4_expect 17 = .ok (.invokevirtual 67, 3) := by decide +kernel
theorem dX4_expect_20 : decode cX4_expect 20 = .ok (.return_, 1) := by decide +kernel
theorem dX4_expect_8 : decode cX4_expect 8 = .ok (.aload_n 0, 1) := by decide +kernel
theorem dX4_expect_9 : decode cX4_expect 9 = .ok (.invokevirtual 85, 3) := by decide +kernel
theorem dX4_expect_12 : decode cX4_expect 12 = .ok (.goto 8, 3) := by decide +kernel
theorem dX4_expect_5 : decode cX4_expect 5 = .ok (.if_icmp .ne 10, 3) := by decide +kernel
theorem dX4_takeKnot_0 : decode cX4_takeKnot 0 = .ok (.aload_n 0, 1) := by decide +kernel
theorem dX4_takeKnot_1 : decode cX4_takeKnot 1 = .ok (.getfield 39, 3) := by decide +kernel
theorem dX4_takeKnot_4 : decode cX4_takeKnot 4 = .ok (.bipush 64, 2) := by decide +kernel
theorem dX4_takeKnot_17 : decode cX4_takeKnot 17 = .ok (.aload_n 0, 1) := by decide +kernel
theorem dX4_takeKnot_18 : decode cX4_takeKnot 18 = .ok (.dup, 1) := by decide +kernel
theorem dX4_takeKnot_19 : decode cX4_takeKnot 19 = .ok (.getfield 39, 3) := by decide +kernel
theorem dX4_takeKnot_22 : decode cX4_takeKnot 22 = .ok (.iconst 1, 1) := by decide +kernel
theorem dX4_takeKnot_24 : decode cX4_takeKnot 24 = .ok (.putfield 39, 3) := by decide +kernel
theorem dX4_takeKnot_27 : decode cX4_takeKnot 27 = .ok (.aload_n 0, 1) := by decide +kernel
theorem dX4_takeKnot_28 : decode cX4_takeKnot 28 = .ok (.invokevirtual 85, 3) := by decide +kernel
theorem dX4_takeKnot_31 : decode cX4_takeKnot 31 = .ok (.return_, 1) := by decide +kernel
theorem dX4_takeKnot_9 : decode cX4_takeKnot 9 = .ok (.aload_n 0, 1) := by decide +kernel
theorem dX4_takeKnot_10 : decode cX4_takeKnot 10 = .ok (.iconst 2, 1) := by decide +kernel
theorem dX4_takeKnot_11 : decode cX4_takeKnot 11 = .ok (.invokevirtual 67, 3) := by decide +kernel
theorem dX4_takeKnot_14 : decode cX4_takeKnot 14 = .ok (.goto 17, 3) := by decide +kernel
theorem dX4_takeKnot_6 : decode cX4_takeKnot 6 = .ok (.if_icmp .lt 11, 3) := by decide +kernel
theorem dX4_takeKnot_23 : decode cX4_takeKnot 23 = .ok (.iadd, 1) := by decide +kernel
abbrev q_X4_take (dC : Nat → ClassId) (dI : Nat → Nat → Nat) (A : Nat → Prop) (rr : Nat) (vn : Int32) (rr_tape : Nat) (rr_bytes : Int32) (rr_fault : Int32) (rr_place : Int32) (rr_tokens : Nat) (rr_told : Value) (rr_at : Int32) (rr_knots : Int32) (k_rr_tape : ClassId) (f_rr_tape : Nat → Int32) : Array Value → State → Outcome → State → Prop := va_Qv (fun _ : Unit => True) (fun (_ : Unit) (t : State) => ∃ (e_rr_bytes : Int32), ∃ (g_rr_tape : Nat → Int32), (0 ≤ e_rr_bytes.toInt ∧ e_rr_bytes.toInt ≤ 700) ∧ (Rg g_rr_tape (-128) 127) ∧ (e_rr_bytes.toInt = rr_bytes.toInt + 4) ∧ (TKe f_rr_tape g_rr_tape rr_bytes vn) ∧ va_P (dC, dI) vwCl [(rr, .inr (4, [.ref rr_tape, .int e_rr_bytes, .int rr_fault, .int rr_place, .ref rr_tokens, rr_told, .int rr_at, .int rr_knots])), (rr_tape, .inl (k_rr_tape, 700, .inl g_rr_tape))] t.heap ∧ va_D A [(rr, .inr (4, [.ref rr_tape, .int e_rr_bytes, .int rr_fault, .int rr_place, .ref rr_tokens, rr_told, .int rr_at, .int rr_knots])), (rr_tape, .inl (k_rr_tape, 700, .inl g_rr_tape))]) A
set_option maxHeartbeats 4000000 in
set_option maxRecDepth 100000 in
theorem c_X4_take (l : Launch) (dC : Nat → ClassId) (dI : Nat → Nat → Nat) (sz : Nat) (rr : Nat) (vn : Int32) (rr_tape : Nat) (rr_bytes : Int32) (rr_fault : Int32) (rr_place : Int32) (rr_tokens : Nat) (rr_told : Value) (rr_at : Int32) (rr_knots : Int32) (k_rr_tape : ClassId) (f_rr_tape : Nat → Int32) (h_rr_bytes : 0 ≤ rr_bytes.toInt ∧ rr_bytes.toInt ≤ 700) (h_rr_at : 0 ≤ rr_at.toInt ∧ rr_at.toInt ≤ 700) (h_rr_knots : 0 ≤ rr_knots.toInt ∧ rr_knots.toInt ≤ 64) (h_f_rr_tape : Rg f_rr_tape (-128) 127) (h4 : rr_bytes.toInt ≤ 696) : Met l yX4_take (pw_w yX4_take cX4_take 3 none) ({ frames := 0, cells := 0, slots := 0, locals := 0 }) (va_Pc [.ref rr, .int vn] (fun U => U.heap.size = sz ∧ va_P (dC, dI) vwCl [(rr, .inr (4, [.ref rr_tape, .int rr_bytes, .int rr_fault, .int rr_place, .ref rr_tokens, rr_told, .int rr_at, .int rr_knots])), (rr_tape, .inl (k_rr_tape, 700, .inl f_rr_tape))] U.heap ∧ va_K (dC, dI) vwCl [(k_rr_tape, .byte)] U ∧ va_D (fun _ => True) [(rr, .inr (4, [.ref rr_tape, .int rr_bytes, .int rr_fault, .int rr_place, .ref rr_tokens, rr_told, .int rr_at, .int rr_knots])), (rr_tape, .inl (k_rr_tape, 700, .inl f_rr_tape))])) (q_X4_take dC dI (va_A [(rr, .inr (4, [.ref rr_tape, .int rr_bytes, .int rr_fault, .int rr_place, .ref rr_tokens, rr_told, .int rr_at, .int rr_knots])), (rr_tape, .inl (k_rr_tape, 700, .inl f_rr_tape))] sz) rr vn rr_tape rr_bytes rr_fault rr_place rr_tokens rr_told rr_at rr_knots k_rr_tape f_rr_tape) 0 0 (va_A [(rr, .inr (4, [.ref rr_tape, .int rr_bytes, .int rr_fault, .int rr_place, .ref rr_tokens, rr_told, .int rr_at, .int rr_knots])), (rr_tape, .inl (k_rr_tape, 700, .inl f_rr_tape))] sz) := by
  refine Met.ofW (cc := cX4_take) (maxL := 3) (ret := none) (by decide) rfl ?_
  intro p e s m args below meth c s₁ B hml hv
  obtain ⟨rfl, hsz, hP, hK, hD0⟩ := hv
  have hx := B.exec
  have hb := B.bytes
  have hr := B.returns
  have hts := atoms_spec (ws := (pw_w yX4_take cX4_take 3 none)) B.pre
  have hT : ∀ w ∈ pw_T, w.before _ s = true := fun w h => hts w (List.mem_cons_of_mem _ h)
  have hown : s.vm.findClass RX4 = some m.cls := findClass_of_methodNamed B.named
  have hlocks := B.notSynchronized
  subst hsz
  have hD := hD0.self (sz := s.heap.size)
  generalize hAe : va_A [(rr, .inr (4, [.ref rr_tape, .int rr_bytes, .int rr_fault, .int rr_place, .ref rr_tokens, rr_told, .int rr_at, .int rr_knots])), (rr_tape, .inl (k_rr_tape, 700, .inl f_rr_tape))] s.heap.size = A at hD ⊢
  have hA : ∀ q : Nat, s.heap.size ≤ q → A q := fun q h => by rw [← hAe]; exact Or.inr h
  have hS : va_S A s.heap s.heap [] := va_S.rf
  have hP : va_P (dC, dI) vwCl [(rr, .inr (4, [.ref rr_tape, .int rr_bytes, .int rr_fault, .int rr_place, .ref rr_tokens, rr_told, .int rr_at, .int rr_knots])), (rr_tape, .inl (k_rr_tape, 700, .inl f_rr_tape))] s.heap := hP
  have hl := lv_entry ([.ref rr, .int vn]) (n := 3) (Nat.le_of_ble_eq_true rfl)
  rw [lg_entry_eq]
  generalize (lg_sl ([.ref rr, .int vn]) ++ List.replicate (3 - (lg_sl ([.ref rr, .int vn])).length) Slot.unset).toArray = ls at hl ⊢
  have hl : lv_has ls 3 [(0, .ref rr), (1, .int vn)] := hl
  refine lv_bipush (v := 24) hx hb dX4_take_0 (by decide) ?_
  refine lv_istore_n (lv' := [(2, .int 24), (0, .ref rr), (1, .int vn)]) hx hb dX4_take_2 rfl hl (by decide) rfl (fun ls hl => ?_)
  have loop_11 : ∀ (fu : Nat), ∀ (g_9_l2 : Int32), ∀ (g_9_rr_1 : Int32), ∀ (g_9_f1 : Nat → Int32), ((-8) ≤ g_9_l2.toInt ∧ g_9_l2.toInt ≤ 24) → (0 ≤ g_9_rr_1.toInt ∧ g_9_rr_1.toInt ≤ 700) → (Rg g_9_f1 (-128) 127) → (TKq f_rr_tape g_9_f1 rr_bytes g_9_rr_1 vn g_9_l2) → (8 * (g_9_rr_1.toInt - rr_bytes.toInt) + g_9_l2.toInt = 24) → (g_9_l2.toInt + 8 < (fu : Int)) → ∀ (H : Heap) (locs : List Loc), va_P (dC, dI) vwCl [(rr, .inr (4, [.ref rr_tape, .int g_9_rr_1, .int rr_fault, .int rr_place, .ref rr_tokens, rr_told, .int rr_at, .int rr_knots])), (rr_tape, .inl (k_rr_tape, 700, .inl g_9_f1))] H → va_D A [(rr, .inr (4, [.ref rr_tape, .int g_9_rr_1, .int rr_fault, .int rr_place, .ref rr_tokens, rr_told, .int rr_at, .int rr_knots])), (rr_tape, .inl (k_rr_tape, 700, .inl g_9_f1))] → va_S A s.heap H locs → ∀ (ls : Array Slot), lv_has ls 3 [(2, .int g_9_l2), (0, .ref rr), (1, .int vn)] → W p l e (headSpec (pw_w yX4_take cX4_take 3 none) ({ frames := 0, cells := 0, slots := 0, locals := 0 })).room s m ([.ref rr, .int vn] : List Value).toArray below meth c H locs 0 0 (MQ below (q_X4_take dC dI A rr vn rr_tape rr_bytes rr_fault rr_place rr_tokens rr_told rr_at rr_knots k_rr_tape f_rr_tape) ([.ref rr, .int vn] : List Value).toArray s 0 0 A) (F0 m 3 ls []) := by
    intro fu
    induction fu with
    | zero => intro g_9_l2 g_9_rr_1 g_9_f1 hg_9_l2 hg_9_rr_1 hg_9_f1 hi_tk_q_10 hx0 hfu; exact absurd hfu (by omega)
    | succ fu11 ih11 =>
      intro g_9_l2 g_9_rr_1 g_9_f1 hg_9_l2 hg_9_rr_1 hg_9_f1 hi_tk_q_10 hx0 hfu11 H locs hP hD hS ls hl
      refine lv_iload_n hx hb dX4_take_3 rfl (lv_at hl 0 rfl) ?_
      refine lv_if_lt (tgt := 46) hx hb dX4_take_4 (by decide) (fun c_12 => ?_) (fun c_12 => ?_)
      · have kc_12 := il_lt c_12
        have := (by decide : (0 : Int32).toInt = 0)
        have hP9 := hP.sub (ws' := [(rr, .inr (4, [.ref rr_tape, .int g_9_rr_1, .int rr_fault, .int rr_place, .ref rr_tokens, rr_told, .int rr_at, .int rr_knots])), (rr_tape, .inl (k_rr_tape, 700, .inl g_9_f1))]) [0, 1] rfl
        have hD9 := hD.sub (ws' := [(rr, .inr (4, [.ref rr_tape, .int g_9_rr_1, .int rr_fault, .int rr_place, .ref rr_tokens, rr_told, .int rr_at, .int rr_knots])), (rr_tape, .inl (k_rr_tape, 700, .inl g_9_f1))]) [0, 1] (by decide) rfl
        exact W.vret hx hb hr (fun t ht hW => ⟨⟨(), rfl, trivial, g_9_rr_1, g_9_f1, (by omega), hg_9_f1, (by omega), (TKq_e hi_tk_q_10 (by omega)), by rw [ht]; exact hP9, hD9⟩, hS.F ht⟩) hS.2.2 dX4_take_46
      · have kc_12 := il_nlt c_12
        have := (by decide : (0 : Int32).toInt = 0)
        refine lv_aload_n hx hb dX4_take_7 rfl (lv_at hl 1 rfl) ?_
        refine va_get (D := (dC, dI)) (ci := 4) (v := .int g_9_rr_1) (C := RX4) (T := TX4) (N := 8) hx hb hT inX4 hown hK hP 0 rfl rfl 1 (by decide) (hT _ mw_1_125) (fun _ h9 => h9) rfl dX4_take_8 ?_
        refine lv_sipush (v := 700) hx hb dX4_take_11 (by decide) ?_
        refine lv_icmp_ge (tgt := 46) hx hb dX4_take_14 (by decide) (fun c_13 => ?_) (fun c_13 => ?_)
        · have kc_13 := il_le c_13
          have := (by decide : (700 : Int32).toInt = 700)
          have hP9 := hP.sub (ws' := [(rr, .inr (4, [.ref rr_tape, .int g_9_rr_1, .int rr_fault, .int rr_place, .ref rr_tokens, rr_told, .int rr_at, .int rr_knots])), (rr_tape, .inl (k_rr_tape, 700, .inl g_9_f1))]) [0, 1] rfl
          have hD9 := hD.sub (ws' := [(rr, .inr (4, [.ref rr_tape, .int g_9_rr_1, .int rr_fault, .int rr_place, .ref rr_tokens, rr_told, .int rr_at, .int rr_knots])), (rr_tape, .inl (k_rr_tape, 700, .inl g_9_f1))]) [0, 1] (by decide) rfl
          exact W.vret hx hb hr (fun t ht hW => ⟨⟨(), rfl, trivial, g_9_rr_1, g_9_f1, (by omega), hg_9_f1, (by omega), (TKq_e hi_tk_q_10 (by omega)), by rw [ht]; exact hP9, hD9⟩, hS.F ht⟩) hS.2.2 dX4_take_46
        · have kc_13 := il_nle c_13
          have := (by decide : (700 : Int32).toInt = 700)
          refine lv_aload_n hx hb dX4_take_17 rfl (lv_at hl 1 rfl) ?_
          refine va_get (D := (dC, dI)) (ci := 4) (v := .ref rr_tape) (C := RX4) (T := TX4) (N := 8) hx hb hT inX4 hown hK hP 0 rfl rfl 0 (by decide) (hT _ mw_1_123) (fun _ h9 => h9) rfl dX4_take_18 ?_
          refine lv_aload_n hx hb dX4_take_21 rfl (lv_at hl 1 rfl) ?_
          refine va_get (D := (dC, dI)) (ci := 4) (v := .int g_9_rr_1) (C := RX4) (T := TX4) (N := 8) hx hb hT inX4 hown hK hP 0 rfl rfl 1 (by decide) (hT _ mw_1_125) (fun _ h9 => h9) rfl dX4_take_22 ?_
          refine lv_iload_n hx hb dX4_take_25 rfl (lv_at hl 2 rfl) ?_
          refine lv_iload_n hx hb dX4_take_26 rfl (lv_at hl 0 rfl) ?_
          refine lv_ishr hx hb dX4_take_27 ?_
          refine lv_topi (fun z_14 ez_14 => ?_)
          refine lv_i2b hx hb dX4_take_28 rfl ?_
          refine lv_topi (fun z_15 ez_15 => ?_)
          refine va_bast hx hb hK hP hD hS 1 0 rfl rfl (vp_in_iff.mpr (by omega)) dX4_take_29 (fun H locs hP hD hS => ?_)
          have hP : va_P (dC, dI) vwCl [(rr, .inr (4, [.ref rr_tape, .int g_9_rr_1, .int rr_fault, .int rr_place, .ref rr_tokens, rr_told, .int rr_at, .int rr_knots])), (rr_tape, .inl (k_rr_tape, 700, .inl (upd g_9_f1 (g_9_rr_1 : Int32).toNatClampNeg (vp_nar .byte (z_15 : Int32)))))] H := hP
          have hD : va_D A [(rr, .inr (4, [.ref rr_tape, .int g_9_rr_1, .int rr_fault, .int rr_place, .ref rr_tokens, rr_told, .int rr_at, .int rr_knots])), (rr_tape, .inl (k_rr_tape, 700, .inl (upd g_9_f1 (g_9_rr_1 : Int32).toNatClampNeg (vp_nar .byte (z_15 : Int32)))))] := hD
          obtain ⟨f_16, hf_16, ef_16⟩ : ∃ g : Nat → Int32, Rg g (-128) 127 ∧ (upd g_9_f1 (g_9_rr_1 : Int32).toNatClampNeg (vp_nar .byte (z_15 : Int32))) = g := ⟨_, Rg_upd hg_9_f1 (nb_rng _), rfl⟩
          rw [ef_16] at hP hD
          refine lv_aload_n hx hb dX4_take_30 rfl (lv_at hl 1 rfl) ?_
          refine lv_dup hx hb dX4_take_31 rfl ?_
          refine va_get (D := (dC, dI)) (ci := 4) (v := .int g_9_rr_1) (C := RX4) (T := TX4) (N := 8) hx hb hT inX4 hown hK hP 0 rfl rfl 1 (by decide) (hT _ mw_1_125) (fun _ h9 => h9) rfl dX4_take_32 ?_
          refine lv_iconst (v := 1) hx hb dX4_take_35 (by decide) ?_
          refine lv_iadd hx hb dX4_take_36 ?_
          refine lv_topi (fun z_17 ez_17 => ?_)
          have kz_17 : z_17.toInt = g_9_rr_1.toInt + 1 := ti_add ez_17 rfl (by decide) (by omega) (by omega)
          clear ez_17
          refine va_put (D := (dC, dI)) (ci := 4) (v := .int z_17) (ty := .int) (C := RX4) (T := TX4) (N := 8) hx hb hT inX4 tyX4 tyX4_ok nmX4 hown hK hP hD hS 0 rfl rfl 1 (by decide) (hT _ mw_1_125) (fun _ h9 => h9) rfl (by decide +kernel) rfl rfl (Nat.le_of_ble_eq_true rfl) dX4_take_37 (fun H locs hP hD hS => ?_)
          have hP : va_P (dC, dI) vwCl [(rr, .inr (4, [.ref rr_tape, .int z_17, .int rr_fault, .int rr_place, .ref rr_tokens, rr_told, .int rr_at, .int rr_knots])), (rr_tape, .inl (k_rr_tape, 700, .inl f_16))] H := hP
          have hD : va_D A [(rr, .inr (4, [.ref rr_tape, .int z_17, .int rr_fault, .int rr_place, .ref rr_tokens, rr_told, .int rr_at, .int rr_knots])), (rr_tape, .inl (k_rr_tape, 700, .inl f_16))] := hD
          obtain ⟨z_18, ez_18⟩ : ∃ y : Int32, y = g_9_l2 + Int32.ofInt (-8) := ⟨_, rfl⟩
          have kz_18 : z_18.toInt = g_9_l2.toInt + (-8) := ti_add ez_18 rfl (by decide) (by omega) (by omega)
          refine lv_iinc (v := z_18) (lv' := [(2, .int z_18), (0, .ref rr), (1, .int vn)]) hx hb dX4_take_40 hl (k := 0) rfl (ez_18.symm) (by decide) rfl (fun ls hl => ?_)
          clear ez_18
          refine lv_goto (tgt := 3) hx hb dX4_take_43 (by decide) ?_
          exact ih11 z_18 z_17 f_16 (by omega) (by omega) hf_16 (TKq_s hi_tk_q_10 ez_14 ez_15 ef_16 (by omega) (by omega) (by omega) (by omega) (by omega)) (by omega) (by omega) _ _ (hP.sub [0, 1] rfl) (hD.sub [0, 1] (by decide) rfl) hS _ (lv_sub hl [0, 1, 2] rfl)
  have := (by decide : (24 : Int32).toInt = 24)
  exact loop_11 4294967296 (24 : Int32) rr_bytes f_rr_tape (by decide) (by omega) h_f_rr_tape TKq_0 (by omega) (by omega) _ _ (hP.sub [0, 1] rfl) (hD.sub [0, 1] (by decide) rfl) hS _ (lv_sub hl [0, 1, 2] rfl)
abbrev q_X4_kind (dC : Nat → ClassId) (dI : Nat → Nat → Nat) (A : Nat → Prop) (rr : Nat) (rr_tape : Nat) (rr_bytes : Int32) (rr_fault : Int32) (rr_place : Int32) (tk : Nat) (td : Nat) (rr_at : Int32) (rr_knots : Int32) (tk_count : Int32) (tk_kind : Nat) (tk_place : Nat) (tk_worth : Nat) (tk_language : Nat) (k_tk_kind : ClassId) (f_tk_kind : Nat → Int32) : Array Value → State → Outcome → State → Prop := va_Qi (fun (r : Int32) (_ : Unit) => (0 ≤ r.toInt ∧ r.toInt ≤ 39) ∧ (r = f_tk_kind rr_at.toNatClampNeg)) (fun (_ : Unit) (t : State) => va_P (dC, dI) vwCl [(rr, .inr (4, [.ref rr_tape, .int rr_bytes, .int rr_fault, .int rr_place, .ref tk, .ref td, .int rr_at, .int rr_knots])), (tk, .inr (7, [.int tk_count, .ref tk_kind, .ref tk_place, .ref tk_worth, .ref tk_language])), (tk_kind, .inl (k_tk_kind, 701, .inl f_tk_kind))] t.heap ∧ va_D A [(rr, .inr (4, [.ref rr_tape, .int rr_bytes, .int rr_fault, .int rr_place, .ref tk, .ref td, .int rr_at, .int rr_knots])), (tk, .inr (7, [.int tk_count, .ref tk_kind, .ref tk_place, .ref tk_worth, .ref tk_language])), (tk_kind, .inl (k_tk_kind, 701, .inl f_tk_kind))]) A
set_option maxHeartbeats 4000000 in
set_option maxRecDepth 100000 in
theorem c_X4_kind (l : Launch) (dC : Nat → ClassId) (dI : Nat → Nat → Nat) (sz : Nat) (rr : Nat) (rr_tape : Nat) (rr_bytes : Int32) (rr_fault : Int32) (rr_place : Int32) (tk : Nat) (td : Nat) (rr_at : Int32) (rr_knots : Int32) (tk_count : Int32) (tk_kind : Nat) (tk_place : Nat) (tk_worth : Nat) (tk_language : Nat) (k_tk_kind : ClassId) (f_tk_kind : Nat → Int32) (h_rr_bytes : 0 ≤ rr_bytes.toInt ∧ rr_bytes.toInt ≤ 700) (h_rr_at : 0 ≤ rr_at.toInt ∧ rr_at.toInt ≤ 700) (h_rr_knots : 0 ≤ rr_knots.toInt ∧ rr_knots.toInt ≤ 64) (h_tk_count : 1 ≤ tk_count.toInt ∧ tk_count.toInt ≤ 701) (h_f_tk_kind : Rg f_tk_kind 0 39) : Met l yX4_kind (pw_w yX4_kind cX4_kind 1 (some .int)) ({ frames := 0, cells := 0, slots := 0, locals := 0 }) (va_Pc [.ref rr] (fun U => U.heap.size = sz ∧ va_P (dC, dI) vwCl [(rr, .inr (4, [.ref rr_tape, .int rr_bytes, .int rr_fault, .int rr_place, .ref tk, .ref td, .int rr_at, .int rr_knots])), (tk, .inr (7, [.int tk_count, .ref tk_kind, .ref tk_place, .ref tk_worth, .ref tk_language])), (tk_kind, .inl (k_tk_kind, 701, .inl f_tk_kind))] U.heap ∧ va_K (dC, dI) vwCl [(k_tk_kind, .int)] U ∧ va_D (fun _ => True) [(rr, .inr (4, [.ref rr_tape, .int rr_bytes, .int rr_fault, .int rr_place, .ref tk, .ref td, .int rr_at, .int rr_knots])), (tk, .inr (7, [.int tk_count, .ref tk_kind, .ref tk_place, .ref tk_worth, .ref tk_language])), (tk_kind, .inl (k_tk_kind, 701, .inl f_tk_kind))])) (q_X4_kind dC dI (va_A [(rr, .inr (4, [.ref rr_tape, .int rr_bytes, .int rr_fault, .int rr_place, .ref tk, .ref td, .int rr_at, .int rr_knots])), (tk, .inr (7, [.int tk_count, .ref tk_kind, .ref tk_place, .ref tk_worth, .ref tk_language])), (tk_kind, .inl (k_tk_kind, 701, .inl f_tk_kind))] sz) rr rr_tape rr_bytes rr_fault rr_place tk td rr_at rr_knots tk_count tk_kind tk_place tk_worth tk_language k_tk_kind f_tk_kind) 0 0 (va_A [(rr, .inr (4, [.ref rr_tape, .int rr_bytes, .int rr_fault, .int rr_place, .ref tk, .ref td, .int rr_at, .int rr_knots])), (tk, .inr (7, [.int tk_count, .ref tk_kind, .ref tk_place, .ref tk_worth, .ref tk_language])), (tk_kind, .inl (k_tk_kind, 701, .inl f_tk_kind))] sz) := by
  refine Met.ofW (cc := cX4_kind) (maxL := 1) (ret := (some .int)) (by decide) rfl ?_
  intro p e s m args below meth c s₁ B hml hv
  obtain ⟨rfl, hsz, hP, hK, hD0⟩ := hv
  have hx := B.exec
  have hb := B.bytes
  have hr := B.returns
  have hts := atoms_spec (ws := (pw_w yX4_kind cX4_kind 1 (some .int))) B.pre
  have hT : ∀ w ∈ pw_T, w.before _ s = true := fun w h => hts w (List.mem_cons_of_mem _ h)
  have hown : s.vm.findClass RX4 = some m.cls := findClass_of_methodNamed B.named
  have hlocks := B.notSynchronized
  subst hsz
  have hD := hD0.self (sz := s.heap.size)
  generalize hAe : va_A [(rr, .inr (4, [.ref rr_tape, .int rr_bytes, .int rr_fault, .int rr_place, .ref tk, .ref td, .int rr_at, .int rr_knots])), (tk, .inr (7, [.int tk_count, .ref tk_kind, .ref tk_place, .ref tk_worth, .ref tk_language])), (tk_kind, .inl (k_tk_kind, 701, .inl f_tk_kind))] s.heap.size = A at hD ⊢
  have hA : ∀ q : Nat, s.heap.size ≤ q → A q := fun q h => by rw [← hAe]; exact Or.inr h
  have hS : va_S A s.heap s.heap [] := va_S.rf
  have hP : va_P (dC, dI) vwCl [(rr, .inr (4, [.ref rr_tape, .int rr_bytes, .int rr_fault, .int rr_place, .ref tk, .ref td, .int rr_at, .int rr_knots])), (tk, .inr (7, [.int tk_count, .ref tk_kind, .ref tk_place, .ref tk_worth, .ref tk_language])), (tk_kind, .inl (k_tk_kind, 701, .inl f_tk_kind))] s.heap := hP
  have hl := lv_entry ([.ref rr]) (n := 1) (Nat.le_of_ble_eq_true rfl)
  rw [lg_entry_eq]
  generalize (lg_sl ([.ref rr]) ++ List.replicate (1 - (lg_sl ([.ref rr])).length) Slot.unset).toArray = ls at hl ⊢
  have hl : lv_has ls 1 [(0, .ref rr)] := hl
  refine lv_aload_n hx hb dX4_kind_0 rfl (lv_at hl 0 rfl) ?_
  refine va_get (D := (dC, dI)) (ci := 4) (v := .ref tk) (C := RX4) (T := TX4) (N := 8) hx hb hT inX4 hown hK hP 0 rfl rfl 4 (by decide) (hT _ mw_1_130) (fun _ h9 => h9) rfl dX4_kind_1 ?_
  refine va_get (D := (dC, dI)) (ci := 7) (v := .ref tk_kind) (C := RX7) (T := TX7) (N := 5) hx hb hT inX7 hown hK hP 1 rfl rfl 1 (by decide) (hT _ mw_1_104) (fun _ h9 => h9) rfl dX4_kind_4 ?_
  refine lv_aload_n hx hb dX4_kind_7 rfl (lv_at hl 0 rfl) ?_
  refine va_get (D := (dC, dI)) (ci := 4) (v := .int rr_at) (C := RX4) (T := TX4) (N := 8) hx hb hT inX4 hown hK hP 0 rfl rfl 6 (by decide) (hT _ mw_1_132) (fun _ h9 => h9) rfl dX4_kind_8 ?_
  refine va_iald hx hb hK hP 2 0 rfl rfl (vp_in_iff.mpr (by omega)) dX4_kind_11 ?_
  refine lv_topi (fun z_1 ez_1 => ?_)
  have kz_1 : 0 ≤ z_1.toInt ∧ z_1.toInt ≤ 39 := by rw [ez_1]; exact h_f_tk_kind _
  have hP9 := hP.sub (ws' := [(rr, .inr (4, [.ref rr_tape, .int rr_bytes, .int rr_fault, .int rr_place, .ref tk, .ref td, .int rr_at, .int rr_knots])), (tk, .inr (7, [.int tk_count, .ref tk_kind, .ref tk_place, .ref tk_worth, .ref tk_language])), (tk_kind, .inl (k_tk_kind, 701, .inl f_tk_kind))]) [0, 1, 2] rfl
  have hD9 := hD.sub (ws' := [(rr, .inr (4, [.ref rr_tape, .int rr_bytes, .int rr_fault, .int rr_place, .ref tk, .ref td, .int rr_at, .int rr_knots])), (tk, .inr (7, [.int tk_count, .ref tk_kind, .ref tk_place, .ref tk_worth, .ref tk_language])), (tk_kind, .inl (k_tk_kind, 701, .inl f_tk_kind))]) [0, 1, 2] (by decide) rfl
  exact W.iret (v := z_1) hx hb hr (fun t ht hW => ⟨⟨z_1, (), rfl, ⟨(by omega), ez_1⟩, by rw [ht]; exact hP9, hD9⟩, hS.F ht⟩) hS.2.2 dX4_kind_12
abbrev q_X4_step (dC : Nat → ClassId) (dI : Nat → Nat → Nat) (A : Nat → Prop) (rr : Nat) (rr_tape : Nat) (rr_bytes : Int32) (rr_fault : Int32) (rr_place : Int32) (tk : Nat) (td : Nat) (rr_at : Int32) (rr_knots : Int32) (tk_count : Int32) (tk_kind : Nat) (tk_place : Nat) (tk_worth : Nat) (tk_language : Nat) (ge : Nat) : Array Value → State → Outcome → State → Prop := va_Qv (fun _ : Unit => True) (fun (_ : Unit) (t : State) => ∃ (e_rr_at : Int32), (0 ≤ e_rr_at.toInt ∧ e_rr_at.toInt ≤ 700) ∧ (STx ge rr_at e_rr_at) ∧ va_P (dC, dI) vwCl [(rr, .inr (4, [.ref rr_tape, .int rr_bytes, .int rr_fault, .int rr_place, .ref tk, .ref td, .int e_rr_at, .int rr_knots])), (tk, .inr (7, [.int tk_count, .ref tk_kind, .ref tk_place, .ref tk_worth, .ref tk_language]))] t.heap ∧ va_D A [(rr, .inr (4, [.ref rr_tape, .int rr_bytes, .int rr_fault, .int rr_place, .ref tk, .ref td, .int e_rr_at, .int rr_knots])), (tk, .inr (7, [.int tk_count, .ref tk_kind, .ref tk_place, .ref tk_worth, .ref tk_language]))]) A
set_option maxHeartbeats 4000000 in
set_option maxRecDepth 100000 in
theorem c_X4_step (l : Launch) (dC : Nat → ClassId) (dI : Nat → Nat → Nat) (sz : Nat) (rr : Nat) (rr_tape : Nat) (rr_bytes : Int32) (rr_fault : Int32) (rr_place : Int32) (tk : Nat) (td : Nat) (rr_at : Int32) (rr_knots : Int32) (tk_count : Int32) (tk_kind : Nat) (tk_place : Nat) (tk_worth : Nat) (tk_language : Nat) (ge : Nat) (h_rr_bytes : 0 ≤ rr_bytes.toInt ∧ rr_bytes.toInt ≤ 700) (h_rr_at : 0 ≤ rr_at.toInt ∧ rr_at.toInt ≤ 700) (h_rr_knots : 0 ≤ rr_knots.toInt ∧ rr_knots.toInt ≤ 64) (h_tk_count : 1 ≤ tk_count.toInt ∧ tk_count.toInt ≤ 701) (hce : tk_count.toInt = (ge : Int) + 1) : Met l yX4_step (pw_w yX4_step cX4_step 1 none) ({ frames := 0, cells := 0, slots := 0, locals := 0 }) (va_Pc [.ref rr] (fun U => U.heap.size = sz ∧ va_P (dC, dI) vwCl [(rr, .inr (4, [.ref rr_tape, .int rr_bytes, .int rr_fault, .int rr_place, .ref tk, .ref td, .int rr_at, .int rr_knots])), (tk, .inr (7, [.int tk_count, .ref tk_kind, .ref tk_place, .ref tk_worth, .ref tk_language]))] U.heap ∧ va_K (dC, dI) vwCl [] U ∧ va_D (fun _ => True) [(rr, .inr (4, [.ref rr_tape, .int rr_bytes, .int rr_fault, .int rr_place, .ref tk, .ref td, .int rr_at, .int rr_knots])), (tk, .inr (7, [.int tk_count, .ref tk_kind, .ref tk_place, .ref tk_worth, .ref tk_language]))])) (q_X4_step dC dI (va_A [(rr, .inr (4, [.ref rr_tape, .int rr_bytes, .int rr_fault, .int rr_place, .ref tk, .ref td, .int rr_at, .int rr_knots])), (tk, .inr (7, [.int tk_count, .ref tk_kind, .ref tk_place, .ref tk_worth, .ref tk_language]))] sz) rr rr_tape rr_bytes rr_fault rr_place tk td rr_at rr_knots tk_count tk_kind tk_place tk_worth tk_language ge) 0 0 (va_A [(rr, .inr (4, [.ref rr_tape, .int rr_bytes, .int rr_fault, .int rr_place, .ref tk, .ref td, .int rr_at, .int rr_knots])), (tk, .inr (7, [.int tk_count, .ref tk_kind, .ref tk_place, .ref tk_worth, .ref tk_language]))] sz) := by
  refine Met.ofW (cc := cX4_step) (maxL := 1) (ret := none) (by decide) rfl ?_
  intro p e s m args below meth c s₁ B hml hv
  obtain ⟨rfl, hsz, hP, hK, hD0⟩ := hv
  have hx := B.exec
  have hb := B.bytes
  have hr := B.returns
  have hts := atoms_spec (ws := (pw_w yX4_step cX4_step 1 none)) B.pre
  have hT : ∀ w ∈ pw_T, w.before _ s = true := fun w h => hts w (List.mem_cons_of_mem _ h)
  have hown : s.vm.findClass RX4 = some m.cls := findClass_of_methodNamed B.named
  have hlocks := B.notSynchronized
  subst hsz
  have hD := hD0.self (sz := s.heap.size)
  generalize hAe : va_A [(rr, .inr (4, [.ref rr_tape, .int rr_bytes, .int rr_fault, .int rr_place, .ref tk, .ref td, .int rr_at, .int rr_knots])), (tk, .inr (7, [.int tk_count, .ref tk_kind, .ref tk_place, .ref tk_worth, .ref tk_language]))] s.heap.size = A at hD ⊢
  have hA : ∀ q : Nat, s.heap.size ≤ q → A q := fun q h => by rw [← hAe]; exact Or.inr h
  have hS : va_S A s.heap s.heap [] := va_S.rf
  have hP : va_P (dC, dI) vwCl [(rr, .inr (4, [.ref rr_tape, .int rr_bytes, .int rr_fault, .int rr_place, .ref tk, .ref td, .int rr_at, .int rr_knots])), (tk, .inr (7, [.int tk_count, .ref tk_kind, .ref tk_place, .ref tk_worth, .ref tk_language]))] s.heap := hP
  have hl := lv_entry ([.ref rr]) (n := 1) (Nat.le_of_ble_eq_true rfl)
  rw [lg_entry_eq]
  generalize (lg_sl ([.ref rr]) ++ List.replicate (1 - (lg_sl ([.ref rr])).length) Slot.unset).toArray = ls at hl ⊢
  have hl : lv_has ls 1 [(0, .ref rr)] := hl
  refine lv_aload_n hx hb dX4_step_0 rfl (lv_at hl 0 rfl) ?_
  refine va_get (D := (dC, dI)) (ci := 4) (v := .int rr_at) (C := RX4) (T := TX4) (N := 8) hx hb hT inX4 hown hK hP 0 rfl rfl 6 (by decide) (hT _ mw_1_132) (fun _ h9 => h9) rfl dX4_step_1 ?_
  refine lv_iconst (v := 1) hx hb dX4_step_4 (by decide) ?_
  refine lv_iadd hx hb dX4_step_5 ?_
  refine lv_topi (fun z_1 ez_1 => ?_)
  have kz_1 : z_1.toInt = rr_at.toInt + 1 := ti_add ez_1 rfl (by decide) (by omega) (by omega)
  clear ez_1
  refine lv_aload_n hx hb dX4_step_6 rfl (lv_at hl 0 rfl) ?_
  refine va_get (D := (dC, dI)) (ci := 4) (v := .ref tk) (C := RX4) (T := TX4) (N := 8) hx hb hT inX4 hown hK hP 0 rfl rfl 4 (by decide) (hT _ mw_1_130) (fun _ h9 => h9) rfl dX4_step_7 ?_
  refine va_get (D := (dC, dI)) (ci := 7) (v := .int tk_count) (C := RX7) (T := TX7) (N := 5) hx hb hT inX7 hown hK hP 1 rfl rfl 0 (by decide) (hT _ mw_1_101) (fun _ h9 => h9) rfl dX4_step_10 ?_
  refine lv_icmp_ge (tgt := 26) hx hb dX4_step_13 (by decide) (fun c_2 => ?_) (fun c_2 => ?_)
  · have kc_2 := il_le c_2
    have hP9 := hP.sub (ws' := [(rr, .inr (4, [.ref rr_tape, .int rr_bytes, .int rr_fault, .int rr_place, .ref tk, .ref td, .int rr_at, .int rr_knots])), (tk, .inr (7, [.int tk_count, .ref tk_kind, .ref tk_place, .ref tk_worth, .ref tk_language]))]) [0, 1] rfl
    have hD9 := hD.sub (ws' := [(rr, .inr (4, [.ref rr_tape, .int rr_bytes, .int rr_fault, .int rr_place, .ref tk, .ref td, .int rr_at, .int rr_knots])), (tk, .inr (7, [.int tk_count, .ref tk_kind, .ref tk_place, .ref tk_worth, .ref tk_language]))]) [0, 1] (by decide) rfl
    exact W.vret hx hb hr (fun t ht hW => ⟨⟨(), rfl, trivial, rr_at, (by omega), (by unfold STx; omega), by rw [ht]; exact hP9, hD9⟩, hS.F ht⟩) hS.2.2 dX4_step_26
  · have kc_2 := il_nle c_2
    refine lv_aload_n hx hb dX4_step_16 rfl (lv_at hl 0 rfl) ?_
    refine lv_dup hx hb dX4_step_17 rfl ?_
    refine va_get (D := (dC, dI)) (ci := 4) (v := .int rr_at) (C := RX4) (T := TX4) (N := 8) hx hb hT inX4 hown hK hP 0 rfl rfl 6 (by decide) (hT _ mw_1_132) (fun _ h9 => h9) rfl dX4_step_18 ?_
    refine lv_iconst (v := 1) hx hb dX4_step_21 (by decide) ?_
    refine lv_iadd hx hb dX4_step_22 ?_
    refine lv_topi (fun z_3 ez_3 => ?_)
    have kz_3 : z_3.toInt = rr_at.toInt + 1 := ti_add ez_3 rfl (by decide) (by omega) (by omega)
    clear ez_3
    refine va_put (D := (dC, dI)) (ci := 4) (v := .int z_3) (ty := .int) (C := RX4) (T := TX4) (N := 8) hx hb hT inX4 tyX4 tyX4_ok nmX4 hown hK hP hD hS 0 rfl rfl 6 (by decide) (hT _ mw_1_132) (fun _ h9 => h9) rfl (by decide +kernel) rfl rfl (Nat.le_of_ble_eq_true rfl) dX4_step_23 (fun H locs hP hD hS => ?_)
    have hP : va_P (dC, dI) vwCl [(rr, .inr (4, [.ref rr_tape, .int rr_bytes, .int rr_fault, .int rr_place, .ref tk, .ref td, .int z_3, .int rr_knots])), (tk, .inr (7, [.int tk_count, .ref tk_kind, .ref tk_place, .ref tk_worth, .ref tk_language]))] H := hP
    have hD : va_D A [(rr, .inr (4, [.ref rr_tape, .int rr_bytes, .int rr_fault, .int rr_place, .ref tk, .ref td, .int z_3, .int rr_knots])), (tk, .inr (7, [.int tk_count, .ref tk_kind, .ref tk_place, .ref tk_worth, .ref tk_language]))] := hD
    have hP9 := hP.sub (ws' := [(rr, .inr (4, [.ref rr_tape, .int rr_bytes, .int rr_fault, .int rr_place, .ref tk, .ref td, .int z_3, .int rr_knots])), (tk, .inr (7, [.int tk_count, .ref tk_kind, .ref tk_place, .ref tk_worth, .ref tk_language]))]) [0, 1] rfl
    have hD9 := hD.sub (ws' := [(rr, .inr (4, [.ref rr_tape, .int rr_bytes, .int rr_fault, .int rr_place, .ref tk, .ref td, .int z_3, .int rr_knots])), (tk, .inr (7, [.int tk_count, .ref tk_kind, .ref tk_place, .ref tk_worth, .ref tk_language]))]) [0, 1] (by decide) rfl
    exact W.vret hx hb hr (fun t ht hW => ⟨⟨(), rfl, trivial, z_3, (by omega), (by unfold STx; omega), by rw [ht]; exact hP9, hD9⟩, hS.F ht⟩) hS.2.2 dX4_step_26
abbrev q_X4_refuse (dC : Nat → ClassId) (dI : Nat → Nat → Nat) (A : Nat → Prop) (rr : Nat) (vw : Int32) (rr_tape : Nat) (rr_bytes : Int32) (rr_fault : Int32) (rr_place : Int32) (tk : Nat) (td : Nat) (rr_at : Int32) (rr_knots : Int32) (tk_count : Int32) (tk_kind : Nat) (tk_place : Nat) (tk_worth : Nat) (tk_language : Nat) (k_tk_place : ClassId) (f_tk_place : Nat → Int32) (ge : Nat) : Array Value → State → Outcome → State → Prop := va_Qv (fun _ : Unit => True) (fun (_ : Unit) (t : State) => ∃ (e_rr_fault : Int32), ∃ (e_rr_place : Int32), ∃ (e_rr_at : Int32), (0 ≤ e_rr_at.toInt ∧ e_rr_at.toInt ≤ 700) ∧ (e_rr_fault.toInt ≠ 0) ∧ (RFx f_tk_place ge vw.toInt rr_at rr_fault rr_place e_rr_at e_rr_fault e_rr_place) ∧ va_P (dC, dI) vwCl [(rr, .inr (4, [.ref rr_tape, .int rr_bytes, .int e_rr_fault, .int e_rr_place, .ref tk, .ref td, .int e_rr_at, .int rr_knots])), (tk, .inr (7, [.int tk_count, .ref tk_kind, .ref tk_place, .ref tk_worth, .ref tk_language])), (tk_place, .inl (k_tk_place, 701, .inl f_tk_place))] t.heap ∧ va_D A [(rr, .inr (4, [.ref rr_tape, .int rr_bytes, .int e_rr_fault, .int e_rr_place, .ref tk, .ref td, .int e_rr_at, .int rr_knots])), (tk, .inr (7, [.int tk_count, .ref tk_kind, .ref tk_place, .ref tk_worth, .ref tk_language])), (tk_place, .inl (k_tk_place, 701, .inl f_tk_place))]) A
set_option maxHeartbeats 4000000 in
set_option maxRecDepth 100000 in
theorem c_X4_refuse (l : Launch) (dC : Nat → ClassId) (dI : Nat → Nat → Nat) (sz : Nat) (rr : Nat) (vw : Int32) (rr_tape : Nat) (rr_bytes : Int32) (rr_fault : Int32) (rr_place : Int32) (tk : Nat) (td : Nat) (rr_at : Int32) (rr_knots : Int32) (tk_count : Int32) (tk_kind : Nat) (tk_place : Nat) (tk_worth : Nat) (tk_language : Nat) (k_tk_place : ClassId) (f_tk_place : Nat → Int32) (ge : Nat) (h_rr_bytes : 0 ≤ rr_bytes.toInt ∧ rr_bytes.toInt ≤ 700) (h_rr_at : 0 ≤ rr_at.toInt ∧ rr_at.toInt ≤ 700) (h_rr_knots : 0 ≤ rr_knots.toInt ∧ rr_knots.toInt ≤ 64) (h_tk_count : 1 ≤ tk_count.toInt ∧ tk_count.toInt ≤ 701) (h_vw : 1 ≤ vw.toInt ∧ vw.toInt ≤ 4) (hce : tk_count.toInt = (ge : Int) + 1) : Met l yX4_refuse (pw_w yX4_refuse cX4_refuse 2 none) ({ frames := 0, cells := 0, slots := 0, locals := 0 }) (va_Pc [.ref rr, .int vw] (fun U => U.heap.size = sz ∧ va_P (dC, dI) vwCl [(rr, .inr (4, [.ref rr_tape, .int rr_bytes, .int rr_fault, .int rr_place, .ref tk, .ref td, .int rr_at, .int rr_knots])), (tk, .inr (7, [.int tk_count, .ref tk_kind, .ref tk_place, .ref tk_worth, .ref tk_language])), (tk_place, .inl (k_tk_place, 701, .inl f_tk_place))] U.heap ∧ va_K (dC, dI) vwCl [(k_tk_place, .int)] U ∧ va_D (fun _ => True) [(rr, .inr (4, [.ref rr_tape, .int rr_bytes, .int rr_fault, .int rr_place, .ref tk, .ref td, .int rr_at, .int rr_knots])), (tk, .inr (7, [.int tk_count, .ref tk_kind, .ref tk_place, .ref tk_worth, .ref tk_language])), (tk_place, .inl (k_tk_place, 701, .inl f_tk_place))])) (q_X4_refuse dC dI (va_A [(rr, .inr (4, [.ref rr_tape, .int rr_bytes, .int rr_fault, .int rr_place, .ref tk, .ref td, .int rr_at, .int rr_knots])), (tk, .inr (7, [.int tk_count, .ref tk_kind, .ref tk_place, .ref tk_worth, .ref tk_language])), (tk_place, .inl (k_tk_place, 701, .inl f_tk_place))] sz) rr vw rr_tape rr_bytes rr_fault rr_place tk td rr_at rr_knots tk_count tk_kind tk_place tk_worth tk_language k_tk_place f_tk_place ge) 0 0 (va_A [(rr, .inr (4, [.ref rr_tape, .int rr_bytes, .int rr_fault, .int rr_place, .ref tk, .ref td, .int rr_at, .int rr_knots])), (tk, .inr (7, [.int tk_count, .ref tk_kind, .ref tk_place, .ref tk_worth, .ref tk_language])), (tk_place, .inl (k_tk_place, 701, .inl f_tk_place))] sz) := by
  refine Met.ofW (cc := cX4_refuse) (maxL := 2) (ret := none) (by decide) rfl ?_
  intro p e s m args below meth c s₁ B hml hv
  obtain ⟨rfl, hsz, hP, hK, hD0⟩ := hv
  have hx := B.exec
  have hb := B.bytes
  have hr := B.returns
  have hts := atoms_spec (ws := (pw_w yX4_refuse cX4_refuse 2 none)) B.pre
  have hT : ∀ w ∈ pw_T, w.before _ s = true := fun w h => hts w (List.mem_cons_of_mem _ h)
  have hown : s.vm.findClass RX4 = some m.cls := findClass_of_methodNamed B.named
  have hlocks := B.notSynchronized
  subst hsz
  have hD := hD0.self (sz := s.heap.size)
  generalize hAe : va_A [(rr, .inr (4, [.ref rr_tape, .int rr_bytes, .int rr_fault, .int rr_place, .ref tk, .ref td, .int rr_at, .int rr_knots])), (tk, .inr (7, [.int tk_count, .ref tk_kind, .ref tk_place, .ref tk_worth, .ref tk_language])), (tk_place, .inl (k_tk_place, 701, .inl f_tk_place))] s.heap.size = A at hD ⊢
  have hA : ∀ q : Nat, s.heap.size ≤ q → A q := fun q h => by rw [← hAe]; exact Or.inr h
  have hS : va_S A s.heap s.heap [] := va_S.rf
  have hP : va_P (dC, dI) vwCl [(rr, .inr (4, [.ref rr_tape, .int rr_bytes, .int rr_fault, .int rr_place, .ref tk, .ref td, .int rr_at, .int rr_knots])), (tk, .inr (7, [.int tk_count, .ref tk_kind, .ref tk_place, .ref tk_worth, .ref tk_language])), (tk_place, .inl (k_tk_place, 701, .inl f_tk_place))] s.heap := hP
  have hl := lv_entry ([.ref rr, .int vw]) (n := 2) (Nat.le_of_ble_eq_true rfl)
  rw [lg_entry_eq]
  generalize (lg_sl ([.ref rr, .int vw]) ++ List.replicate (2 - (lg_sl ([.ref rr, .int vw])).length) Slot.unset).toArray = ls at hl ⊢
  have hl : lv_has ls 2 [(0, .ref rr), (1, .int vw)] := hl
  refine lv_aload_n hx hb dX4_refuse_0 rfl (lv_at hl 0 rfl) ?_
  refine va_get (D := (dC, dI)) (ci := 4) (v := .int rr_fault) (C := RX4) (T := TX4) (N := 8) hx hb hT inX4 hown hK hP 0 rfl rfl 2 (by decide) (hT _ mw_1_126) (fun _ h9 => h9) rfl dX4_refuse_1 ?_
  refine lv_if_ne (tgt := 28) hx hb dX4_refuse_4 (by decide) (fun c_1 => ?_) (fun c_1 => ?_)
  · have kc_1 := il_ne c_1
    have := (by decide : (0 : Int32).toInt = 0)
    refine lv_aload_n hx hb dX4_refuse_28 rfl (lv_at hl 0 rfl) ?_
    refine lv_aload_n hx hb dX4_refuse_29 rfl (lv_at hl 0 rfl) ?_
    refine va_get (D := (dC, dI)) (ci := 4) (v := .ref tk) (C := RX4) (T := TX4) (N := 8) hx hb hT inX4 hown hK hP 0 rfl rfl 4 (by decide) (hT _ mw_1_130) (fun _ h9 => h9) rfl dX4_refuse_30 ?_
    refine va_get (D := (dC, dI)) (ci := 7) (v := .int tk_count) (C := RX7) (T := TX7) (N := 5) hx hb hT inX7 hown hK hP 1 rfl rfl 0 (by decide) (hT _ mw_1_101) (fun _ h9 => h9) rfl dX4_refuse_33 ?_
    refine lv_iconst (v := 1) hx hb dX4_refuse_36 (by decide) ?_
    refine lv_isub hx hb dX4_refuse_37 ?_
    refine lv_topi (fun z_2 ez_2 => ?_)
    have kz_2 : z_2.toInt = tk_count.toInt - 1 := ti_sub ez_2 rfl (by decide) (by omega) (by omega)
    clear ez_2
    refine va_put (D := (dC, dI)) (ci := 4) (v := .int z_2) (ty := .int) (C := RX4) (T := TX4) (N := 8) hx hb hT inX4 tyX4 tyX4_ok nmX4 hown hK hP hD hS 0 rfl rfl 6 (by decide) (hT _ mw_1_132) (fun _ h9 => h9) rfl (by decide +kernel) rfl rfl (Nat.le_of_ble_eq_true rfl) dX4_refuse_38 (fun H locs hP hD hS => ?_)
    have hP : va_P (dC, dI) vwCl [(rr, .inr (4, [.ref rr_tape, .int rr_bytes, .int rr_fault, .int rr_place, .ref tk, .ref td, .int z_2, .int rr_knots])), (tk, .inr (7, [.int tk_count, .ref tk_kind, .ref tk_place, .ref tk_worth, .ref tk_language])), (tk_place, .inl (k_tk_place, 701, .inl f_tk_place))] H := hP
    have hD : va_D A [(rr, .inr (4, [.ref rr_tape, .int rr_bytes, .int rr_fault, .int rr_place, .ref tk, .ref td, .int z_2, .int rr_knots])), (tk, .inr (7, [.int tk_count, .ref tk_kind, .ref tk_place, .ref tk_worth, .ref tk_language])), (tk_place, .inl (k_tk_place, 701, .inl f_tk_place))] := hD
    have hP9 := hP.sub (ws' := [(rr, .inr (4, [.ref rr_tape, .int rr_bytes, .int rr_fault, .int rr_place, .ref tk, .ref td, .int z_2, .int rr_knots])), (tk, .inr (7, [.int tk_count, .ref tk_kind, .ref tk_place, .ref tk_worth, .ref tk_language])), (tk_place, .inl (k_tk_place, 701, .inl f_tk_place))]) [0, 1, 2] rfl
    have hD9 := hD.sub (ws' := [(rr, .inr (4, [.ref rr_tape, .int rr_bytes, .int rr_fault, .int rr_place, .ref tk, .ref td, .int z_2, .int rr_knots])), (tk, .inr (7, [.int tk_count, .ref tk_kind, .ref tk_place, .ref tk_worth, .ref tk_language])), (tk_place, .inl (k_tk_place, 701, .inl f_tk_place))]) [0, 1, 2] (by decide) rfl
    exact W.vret hx hb hr (fun t ht hW => ⟨⟨(), rfl, trivial, rr_fault, rr_place, z_2, (by omega), (by first | decide | omega), (by exact ⟨(by omega), Or.inr ⟨(by omega), rfl, rfl⟩⟩), by rw [ht]; exact hP9, hD9⟩, hS.F ht⟩) hS.2.2 dX4_refuse_41
  · have kc_1 := il_eq c_1
    have := (by decide : (0 : Int32).toInt = 0)
    refine lv_aload_n hx hb dX4_refuse_7 rfl (lv_at hl 0 rfl) ?_
    refine lv_iload_n hx hb dX4_refuse_8 rfl (lv_at hl 1 rfl) ?_
    refine va_put (D := (dC, dI)) (ci := 4) (v := .int vw) (ty := .int) (C := RX4) (T := TX4) (N := 8) hx hb hT inX4 tyX4 tyX4_ok nmX4 hown hK hP hD hS 0 rfl rfl 2 (by decide) (hT _ mw_1_126) (fun _ h9 => h9) rfl (by decide +kernel) rfl rfl (Nat.le_of_ble_eq_true rfl) dX4_refuse_9 (fun H locs hP hD hS => ?_)
    have hP : va_P (dC, dI) vwCl [(rr, .inr (4, [.ref rr_tape, .int rr_bytes, .int vw, .int rr_place, .ref tk, .ref td, .int rr_at, .int rr_knots])), (tk, .inr (7, [.int tk_count, .ref tk_kind, .ref tk_place, .ref tk_worth, .ref tk_language])), (tk_place, .inl (k_tk_place, 701, .inl f_tk_place))] H := hP
    have hD : va_D A [(rr, .inr (4, [.ref rr_tape, .int rr_bytes, .int vw, .int rr_place, .ref tk, .ref td, .int rr_at, .int rr_knots])), (tk, .inr (7, [.int tk_count, .ref tk_kind, .ref tk_place, .ref tk_worth, .ref tk_language])), (tk_place, .inl (k_tk_place, 701, .inl f_tk_place))] := hD
    refine lv_aload_n hx hb dX4_refuse_12 rfl (lv_at hl 0 rfl) ?_
    refine lv_aload_n hx hb dX4_refuse_13 rfl (lv_at hl 0 rfl) ?_
    refine va_get (D := (dC, dI)) (ci := 4) (v := .ref tk) (C := RX4) (T := TX4) (N := 8) hx hb hT inX4 hown hK hP 0 rfl rfl 4 (by decide) (hT _ mw_1_130) (fun _ h9 => h9) rfl dX4_refuse_14 ?_
    refine va_get (D := (dC, dI)) (ci := 7) (v := .ref tk_place) (C := RX7) (T := TX7) (N := 5) hx hb hT inX7 hown hK hP 1 rfl rfl 2 (by decide) (hT _ mw_1_106) (fun _ h9 => h9) rfl dX4_refuse_17 ?_
    refine lv_aload_n hx hb dX4_refuse_20 rfl (lv_at hl 0 rfl) ?_
    refine va_get (D := (dC, dI)) (ci := 4) (v := .int rr_at) (C := RX4) (T := TX4) (N := 8) hx hb hT inX4 hown hK hP 0 rfl rfl 6 (by decide) (hT _ mw_1_132) (fun _ h9 => h9) rfl dX4_refuse_21 ?_
    refine va_iald hx hb hK hP 2 0 rfl rfl (vp_in_iff.mpr (by omega)) dX4_refuse_24 ?_
    refine lv_topi (fun z_3 ez_3 => ?_)
    refine va_put (D := (dC, dI)) (ci := 4) (v := .int z_3) (ty := .int) (C := RX4) (T := TX4) (N := 8) hx hb hT inX4 tyX4 tyX4_ok nmX4 hown hK hP hD hS 0 rfl rfl 3 (by decide) (hT _ mw_1_128) (fun _ h9 => h9) rfl (by decide +kernel) rfl rfl (Nat.le_of_ble_eq_true rfl) dX4_refuse_25 (fun H locs hP hD hS => ?_)
    have hP : va_P (dC, dI) vwCl [(rr, .inr (4, [.ref rr_tape, .int rr_bytes, .int vw, .int z_3, .ref tk, .ref td, .int rr_at, .int rr_knots])), (tk, .inr (7, [.int tk_count, .ref tk_kind, .ref tk_place, .ref tk_worth, .ref tk_language])), (tk_place, .inl (k_tk_place, 701, .inl f_tk_place))] H := hP
    have hD : va_D A [(rr, .inr (4, [.ref rr_tape, .int rr_bytes, .int vw, .int z_3, .ref tk, .ref td, .int rr_at, .int rr_knots])), (tk, .inr (7, [.int tk_count, .ref tk_kind, .ref tk_place, .ref tk_worth, .ref tk_language])), (tk_place, .inl (k_tk_place, 701, .inl f_tk_place))] := hD
    refine lv_aload_n hx hb dX4_refuse_28 rfl (lv_at hl 0 rfl) ?_
    refine lv_aload_n hx hb dX4_refuse_29 rfl (lv_at hl 0 rfl) ?_
    refine va_get (D := (dC, dI)) (ci := 4) (v := .ref tk) (C := RX4) (T := TX4) (N := 8) hx hb hT inX4 hown hK hP 0 rfl rfl 4 (by decide) (hT _ mw_1_130) (fun _ h9 => h9) rfl dX4_refuse_30 ?_
    refine va_get (D := (dC, dI)) (ci := 7) (v := .int tk_count) (C := RX7) (T := TX7) (N := 5) hx hb hT inX7 hown hK hP 1 rfl rfl 0 (by decide) (hT _ mw_1_101) (fun _ h9 => h9) rfl dX4_refuse_33 ?_
    refine lv_iconst (v := 1) hx hb dX4_refuse_36 (by decide) ?_
    refine lv_isub hx hb dX4_refuse_37 ?_
    refine lv_topi (fun z_4 ez_4 => ?_)
    have kz_4 : z_4.toInt = tk_count.toInt - 1 := ti_sub ez_4 rfl (by decide) (by omega) (by omega)
    clear ez_4
    refine va_put (D := (dC, dI)) (ci := 4) (v := .int z_4) (ty := .int) (C := RX4) (T := TX4) (N := 8) hx hb hT inX4 tyX4 tyX4_ok nmX4 hown hK hP hD hS 0 rfl rfl 6 (by decide) (hT _ mw_1_132) (fun _ h9 => h9) rfl (by decide +kernel) rfl rfl (Nat.le_of_ble_eq_true rfl) dX4_refuse_38 (fun H locs hP hD hS => ?_)
    have hP : va_P (dC, dI) vwCl [(rr, .inr (4, [.ref rr_tape, .int rr_bytes, .int vw, .int z_3, .ref tk, .ref td, .int z_4, .int rr_knots])), (tk, .inr (7, [.int tk_count, .ref tk_kind, .ref tk_place, .ref tk_worth, .ref tk_language])), (tk_place, .inl (k_tk_place, 701, .inl f_tk_place))] H := hP
    have hD : va_D A [(rr, .inr (4, [.ref rr_tape, .int rr_bytes, .int vw, .int z_3, .ref tk, .ref td, .int z_4, .int rr_knots])), (tk, .inr (7, [.int tk_count, .ref tk_kind, .ref tk_place, .ref tk_worth, .ref tk_language])), (tk_place, .inl (k_tk_place, 701, .inl f_tk_place))] := hD
    have hP9 := hP.sub (ws' := [(rr, .inr (4, [.ref rr_tape, .int rr_bytes, .int vw, .int z_3, .ref tk, .ref td, .int z_4, .int rr_knots])), (tk, .inr (7, [.int tk_count, .ref tk_kind, .ref tk_place, .ref tk_worth, .ref tk_language])), (tk_place, .inl (k_tk_place, 701, .inl f_tk_place))]) [0, 1, 2] rfl
    have hD9 := hD.sub (ws' := [(rr, .inr (4, [.ref rr_tape, .int rr_bytes, .int vw, .int z_3, .ref tk, .ref td, .int z_4, .int rr_knots])), (tk, .inr (7, [.int tk_count, .ref tk_kind, .ref tk_place, .ref tk_worth, .ref tk_language])), (tk_place, .inl (k_tk_place, 701, .inl f_tk_place))]) [0, 1, 2] (by decide) rfl
    exact W.vret hx hb hr (fun t ht hW => ⟨⟨(), rfl, trivial, vw, z_3, z_4, (by omega), (by first | decide | omega), (by refine ⟨(by omega), Or.inl ⟨(by omega), rfl, ?_⟩⟩; exact ez_3), by rw [ht]; exact hP9, hD9⟩, hS.F ht⟩) hS.2.2 dX4_refuse_41
abbrev q_X4_expect (dC : Nat → ClassId) (dI : Nat → Nat → Nat) (A : Nat → Prop) (rr : Nat) (vk : Int32) (rr_tape : Nat) (rr_bytes : Int32) (rr_fault : Int32) (rr_place : Int32) (tk : Nat) (td : Nat) (rr_at : Int32) (rr_knots : Int32) (tk_count : Int32) (tk_kind : Nat) (tk_place : Nat) (tk_worth : Nat) (tk_language : Nat) (k_tk_kind : ClassId) (f_tk_kind : Nat → Int32) (k_tk_place : ClassId) (f_tk_place : Nat → Int32) (ge : Nat) : Array Value → State → Outcome → State → Prop := va_Qv (fun _ : Unit => True) (fun (_ : Unit) (t : State) => ∃ (e_rr_fault : Int32), ∃ (e_rr_place : Int32), ∃ (e_rr_at : Int32), (0 ≤ e_rr_at.toInt ∧ e_rr_at.toInt ≤ 700) ∧ (FSt e_rr_fault rr_fault) ∧ (EXx f_tk_kind f_tk_place ge vk.toInt rr_at rr_fault rr_place e_rr_at e_rr_fault e_rr_place) ∧ va_P (dC, dI) vwCl [(rr, .inr (4, [.ref rr_tape, .int rr_bytes, .int e_rr_fault, .int e_rr_place, .ref tk, .ref td, .int e_rr_at, .int rr_knots])), (tk, .inr (7, [.int tk_count, .ref tk_kind, .ref tk_place, .ref tk_worth, .ref tk_language])), (tk_kind, .inl (k_tk_kind, 701, .inl f_tk_kind)), (tk_place, .inl (k_tk_place, 701, .inl f_tk_place))] t.heap ∧ va_D A [(rr, .inr (4, [.ref rr_tape, .int rr_bytes, .int e_rr_fault, .int e_rr_place, .ref tk, .ref td, .int e_rr_at, .int rr_knots])), (tk, .inr (7, [.int tk_count, .ref tk_kind, .ref tk_place, .ref tk_worth, .ref tk_language])), (tk_kind, .inl (k_tk_kind, 701, .inl f_tk_kind)), (tk_place, .inl (k_tk_place, 701, .inl f_tk_place))]) A
set_option maxHeartbeats 4000000 in
set_option maxRecDepth 100000 in
theorem c_X4_expect (l : Launch) (dC : Nat → ClassId) (dI : Nat → Nat → Nat) (sz : Nat) (rr : Nat) (vk : Int32) (rr_tape : Nat) (rr_bytes : Int32) (rr_fault : Int32) (rr_place : Int32) (tk : Nat) (td : Nat) (rr_at : Int32) (rr_knots : Int32) (tk_count : Int32) (tk_kind : Nat) (tk_place : Nat) (tk_worth : Nat) (tk_language : Nat) (k_tk_kind : ClassId) (f_tk_kind : Nat → Int32) (k_tk_place : ClassId) (f_tk_place : Nat → Int32) (ge : Nat) (h_rr_bytes : 0 ≤ rr_bytes.toInt ∧ rr_bytes.toInt ≤ 700) (h_rr_at : 0 ≤ rr_at.toInt ∧ rr_at.toInt ≤ 700) (h_rr_knots : 0 ≤ rr_knots.toInt ∧ rr_knots.toInt ≤ 64) (h_tk_count : 1 ≤ tk_count.toInt ∧ tk_count.toInt ≤ 701) (h_f_tk_kind : Rg f_tk_kind 0 39) (hce : tk_count.toInt = (ge : Int) + 1) : Met l yX4_expect (pw_w yX4_expect cX4_expect 2 none) ({ frames := 1, cells := 0, slots := 0, locals := 21 }) (va_Pc [.ref rr, .int vk] (fun U => U.heap.size = sz ∧ va_P (dC, dI) vwCl [(rr, .inr (4, [.ref rr_tape, .int rr_bytes, .int rr_fault, .int rr_place, .ref tk, .ref td, .int rr_at, .int rr_knots])), (tk, .inr (7, [.int tk_count, .ref tk_kind, .ref tk_place, .ref tk_worth, .ref tk_language])), (tk_kind, .inl (k_tk_kind, 701, .inl f_tk_kind)), (tk_place, .inl (k_tk_place, 701, .inl f_tk_place))] U.heap ∧ va_K (dC, dI) vwCl [(k_tk_kind, .int), (k_tk_place, .int)] U ∧ va_D (fun _ => True) [(rr, .inr (4, [.ref rr_tape, .int rr_bytes, .int rr_fault, .int rr_place, .ref tk, .ref td, .int rr_at, .int rr_knots])), (tk, .inr (7, [.int tk_count, .ref tk_kind, .ref tk_place, .ref tk_worth, .ref tk_language])), (tk_kind, .inl (k_tk_kind, 701, .inl f_tk_kind)), (tk_place, .inl (k_tk_place, 701, .inl f_tk_place))])) (q_X4_expect dC dI (va_A [(rr, .inr (4, [.ref rr_tape, .int rr_bytes, .int rr_fault, .int rr_place, .ref tk, .ref td, .int rr_at, .int rr_knots])), (tk, .inr (7, [.int tk_count, .ref tk_kind, .ref tk_place, .ref tk_worth, .ref tk_language])), (tk_kind, .inl (k_tk_kind, 701, .inl f_tk_kind)), (tk_place, .inl (k_tk_place, 701, .inl f_tk_place))] sz) rr vk rr_tape rr_bytes rr_fault rr_place tk td rr_at rr_knots tk_count tk_kind tk_place tk_worth tk_language k_tk_kind f_tk_kind k_tk_place f_tk_place ge) 0 0 (va_A [(rr, .inr (4, [.ref rr_tape, .int rr_bytes, .int rr_fault, .int rr_place, .ref tk, .ref td, .int rr_at, .int rr_knots])), (tk, .inr (7, [.int tk_count, .ref tk_kind, .ref tk_place, .ref tk_worth, .ref tk_language])), (tk_kind, .inl (k_tk_kind, 701, .inl f_tk_kind)), (tk_place, .inl (k_tk_place, 701, .inl f_tk_place))] sz) := by
  refine Met.ofW (cc := cX4_expect) (maxL := 2) (ret := none) (by decide) rfl ?_
  intro p e s m args below meth c s₁ B hml hv
  obtain ⟨rfl, hsz, hP, hK, hD0⟩ := hv
  have hx := B.exec
  have hb := B.bytes
  have hr := B.returns
  have hts := atoms_spec (ws := (pw_w yX4_expect cX4_expect 2 none)) B.pre
  have hT : ∀ w ∈ pw_T, w.before _ s = true := fun w h => hts w (List.mem_cons_of_mem _ h)
  have hown : s.vm.findClass RX4 = some m.cls := findClass_of_methodNamed B.named
  have hlocks := B.notSynchronized
  subst hsz
  have hD := hD0.self (sz := s.heap.size)
  generalize hAe : va_A [(rr, .inr (4, [.ref rr_tape, .int rr_bytes, .int rr_fault, .int rr_place, .ref tk, .ref td, .int rr_at, .int rr_knots])), (tk, .inr (7, [.int tk_count, .ref tk_kind, .ref tk_place, .ref tk_worth, .ref tk_language])), (tk_kind, .inl (k_tk_kind, 701, .inl f_tk_kind)), (tk_place, .inl (k_tk_place, 701, .inl f_tk_place))] s.heap.size = A at hD ⊢
  have hA : ∀ q : Nat, s.heap.size ≤ q → A q := fun q h => by rw [← hAe]; exact Or.inr h
  have hS : va_S A s.heap s.heap [] := va_S.rf
  have hP : va_P (dC, dI) vwCl [(rr, .inr (4, [.ref rr_tape, .int rr_bytes, .int rr_fault, .int rr_place, .ref tk, .ref td, .int rr_at, .int rr_knots])), (tk, .inr (7, [.int tk_count, .ref tk_kind, .ref tk_place, .ref tk_worth, .ref tk_language])), (tk_kind, .inl (k_tk_kind, 701, .inl f_tk_kind)), (tk_place, .inl (k_tk_place, 701, .inl f_tk_place))] s.heap := hP
  have hl := lv_entry ([.ref rr, .int vk]) (n := 2) (Nat.le_of_ble_eq_true rfl)
  rw [lg_entry_eq]
  generalize (lg_sl ([.ref rr, .int vk]) ++ List.replicate (2 - (lg_sl ([.ref rr, .int vk])).length) Slot.unset).toArray = ls at hl ⊢
  have hl : lv_has ls 2 [(0, .ref rr), (1, .int vk)] := hl
  refine lv_aload_n hx hb dX4_expect_0 rfl (lv_at hl 0 rfl) ?_
  have hPc := hP.sub (ws' := [(rr, .inr (4, [.ref rr_tape, .int rr_bytes, .int rr_fault, .int rr_place, .ref tk, .ref td, .int rr_at, .int rr_knots])), (tk, .inr (7, [.int tk_count, .ref tk_kind, .ref tk_place, .ref tk_worth, .ref tk_language])), (tk_kind, .inl (k_tk_kind, 701, .inl f_tk_kind))]) [0, 1, 2] rfl
  have hDc := hD.sub (ws' := [(rr, .inr (4, [.ref rr_tape, .int rr_bytes, .int rr_fault, .int rr_place, .ref tk, .ref td, .int rr_at, .int rr_knots])), (tk, .inr (7, [.int tk_count, .ref tk_kind, .ref tk_place, .ref tk_worth, .ref tk_language])), (tk_kind, .inl (k_tk_kind, 701, .inl f_tk_kind))]) [0, 1, 2] (by decide) rfl
  have hKc := hK.sub (tys' := [(k_tk_kind, .int)]) [0] rfl
  have hFc := va_free (wc := [(rr, .inr (4, [.ref rr_tape, .int rr_bytes, .int rr_fault, .int rr_place, .ref tk, .ref td, .int rr_at, .int rr_knots])), (tk, .inr (7, [.int tk_count, .ref tk_kind, .ref tk_place, .ref tk_worth, .ref tk_language])), (tk_kind, .inl (k_tk_kind, 701, .inl f_tk_kind))]) hD hS hA [0, 1, 2] rfl
  refine va_calli (va_runV (As := []) (rest := []) ⟨hx, hb, hml, hown, hT⟩ (c_X4_kind l dC dI s.heap.size rr rr_tape rr_bytes rr_fault rr_place tk td rr_at rr_knots tk_count tk_kind tk_place tk_worth tk_language k_tk_kind f_tk_kind (by omega) (by omega) (by omega) (by omega) h_f_tk_kind) (cwV 0 hT (gwV mw_3_124 mw_3_126 mp_1_5 mw_1_2 mw_3_127) rfl rfl rfl (by decide +kernel) ⟨Nat.le_of_ble_eq_true rfl, Nat.le_of_ble_eq_true rfl⟩) ⟨fun a U g mk q => by obtain ⟨q0, q1, qP, qK, qD⟩ := q; exact ⟨q0, q1, qP, va_K.moved (u := U) (U := U.calling g mk a) (Vm.Alike.refl U.vm) qK, qD⟩, va_recv hK hP (ci := 4) (q0 := 0) rfl rfl, fun U hU hW => ⟨rfl, by rw [hU], by rw [hU]; exact hPc, va_K.moved hW.alike hKc, hDc.weaken (fun _ _ _ _ => trivial)⟩⟩ rfl rfl hl.1 rfl (lv_room (Nat.le_of_ble_eq_true rfl)) dX4_expect_1 ⟨Nat.le_of_ble_eq_true rfl, Nat.le_of_ble_eq_true rfl⟩) hS (fun q _ h => hFc q h) hFc (fun r_1 u t H1 locs ht hvm hw hB hz1 hk1 hS => ?_)
  obtain ⟨hP1, hD1⟩ := hB
  rw [ht] at hP1
  obtain ⟨hP, hD⟩ := va_join (wr := [(tk_place, .inl (k_tk_place, 701, .inl f_tk_place))]) (w1 := [(rr, .inr (4, [.ref rr_tape, .int rr_bytes, .int rr_fault, .int rr_place, .ref tk, .ref td, .int rr_at, .int rr_knots])), (tk, .inr (7, [.int tk_count, .ref tk_kind, .ref tk_place, .ref tk_worth, .ref tk_language])), (tk_kind, .inl (k_tk_kind, 701, .inl f_tk_kind))]) hP hD [0, 1, 2] [3] rfl rfl (by decide) (by decide) hk1 hFc hP1 hD1
  generalize H1 = H at hP hS ⊢
  have hP : va_P (dC, dI) vwCl [(tk_place, .inl (k_tk_place, 701, .inl f_tk_place)), (rr, .inr (4, [.ref rr_tape, .int rr_bytes, .int rr_fault, .int rr_place, .ref tk, .ref td, .int rr_at, .int rr_knots])), (tk, .inr (7, [.int tk_count, .ref tk_kind, .ref tk_place, .ref tk_worth, .ref tk_language])), (tk_kind, .inl (k_tk_kind, 701, .inl f_tk_kind))] H := hP
  have hD : va_D A [(tk_place, .inl (k_tk_place, 701, .inl f_tk_place)), (rr, .inr (4, [.ref rr_tape, .int rr_bytes, .int rr_fault, .int rr_place, .ref tk, .ref td, .int rr_at, .int rr_knots])), (tk, .inr (7, [.int tk_count, .ref tk_kind, .ref tk_place, .ref tk_worth, .ref tk_language])), (tk_kind, .inl (k_tk_kind, 701, .inl f_tk_kind))] := hD
  clear hPc hDc hKc hFc hP1 hD1 hk1 hz1 ht hvm
  have hwr_1 : (0 ≤ r_1.toInt ∧ r_1.toInt ≤ 39) ∧ (r_1 = f_tk_kind rr_at.toNatClampNeg) := hw
  clear hw
  refine lv_iload_n hx hb dX4_expect_4 rfl (lv_at hl 1 rfl) ?_
  refine lv_icmp_ne (tgt := 15) hx hb dX4_expect_5 (by decide) (fun c_2 => ?_) (fun c_2 => ?_)
  · have kc_2 := il_ne c_2
    have := Int32.toInt_lt vk; have := Int32.le_toInt vk
    refine lv_aload_n hx hb dX4_expect_15 rfl (lv_at hl 0 rfl) ?_
    refine lv_iconst (v := 1) hx hb dX4_expect_16 (by decide) ?_
    have hPc := hP.sub (ws' := [(rr, .inr (4, [.ref rr_tape, .int rr_bytes, .int rr_fault, .int rr_place, .ref tk, .ref td, .int rr_at, .int rr_knots])), (tk, .inr (7, [.int tk_count, .ref tk_kind, .ref tk_place, .ref tk_worth, .ref tk_language])), (tk_place, .inl (k_tk_place, 701, .inl f_tk_place))]) [1, 2, 0] rfl
    have hDc := hD.sub (ws' := [(rr, .inr (4, [.ref rr_tape, .int rr_bytes, .int rr_fault, .int rr_place, .ref tk, .ref td, .int rr_at, .int rr_knots])), (tk, .inr (7, [.int tk_count, .ref tk_kind, .ref tk_place, .ref tk_worth, .ref tk_language])), (tk_place, .inl (k_tk_place, 701, .inl f_tk_place))]) [1, 2, 0] (by decide) rfl
    have hKc := hK.sub (tys' := [(k_tk_place, .int)]) [1] rfl
    have hFc := va_free (wc := [(rr, .inr (4, [.ref rr_tape, .int rr_bytes, .int rr_fault, .int rr_place, .ref tk, .ref td, .int rr_at, .int rr_knots])), (tk, .inr (7, [.int tk_count, .ref tk_kind, .ref tk_place, .ref tk_worth, .ref tk_language])), (tk_place, .inl (k_tk_place, 701, .inl f_tk_place))]) hD hS hA [1, 2, 0] rfl
    have := (by decide : (1 : Int32).toInt = 1)
    refine va_callv (va_runV (As := [.int 1]) (rest := []) ⟨hx, hb, hml, hown, hT⟩ (c_X4_refuse l dC dI H.size rr (1 : Int32) rr_tape rr_bytes rr_fault rr_place tk td rr_at rr_knots tk_count tk_kind tk_place tk_worth tk_language k_tk_place f_tk_place ge (by omega) (by omega) (by omega) (by omega) (by decide) hce) (cwV 1 hT (gwV mw_3_132 mw_3_134 mp_1_7 mw_1_2 mw_3_135) rfl rfl rfl (by decide +kernel) ⟨Nat.le_of_ble_eq_true rfl, Nat.le_of_ble_eq_true rfl⟩) ⟨fun a U g mk q => by obtain ⟨q0, q1, qP, qK, qD⟩ := q; exact ⟨q0, q1, qP, va_K.moved (u := U) (U := U.calling g mk a) (Vm.Alike.refl U.vm) qK, qD⟩, va_recv hK hP (ci := 4) (q0 := 1) rfl rfl, fun U hU hW => ⟨rfl, by rw [hU], by rw [hU]; exact hPc, va_K.moved hW.alike hKc, hDc.weaken (fun _ _ _ _ => trivial)⟩⟩ rfl rfl hl.1 rfl (lv_room (Nat.le_of_ble_eq_true rfl)) dX4_expect_17 ⟨Nat.le_of_ble_eq_true rfl, Nat.le_of_ble_eq_true rfl⟩) hS (fun q _ h => hFc q h) hFc (fun u t H1 locs ht hvm hw hB hz1 hk1 hS => ?_)
    obtain ⟨x_4, x_5, x_6, hpr_3_0, hpr_3_1, hpr_3_2, hP1, hD1⟩ := hB
    rw [ht] at hP1
    obtain ⟨hP, hD⟩ := va_join (wr := [(tk_kind, .inl (k_tk_kind, 701, .inl f_tk_kind))]) (w1 := [(rr, .inr (4, [.ref rr_tape, .int rr_bytes, .int x_4, .int x_5, .ref tk, .ref td, .int x_6, .int rr_knots])), (tk, .inr (7, [.int tk_count, .ref tk_kind, .ref tk_place, .ref tk_worth, .ref tk_language])), (tk_place, .inl (k_tk_place, 701, .inl f_tk_place))]) hP hD [1, 2, 0] [3] rfl rfl (by decide) (by decide) hk1 hFc hP1 hD1
    generalize H1 = H at hP hS ⊢
    have hP : va_P (dC, dI) vwCl [(tk_kind, .inl (k_tk_kind, 701, .inl f_tk_kind)), (rr, .inr (4, [.ref rr_tape, .int rr_bytes, .int x_4, .int x_5, .ref tk, .ref td, .int x_6, .int rr_knots])), (tk, .inr (7, [.int tk_count, .ref tk_kind, .ref tk_place, .ref tk_worth, .ref tk_language])), (tk_place, .inl (k_tk_place, 701, .inl f_tk_place))] H := hP
    have hD : va_D A [(tk_kind, .inl (k_tk_kind, 701, .inl f_tk_kind)), (rr, .inr (4, [.ref rr_tape, .int rr_bytes, .int x_4, .int x_5, .ref tk, .ref td, .int x_6, .int rr_knots])), (tk, .inr (7, [.int tk_count, .ref tk_kind, .ref tk_place, .ref tk_worth, .ref tk_language])), (tk_place, .inl (k_tk_place, 701, .inl f_tk_place))] := hD
    clear hPc hDc hKc hFc hP1 hD1 hk1 hz1 ht hvm
    clear hw
    have hP9 := hP.sub (ws' := [(rr, .inr (4, [.ref rr_tape, .int rr_bytes, .int x_4, .int x_5, .ref tk, .ref td, .int x_6, .int rr_knots])), (tk, .inr (7, [.int tk_count, .ref tk_kind, .ref tk_place, .ref tk_worth, .ref tk_language])), (tk_kind, .inl (k_tk_kind, 701, .inl f_tk_kind)), (tk_place, .inl (k_tk_place, 701, .inl f_tk_place))]) [1, 2, 0, 3] rfl
    have hD9 := hD.sub (ws' := [(rr, .inr (4, [.ref rr_tape, .int rr_bytes, .int x_4, .int x_5, .ref tk, .ref td, .int x_6, .int rr_knots])), (tk, .inr (7, [.int tk_count, .ref tk_kind, .ref tk_place, .ref tk_worth, .ref tk_language])), (tk_kind, .inl (k_tk_kind, 701, .inl f_tk_kind)), (tk_place, .inl (k_tk_place, 701, .inl f_tk_place))]) [1, 2, 0, 3] (by decide) rfl
    exact W.vret hx hb hr (fun t ht hW => ⟨⟨(), rfl, trivial, x_4, x_5, x_6, (by omega), (fun h => absurd h hpr_3_1), (Or.inr ⟨(by rw [← hwr_1.2]; omega), by have z := hpr_3_2; rw [show ((1 : Int32).toInt) = 1 by decide] at z; exact z⟩), by rw [ht]; exact hP9, hD9⟩, hS.F ht⟩) hS.2.2 dX4_expect_20
  · have kc_2 := il_eq c_2
    have := Int32.toInt_lt vk; have := Int32.le_toInt vk
    refine lv_aload_n hx hb dX4_expect_8 rfl (lv_at hl 0 rfl) ?_
    have hPc := hP.sub (ws' := [(rr, .inr (4, [.ref rr_tape, .int rr_bytes, .int rr_fault, .int rr_place, .ref tk, .ref td, .int rr_at, .int rr_knots])), (tk, .inr (7, [.int tk_count, .ref tk_kind, .ref tk_place, .ref tk_worth, .ref tk_language]))]) [1, 2] rfl
    have hDc := hD.sub (ws' := [(rr, .inr (4, [.ref rr_tape, .int rr_bytes, .int rr_fault, .int rr_place, .ref tk, .ref td, .int rr_at, .int rr_knots])), (tk, .inr (7, [.int tk_count, .ref tk_kind, .ref tk_place, .ref tk_worth, .ref tk_language]))]) [1, 2] (by decide) rfl
    have hKc := hK.sub (tys' := []) [] rfl
    have hFc := va_free (wc := [(rr, .inr (4, [.ref rr_tape, .int rr_bytes, .int rr_fault, .int rr_place, .ref tk, .ref td, .int rr_at, .int rr_knots])), (tk, .inr (7, [.int tk_count, .ref tk_kind, .ref tk_place, .ref tk_worth, .ref tk_language]))]) hD hS hA [1, 2] rfl
    refine va_callv (va_runV (As := []) (rest := []) ⟨hx, hb, hml, hown, hT⟩ (c_X4_step l dC dI H.size rr rr_tape rr_bytes rr_fault rr_place tk td rr_at rr_knots tk_count tk_kind tk_place tk_worth tk_language ge (by omega) (by omega) (by omega) (by omega) hce) (cwV 0 hT (gwV mw_3_136 mw_3_138 mp_1_8 mw_1_2 mw_3_139) rfl rfl rfl (by decide +kernel) ⟨Nat.le_of_ble_eq_true rfl, Nat.le_of_ble_eq_true rfl⟩) ⟨fun a U g mk q => by obtain ⟨q0, q1, qP, qK, qD⟩ := q; exact ⟨q0, q1, qP, va_K.moved (u := U) (U := U.calling g mk a) (Vm.Alike.refl U.vm) qK, qD⟩, va_recv hK hP (ci := 4) (q0 := 1) rfl rfl, fun U hU hW => ⟨rfl, by rw [hU], by rw [hU]; exact hPc, va_K.moved hW.alike hKc, hDc.weaken (fun _ _ _ _ => trivial)⟩⟩ rfl rfl hl.1 rfl (lv_room (Nat.le_of_ble_eq_true rfl)) dX4_expect_9 ⟨Nat.le_of_ble_eq_true rfl, Nat.le_of_ble_eq_true rfl⟩) hS (fun q _ h => hFc q h) hFc (fun u t H1 locs ht hvm hw hB hz1 hk1 hS => ?_)
    obtain ⟨x_8, hpr_7_0, hpr_7_1, hP1, hD1⟩ := hB
    rw [ht] at hP1
    obtain ⟨hP, hD⟩ := va_join (wr := [(tk_place, .inl (k_tk_place, 701, .inl f_tk_place)), (tk_kind, .inl (k_tk_kind, 701, .inl f_tk_kind))]) (w1 := [(rr, .inr (4, [.ref rr_tape, .int rr_bytes, .int rr_fault, .int rr_place, .ref tk, .ref td, .int x_8, .int rr_knots])), (tk, .inr (7, [.int tk_count, .ref tk_kind, .ref tk_place, .ref tk_worth, .ref tk_language]))]) hP hD [1, 2] [0, 3] rfl rfl (by decide) (by decide) hk1 hFc hP1 hD1
    generalize H1 = H at hP hS ⊢
    have hP : va_P (dC, dI) vwCl [(tk_place, .inl (k_tk_place, 701, .inl f_tk_place)), (tk_kind, .inl (k_tk_kind, 701, .inl f_tk_kind)), (rr, .inr (4, [.ref rr_tape, .int rr_bytes, .int rr_fault, .int rr_place, .ref tk, .ref td, .int x_8, .int rr_knots])), (tk, .inr (7, [.int tk_count, .ref tk_kind, .ref tk_place, .ref tk_worth, .ref tk_language]))] H := hP
    have hD : va_D A [(tk_place, .inl (k_tk_place, 701, .inl f_tk_place)), (tk_kind, .inl (k_tk_kind, 701, .inl f_tk_kind)), (rr, .inr (4, [.ref rr_tape, .int rr_bytes, .int rr_fault, .int rr_place, .ref tk, .ref td, .int x_8, .int rr_knots])), (tk, .inr (7, [.int tk_count, .ref tk_kind, .ref tk_place, .ref tk_worth, .ref tk_language]))] := hD
    clear hPc hDc hKc hFc hP1 hD1 hk1 hz1 ht hvm
    clear hw
    refine lv_goto (tgt := 20) hx hb dX4_expect_12 (by decide) ?_
    have hP9 := hP.sub (ws' := [(rr, .inr (4, [.ref rr_tape, .int rr_bytes, .int rr_fault, .int rr_place, .ref tk, .ref td, .int x_8, .int rr_knots])), (tk, .inr (7, [.int tk_count, .ref tk_kind, .ref tk_place, .ref tk_worth, .ref tk_language])), (tk_kind, .inl (k_tk_kind, 701, .inl f_tk_kind)), (tk_place, .inl (k_tk_place, 701, .inl f_tk_place))]) [2, 3, 1, 0] rfl
    have hD9 := hD.sub (ws' := [(rr, .inr (4, [.ref rr_tape, .int rr_bytes, .int rr_fault, .int rr_place, .ref tk, .ref td, .int x_8, .int rr_knots])), (tk, .inr (7, [.int tk_count, .ref tk_kind, .ref tk_place, .ref tk_worth, .ref tk_language])), (tk_kind, .inl (k_tk_kind, 701, .inl f_tk_kind)), (tk_place, .inl (k_tk_place, 701, .inl f_tk_place))]) [2, 3, 1, 0] (by decide) rfl
    exact W.vret hx hb hr (fun t ht hW => ⟨⟨(), rfl, trivial, rr_fault, rr_place, x_8, (by omega), (fun h => h), (Or.inl ⟨(by rw [← hwr_1.2]; omega), rfl, rfl, hpr_7_1⟩), by rw [ht]; exact hP9, hD9⟩, hS.F ht⟩) hS.2.2 dX4_expect_20
abbrev q_X4_takeKnot (dC : Nat → ClassId) (dI : Nat → Nat → Nat) (A : Nat → Prop) (rr : Nat) (rr_tape : Nat) (rr_bytes : Int32) (rr_fault : Int32) (rr_place : Int32) (tk : Nat) (td : Nat) (rr_at : Int32) (rr_knots : Int32) (tk_count : Int32) (tk_kind : Nat) (tk_place : Nat) (tk_worth : Nat) (tk_language : Nat) (k_tk_kind : ClassId) (f_tk_kind : Nat → Int32) (k_tk_place : ClassId) (f_tk_place : Nat → Int32) (ge : Nat) : Array Value → State → Outcome → State → Prop := va_Qv (fun _ : Unit => True) (fun (_ : Unit) (t : State) => ∃ (e_rr_fault : Int32), ∃ (e_rr_place : Int32), ∃ (e_rr_at : Int32), ∃ (e_rr_knots : Int32), (0 ≤ e_rr_at.toInt ∧ e_rr_at.toInt ≤ 700) ∧ (0 ≤ e_rr_knots.toInt ∧ e_rr_knots.toInt ≤ 64) ∧ (FSt e_rr_fault rr_fault) ∧ (TKx f_tk_place ge rr_at rr_fault rr_place rr_knots e_rr_at e_rr_fault e_rr_place e_rr_knots) ∧ va_P (dC, dI) vwCl [(rr, .inr (4, [.ref rr_tape, .int rr_bytes, .int e_rr_fault, .int e_rr_place, .ref tk, .ref td, .int e_rr_at, .int e_rr_knots])), (tk, .inr (7, [.int tk_count, .ref tk_kind, .ref tk_place, .ref tk_worth, .ref tk_language])), (tk_kind, .inl (k_tk_kind, 701, .inl f_tk_kind)), (tk_place, .inl (k_tk_place, 701, .inl f_tk_place))] t.heap ∧ va_D A [(rr, .inr (4, [.ref rr_tape, .int rr_bytes, .int e_rr_fault, .int e_rr_place, .ref tk, .ref td, .int e_rr_at, .int e_rr_knots])), (tk, .inr (7, [.int tk_count, .ref tk_kind, .ref tk_place, .ref tk_worth, .ref tk_language])), (tk_kind, .inl (k_tk_kind, 701, .inl f_tk_kind)), (tk_place, .inl (k_tk_place, 701, .inl f_tk_place))]) A
set_option maxHeartbeats 4000000 in
set_option maxRecDepth 100000 in
theorem c_X4_takeKnot (l : Launch) (dC : Nat → ClassId) (dI : Nat → Nat → Nat) (sz : Nat) (rr : Nat) (rr_tape : Nat) (rr_bytes : Int32) (rr_fault : Int32) (rr_place : Int32) (tk : Nat) (td : Nat) (rr_at : Int32) (rr_knots : Int32) (tk_count : Int32) (tk_kind : Nat) (tk_place : Nat) (tk_worth : Nat) (tk_language : Nat) (k_tk_kind : ClassId) (f_tk_kind : Nat → Int32) (k_tk_place : ClassId) (f_tk_place : Nat → Int32) (ge : Nat) (h_rr_bytes : 0 ≤ rr_bytes.toInt ∧ rr_bytes.toInt ≤ 700) (h_rr_at : 0 ≤ rr_at.toInt ∧ rr_at.toInt ≤ 700) (h_rr_knots : 0 ≤ rr_knots.toInt ∧ rr_knots.toInt ≤ 64) (h_tk_count : 1 ≤ tk_count.toInt ∧ tk_count.toInt ≤ 701) (h_f_tk_kind : Rg f_tk_kind 0 39) (hce : tk_count.toInt = (ge : Int) + 1) : Met l yX4_takeKnot (pw_w yX4_takeKnot cX4_takeKnot 1 none) ({ frames := 1, cells := 0, slots := 0, locals := 21 }) (va_Pc [.ref rr] (fun U => U.heap.size = sz ∧ va_P (dC, dI) vwCl [(rr, .inr (4, [.ref rr_tape, .int rr_bytes, .int rr_fault, .int rr_place, .ref tk, .ref td, .int rr_at, .int rr_knots])), (tk, .inr (7, [.int tk_count, .ref tk_kind, .ref tk_place, .ref tk_worth, .ref tk_language])), (tk_kind, .inl (k_tk_kind, 701, .inl f_tk_kind)), (tk_place, .inl (k_tk_place, 701, .inl f_tk_place))] U.heap ∧ va_K (dC, dI) vwCl [(k_tk_kind, .int), (k_tk_place, .int)] U ∧ va_D (fun _ => True) [(rr, .inr (4, [.ref rr_tape, .int rr_bytes, .int rr_fault, .int rr_place, .ref tk, .ref td, .int rr_at, .int rr_knots])), (tk, .inr (7, [.int tk_count, .ref tk_kind, .ref tk_place, .ref tk_worth, .ref tk_language])), (tk_kind, .inl (k_tk_kind, 701, .inl f_tk_kind)), (tk_place, .inl (k_tk_place, 701, .inl f_tk_place))])) (q_X4_takeKnot dC dI (va_A [(rr, .inr (4, [.ref rr_tape, .int rr_bytes, .int rr_fault, .int rr_place, .ref tk, .ref td, .int rr_at, .int rr_knots])), (tk, .inr (7, [.int tk_count, .ref tk_kind, .ref tk_place, .ref tk_worth, .ref tk_language])), (tk_kind, .inl (k_tk_kind, 701, .inl f_tk_kind)), (tk_place, .inl (k_tk_place, 701, .inl f_tk_place))] sz) rr rr_tape rr_bytes rr_fault rr_place tk td rr_at rr_knots tk_count tk_kind tk_place tk_worth tk_language k_tk_kind f_tk_kind k_tk_place f_tk_place ge) 0 0 (va_A [(rr, .inr (4, [.ref rr_tape, .int rr_bytes, .int rr_fault, .int rr_place, .ref tk, .ref td, .int rr_at, .int rr_knots])), (tk, .inr (7, [.int tk_count, .ref tk_kind, .ref tk_place, .ref tk_worth, .ref tk_language])), (tk_kind, .inl (k_tk_kind, 701, .inl f_tk_kind)), (tk_place, .inl (k_tk_place, 701, .inl f_tk_place))] sz) := by
  refine Met.ofW (cc := cX4_takeKnot) (maxL := 1) (ret := none) (by decide) rfl ?_
  intro p e s m args below meth c s₁ B hml hv
  obtain ⟨rfl, hsz, hP, hK, hD0⟩ := hv
  have hx := B.exec
  have hb := B.bytes
  have hr := B.returns
  have hts := atoms_spec (ws := (pw_w yX4_takeKnot cX4_takeKnot 1 none)) B.pre
  have hT : ∀ w ∈ pw_T, w.before _ s = true := fun w h => hts w (List.mem_cons_of_mem _ h)
  have hown : s.vm.findClass RX4 = some m.cls := findClass_of_methodNamed B.named
  have hlocks := B.notSynchronized
  subst hsz
  have hD := hD0.self (sz := s.heap.size)
  generalize hAe : va_A [(rr, .inr (4, [.ref rr_tape, .int rr_bytes, .int rr_fault, .int rr_place, .ref tk, .ref td, .int rr_at, .int rr_knots])), (tk, .inr (7, [.int tk_count, .ref tk_kind, .ref tk_place, .ref tk_worth, .ref tk_language])), (tk_kind, .inl (k_tk_kind, 701, .inl f_tk_kind)), (tk_place, .inl (k_tk_place, 701, .inl f_tk_place))] s.heap.size = A at hD ⊢
  have hA : ∀ q : Nat, s.heap.size ≤ q → A q := fun q h => by rw [← hAe]; exact Or.inr h
  have hS : va_S A s.heap s.heap [] := va_S.rf
  have hP : va_P (dC, dI) vwCl [(rr, .inr (4, [.ref rr_tape, .int rr_bytes, .int rr_fault, .int rr_place, .ref tk, .ref td, .int rr_at, .int rr_knots])), (tk, .inr (7, [.int tk_count, .ref tk_kind, .ref tk_place, .ref tk_worth, .ref tk_language])), (tk_kind, .inl (k_tk_kind, 701, .inl f_tk_kind)), (tk_place, .inl (k_tk_place, 701, .inl f_tk_place))] s.heap := hP
  have hl := lv_entry ([.ref rr]) (n := 1) (Nat.le_of_ble_eq_true rfl)
  rw [lg_entry_eq]
  generalize (lg_sl ([.ref rr]) ++ List.replicate (1 - (lg_sl ([.ref rr])).length) Slot.unset).toArray = ls at hl ⊢
  have hl : lv_has ls 1 [(0, .ref rr)] := hl
  refine lv_aload_n hx hb dX4_takeKnot_0 rfl (lv_at hl 0 rfl) ?_
  refine va_get (D := (dC, dI)) (ci := 4) (v := .int rr_knots) (C := RX4) (T := TX4) (N := 8) hx hb hT inX4 hown hK hP 0 rfl rfl 7 (by decide) (hT _ mw_1_133) (fun _ h9 => h9) rfl dX4_takeKnot_1 ?_
  refine lv_bipush (v := 64) hx hb dX4_takeKnot_4 (by decide) ?_
  refine lv_icmp_lt (tgt := 17) hx hb dX4_takeKnot_6 (by decide) (fun c_1 => ?_) (fun c_1 => ?_)
  · have kc_1 := il_lt c_1
    have := (by decide : (64 : Int32).toInt = 64)
    refine lv_aload_n hx hb dX4_takeKnot_17 rfl (lv_at hl 0 rfl) ?_
    refine lv_dup hx hb dX4_takeKnot_18 rfl ?_
    refine va_get (D := (dC, dI)) (ci := 4) (v := .int rr_knots) (C := RX4) (T := TX4) (N := 8) hx hb hT inX4 hown hK hP 0 rfl rfl 7 (by decide) (hT _ mw_1_133) (fun _ h9 => h9) rfl dX4_takeKnot_19 ?_
    refine lv_iconst (v := 1) hx hb dX4_takeKnot_22 (by decide) ?_
    refine lv_iadd hx hb dX4_takeKnot_23 ?_
    refine lv_topi (fun z_2 ez_2 => ?_)
    have kz_2 : z_2.toInt = rr_knots.toInt + 1 := ti_add ez_2 rfl (by decide) (by omega) (by omega)
    clear ez_2
    refine va_put (D := (dC, dI)) (ci := 4) (v := .int z_2) (ty := .int) (C := RX4) (T := TX4) (N := 8) hx hb hT inX4 tyX4 tyX4_ok nmX4 hown hK hP hD hS 0 rfl rfl 7 (by decide) (hT _ mw_1_133) (fun _ h9 => h9) rfl (by decide +kernel) rfl rfl (Nat.le_of_ble_eq_true rfl) dX4_takeKnot_24 (fun H locs hP hD hS => ?_)
    have hP : va_P (dC, dI) vwCl [(rr, .inr (4, [.ref rr_tape, .int rr_bytes, .int rr_fault, .int rr_place, .ref tk, .ref td, .int rr_at, .int z_2])), (tk, .inr (7, [.int tk_count, .ref tk_kind, .ref tk_place, .ref tk_worth, .ref tk_language])), (tk_kind, .inl (k_tk_kind, 701, .inl f_tk_kind)), (tk_place, .inl (k_tk_place, 701, .inl f_tk_place))] H := hP
    have hD : va_D A [(rr, .inr (4, [.ref rr_tape, .int rr_bytes, .int rr_fault, .int rr_place, .ref tk, .ref td, .int rr_at, .int z_2])), (tk, .inr (7, [.int tk_count, .ref tk_kind, .ref tk_place, .ref tk_worth, .ref tk_language])), (tk_kind, .inl (k_tk_kind, 701, .inl f_tk_kind)), (tk_place, .inl (k_tk_place, 701, .inl f_tk_place))] := hD
    refine lv_aload_n hx hb dX4_takeKnot_27 rfl (lv_at hl 0 rfl) ?_
    have hPc := hP.sub (ws' := [(rr, .inr (4, [.ref rr_tape, .int rr_bytes, .int rr_fault, .int rr_place, .ref tk, .ref td, .int rr_at, .int z_2])), (tk, .inr (7, [.int tk_count, .ref tk_kind, .ref tk_place, .ref tk_worth, .ref tk_language]))]) [0, 1] rfl
    have hDc := hD.sub (ws' := [(rr, .inr (4, [.ref rr_tape, .int rr_bytes, .int rr_fault, .int rr_place, .ref tk, .ref td, .int rr_at, .int z_2])), (tk, .inr (7, [.int tk_count, .ref tk_kind, .ref tk_place, .ref tk_worth, .ref tk_language]))]) [0, 1] (by decide) rfl
    have hKc := hK.sub (tys' := []) [] rfl
    have hFc := va_free (wc := [(rr, .inr (4, [.ref rr_tape, .int rr_bytes, .int rr_fault, .int rr_place, .ref tk, .ref td, .int rr_at, .int z_2])), (tk, .inr (7, [.int tk_count, .ref tk_kind, .ref tk_place, .ref tk_worth, .ref tk_language]))]) hD hS hA [0, 1] rfl
    refine va_callv (va_runV (As := []) (rest := []) ⟨hx, hb, hml, hown, hT⟩ (c_X4_step l dC dI H.size rr rr_tape rr_bytes rr_fault rr_place tk td rr_at z_2 tk_count tk_kind tk_place tk_worth tk_language ge (by omega) (by omega) (by omega) (by omega) hce) (cwV 0 hT (gwV mw_3_136 mw_3_138 mp_1_8 mw_1_2 mw_3_139) rfl rfl rfl (by decide +kernel) ⟨Nat.le_of_ble_eq_true rfl, Nat.le_of_ble_eq_true rfl⟩) ⟨fun a U g mk q => by obtain ⟨q0, q1, qP, qK, qD⟩ := q; exact ⟨q0, q1, qP, va_K.moved (u := U) (U := U.calling g mk a) (Vm.Alike.refl U.vm) qK, qD⟩, va_recv hK hP (ci := 4) (q0 := 0) rfl rfl, fun U hU hW => ⟨rfl, by rw [hU], by rw [hU]; exact hPc, va_K.moved hW.alike hKc, hDc.weaken (fun _ _ _ _ => trivial)⟩⟩ rfl rfl hl.1 rfl (lv_room (Nat.le_of_ble_eq_true rfl)) dX4_takeKnot_28 ⟨Nat.le_of_ble_eq_true rfl, Nat.le_of_ble_eq_true rfl⟩) hS (fun q _ h => hFc q h) hFc (fun u t H1 locs ht hvm hw hB hz1 hk1 hS => ?_)
    obtain ⟨x_4, hpr_3_0, hpr_3_1, hP1, hD1⟩ := hB
    rw [ht] at hP1
    obtain ⟨hP, hD⟩ := va_join (wr := [(tk_kind, .inl (k_tk_kind, 701, .inl f_tk_kind)), (tk_place, .inl (k_tk_place, 701, .inl f_tk_place))]) (w1 := [(rr, .inr (4, [.ref rr_tape, .int rr_bytes, .int rr_fault, .int rr_place, .ref tk, .ref td, .int x_4, .int z_2])), (tk, .inr (7, [.int tk_count, .ref tk_kind, .ref tk_place, .ref tk_worth, .ref tk_language]))]) hP hD [0, 1] [2, 3] rfl rfl (by decide) (by decide) hk1 hFc hP1 hD1
    generalize H1 = H at hP hS ⊢
    have hP : va_P (dC, dI) vwCl [(tk_kind, .inl (k_tk_kind, 701, .inl f_tk_kind)), (tk_place, .inl (k_tk_place, 701, .inl f_tk_place)), (rr, .inr (4, [.ref rr_tape, .int rr_bytes, .int rr_fault, .int rr_place, .ref tk, .ref td, .int x_4, .int z_2])), (tk, .inr (7, [.int tk_count, .ref tk_kind, .ref tk_place, .ref tk_worth, .ref tk_language]))] H := hP
    have hD : va_D A [(tk_kind, .inl (k_tk_kind, 701, .inl f_tk_kind)), (tk_place, .inl (k_tk_place, 701, .inl f_tk_place)), (rr, .inr (4, [.ref rr_tape, .int rr_bytes, .int rr_fault, .int rr_place, .ref tk, .ref td, .int x_4, .int z_2])), (tk, .inr (7, [.int tk_count, .ref tk_kind, .ref tk_place, .ref tk_worth, .ref tk_language]))] := hD
    clear hPc hDc hKc hFc hP1 hD1 hk1 hz1 ht hvm
    clear hw
    have hP9 := hP.sub (ws' := [(rr, .inr (4, [.ref rr_tape, .int rr_bytes, .int rr_fault, .int rr_place, .ref tk, .ref td, .int x_4, .int z_2])), (tk, .inr (7, [.int tk_count, .ref tk_kind, .ref tk_place, .ref tk_worth, .ref tk_language])), (tk_kind, .inl (k_tk_kind, 701, .inl f_tk_kind)), (tk_place, .inl (k_tk_place, 701, .inl f_tk_place))]) [2, 3, 0, 1] rfl
    have hD9 := hD.sub (ws' := [(rr, .inr (4, [.ref rr_tape, .int rr_bytes, .int rr_fault, .int rr_place, .ref tk, .ref td, .int x_4, .int z_2])), (tk, .inr (7, [.int tk_count, .ref tk_kind, .ref tk_place, .ref tk_worth, .ref tk_language])), (tk_kind, .inl (k_tk_kind, 701, .inl f_tk_kind)), (tk_place, .inl (k_tk_place, 701, .inl f_tk_place))]) [2, 3, 0, 1] (by decide) rfl
    exact W.vret hx hb hr (fun t ht hW => ⟨⟨(), rfl, trivial, rr_fault, rr_place, x_4, z_2, (by omega), (by omega), (fun h => h), (Or.inl ⟨(by omega), (by omega), rfl, rfl, hpr_3_1⟩), by rw [ht]; exact hP9, hD9⟩, hS.F ht⟩) hS.2.2 dX4_takeKnot_31
  · have kc_1 := il_nlt c_1
    have := (by decide : (64 : Int32).toInt = 64)
    refine lv_aload_n hx hb dX4_takeKnot_9 rfl (lv_at hl 0 rfl) ?_
    refine lv_iconst (v := 2) hx hb dX4_takeKnot_10 (by decide) ?_
    have hPc := hP.sub (ws' := [(rr, .inr (4, [.ref rr_tape, .int rr_bytes, .int rr_fault, .int rr_place, .ref tk, .ref td, .int rr_at, .int rr_knots])), (tk, .inr (7, [.int tk_count, .ref tk_kind, .ref tk_place, .ref tk_worth, .ref tk_language])), (tk_place, .inl (k_tk_place, 701, .inl f_tk_place))]) [0, 1, 3] rfl
    have hDc := hD.sub (ws' := [(rr, .inr (4, [.ref rr_tape, .int rr_bytes, .int rr_fault, .int rr_place, .ref tk, .ref td, .int rr_at, .int rr_knots])), (tk, .inr (7, [.int tk_count, .ref tk_kind, .ref tk_place, .ref tk_worth, .ref tk_language])), (tk_place, .inl (k_tk_place, 701, .inl f_tk_place))]) [0, 1, 3] (by decide) rfl
    have hKc := hK.sub (tys' := [(k_tk_place, .int)]) [1] rfl
    have hFc := va_free (wc := [(rr, .inr (4, [.ref rr_tape, .int rr_bytes, .int rr_fault, .int rr_place, .ref tk, .ref td, .int rr_at, .int rr_knots])), (tk, .inr (7, [.int tk_count, .ref tk_kind, .ref tk_place, .ref tk_worth, .ref tk_language])), (tk_place, .inl (k_tk_place, 701, .inl f_tk_place))]) hD hS hA [0, 1, 3] rfl
    have := (by decide : (2 : Int32).toInt = 2)
    refine va_callv (va_runV (As := [.int 2]) (rest := []) ⟨hx, hb, hml, hown, hT⟩ (c_X4_refuse l dC dI s.heap.size rr (2 : Int32) rr_tape rr_bytes rr_fault rr_place tk td rr_at rr_knots tk_count tk_kind tk_place tk_worth tk_language k_tk_place f_tk_place ge (by omega) (by omega) (by omega) (by omega) (by decide) hce) (cwV 1 hT (gwV mw_3_132 mw_3_134 mp_1_7 mw_1_2 mw_3_135) rfl rfl rfl (by decide +kernel) ⟨Nat.le_of_ble_eq_true rfl, Nat.le_of_ble_eq_true rfl⟩) ⟨fun a U g mk q => by obtain ⟨q0, q1, qP, qK, qD⟩ := q; exact ⟨q0, q1, qP, va_K.moved (u := U) (U := U.calling g mk a) (Vm.Alike.refl U.vm) qK, qD⟩, va_recv hK hP (ci := 4) (q0 := 0) rfl rfl, fun U hU hW => ⟨rfl, by rw [hU], by rw [hU]; exact hPc, va_K.moved hW.alike hKc, hDc.weaken (fun _ _ _ _ => trivial)⟩⟩ rfl rfl hl.1 rfl (lv_room (Nat.le_of_ble_eq_true rfl)) dX4_takeKnot_11 ⟨Nat.le_of_ble_eq_true rfl, Nat.le_of_ble_eq_true rfl⟩) hS (fun q _ h => hFc q h) hFc (fun u t H1 locs ht hvm hw hB hz1 hk1 hS => ?_)
    obtain ⟨x_6, x_7, x_8, hpr_5_0, hpr_5_1, hpr_5_2, hP1, hD1⟩ := hB
    rw [ht] at hP1
    obtain ⟨hP, hD⟩ := va_join (wr := [(tk_kind, .inl (k_tk_kind, 701, .inl f_tk_kind))]) (w1 := [(rr, .inr (4, [.ref rr_tape, .int rr_bytes, .int x_6, .int x_7, .ref tk, .ref td, .int x_8, .int rr_knots])), (tk, .inr (7, [.int tk_count, .ref tk_kind, .ref tk_place, .ref tk_worth, .ref tk_language])), (tk_place, .inl (k_tk_place, 701, .inl f_tk_place))]) hP hD [0, 1, 3] [2] rfl rfl (by decide) (by decide) hk1 hFc hP1 hD1
    generalize H1 = H at hP hS ⊢
    have hP : va_P (dC, dI) vwCl [(tk_kind, .inl (k_tk_kind, 701, .inl f_tk_kind)), (rr, .inr (4, [.ref rr_tape, .int rr_bytes, .int x_6, .int x_7, .ref tk, .ref td, .int x_8, .int rr_knots])), (tk, .inr (7, [.int tk_count, .ref tk_kind, .ref tk_place, .ref tk_worth, .ref tk_language])), (tk_place, .inl (k_tk_place, 701, .inl f_tk_place))] H := hP
    have hD : va_D A [(tk_kind, .inl (k_tk_kind, 701, .inl f_tk_kind)), (rr, .inr (4, [.ref rr_tape, .int rr_bytes, .int x_6, .int x_7, .ref tk, .ref td, .int x_8, .int rr_knots])), (tk, .inr (7, [.int tk_count, .ref tk_kind, .ref tk_place, .ref tk_worth, .ref tk_language])), (tk_place, .inl (k_tk_place, 701, .inl f_tk_place))] := hD
    clear hPc hDc hKc hFc hP1 hD1 hk1 hz1 ht hvm
    clear hw
    refine lv_goto (tgt := 31) hx hb dX4_takeKnot_14 (by decide) ?_
    have hP9 := hP.sub (ws' := [(rr, .inr (4, [.ref rr_tape, .int rr_bytes, .int x_6, .int x_7, .ref tk, .ref td, .int x_8, .int rr_knots])), (tk, .inr (7, [.int tk_count, .ref tk_kind, .ref tk_place, .ref tk_worth, .ref tk_language])), (tk_kind, .inl (k_tk_kind, 701, .inl f_tk_kind)), (tk_place, .inl (k_tk_place, 701, .inl f_tk_place))]) [1, 2, 0, 3] rfl
    have hD9 := hD.sub (ws' := [(rr, .inr (4, [.ref rr_tape, .int rr_bytes, .int x_6, .int x_7, .ref tk, .ref td, .int x_8, .int rr_knots])), (tk, .inr (7, [.int tk_count, .ref tk_kind, .ref tk_place, .ref tk_worth, .ref tk_language])), (tk_kind, .inl (k_tk_kind, 701, .inl f_tk_kind)), (tk_place, .inl (k_tk_place, 701, .inl f_tk_place))]) [1, 2, 0, 3] (by decide) rfl
    exact W.vret hx hb hr (fun t ht hW => ⟨⟨(), rfl, trivial, x_6, x_7, x_8, rr_knots, (by omega), (by omega), (fun h => absurd h hpr_5_1), (Or.inr ⟨(by omega), rfl, by have z := hpr_5_2; rw [show ((2 : Int32).toInt) = 2 by decide] at z; exact z⟩), by rw [ht]; exact hP9, hD9⟩, hS.F ht⟩) hS.2.2 dX4_takeKnot_31
