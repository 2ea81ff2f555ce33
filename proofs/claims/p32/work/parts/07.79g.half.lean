theorem dX11_half_0 : decode cX11_half 0 = .ok (.aload_n 0, 1) := by decide +kernel
theorem dX11_half_1 : decode cX11_half 1 = .ok (.arraylength, 1) := by decide +kernel
theorem dX11_half_2 : decode cX11_half 2 = .ok (.iconst 2, 1) := by decide +kernel
theorem dX11_half_4 : decode cX11_half 4 = .ok (.istore_n 1, 1) := by decide +kernel
theorem dX11_half_5 : decode cX11_half 5 = .ok (.iconst 0, 1) := by decide +kernel
theorem dX11_half_6 : decode cX11_half 6 = .ok (.istore_n 2, 1) := by decide +kernel
theorem dX11_half_7 : decode cX11_half 7 = .ok (.iload_n 2, 1) := by decide +kernel
theorem dX11_half_8 : decode cX11_half 8 = .ok (.iload_n 1, 1) := by decide +kernel
theorem dX11_half_12 : decode cX11_half 12 = .ok (.aload_n 0, 1) := by decide +kernel
theorem dX11_half_13 : decode cX11_half 13 = .ok (.iload_n 2, 1) := by decide +kernel
theorem dX11_half_14 : decode cX11_half 14 = .ok (.aload_n 0, 1) := by decide +kernel
theorem dX11_half_15 : decode cX11_half 15 = .ok (.iload_n 1, 1) := by decide +kernel
theorem dX11_half_16 : decode cX11_half 16 = .ok (.iload_n 2, 1) := by decide +kernel
theorem dX11_half_23 : decode cX11_half 23 = .ok (.goto (-16), 3) := by decide +kernel
theorem dX11_half_26 : decode cX11_half 26 = .ok (.return_, 1) := by decide +kernel
theorem dX11_half_3 : decode cX11_half 3 = .ok (.idiv, 1) := by decide +kernel
theorem dX11_half_9 : decode cX11_half 9 = .ok (.if_icmp .ge 17, 3) := by decide +kernel
theorem dX11_half_17 : decode cX11_half 17 = .ok (.iadd, 1) := by decide +kernel
theorem dX11_half_18 : decode cX11_half 18 = .ok (.iaload, 1) := by decide +kernel
theorem dX11_half_19 : decode cX11_half 19 = .ok (.iastore, 1) := by decide +kernel
theorem dX11_half_20 : decode cX11_half 20 = .ok (.iinc 2 1, 3) := by decide +kernel
abbrev q_half_nb (dC : Nat → ClassId) (dI : Nat → Nat → Nat) (A : Nat → Prop) (aa : Nat) (ka : ClassId) (ff : Nat → Int32) : Array Value → State → Outcome → State → Prop := va_Qv (fun _ : Unit => True) (fun (_ : Unit) (t : State) => ∃ (g_aa : Nat → Int32), (NB g_aa) ∧ (HFt g_aa ff 5) ∧ va_P (dC, dI) vwCl [(aa, .inl (ka, 10, .inl g_aa))] t.heap ∧ va_D A [(aa, .inl (ka, 10, .inl g_aa))]) A
set_option maxHeartbeats 4000000 in
set_option maxRecDepth 100000 in
theorem c_half_nb (l : Launch) (dC : Nat → ClassId) (dI : Nat → Nat → Nat) (sz : Nat) (aa : Nat) (ka : ClassId) (ff : Nat → Int32) (h_ff : NB ff) : Met l yX11_half (pw_w yX11_half cX11_half 3 none) ({ frames := 0, cells := 0, slots := 0, locals := 0 }) (va_Pc [.ref aa] (fun U => U.heap.size = sz ∧ va_P (dC, dI) vwCl [(aa, .inl (ka, 10, .inl ff))] U.heap ∧ va_K (dC, dI) vwCl [(ka, .int)] U ∧ va_D (fun _ => True) [(aa, .inl (ka, 10, .inl ff))])) (q_half_nb dC dI (va_A [(aa, .inl (ka, 10, .inl ff))] sz) aa ka ff) 0 0 (va_A [(aa, .inl (ka, 10, .inl ff))] sz) := by
  refine Met.ofW (cc := cX11_half) (maxL := 3) (ret := none) (by decide) rfl ?_
  intro p e s m args below meth c s₁ B hml hv
  obtain ⟨rfl, hsz, hP, hK, hD0⟩ := hv
  have hx := B.exec
  have hb := B.bytes
  have hr := B.returns
  have hts := atoms_spec (ws := (pw_w yX11_half cX11_half 3 none)) B.pre
  have hT : ∀ w ∈ pw_T, w.before _ s = true := fun w h => hts w (List.mem_cons_of_mem _ h)
  have hown : s.vm.findClass RX11 = some m.cls := findClass_of_methodNamed B.named
  have hlocks := B.notSynchronized
  subst hsz
  have hD := hD0.self (sz := s.heap.size)
  generalize hAe : va_A [(aa, .inl (ka, 10, .inl ff))] s.heap.size = A at hD ⊢
  have hA : ∀ q : Nat, s.heap.size ≤ q → A q := fun q h => by rw [← hAe]; exact Or.inr h
  have hS : va_S A s.heap s.heap [] := va_S.rf
  have hP : va_P (dC, dI) vwCl [(aa, .inl (ka, 10, .inl ff))] s.heap := hP
  have hl := lv_entry ([.ref aa]) (n := 3) (Nat.le_of_ble_eq_true rfl)
  rw [lg_entry_eq]
  generalize (lg_sl ([.ref aa]) ++ List.replicate (3 - (lg_sl ([.ref aa])).length) Slot.unset).toArray = ls at hl ⊢
  have hl : lv_has ls 3 [(0, .ref aa)] := hl
  refine lv_aload_n hx hb dX11_half_0 rfl (lv_at hl 0 rfl) ?_
  refine va_alen (v := 10) hx hb hK hP 0 0 rfl rfl (rfl) dX11_half_1 ?_
  refine lv_iconst (v := 2) hx hb dX11_half_2 (by decide) ?_
  refine lv_idiv hx hb dX11_half_3 (by decide) ?_
  refine lv_topi (fun z_1 ez_1 => ?_)
  obtain rfl : z_1 = 5 := ez_1.trans (by decide)
  refine lv_istore_n (lv' := [(1, .int 5), (0, .ref aa)]) hx hb dX11_half_4 rfl hl (by decide) rfl (fun ls hl => ?_)
  refine lv_iconst (v := 0) hx hb dX11_half_5 (by decide) ?_
  refine lv_istore_n (lv' := [(2, .int 0), (1, .int 5), (0, .ref aa)]) hx hb dX11_half_6 rfl hl (by decide) rfl (fun ls hl => ?_)
  have loop_10 : ∀ (fu : Nat), ∀ (g_8_l2 : Int32), ∀ (g_8_f0 : Nat → Int32), (0 ≤ g_8_l2.toInt ∧ g_8_l2.toInt ≤ 5) → (NB g_8_f0) → (HLt g_8_f0 ff 5 g_8_l2) → (5 - g_8_l2.toInt < (fu : Int)) → ∀ (H : Heap) (locs : List Loc), va_P (dC, dI) vwCl [(aa, .inl (ka, 10, .inl g_8_f0))] H → va_D A [(aa, .inl (ka, 10, .inl g_8_f0))] → va_S A s.heap H locs → ∀ (ls : Array Slot), lv_has ls 3 [(2, .int g_8_l2), (1, .int 5), (0, .ref aa)] → W p l e (headSpec (pw_w yX11_half cX11_half 3 none) ({ frames := 0, cells := 0, slots := 0, locals := 0 })).room s m ([.ref aa] : List Value).toArray below meth c H locs 0 0 (MQ below (q_half_nb dC dI A aa ka ff) ([.ref aa] : List Value).toArray s 0 0 A) (F0 m 7 ls []) := by
    intro fu
    induction fu with
    | zero => intro g_8_l2 g_8_f0 hg_8_l2 hg_8_f0 hi_hl_q_9 hfu; exact absurd hfu (by omega)
    | succ fu10 ih10 =>
      intro g_8_l2 g_8_f0 hg_8_l2 hg_8_f0 hi_hl_q_9 hfu10 H locs hP hD hS ls hl
      refine lv_iload_n hx hb dX11_half_7 rfl (lv_at hl 0 rfl) ?_
      refine lv_iload_n hx hb dX11_half_8 rfl (lv_at hl 1 rfl) ?_
      refine lv_icmp_ge (tgt := 26) hx hb dX11_half_9 (by decide) (fun c_11 => ?_) (fun c_11 => ?_)
      · have kc_11 := il_le c_11
        have := (by decide : (5 : Int32).toInt = 5)
        have hP9 := hP.sub (ws' := [(aa, .inl (ka, 10, .inl g_8_f0))]) [0] rfl
        have hD9 := hD.sub (ws' := [(aa, .inl (ka, 10, .inl g_8_f0))]) [0] (by decide) rfl
        exact W.vret hx hb hr (fun t ht hW => ⟨⟨(), rfl, trivial, g_8_f0, hg_8_f0, (HLt_e hi_hl_q_9 (by omega)), by rw [ht]; exact hP9, hD9⟩, hS.F ht⟩) hS.2.2 dX11_half_26
      · have kc_11 := il_nle c_11
        have := (by decide : (5 : Int32).toInt = 5)
        refine lv_aload_n hx hb dX11_half_12 rfl (lv_at hl 2 rfl) ?_
        refine lv_iload_n hx hb dX11_half_13 rfl (lv_at hl 0 rfl) ?_
        refine lv_aload_n hx hb dX11_half_14 rfl (lv_at hl 2 rfl) ?_
        refine lv_iload_n hx hb dX11_half_15 rfl (lv_at hl 1 rfl) ?_
        refine lv_iload_n hx hb dX11_half_16 rfl (lv_at hl 0 rfl) ?_
        refine lv_iadd hx hb dX11_half_17 ?_
        refine lv_topi (fun z_12 ez_12 => ?_)
        have kz_12 : z_12.toInt = 5 + g_8_l2.toInt := ti_add ez_12 (by decide) rfl (by omega) (by omega)
        clear ez_12
        refine va_iald hx hb hK hP 0 0 rfl rfl (vp_in_iff.mpr (by omega)) dX11_half_18 ?_
        refine lv_topi (fun z_13 ez_13 => ?_)
        refine va_iast hx hb hK hP hD hS 0 0 rfl rfl (vp_in_iff.mpr (by omega)) dX11_half_19 (fun H locs hP hD hS => ?_)
        have hP : va_P (dC, dI) vwCl [(aa, .inl (ka, 10, .inl (upd g_8_f0 (g_8_l2 : Int32).toNatClampNeg (z_13 : Int32))))] H := hP
        have hD : va_D A [(aa, .inl (ka, 10, .inl (upd g_8_f0 (g_8_l2 : Int32).toNatClampNeg (z_13 : Int32))))] := hD
        obtain ⟨f_14, ef_14⟩ : ∃ g : Nat → Int32, (upd g_8_f0 (g_8_l2 : Int32).toNatClampNeg (z_13 : Int32)) = g := ⟨_, rfl⟩
        have hf_14 : NB f_14 := NB_h hg_8_f0 (by omega) (by omega) (k := g_8_l2) (by omega) ez_13 ef_14
        rw [ef_14] at hP hD
        obtain ⟨z_15, ez_15⟩ : ∃ y : Int32, y = g_8_l2 + Int32.ofInt (1) := ⟨_, rfl⟩
        have kz_15 : z_15.toInt = g_8_l2.toInt + (1) := ti_add ez_15 rfl (by decide) (by omega) (by omega)
        refine lv_iinc (v := z_15) (lv' := [(2, .int z_15), (1, .int 5), (0, .ref aa)]) hx hb dX11_half_20 hl (k := 0) rfl (ez_15.symm) (by decide) rfl (fun ls hl => ?_)
        clear ez_15
        refine lv_goto (tgt := 7) hx hb dX11_half_23 (by decide) ?_
        exact ih10 z_15 f_14 (by omega) hf_14 (HLt_s hi_hl_q_9 ez_13 (by omega) ef_14 (by omega) (by omega) (by omega)) (by omega) _ _ (hP.sub [0] rfl) (hD.sub [0] (by decide) rfl) hS _ (lv_sub hl [0, 1, 2] rfl)
  have := (by decide : (0 : Int32).toInt = 0)
  exact loop_10 4294967296 (0 : Int32) ff (by decide) h_ff (HLt_0 (by decide)) (by omega) _ _ (hP.sub [0] rfl) (hD.sub [0] (by decide) rfl) hS _ (lv_sub hl [0, 1, 2] rfl)
abbrev q_half_10 (dC : Nat → ClassId) (dI : Nat → Nat → Nat) (A : Nat → Prop) (aa : Nat) (ka : ClassId) (ff : Nat → Int32) : Array Value → State → Outcome → State → Prop := va_Qv (fun _ : Unit => True) (fun (_ : Unit) (t : State) => ∃ (g_aa : Nat → Int32), (HFt g_aa ff 5) ∧ va_P (dC, dI) vwCl [(aa, .inl (ka, 10, .inl g_aa))] t.heap ∧ va_D A [(aa, .inl (ka, 10, .inl g_aa))]) A
set_option maxHeartbeats 4000000 in
set_option maxRecDepth 100000 in
theorem c_half_10 (l : Launch) (dC : Nat → ClassId) (dI : Nat → Nat → Nat) (sz : Nat) (aa : Nat) (ka : ClassId) (ff : Nat → Int32)  : Met l yX11_half (pw_w yX11_half cX11_half 3 none) ({ frames := 0, cells := 0, slots := 0, locals := 0 }) (va_Pc [.ref aa] (fun U => U.heap.size = sz ∧ va_P (dC, dI) vwCl [(aa, .inl (ka, 10, .inl ff))] U.heap ∧ va_K (dC, dI) vwCl [(ka, .int)] U ∧ va_D (fun _ => True) [(aa, .inl (ka, 10, .inl ff))])) (q_half_10 dC dI (va_A [(aa, .inl (ka, 10, .inl ff))] sz) aa ka ff) 0 0 (va_A [(aa, .inl (ka, 10, .inl ff))] sz) := by
  refine Met.ofW (cc := cX11_half) (maxL := 3) (ret := none) (by decide) rfl ?_
  intro p e s m args below meth c s₁ B hml hv
  obtain ⟨rfl, hsz, hP, hK, hD0⟩ := hv
  have hx := B.exec
  have hb := B.bytes
  have hr := B.returns
  have hts := atoms_spec (ws := (pw_w yX11_half cX11_half 3 none)) B.pre
  have hT : ∀ w ∈ pw_T, w.before _ s = true := fun w h => hts w (List.mem_cons_of_mem _ h)
  have hown : s.vm.findClass RX11 = some m.cls := findClass_of_methodNamed B.named
  have hlocks := B.notSynchronized
  subst hsz
  have hD := hD0.self (sz := s.heap.size)
  generalize hAe : va_A [(aa, .inl (ka, 10, .inl ff))] s.heap.size = A at hD ⊢
  have hA : ∀ q : Nat, s.heap.size ≤ q → A q := fun q h => by rw [← hAe]; exact Or.inr h
  have hS : va_S A s.heap s.heap [] := va_S.rf
  have hP : va_P (dC, dI) vwCl [(aa, .inl (ka, 10, .inl ff))] s.heap := hP
  have hl := lv_entry ([.ref aa]) (n := 3) (Nat.le_of_ble_eq_true rfl)
  rw [lg_entry_eq]
  generalize (lg_sl ([.ref aa]) ++ List.replicate (3 - (lg_sl ([.ref aa])).length) Slot.unset).toArray = ls at hl ⊢
  have hl : lv_has ls 3 [(0, .ref aa)] := hl
  refine lv_aload_n hx hb dX11_half_0 rfl (lv_at hl 0 rfl) ?_
  refine va_alen (v := 10) hx hb hK hP 0 0 rfl rfl (rfl) dX11_half_1 ?_
  refine lv_iconst (v := 2) hx hb dX11_half_2 (by decide) ?_
  refine lv_idiv hx hb dX11_half_3 (by decide) ?_
  refine lv_topi (fun z_1 ez_1 => ?_)
  obtain rfl : z_1 = 5 := ez_1.trans (by decide)
  refine lv_istore_n (lv' := [(1, .int 5), (0, .ref aa)]) hx hb dX11_half_4 rfl hl (by decide) rfl (fun ls hl => ?_)
  refine lv_iconst (v := 0) hx hb dX11_half_5 (by decide) ?_
  refine lv_istore_n (lv' := [(2, .int 0), (1, .int 5), (0, .ref aa)]) hx hb dX11_half_6 rfl hl (by decide) rfl (fun ls hl => ?_)
  have loop_10 : ∀ (fu : Nat), ∀ (g_8_l2 : Int32), ∀ (g_8_f0 : Nat → Int32), (0 ≤ g_8_l2.toInt ∧ g_8_l2.toInt ≤ 5) → (HLt g_8_f0 ff 5 g_8_l2) → (5 - g_8_l2.toInt < (fu : Int)) → ∀ (H : Heap) (locs : List Loc), va_P (dC, dI) vwCl [(aa, .inl (ka, 10, .inl g_8_f0))] H → va_D A [(aa, .inl (ka, 10, .inl g_8_f0))] → va_S A s.heap H locs → ∀ (ls : Array Slot), lv_has ls 3 [(2, .int g_8_l2), (1, .int 5), (0, .ref aa)] → W p l e (headSpec (pw_w yX11_half cX11_half 3 none) ({ frames := 0, cells := 0, slots := 0, locals := 0 })).room s m ([.ref aa] : List Value).toArray below meth c H locs 0 0 (MQ below (q_half_10 dC dI A aa ka ff) ([.ref aa] : List Value).toArray s 0 0 A) (F0 m 7 ls []) := by
    intro fu
    induction fu with
    | zero => intro g_8_l2 g_8_f0 hg_8_l2 hi_hl_q_9 hfu; exact absurd hfu (by omega)
    | succ fu10 ih10 =>
      intro g_8_l2 g_8_f0 hg_8_l2 hi_hl_q_9 hfu10 H locs hP hD hS ls hl
      refine lv_iload_n hx hb dX11_half_7 rfl (lv_at hl 0 rfl) ?_
      refine lv_iload_n hx hb dX11_half_8 rfl (lv_at hl 1 rfl) ?_
      refine lv_icmp_ge (tgt := 26) hx hb dX11_half_9 (by decide) (fun c_11 => ?_) (fun c_11 => ?_)
      · have kc_11 := il_le c_11
        have := (by decide : (5 : Int32).toInt = 5)
        have hP9 := hP.sub (ws' := [(aa, .inl (ka, 10, .inl g_8_f0))]) [0] rfl
        have hD9 := hD.sub (ws' := [(aa, .inl (ka, 10, .inl g_8_f0))]) [0] (by decide) rfl
        exact W.vret hx hb hr (fun t ht hW => ⟨⟨(), rfl, trivial, g_8_f0, (HLt_e hi_hl_q_9 (by omega)), by rw [ht]; exact hP9, hD9⟩, hS.F ht⟩) hS.2.2 dX11_half_26
      · have kc_11 := il_nle c_11
        have := (by decide : (5 : Int32).toInt = 5)
        refine lv_aload_n hx hb dX11_half_12 rfl (lv_at hl 2 rfl) ?_
        refine lv_iload_n hx hb dX11_half_13 rfl (lv_at hl 0 rfl) ?_
        refine lv_aload_n hx hb dX11_half_14 rfl (lv_at hl 2 rfl) ?_
        refine lv_iload_n hx hb dX11_half_15 rfl (lv_at hl 1 rfl) ?_
        refine lv_iload_n hx hb dX11_half_16 rfl (lv_at hl 0 rfl) ?_
        refine lv_iadd hx hb dX11_half_17 ?_
        refine lv_topi (fun z_12 ez_12 => ?_)
        have kz_12 : z_12.toInt = 5 + g_8_l2.toInt := ti_add ez_12 (by decide) rfl (by omega) (by omega)
        clear ez_12
        refine va_iald hx hb hK hP 0 0 rfl rfl (vp_in_iff.mpr (by omega)) dX11_half_18 ?_
        refine lv_topi (fun z_13 ez_13 => ?_)
        refine va_iast hx hb hK hP hD hS 0 0 rfl rfl (vp_in_iff.mpr (by omega)) dX11_half_19 (fun H locs hP hD hS => ?_)
        have hP : va_P (dC, dI) vwCl [(aa, .inl (ka, 10, .inl (upd g_8_f0 (g_8_l2 : Int32).toNatClampNeg (z_13 : Int32))))] H := hP
        have hD : va_D A [(aa, .inl (ka, 10, .inl (upd g_8_f0 (g_8_l2 : Int32).toNatClampNeg (z_13 : Int32))))] := hD
        obtain ⟨f_14, ef_14⟩ : ∃ g : Nat → Int32, (upd g_8_f0 (g_8_l2 : Int32).toNatClampNeg (z_13 : Int32)) = g := ⟨_, rfl⟩
        rw [ef_14] at hP hD
        obtain ⟨z_15, ez_15⟩ : ∃ y : Int32, y = g_8_l2 + Int32.ofInt (1) := ⟨_, rfl⟩
        have kz_15 : z_15.toInt = g_8_l2.toInt + (1) := ti_add ez_15 rfl (by decide) (by omega) (by omega)
        refine lv_iinc (v := z_15) (lv' := [(2, .int z_15), (1, .int 5), (0, .ref aa)]) hx hb dX11_half_20 hl (k := 0) rfl (ez_15.symm) (by decide) rfl (fun ls hl => ?_)
        clear ez_15
        refine lv_goto (tgt := 7) hx hb dX11_half_23 (by decide) ?_
        exact ih10 z_15 f_14 (by omega) (HLt_s hi_hl_q_9 ez_13 (by omega) ef_14 (by omega) (by omega) (by omega)) (by omega) _ _ (hP.sub [0] rfl) (hD.sub [0] (by decide) rfl) hS _ (lv_sub hl [0, 1, 2] rfl)
  have := (by decide : (0 : Int32).toInt = 0)
  exact loop_10 4294967296 (0 : Int32) ff (by decide) (HLt_0 (by decide)) (by omega) _ _ (hP.sub [0] rfl) (hD.sub [0] (by decide) rfl) hS _ (lv_sub hl [0, 1, 2] rfl)
abbrev q_half_c (dC : Nat → ClassId) (dI : Nat → Nat → Nat) (A : Nat → Prop) (aa : Nat) (ka : ClassId) (ff : Nat → Int32) : Array Value → State → Outcome → State → Prop := va_Qv (fun _ : Unit => True) (fun (_ : Unit) (t : State) => ∃ (g_aa : Nat → Int32), (Rg g_aa 0 4) ∧ (HFt g_aa ff 5) ∧ va_P (dC, dI) vwCl [(aa, .inl (ka, 10, .inl g_aa))] t.heap ∧ va_D A [(aa, .inl (ka, 10, .inl g_aa))]) A
set_option maxHeartbeats 4000000 in
set_option maxRecDepth 100000 in
theorem c_half_c (l : Launch) (dC : Nat → ClassId) (dI : Nat → Nat → Nat) (sz : Nat) (aa : Nat) (ka : ClassId) (ff : Nat → Int32) (h_ff : Rg ff 0 4) : Met l yX11_half (pw_w yX11_half cX11_half 3 none) ({ frames := 0, cells := 0, slots := 0, locals := 0 }) (va_Pc [.ref aa] (fun U => U.heap.size = sz ∧ va_P (dC, dI) vwCl [(aa, .inl (ka, 10, .inl ff))] U.heap ∧ va_K (dC, dI) vwCl [(ka, .int)] U ∧ va_D (fun _ => True) [(aa, .inl (ka, 10, .inl ff))])) (q_half_c dC dI (va_A [(aa, .inl (ka, 10, .inl ff))] sz) aa ka ff) 0 0 (va_A [(aa, .inl (ka, 10, .inl ff))] sz) := by
  refine Met.ofW (cc := cX11_half) (maxL := 3) (ret := none) (by decide) rfl ?_
  intro p e s m args below meth c s₁ B hml hv
  obtain ⟨rfl, hsz, hP, hK, hD0⟩ := hv
  have hx := B.exec
  have hb := B.bytes
  have hr := B.returns
  have hts := atoms_spec (ws := (pw_w yX11_half cX11_half 3 none)) B.pre
  have hT : ∀ w ∈ pw_T, w.before _ s = true := fun w h => hts w (List.mem_cons_of_mem _ h)
  have hown : s.vm.findClass RX11 = some m.cls := findClass_of_methodNamed B.named
  have hlocks := B.notSynchronized
  subst hsz
  have hD := hD0.self (sz := s.heap.size)
  generalize hAe : va_A [(aa, .inl (ka, 10, .inl ff))] s.heap.size = A at hD ⊢
  have hA : ∀ q : Nat, s.heap.size ≤ q → A q := fun q h => by rw [← hAe]; exact Or.inr h
  have hS : va_S A s.heap s.heap [] := va_S.rf
  have hP : va_P (dC, dI) vwCl [(aa, .inl (ka, 10, .inl ff))] s.heap := hP
  have hl := lv_entry ([.ref aa]) (n := 3) (Nat.le_of_ble_eq_true rfl)
  rw [lg_entry_eq]
  generalize (lg_sl ([.ref aa]) ++ List.replicate (3 - (lg_sl ([.ref aa])).length) Slot.unset).toArray = ls at hl ⊢
  have hl : lv_has ls 3 [(0, .ref aa)] := hl
  refine lv_aload_n hx hb dX11_half_0 rfl (lv_at hl 0 rfl) ?_
  refine va_alen (v := 10) hx hb hK hP 0 0 rfl rfl (rfl) dX11_half_1 ?_
  refine lv_iconst (v := 2) hx hb dX11_half_2 (by decide) ?_
  refine lv_idiv hx hb dX11_half_3 (by decide) ?_
  refine lv_topi (fun z_1 ez_1 => ?_)
  obtain rfl : z_1 = 5 := ez_1.trans (by decide)
  refine lv_istore_n (lv' := [(1, .int 5), (0, .ref aa)]) hx hb dX11_half_4 rfl hl (by decide) rfl (fun ls hl => ?_)
  refine lv_iconst (v := 0) hx hb dX11_half_5 (by decide) ?_
  refine lv_istore_n (lv' := [(2, .int 0), (1, .int 5), (0, .ref aa)]) hx hb dX11_half_6 rfl hl (by decide) rfl (fun ls hl => ?_)
  have loop_10 : ∀ (fu : Nat), ∀ (g_8_l2 : Int32), ∀ (g_8_f0 : Nat → Int32), (0 ≤ g_8_l2.toInt ∧ g_8_l2.toInt ≤ 5) → (Rg g_8_f0 0 4) → (HLt g_8_f0 ff 5 g_8_l2) → (5 - g_8_l2.toInt < (fu : Int)) → ∀ (H : Heap) (locs : List Loc), va_P (dC, dI) vwCl [(aa, .inl (ka, 10, .inl g_8_f0))] H → va_D A [(aa, .inl (ka, 10, .inl g_8_f0))] → va_S A s.heap H locs → ∀ (ls : Array Slot), lv_has ls 3 [(2, .int g_8_l2), (1, .int 5), (0, .ref aa)] → W p l e (headSpec (pw_w yX11_half cX11_half 3 none) ({ frames := 0, cells := 0, slots := 0, locals := 0 })).room s m ([.ref aa] : List Value).toArray below meth c H locs 0 0 (MQ below (q_half_c dC dI A aa ka ff) ([.ref aa] : List Value).toArray s 0 0 A) (F0 m 7 ls []) := by
    intro fu
    induction fu with
    | zero => intro g_8_l2 g_8_f0 hg_8_l2 hg_8_f0 hi_hl_q_9 hfu; exact absurd hfu (by omega)
    | succ fu10 ih10 =>
      intro g_8_l2 g_8_f0 hg_8_l2 hg_8_f0 hi_hl_q_9 hfu10 H locs hP hD hS ls hl
      refine lv_iload_n hx hb dX11_half_7 rfl (lv_at hl 0 rfl) ?_
      refine lv_iload_n hx hb dX11_half_8 rfl (lv_at hl 1 rfl) ?_
      refine lv_icmp_ge (tgt := 26) hx hb dX11_half_9 (by decide) (fun c_11 => ?_) (fun c_11 => ?_)
      · have kc_11 := il_le c_11
        have := (by decide : (5 : Int32).toInt = 5)
        have hP9 := hP.sub (ws' := [(aa, .inl (ka, 10, .inl g_8_f0))]) [0] rfl
        have hD9 := hD.sub (ws' := [(aa, .inl (ka, 10, .inl g_8_f0))]) [0] (by decide) rfl
        exact W.vret hx hb hr (fun t ht hW => ⟨⟨(), rfl, trivial, g_8_f0, hg_8_f0, (HLt_e hi_hl_q_9 (by omega)), by rw [ht]; exact hP9, hD9⟩, hS.F ht⟩) hS.2.2 dX11_half_26
      · have kc_11 := il_nle c_11
        have := (by decide : (5 : Int32).toInt = 5)
        refine lv_aload_n hx hb dX11_half_12 rfl (lv_at hl 2 rfl) ?_
        refine lv_iload_n hx hb dX11_half_13 rfl (lv_at hl 0 rfl) ?_
        refine lv_aload_n hx hb dX11_half_14 rfl (lv_at hl 2 rfl) ?_
        refine lv_iload_n hx hb dX11_half_15 rfl (lv_at hl 1 rfl) ?_
        refine lv_iload_n hx hb dX11_half_16 rfl (lv_at hl 0 rfl) ?_
        refine lv_iadd hx hb dX11_half_17 ?_
        refine lv_topi (fun z_12 ez_12 => ?_)
        have kz_12 : z_12.toInt = 5 + g_8_l2.toInt := ti_add ez_12 (by decide) rfl (by omega) (by omega)
        clear ez_12
        refine va_iald hx hb hK hP 0 0 rfl rfl (vp_in_iff.mpr (by omega)) dX11_half_18 ?_
        refine lv_topi (fun z_13 ez_13 => ?_)
        have kz_13 : 0 ≤ z_13.toInt ∧ z_13.toInt ≤ 4 := by rw [ez_13]; exact hg_8_f0 _
        refine va_iast hx hb hK hP hD hS 0 0 rfl rfl (vp_in_iff.mpr (by omega)) dX11_half_19 (fun H locs hP hD hS => ?_)
        have hP : va_P (dC, dI) vwCl [(aa, .inl (ka, 10, .inl (upd g_8_f0 (g_8_l2 : Int32).toNatClampNeg (z_13 : Int32))))] H := hP
        have hD : va_D A [(aa, .inl (ka, 10, .inl (upd g_8_f0 (g_8_l2 : Int32).toNatClampNeg (z_13 : Int32))))] := hD
        obtain ⟨f_14, hf_14, ef_14⟩ : ∃ g : Nat → Int32, Rg g 0 4 ∧ (upd g_8_f0 (g_8_l2 : Int32).toNatClampNeg (z_13 : Int32)) = g := ⟨_, Rg_upd hg_8_f0 (by omega), rfl⟩
        rw [ef_14] at hP hD
        obtain ⟨z_15, ez_15⟩ : ∃ y : Int32, y = g_8_l2 + Int32.ofInt (1) := ⟨_, rfl⟩
        have kz_15 : z_15.toInt = g_8_l2.toInt + (1) := ti_add ez_15 rfl (by decide) (by omega) (by omega)
        refine lv_iinc (v := z_15) (lv' := [(2, .int z_15), (1, .int 5), (0, .ref aa)]) hx hb dX11_half_20 hl (k := 0) rfl (ez_15.symm) (by decide) rfl (fun ls hl => ?_)
        clear ez_15
        refine lv_goto (tgt := 7) hx hb dX11_half_23 (by decide) ?_
        exact ih10 z_15 f_14 (by omega) hf_14 (HLt_s hi_hl_q_9 ez_13 (by omega) ef_14 (by omega) (by omega) (by omega)) (by omega) _ _ (hP.sub [0] rfl) (hD.sub [0] (by decide) rfl) hS _ (lv_sub hl [0, 1, 2] rfl)
  have := (by decide : (0 : Int32).toInt = 0)
  exact loop_10 4294967296 (0 : Int32) ff (by decide) h_ff (HLt_0 (by decide)) (by omega) _ _ (hP.sub [0] rfl) (hD.sub [0] (by decide) rfl) hS _ (lv_sub hl [0, 1, 2] rfl)
abbrev q_half_r (dC : Nat → ClassId) (dI : Nat → Nat → Nat) (A : Nat → Prop) (aa : Nat) (ka : ClassId) (ff : Nat → Int32) : Array Value → State → Outcome → State → Prop := va_Qv (fun _ : Unit => True) (fun (_ : Unit) (t : State) => ∃ (g_aa : Nat → Int32), (Rg g_aa 0 64) ∧ (HFt g_aa ff 5) ∧ va_P (dC, dI) vwCl [(aa, .inl (ka, 10, .inl g_aa))] t.heap ∧ va_D A [(aa, .inl (ka, 10, .inl g_aa))]) A
set_option maxHeartbeats 4000000 in
set_option maxRecDepth 100000 in
theorem c_half_r (l : Launch) (dC : Nat → ClassId) (dI : Nat → Nat → Nat) (sz : Nat) (aa : Nat) (ka : ClassId) (ff : Nat → Int32) (h_ff : Rg ff 0 64) : Met l yX11_half (pw_w yX11_half cX11_half 3 none) ({ frames := 0, cells := 0, slots := 0, locals := 0 }) (va_Pc [.ref aa] (fun U => U.heap.size = sz ∧ va_P (dC, dI) vwCl [(aa, .inl (ka, 10, .inl ff))] U.heap ∧ va_K (dC, dI) vwCl [(ka, .int)] U ∧ va_D (fun _ => True) [(aa, .inl (ka, 10, .inl ff))])) (q_half_r dC dI (va_A [(aa, .inl (ka, 10, .inl ff))] sz) aa ka ff) 0 0 (va_A [(aa, .inl (ka, 10, .inl ff))] sz) := by
  refine Met.ofW (cc := cX11_half) (maxL := 3) (ret := none) (by decide) rfl ?_
  intro p e s m args below meth c s₁ B hml hv
  obtain ⟨rfl, hsz, hP, hK, hD0⟩ := hv
  have hx := B.exec
  have hb := B.bytes
  have hr := B.returns
  have hts := atoms_spec (ws := (pw_w yX11_half cX11_half 3 none)) B.pre
  have hT : ∀ w ∈ pw_T, w.before _ s = true := fun w h => hts w (List.mem_cons_of_mem _ h)
  have hown : s.vm.findClass RX11 = some m.cls := findClass_of_methodNamed B.named
  have hlocks := B.notSynchronized
  subst hsz
  have hD := hD0.self (sz := s.heap.size)
  generalize hAe : va_A [(aa, .inl (ka, 10, .inl ff))] s.heap.size = A at hD ⊢
  have hA : ∀ q : Nat, s.heap.size ≤ q → A q := fun q h => by rw [← hAe]; exact Or.inr h
  have hS : va_S A s.heap s.heap [] := va_S.rf
  have hP : va_P (dC, dI) vwCl [(aa, .inl (ka, 10, .inl ff))] s.heap := hP
  have hl := lv_entry ([.ref aa]) (n := 3) (Nat.le_of_ble_eq_true rfl)
  rw [lg_entry_eq]
  generalize (lg_sl ([.ref aa]) ++ List.replicate (3 - (lg_sl ([.ref aa])).length) Slot.unset).toArray = ls at hl ⊢
  have hl : lv_has ls 3 [(0, .ref aa)] := hl
  refine lv_aload_n hx hb dX11_half_0 rfl (lv_at hl 0 rfl) ?_
  refine va_alen (v := 10) hx hb hK hP 0 0 rfl rfl (rfl) dX11_half_1 ?_
  refine lv_iconst (v := 2) hx hb dX11_half_2 (by decide) ?_
  refine lv_idiv hx hb dX11_half_3 (by decide) ?_
  refine lv_topi (fun z_1 ez_1 => ?_)
  obtain rfl : z_1 = 5 := ez_1.trans (by decide)
  refine lv_istore_n (lv' := [(1, .int 5), (0, .ref aa)]) hx hb dX11_half_4 rfl hl (by decide) rfl (fun ls hl => ?_)
  refine lv_iconst (v := 0) hx hb dX11_half_5 (by decide) ?_
  refine lv_istore_n (lv' := [(2, .int 0), (1, .int 5), (0, .ref aa)]) hx hb dX11_half_6 rfl hl (by decide) rfl (fun ls hl => ?_)
  have loop_10 : ∀ (fu : Nat), ∀ (g_8_l2 : Int32), ∀ (g_8_f0 : Nat → Int32), (0 ≤ g_8_l2.toInt ∧ g_8_l2.toInt ≤ 5) → (Rg g_8_f0 0 64) → (HLt g_8_f0 ff 5 g_8_l2) → (5 - g_8_l2.toInt < (fu : Int)) → ∀ (H : Heap) (locs : List Loc), va_P (dC, dI) vwCl [(aa, .inl (ka, 10, .inl g_8_f0))] H → va_D A [(aa, .inl (ka, 10, .inl g_8_f0))] → va_S A s.heap H locs → ∀ (ls : Array Slot), lv_has ls 3 [(2, .int g_8_l2), (1, .int 5), (0, .ref aa)] → W p l e (headSpec (pw_w yX11_half cX11_half 3 none) ({ frames := 0, cells := 0, slots := 0, locals := 0 })).room s m ([.ref aa] : List Value).toArray below meth c H locs 0 0 (MQ below (q_half_r dC dI A aa ka ff) ([.ref aa] : List Value).toArray s 0 0 A) (F0 m 7 ls []) := by
    intro fu
    induction fu with
    | zero => intro g_8_l2 g_8_f0 hg_8_l2 hg_8_f0 hi_hl_q_9 hfu; exact absurd hfu (by omega)
    | succ fu10 ih10 =>
      intro g_8_l2 g_8_f0 hg_8_l2 hg_8_f0 hi_hl_q_9 hfu10 H locs hP hD hS ls hl
      refine lv_iload_n hx hb dX11_half_7 rfl (lv_at hl 0 rfl) ?_
      refine lv_iload_n hx hb dX11_half_8 rfl (lv_at hl 1 rfl) ?_
      refine lv_icmp_ge (tgt := 26) hx hb dX11_half_9 (by decide) (fun c_11 => ?_) (fun c_11 => ?_)
      · have kc_11 := il_le c_11
        have := (by decide : (5 : Int32).toInt = 5)
        have hP9 := hP.sub (ws' := [(aa, .inl (ka, 10, .inl g_8_f0))]) [0] rfl
        have hD9 := hD.sub (ws' := [(aa, .inl (ka, 10, .inl g_8_f0))]) [0] (by decide) rfl
        exact W.vret hx hb hr (fun t ht hW => ⟨⟨(), rfl, trivial, g_8_f0, hg_8_f0, (HLt_e hi_hl_q_9 (by omega)), by rw [ht]; exact hP9, hD9⟩, hS.F ht⟩) hS.2.2 dX11_half_26
      · have kc_11 := il_nle c_11
        have := (by decide : (5 : Int32).toInt = 5)
        refine lv_aload_n hx hb dX11_half_12 rfl (lv_at hl 2 rfl) ?_
        refine lv_iload_n hx hb dX11_half_13 rfl (lv_at hl 0 rfl) ?_
        refine lv_aload_n hx hb dX11_half_14 rfl (lv_at hl 2 rfl) ?_
        refine lv_iload_n hx hb dX11_half_15 rfl (lv_at hl 1 rfl) ?_
        refine lv_iload_n hx hb dX11_half_16 rfl (lv_at hl 0 rfl) ?_
        refine lv_iadd hx hb dX11_half_17 ?_
        refine lv_topi (fun z_12 ez_12 => ?_)
        have kz_12 : z_12.toInt = 5 + g_8_l2.toInt := ti_add ez_12 (by decide) rfl (by omega) (by omega)
        clear ez_12
        refine va_iald hx hb hK hP 0 0 rfl rfl (vp_in_iff.mpr (by omega)) dX11_half_18 ?_
        refine lv_topi (fun z_13 ez_13 => ?_)
        have kz_13 : 0 ≤ z_13.toInt ∧ z_13.toInt ≤ 64 := by rw [ez_13]; exact hg_8_f0 _
        refine va_iast hx hb hK hP hD hS 0 0 rfl rfl (vp_in_iff.mpr (by omega)) dX11_half_19 (fun H locs hP hD hS => ?_)
        have hP : va_P (dC, dI) vwCl [(aa, .inl (ka, 10, .inl (upd g_8_f0 (g_8_l2 : Int32).toNatClampNeg (z_13 : Int32))))] H := hP
        have hD : va_D A [(aa, .inl (ka, 10, .inl (upd g_8_f0 (g_8_l2 : Int32).toNatClampNeg (z_13 : Int32))))] := hD
        obtain ⟨f_14, hf_14, ef_14⟩ : ∃ g : Nat → Int32, Rg g 0 64 ∧ (upd g_8_f0 (g_8_l2 : Int32).toNatClampNeg (z_13 : Int32)) = g := ⟨_, Rg_upd hg_8_f0 (by omega), rfl⟩
        rw [ef_14] at hP hD
        obtain ⟨z_15, ez_15⟩ : ∃ y : Int32, y = g_8_l2 + Int32.ofInt (1) := ⟨_, rfl⟩
        have kz_15 : z_15.toInt = g_8_l2.toInt + (1) := ti_add ez_15 rfl (by decide) (by omega) (by omega)
        refine lv_iinc (v := z_15) (lv' := [(2, .int z_15), (1, .int 5), (0, .ref aa)]) hx hb dX11_half_20 hl (k := 0) rfl (ez_15.symm) (by decide) rfl (fun ls hl => ?_)
        clear ez_15
        refine lv_goto (tgt := 7) hx hb dX11_half_23 (by decide) ?_
        exact ih10 z_15 f_14 (by omega) hf_14 (HLt_s hi_hl_q_9 ez_13 (by omega) ef_14 (by omega) (by omega) (by omega)) (by omega) _ _ (hP.sub [0] rfl) (hD.sub [0] (by decide) rfl) hS _ (lv_sub hl [0, 1, 2] rfl)
  have := (by decide : (0 : Int32).toInt = 0)
  exact loop_10 4294967296 (0 : Int32) ff (by decide) h_ff (HLt_0 (by decide)) (by omega) _ _ (hP.sub [0] rfl) (hD.sub [0] (by decide) rfl) hS _ (lv_sub hl [0, 1, 2] rfl)
abbrev q_half_24r (dC : Nat → ClassId) (dI : Nat → Nat → Nat) (A : Nat → Prop) (aa : Nat) (ka : ClassId) (ff : Nat → Int32) : Array Value → State → Outcome → State → Prop := va_Qv (fun _ : Unit => True) (fun (_ : Unit) (t : State) => ∃ (g_aa : Nat → Int32), (Rg g_aa 0 4) ∧ (HFt g_aa ff 12) ∧ va_P (dC, dI) vwCl [(aa, .inl (ka, 24, .inl g_aa))] t.heap ∧ va_D A [(aa, .inl (ka, 24, .inl g_aa))]) A
set_option maxHeartbeats 4000000 in
set_option maxRecDepth 100000 in
theorem c_half_24r (l : Launch) (dC : Nat → ClassId) (dI : Nat → Nat → Nat) (sz : Nat) (aa : Nat) (ka : ClassId) (ff : Nat → Int32) (h_ff : Rg ff 0 4) : Met l yX11_half (pw_w yX11_half cX11_half 3 none) ({ frames := 0, cells := 0, slots := 0, locals := 0 }) (va_Pc [.ref aa] (fun U => U.heap.size = sz ∧ va_P (dC, dI) vwCl [(aa, .inl (ka, 24, .inl ff))] U.heap ∧ va_K (dC, dI) vwCl [(ka, .int)] U ∧ va_D (fun _ => True) [(aa, .inl (ka, 24, .inl ff))])) (q_half_24r dC dI (va_A [(aa, .inl (ka, 24, .inl ff))] sz) aa ka ff) 0 0 (va_A [(aa, .inl (ka, 24, .inl ff))] sz) := by
  refine Met.ofW (cc := cX11_half) (maxL := 3) (ret := none) (by decide) rfl ?_
  intro p e s m args below meth c s₁ B hml hv
  obtain ⟨rfl, hsz, hP, hK, hD0⟩ := hv
  have hx := B.exec
  have hb := B.bytes
  have hr := B.returns
  have hts := atoms_spec (ws := (pw_w yX11_half cX11_half 3 none)) B.pre
  have hT : ∀ w ∈ pw_T, w.before _ s = true := fun w h => hts w (List.mem_cons_of_mem _ h)
  have hown : s.vm.findClass RX11 = some m.cls := findClass_of_methodNamed B.named
  have hlocks := B.notSynchronized
  subst hsz
  have hD := hD0.self (sz := s.heap.size)
  generalize hAe : va_A [(aa, .inl (ka, 24, .inl ff))] s.heap.size = A at hD ⊢
  have hA : ∀ q : Nat, s.heap.size ≤ q → A q := fun q h => by rw [← hAe]; exact Or.inr h
  have hS : va_S A s.heap s.heap [] := va_S.rf
  have hP : va_P (dC, dI) vwCl [(aa, .inl (ka, 24, .inl ff))] s.heap := hP
  have hl := lv_entry ([.ref aa]) (n := 3) (Nat.le_of_ble_eq_true rfl)
  rw [lg_entry_eq]
  generalize (lg_sl ([.ref aa]) ++ List.replicate (3 - (lg_sl ([.ref aa])).length) Slot.unset).toArray = ls at hl ⊢
  have hl : lv_has ls 3 [(0, .ref aa)] := hl
  refine lv_aload_n hx hb dX11_half_0 rfl (lv_at hl 0 rfl) ?_
  refine va_alen (v := 24) hx hb hK hP 0 0 rfl rfl (rfl) dX11_half_1 ?_
  refine lv_iconst (v := 2) hx hb dX11_half_2 (by decide) ?_
  refine lv_idiv hx hb dX11_half_3 (by decide) ?_
  refine lv_topi (fun z_1 ez_1 => ?_)
  obtain rfl : z_1 = 12 := ez_1.trans (by decide)
  refine lv_istore_n (lv' := [(1, .int 12), (0, .ref aa)]) hx hb dX11_half_4 rfl hl (by decide) rfl (fun ls hl => ?_)
  refine lv_iconst (v := 0) hx hb dX11_half_5 (by decide) ?_
  refine lv_istore_n (lv' := [(2, .int 0), (1, .int 12), (0, .ref aa)]) hx hb dX11_half_6 rfl hl (by decide) rfl (fun ls hl => ?_)
  have loop_10 : ∀ (fu : Nat), ∀ (g_8_l2 : Int32), ∀ (g_8_f0 : Nat → Int32), (0 ≤ g_8_l2.toInt ∧ g_8_l2.toInt ≤ 12) → (Rg g_8_f0 0 4) → (HLt g_8_f0 ff 12 g_8_l2) → (12 - g_8_l2.toInt < (fu : Int)) → ∀ (H : Heap) (locs : List Loc), va_P (dC, dI) vwCl [(aa, .inl (ka, 24, .inl g_8_f0))] H → va_D A [(aa, .inl (ka, 24, .inl g_8_f0))] → va_S A s.heap H locs → ∀ (ls : Array Slot), lv_has ls 3 [(2, .int g_8_l2), (1, .int 12), (0, .ref aa)] → W p l e (headSpec (pw_w yX11_half cX11_half 3 none) ({ frames := 0, cells := 0, slots := 0, locals := 0 })).room s m ([.ref aa] : List Value).toArray below meth c H locs 0 0 (MQ below (q_half_24r dC dI A aa ka ff) ([.ref aa] : List Value).toArray s 0 0 A) (F0 m 7 ls []) := by
    intro fu
    induction fu with
    | zero => intro g_8_l2 g_8_f0 hg_8_l2 hg_8_f0 hi_hl_q_9 hfu; exact absurd hfu (by omega)
    | succ fu10 ih10 =>
      intro g_8_l2 g_8_f0 hg_8_l2 hg_8_f0 hi_hl_q_9 hfu10 H locs hP hD hS ls hl
      refine lv_iload_n hx hb dX11_half_7 rfl (lv_at hl 0 rfl) ?_
      refine lv_iload_n hx hb dX11_half_8 rfl (lv_at hl 1 rfl) ?_
      refine lv_icmp_ge (tgt := 26) hx hb dX11_half_9 (by decide) (fun c_11 => ?_) (fun c_11 => ?_)
      · have kc_11 := il_le c_11
        have := (by decide : (12 : Int32).toInt = 12)
        have hP9 := hP.sub (ws' := [(aa, .inl (ka, 24, .inl g_8_f0))]) [0] rfl
        have hD9 := hD.sub (ws' := [(aa, .inl (ka, 24, .inl g_8_f0))]) [0] (by decide) rfl
        exact W.vret hx hb hr (fun t ht hW => ⟨⟨(), rfl, trivial, g_8_f0, hg_8_f0, (HLt_e hi_hl_q_9 (by omega)), by rw [ht]; exact hP9, hD9⟩, hS.F ht⟩) hS.2.2 dX11_half_26
      · have kc_11 := il_nle c_11
        have := (by decide : (12 : Int32).toInt = 12)
        refine lv_aload_n hx hb dX11_half_12 rfl (lv_at hl 2 rfl) ?_
        refine lv_iload_n hx hb dX11_half_13 rfl (lv_at hl 0 rfl) ?_
        refine lv_aload_n hx hb dX11_half_14 rfl (lv_at hl 2 rfl) ?_
        refine lv_iload_n hx hb dX11_half_15 rfl (lv_at hl 1 rfl) ?_
        refine lv_iload_n hx hb dX11_half_16 rfl (lv_at hl 0 rfl) ?_
        refine lv_iadd hx hb dX11_half_17 ?_
        refine lv_topi (fun z_12 ez_12 => ?_)
        have kz_12 : z_12.toInt = 12 + g_8_l2.toInt := ti_add ez_12 (by decide) rfl (by omega) (by omega)
        clear ez_12
        refine va_iald hx hb hK hP 0 0 rfl rfl (vp_in_iff.mpr (by omega)) dX11_half_18 ?_
        refine lv_topi (fun z_13 ez_13 => ?_)
        have kz_13 : 0 ≤ z_13.toInt ∧ z_13.toInt ≤ 4 := by rw [ez_13]; exact hg_8_f0 _
        refine va_iast hx hb hK hP hD hS 0 0 rfl rfl (vp_in_iff.mpr (by omega)) dX11_half_19 (fun H locs hP hD hS => ?_)
        have hP : va_P (dC, dI) vwCl [(aa, .inl (ka, 24, .inl (upd g_8_f0 (g_8_l2 : Int32).toNatClampNeg (z_13 : Int32))))] H := hP
        have hD : va_D A [(aa, .inl (ka, 24, .inl (upd g_8_f0 (g_8_l2 : Int32).toNatClampNeg (z_13 : Int32))))] := hD
        obtain ⟨f_14, hf_14, ef_14⟩ : ∃ g : Nat → Int32, Rg g 0 4 ∧ (upd g_8_f0 (g_8_l2 : Int32).toNatClampNeg (z_13 : Int32)) = g := ⟨_, Rg_upd hg_8_f0 (by omega), rfl⟩
        rw [ef_14] at hP hD
        obtain ⟨z_15, ez_15⟩ : ∃ y : Int32, y = g_8_l2 + Int32.ofInt (1) := ⟨_, rfl⟩
        have kz_15 : z_15.toInt = g_8_l2.toInt + (1) := ti_add ez_15 rfl (by decide) (by omega) (by omega)
        refine lv_iinc (v := z_15) (lv' := [(2, .int z_15), (1, .int 12), (0, .ref aa)]) hx hb dX11_half_20 hl (k := 0) rfl (ez_15.symm) (by decide) rfl (fun ls hl => ?_)
        clear ez_15
        refine lv_goto (tgt := 7) hx hb dX11_half_23 (by decide) ?_
        exact ih10 z_15 f_14 (by omega) hf_14 (HLt_s hi_hl_q_9 ez_13 (by omega) ef_14 (by omega) (by omega) (by omega)) (by omega) _ _ (hP.sub [0] rfl) (hD.sub [0] (by decide) rfl) hS _ (lv_sub hl [0, 1, 2] rfl)
  have := (by decide : (0 : Int32).toInt = 0)
  exact loop_10 4294967296 (0 : Int32) ff (by decide) h_ff (HLt_0 (by decide)) (by omega) _ _ (hP.sub [0] rfl) (hD.sub [0] (by decide) rfl) hS _ (lv_sub hl [0, 1, 2] rfl)
abbrev q_half_24 (dC : Nat → ClassId) (dI : Nat → Nat → Nat) (A : Nat → Prop) (aa : Nat) (ka : ClassId) (ff : Nat → Int32) : Array Value → State → Outcome → State → Prop := va_Qv (fun _ : Unit => True) (fun (_ : Unit) (t : State) => ∃ (g_aa : Nat → Int32), (HFt g_aa ff 12) ∧ va_P (dC, dI) vwCl [(aa, .inl (ka, 24, .inl g_aa))] t.heap ∧ va_D A [(aa, .inl (ka, 24, .inl g_aa))]) A
set_option maxHeartbeats 4000000 in
set_option maxRecDepth 100000 in
theorem c_half_24 (l : Launch) (dC : Nat → ClassId) (dI : Nat → Nat → Nat) (sz : Nat) (aa : Nat) (ka : ClassId) (ff : Nat → Int32)  : Met l yX11_half (pw_w yX11_half cX11_half 3 none) ({ frames := 0, cells := 0, slots := 0, locals := 0 }) (va_Pc [.ref aa] (fun U => U.heap.size = sz ∧ va_P (dC, dI) vwCl [(aa, .inl (ka, 24, .inl ff))] U.heap ∧ va_K (dC, dI) vwCl [(ka, .int)] U ∧ va_D (fun _ => True) [(aa, .inl (ka, 24, .inl ff))])) (q_half_24 dC dI (va_A [(aa, .inl (ka, 24, .inl ff))] sz) aa ka ff) 0 0 (va_A [(aa, .inl (ka, 24, .inl ff))] sz) := by
  refine Met.ofW (cc := cX11_half) (maxL := 3) (ret := none) (by decide) rfl ?_
  intro p e s m args below meth c s₁ B hml hv
  obtain ⟨rfl, hsz, hP, hK, hD0⟩ := hv
  have hx := B.exec
  have hb := B.bytes
  have hr := B.returns
  have hts := atoms_spec (ws := (pw_w yX11_half cX11_half 3 none)) B.pre
  have hT : ∀ w ∈ pw_T, w.before _ s = true := fun w h => hts w (List.mem_cons_of_mem _ h)
  have hown : s.vm.findClass RX11 = some m.cls := findClass_of_methodNamed B.named
  have hlocks := B.notSynchronized
  subst hsz
  have hD := hD0.self (sz := s.heap.size)
  generalize hAe : va_A [(aa, .inl (ka, 24, .inl ff))] s.heap.size = A at hD ⊢
  have hA : ∀ q : Nat, s.heap.size ≤ q → A q := fun q h => by rw [← hAe]; exact Or.inr h
  have hS : va_S A s.heap s.heap [] := va_S.rf
  have hP : va_P (dC, dI) vwCl [(aa, .inl (ka, 24, .inl ff))] s.heap := hP
  have hl := lv_entry ([.ref aa]) (n := 3) (Nat.le_of_ble_eq_true rfl)
  rw [lg_entry_eq]
  generalize (lg_sl ([.ref aa]) ++ List.replicate (3 - (lg_sl ([.ref aa])).length) Slot.unset).toArray = ls at hl ⊢
  have hl : lv_has ls 3 [(0, .ref aa)] := hl
  refine lv_aload_n hx hb dX11_half_0 rfl (lv_at hl 0 rfl) ?_
  refine va_alen (v := 24) hx hb hK hP 0 0 rfl rfl (rfl) dX11_half_1 ?_
  refine lv_iconst (v := 2) hx hb dX11_half_2 (by decide) ?_
  refine lv_idiv hx hb dX11_half_3 (by decide) ?_
  refine lv_topi (fun z_1 ez_1 => ?_)
  obtain rfl : z_1 = 12 := ez_1.trans (by decide)
  refine lv_istore_n (lv' := [(1, .int 12), (0, .ref aa)]) hx hb dX11_half_4 rfl hl (by decide) rfl (fun ls hl => ?_)
  refine lv_iconst (v := 0) hx hb dX11_half_5 (by decide) ?_
  refine lv_istore_n (lv' := [(2, .int 0), (1, .int 12), (0, .ref aa)]) hx hb dX11_half_6 rfl hl (by decide) rfl (fun ls hl => ?_)
  have loop_10 : ∀ (fu : Nat), ∀ (g_8_l2 : Int32), ∀ (g_8_f0 : Nat → Int32), (0 ≤ g_8_l2.toInt ∧ g_8_l2.toInt ≤ 12) → (HLt g_8_f0 ff 12 g_8_l2) → (12 - g_8_l2.toInt < (fu : Int)) → ∀ (H : Heap) (locs : List Loc), va_P (dC, dI) vwCl [(aa, .inl (ka, 24, .inl g_8_f0))] H → va_D A [(aa, .inl (ka, 24, .inl g_8_f0))] → va_S A s.heap H locs → ∀ (ls : Array Slot), lv_has ls 3 [(2, .int g_8_l2), (1, .int 12), (0, .ref aa)] → W p l e (headSpec (pw_w yX11_half cX11_half 3 none) ({ frames := 0, cells := 0, slots := 0, locals := 0 })).room s m ([.ref aa] : List Value).toArray below meth c H locs 0 0 (MQ below (q_half_24 dC dI A aa ka ff) ([.ref aa] : List Value).toArray s 0 0 A) (F0 m 7 ls []) := by
    intro fu
    induction fu with
    | zero => intro g_8_l2 g_8_f0 hg_8_l2 hi_hl_q_9 hfu; exact absurd hfu (by omega)
    | succ fu10 ih10 =>
      intro g_8_l2 g_8_f0 hg_8_l2 hi_hl_q_9 hfu10 H locs hP hD hS ls hl
      refine lv_iload_n hx hb dX11_half_7 rfl (lv_at hl 0 rfl) ?_
      refine lv_iload_n hx hb dX11_half_8 rfl (lv_at hl 1 rfl) ?_
      refine lv_icmp_ge (tgt := 26) hx hb dX11_half_9 (by decide) (fun c_11 => ?_) (fun c_11 => ?_)
      · have kc_11 := il_le c_11
        have := (by decide : (12 : Int32).toInt = 12)
        have hP9 := hP.sub (ws' := [(aa, .inl (ka, 24, .inl g_8_f0))]) [0] rfl
        have hD9 := hD.sub (ws' := [(aa, .inl (ka, 24, .inl g_8_f0))]) [0] (by decide) rfl
        exact W.vret hx hb hr (fun t ht hW => ⟨⟨(), rfl, trivial, g_8_f0, (HLt_e hi_hl_q_9 (by omega)), by rw [ht]; exact hP9, hD9⟩, hS.F ht⟩) hS.2.2 dX11_half_26
      · have kc_11 := il_nle c_11
        have := (by decide : (12 : Int32).toInt = 12)
        refine lv_aload_n hx hb dX11_half_12 rfl (lv_at hl 2 rfl) ?_
        refine lv_iload_n hx hb dX11_half_13 rfl (lv_at hl 0 rfl) ?_
        refine lv_aload_n hx hb dX11_half_14 rfl (lv_at hl 2 rfl) ?_
        refine lv_iload_n hx hb dX11_half_15 rfl (lv_at hl 1 rfl) ?_
        refine lv_iload_n hx hb dX11_half_16 rfl (lv_at hl 0 rfl) ?_
        refine lv_iadd hx hb dX11_half_17 ?_
        refine lv_topi (fun z_12 ez_12 => ?_)
        have kz_12 : z_12.toInt = 12 + g_8_l2.toInt := ti_add ez_12 (by decide) rfl (by omega) (by omega)
        clear ez_12
        refine va_iald hx hb hK hP 0 0 rfl rfl (vp_in_iff.mpr (by omega)) dX11_half_18 ?_
        refine lv_topi (fun z_13 ez_13 => ?_)
        refine va_iast hx hb hK hP hD hS 0 0 rfl rfl (vp_in_iff.mpr (by omega)) dX11_half_19 (fun H locs hP hD hS => ?_)
        have hP : va_P (dC, dI) vwCl [(aa, .inl (ka, 24, .inl (upd g_8_f0 (g_8_l2 : Int32).toNatClampNeg (z_13 : Int32))))] H := hP
        have hD : va_D A [(aa, .inl (ka, 24, .inl (upd g_8_f0 (g_8_l2 : Int32).toNatClampNeg (z_13 : Int32))))] := hD
        obtain ⟨f_14, ef_14⟩ : ∃ g : Nat → Int32, (upd g_8_f0 (g_8_l2 : Int32).toNatClampNeg (z_13 : Int32)) = g := ⟨_, rfl⟩
        rw [ef_14] at hP hD
        obtain ⟨z_15, ez_15⟩ : ∃ y : Int32, y = g_8_l2 + Int32.ofInt (1) := ⟨_, rfl⟩
        have kz_15 : z_15.toInt = g_8_l2.toInt + (1) := ti_add ez_15 rfl (by decide) (by omega) (by omega)
        refine lv_iinc (v := z_15) (lv' := [(2, .int z_15), (1, .int 12), (0, .ref aa)]) hx hb dX11_half_20 hl (k := 0) rfl (ez_15.symm) (by decide) rfl (fun ls hl => ?_)
        clear ez_15
        refine lv_goto (tgt := 7) hx hb dX11_half_23 (by decide) ?_
        exact ih10 z_15 f_14 (by omega) (HLt_s hi_hl_q_9 ez_13 (by omega) ef_14 (by omega) (by omega) (by omega)) (by omega) _ _ (hP.sub [0] rfl) (hD.sub [0] (by decide) rfl) hS _ (lv_sub hl [0, 1, 2] rfl)
  have := (by decide : (0 : Int32).toInt = 0)
  exact loop_10 4294967296 (0 : Int32) ff (by decide) (HLt_0 (by decide)) (by omega) _ _ (hP.sub [0] rfl) (hD.sub [0] (by decide) rfl) hS _ (lv_sub hl [0, 1, 2] rfl)
abbrev q_half_6 (dC : Nat → ClassId) (dI : Nat → Nat → Nat) (A : Nat → Prop) (aa : Nat) (ka : ClassId) (ff : Nat → Int32) : Array Value → State → Outcome → State → Prop := va_Qv (fun _ : Unit => True) (fun (_ : Unit) (t : State) => ∃ (g_aa : Nat → Int32), (HFt g_aa ff 3) ∧ va_P (dC, dI) vwCl [(aa, .inl (ka, 6, .inl g_aa))] t.heap ∧ va_D A [(aa, .inl (ka, 6, .inl g_aa))]) A
set_option maxHeartbeats 4000000 in
set_option maxRecDepth 100000 in
theorem c_half_6 (l : Launch) (dC : Nat → ClassId) (dI : Nat → Nat → Nat) (sz : Nat) (aa : Nat) (ka : ClassId) (ff : Nat → Int32)  : Met l yX11_half (pw_w yX11_half cX11_half 3 none) ({ frames := 0, cells := 0, slots := 0, locals := 0 }) (va_Pc [.ref aa] (fun U => U.heap.size = sz ∧ va_P (dC, dI) vwCl [(aa, .inl (ka, 6, .inl ff))] U.heap ∧ va_K (dC, dI) vwCl [(ka, .int)] U ∧ va_D (fun _ => True) [(aa, .inl (ka, 6, .inl ff))])) (q_half_6 dC dI (va_A [(aa, .inl (ka, 6, .inl ff))] sz) aa ka ff) 0 0 (va_A [(aa, .inl (ka, 6, .inl ff))] sz) := by
  refine Met.ofW (cc := cX11_half) (maxL := 3) (ret := none) (by decide) rfl ?_
  intro p e s m args below meth c s₁ B hml hv
  obtain ⟨rfl, hsz, hP, hK, hD0⟩ := hv
  have hx := B.exec
  have hb := B.bytes
  have hr := B.returns
  have hts := atoms_spec (ws := (pw_w yX11_half cX11_half 3 none)) B.pre
  have hT : ∀ w ∈ pw_T, w.before _ s = true := fun w h => hts w (List.mem_cons_of_mem _ h)
  have hown : s.vm.findClass RX11 = some m.cls := findClass_of_methodNamed B.named
  have hlocks := B.notSynchronized
  subst hsz
  have hD := hD0.self (sz := s.heap.size)
  generalize hAe : va_A [(aa, .inl (ka, 6, .inl ff))] s.heap.size = A at hD ⊢
  have hA : ∀ q : Nat, s.heap.size ≤ q → A q := fun q h => by rw [← hAe]; exact Or.inr h
  have hS : va_S A s.heap s.heap [] := va_S.rf
  have hP : va_P (dC, dI) vwCl [(aa, .inl (ka, 6, .inl ff))] s.heap := hP
  have hl := lv_entry ([.ref aa]) (n := 3) (Nat.le_of_ble_eq_true rfl)
  rw [lg_entry_eq]
  generalize (lg_sl ([.ref aa]) ++ List.replicate (3 - (lg_sl ([.ref aa])).length) Slot.unset).toArray = ls at hl ⊢
  have hl : lv_has ls 3 [(0, .ref aa)] := hl
  refine lv_aload_n hx hb dX11_half_0 rfl (lv_at hl 0 rfl) ?_
  refine va_alen (v := 6) hx hb hK hP 0 0 rfl rfl (rfl) dX11_half_1 ?_
  refine lv_iconst (v := 2) hx hb dX11_half_2 (by decide) ?_
  refine lv_idiv hx hb dX11_half_3 (by decide) ?_
  refine lv_topi (fun z_1 ez_1 => ?_)
  obtain rfl : z_1 = 3 := ez_1.trans (by decide)
  refine lv_istore_n (lv' := [(1, .int 3), (0, .ref aa)]) hx hb dX11_half_4 rfl hl (by decide) rfl (fun ls hl => ?_)
  refine lv_iconst (v := 0) hx hb dX11_half_5 (by decide) ?_
  refine lv_istore_n (lv' := [(2, .int 0), (1, .int 3), (0, .ref aa)]) hx hb dX11_half_6 rfl hl (by decide) rfl (fun ls hl => ?_)
  have loop_10 : ∀ (fu : Nat), ∀ (g_8_l2 : Int32), ∀ (g_8_f0 : Nat → Int32), (0 ≤ g_8_l2.toInt ∧ g_8_l2.toInt ≤ 3) → (HLt g_8_f0 ff 3 g_8_l2) → (3 - g_8_l2.toInt < (fu : Int)) → ∀ (H : Heap) (locs : List Loc), va_P (dC, dI) vwCl [(aa, .inl (ka, 6, .inl g_8_f0))] H → va_D A [(aa, .inl (ka, 6, .inl g_8_f0))] → va_S A s.heap H locs → ∀ (ls : Array Slot), lv_has ls 3 [(2, .int g_8_l2), (1, .int 3), (0, .ref aa)] → W p l e (headSpec (pw_w yX11_half cX11_half 3 none) ({ frames := 0, cells := 0, slots := 0, locals := 0 })).room s m ([.ref aa] : List Value).toArray below meth c H locs 0 0 (MQ below (q_half_6 dC dI A aa ka ff) ([.ref aa] : List Value).toArray s 0 0 A) (F0 m 7 ls []) := by
    intro fu
    induction fu with
    | zero => intro g_8_l2 g_8_f0 hg_8_l2 hi_hl_q_9 hfu; exact absurd hfu (by omega)
    | succ fu10 ih10 =>
      intro g_8_l2 g_8_f0 hg_8_l2 hi_hl_q_9 hfu10 H locs hP hD hS ls hl
      refine lv_iload_n hx hb dX11_half_7 rfl (lv_at hl 0 rfl) ?_
      refine lv_iload_n hx hb dX11_half_8 rfl (lv_at hl 1 rfl) ?_
      refine lv_icmp_ge (tgt := 26) hx hb dX11_half_9 (by decide) (fun c_11 => ?_) (fun c_11 => ?_)
      · have kc_11 := il_le c_11
        have := (by decide : (3 : Int32).toInt = 3)
        have hP9 := hP.sub (ws' := [(aa, .inl (ka, 6, .inl g_8_f0))]) [0] rfl
        have hD9 := hD.sub (ws' := [(aa, .inl (ka, 6, .inl g_8_f0))]) [0] (by decide) rfl
        exact W.vret hx hb hr (fun t ht hW => ⟨⟨(), rfl, trivial, g_8_f0, (HLt_e hi_hl_q_9 (by omega)), by rw [ht]; exact hP9, hD9⟩, hS.F ht⟩) hS.2.2 dX11_half_26
      · have kc_11 := il_nle c_11
        have := (by decide : (3 : Int32).toInt = 3)
        refine lv_aload_n hx hb dX11_half_12 rfl (lv_at hl 2 rfl) ?_
        refine lv_iload_n hx hb dX11_half_13 rfl (lv_at hl 0 rfl) ?_
        refine lv_aload_n hx hb dX11_half_14 rfl (lv_at hl 2 rfl) ?_
        refine lv_iload_n hx hb dX11_half_15 rfl (lv_at hl 1 rfl) ?_
        refine lv_iload_n hx hb dX11_half_16 rfl (lv_at hl 0 rfl) ?_
        refine lv_iadd hx hb dX11_half_17 ?_
        refine lv_topi (fun z_12 ez_12 => ?_)
        have kz_12 : z_12.toInt = 3 + g_8_l2.toInt := ti_add ez_12 (by decide) rfl (by omega) (by omega)
        clear ez_12
        refine va_iald hx hb hK hP 0 0 rfl rfl (vp_in_iff.mpr (by omega)) dX11_half_18 ?_
        refine lv_topi (fun z_13 ez_13 => ?_)
        refine va_iast hx hb hK hP hD hS 0 0 rfl rfl (vp_in_iff.mpr (by omega)) dX11_half_19 (fun H locs hP hD hS => ?_)
        have hP : va_P (dC, dI) vwCl [(aa, .inl (ka, 6, .inl (upd g_8_f0 (g_8_l2 : Int32).toNatClampNeg (z_13 : Int32))))] H := hP
        have hD : va_D A [(aa, .inl (ka, 6, .inl (upd g_8_f0 (g_8_l2 : Int32).toNatClampNeg (z_13 : Int32))))] := hD
        obtain ⟨f_14, ef_14⟩ : ∃ g : Nat → Int32, (upd g_8_f0 (g_8_l2 : Int32).toNatClampNeg (z_13 : Int32)) = g := ⟨_, rfl⟩
        rw [ef_14] at hP hD
        obtain ⟨z_15, ez_15⟩ : ∃ y : Int32, y = g_8_l2 + Int32.ofInt (1) := ⟨_, rfl⟩
        have kz_15 : z_15.toInt = g_8_l2.toInt + (1) := ti_add ez_15 rfl (by decide) (by omega) (by omega)
        refine lv_iinc (v := z_15) (lv' := [(2, .int z_15), (1, .int 3), (0, .ref aa)]) hx hb dX11_half_20 hl (k := 0) rfl (ez_15.symm) (by decide) rfl (fun ls hl => ?_)
        clear ez_15
        refine lv_goto (tgt := 7) hx hb dX11_half_23 (by decide) ?_
        exact ih10 z_15 f_14 (by omega) (HLt_s hi_hl_q_9 ez_13 (by omega) ef_14 (by omega) (by omega) (by omega)) (by omega) _ _ (hP.sub [0] rfl) (hD.sub [0] (by decide) rfl) hS _ (lv_sub hl [0, 1, 2] rfl)
  have := (by decide : (0 : Int32).toInt = 0)
  exact loop_10 4294967296 (0 : Int32) ff (by decide) (HLt_0 (by decide)) (by omega) _ _ (hP.sub [0] rfl) (hD.sub [0] (by decide) rfl) hS _ (lv_sub hl [0, 1, 2] rfl)
abbrev q_half_128 (dC : Nat → ClassId) (dI : Nat → Nat → Nat) (A : Nat → Prop) (aa : Nat) (ka : ClassId) (ff : Nat → Int32) : Array Value → State → Outcome → State → Prop := va_Qv (fun _ : Unit => True) (fun (_ : Unit) (t : State) => ∃ (g_aa : Nat → Int32), (HFt g_aa ff 64) ∧ va_P (dC, dI) vwCl [(aa, .inl (ka, 128, .inl g_aa))] t.heap ∧ va_D A [(aa, .inl (ka, 128, .inl g_aa))]) A
set_option maxHeartbeats 4000000 in
set_option maxRecDepth 100000 in
theorem c_half_128 (l : Launch) (dC : Nat → ClassId) (dI : Nat → Nat → Nat) (sz : Nat) (aa : Nat) (ka : ClassId) (ff : Nat → Int32)  : Met l yX11_half (pw_w yX11_half cX11_half 3 none) ({ frames := 0, cells := 0, slots := 0, locals := 0 }) (va_Pc [.ref aa] (fun U => U.heap.size = sz ∧ va_P (dC, dI) vwCl [(aa, .inl (ka, 128, .inl ff))] U.heap ∧ va_K (dC, dI) vwCl [(ka, .int)] U ∧ va_D (fun _ => True) [(aa, .inl (ka, 128, .inl ff))])) (q_half_128 dC dI (va_A [(aa, .inl (ka, 128, .inl ff))] sz) aa ka ff) 0 0 (va_A [(aa, .inl (ka, 128, .inl ff))] sz) := by
  refine Met.ofW (cc := cX11_half) (maxL := 3) (ret := none) (by decide) rfl ?_
  intro p e s m args below meth c s₁ B hml hv
  obtain ⟨rfl, hsz, hP, hK, hD0⟩ := hv
  have hx := B.exec
  have hb := B.bytes
  have hr := B.returns
  have hts := atoms_spec (ws := (pw_w yX11_half cX11_half 3 none)) B.pre
  have hT : ∀ w ∈ pw_T, w.before _ s = true := fun w h => hts w (List.mem_cons_of_mem _ h)
  have hown : s.vm.findClass RX11 = some m.cls := findClass_of_methodNamed B.named
  have hlocks := B.notSynchronized
  subst hsz
  have hD := hD0.self (sz := s.heap.size)
  generalize hAe : va_A [(aa, .inl (ka, 128, .inl ff))] s.heap.size = A at hD ⊢
  have hA : ∀ q : Nat, s.heap.size ≤ q → A q := fun q h => by rw [← hAe]; exact Or.inr h
  have hS : va_S A s.heap s.heap [] := va_S.rf
  have hP : va_P (dC, dI) vwCl [(aa, .inl (ka, 128, .inl ff))] s.heap := hP
  have hl := lv_entry ([.ref aa]) (n := 3) (Nat.le_of_ble_eq_true rfl)
  rw [lg_entry_eq]
  generalize (lg_sl ([.ref aa]) ++ List.replicate (3 - (lg_sl ([.ref aa])).length) Slot.unset).toArray = ls at hl ⊢
  have hl : lv_has ls 3 [(0, .ref aa)] := hl
  refine lv_aload_n hx hb dX11_half_0 rfl (lv_at hl 0 rfl) ?_
  refine va_alen (v := 128) hx hb hK hP 0 0 rfl rfl (rfl) dX11_half_1 ?_
  refine lv_iconst (v := 2) hx hb dX11_half_2 (by decide) ?_
  refine lv_idiv hx hb dX11_half_3 (by decide) ?_
  refine lv_topi (fun z_1 ez_1 => ?_)
  obtain rfl : z_1 = 64 := ez_1.trans (by decide)
  refine lv_istore_n (lv' := [(1, .int 64), (0, .ref aa)]) hx hb dX11_half_4 rfl hl (by decide) rfl (fun ls hl => ?_)
  refine lv_iconst (v := 0) hx hb dX11_half_5 (by decide) ?_
  refine lv_istore_n (lv' := [(2, .int 0), (1, .int 64), (0, .ref aa)]) hx hb dX11_half_6 rfl hl (by decide) rfl (fun ls hl => ?_)
  have loop_10 : ∀ (fu : Nat), ∀ (g_8_l2 : Int32), ∀ (g_8_f0 : Nat → Int32), (0 ≤ g_8_l2.toInt ∧ g_8_l2.toInt ≤ 64) → (HLt g_8_f0 ff 64 g_8_l2) → (64 - g_8_l2.toInt < (fu : Int)) → ∀ (H : Heap) (locs : List Loc), va_P (dC, dI) vwCl [(aa, .inl (ka, 128, .inl g_8_f0))] H → va_D A [(aa, .inl (ka, 128, .inl g_8_f0))] → va_S A s.heap H locs → ∀ (ls : Array Slot), lv_has ls 3 [(2, .int g_8_l2), (1, .int 64), (0, .ref aa)] → W p l e (headSpec (pw_w yX11_half cX11_half 3 none) ({ frames := 0, cells := 0, slots := 0, locals := 0 })).room s m ([.ref aa] : List Value).toArray below meth c H locs 0 0 (MQ below (q_half_128 dC dI A aa ka ff) ([.ref aa] : List Value).toArray s 0 0 A) (F0 m 7 ls []) := by
    intro fu
    induction fu with
    | zero => intro g_8_l2 g_8_f0 hg_8_l2 hi_hl_q_9 hfu; exact absurd hfu (by omega)
    | succ fu10 ih10 =>
      intro g_8_l2 g_8_f0 hg_8_l2 hi_hl_q_9 hfu10 H locs hP hD hS ls hl
      refine lv_iload_n hx hb dX11_half_7 rfl (lv_at hl 0 rfl) ?_
      refine lv_iload_n hx hb dX11_half_8 rfl (lv_at hl 1 rfl) ?_
      refine lv_icmp_ge (tgt := 26) hx hb dX11_half_9 (by decide) (fun c_11 => ?_) (fun c_11 => ?_)
      · have kc_11 := il_le c_11
        have := (by decide : (64 : Int32).toInt = 64)
        have hP9 := hP.sub (ws' := [(aa, .inl (ka, 128, .inl g_8_f0))]) [0] rfl
        have hD9 := hD.sub (ws' := [(aa, .inl (ka, 128, .inl g_8_f0))]) [0] (by decide) rfl
        exact W.vret hx hb hr (fun t ht hW => ⟨⟨(), rfl, trivial, g_8_f0, (HLt_e hi_hl_q_9 (by omega)), by rw [ht]; exact hP9, hD9⟩, hS.F ht⟩) hS.2.2 dX11_half_26
      · have kc_11 := il_nle c_11
        have := (by decide : (64 : Int32).toInt = 64)
        refine lv_aload_n hx hb dX11_half_12 rfl (lv_at hl 2 rfl) ?_
        refine lv_iload_n hx hb dX11_half_13 rfl (lv_at hl 0 rfl) ?_
        refine lv_aload_n hx hb dX11_half_14 rfl (lv_at hl 2 rfl) ?_
        refine lv_iload_n hx hb dX11_half_15 rfl (lv_at hl 1 rfl) ?_
        refine lv_iload_n hx hb dX11_half_16 rfl (lv_at hl 0 rfl) ?_
        refine lv_iadd hx hb dX11_half_17 ?_
        refine lv_topi (fun z_12 ez_12 => ?_)
        have kz_12 : z_12.toInt = 64 + g_8_l2.toInt := ti_add ez_12 (by decide) rfl (by omega) (by omega)
        clear ez_12
        refine va_iald hx hb hK hP 0 0 rfl rfl (vp_in_iff.mpr (by omega)) dX11_half_18 ?_
        refine lv_topi (fun z_13 ez_13 => ?_)
        refine va_iast hx hb hK hP hD hS 0 0 rfl rfl (vp_in_iff.mpr (by omega)) dX11_half_19 (fun H locs hP hD hS => ?_)
        have hP : va_P (dC, dI) vwCl [(aa, .inl (ka, 128, .inl (upd g_8_f0 (g_8_l2 : Int32).toNatClampNeg (z_13 : Int32))))] H := hP
        have hD : va_D A [(aa, .inl (ka, 128, .inl (upd g_8_f0 (g_8_l2 : Int32).toNatClampNeg (z_13 : Int32))))] := hD
        obtain ⟨f_14, ef_14⟩ : ∃ g : Nat → Int32, (upd g_8_f0 (g_8_l2 : Int32).toNatClampNeg (z_13 : Int32)) = g := ⟨_, rfl⟩
        rw [ef_14] at hP hD
        obtain ⟨z_15, ez_15⟩ : ∃ y : Int32, y = g_8_l2 + Int32.ofInt (1) := ⟨_, rfl⟩
        have kz_15 : z_15.toInt = g_8_l2.toInt + (1) := ti_add ez_15 rfl (by decide) (by omega) (by omega)
        refine lv_iinc (v := z_15) (lv' := [(2, .int z_15), (1, .int 64), (0, .ref aa)]) hx hb dX11_half_20 hl (k := 0) rfl (ez_15.symm) (by decide) rfl (fun ls hl => ?_)
        clear ez_15
        refine lv_goto (tgt := 7) hx hb dX11_half_23 (by decide) ?_
        exact ih10 z_15 f_14 (by omega) (HLt_s hi_hl_q_9 ez_13 (by omega) ef_14 (by omega) (by omega) (by omega)) (by omega) _ _ (hP.sub [0] rfl) (hD.sub [0] (by decide) rfl) hS _ (lv_sub hl [0, 1, 2] rfl)
  have := (by decide : (0 : Int32).toInt = 0)
  exact loop_10 4294967296 (0 : Int32) ff (by decide) (HLt_0 (by decide)) (by omega) _ _ (hP.sub [0] rfl) (hD.sub [0] (by decide) rfl) hS _ (lv_sub hl [0, 1, 2] rfl)
