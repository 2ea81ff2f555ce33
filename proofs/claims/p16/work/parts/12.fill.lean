theorem dJ7_fill_53178_0 : decode cJ7_fill_53178 0 = .ok (.iconst 0, 1) := by decide +kernel
theorem dJ7_fill_53178_1 : decode cJ7_fill_53178 1 = .ok (.istore_n 2, 1) := by decide +kernel
theorem dJ7_fill_53178_2 : decode cJ7_fill_53178 2 = .ok (.aload_n 0, 1) := by decide +kernel
theorem dJ7_fill_53178_3 : decode cJ7_fill_53178 3 = .ok (.arraylength, 1) := by decide +kernel
theorem dJ7_fill_53178_4 : decode cJ7_fill_53178 4 = .ok (.istore_n 3, 1) := by decide +kernel
theorem dJ7_fill_53178_5 : decode cJ7_fill_53178 5 = .ok (.iload_n 2, 1) := by decide +kernel
theorem dJ7_fill_53178_6 : decode cJ7_fill_53178 6 = .ok (.iload_n 3, 1) := by decide +kernel
theorem dJ7_fill_53178_10 : decode cJ7_fill_53178 10 = .ok (.aload_n 0, 1) := by decide +kernel
theorem dJ7_fill_53178_11 : decode cJ7_fill_53178 11 = .ok (.iload_n 2, 1) := by decide +kernel
theorem dJ7_fill_53178_12 : decode cJ7_fill_53178 12 = .ok (.iload_n 1, 1) := by decide +kernel
theorem dJ7_fill_53178_17 : decode cJ7_fill_53178 17 = .ok (.goto (-12), 3) := by decide +kernel
theorem dJ7_fill_53178_20 : decode cJ7_fill_53178 20 = .ok (.return_, 1) := by decide +kernel
theorem dJ7_fill_53178_7 : decode cJ7_fill_53178 7 = .ok (.if_icmp .ge 13, 3) := by decide +kernel
theorem dJ7_fill_53178_13 : decode cJ7_fill_53178 13 = .ok (.iastore, 1) := by decide +kernel
theorem dJ7_fill_53178_14 : decode cJ7_fill_53178 14 = .ok (.iinc 2 1, 3) := by decide +kernel
abbrev q_fill10 (dC : Nat → ClassId) (dI : Nat → Nat → Nat) (A : Nat → Prop) (aa : Nat) (vv : Int32) (ka : ClassId) (ff : Nat → Int32) : Array Value → State → Outcome → State → Prop := va_Qv (fun _ : Unit => True) (fun (_ : Unit) (t : State) => ∃ (g_aa : Nat → Int32), (FLt g_aa vv 10) ∧ va_P (dC, dI) vwCl [(aa, .inl (ka, 10, .inl g_aa))] t.heap ∧ va_D A [(aa, .inl (ka, 10, .inl g_aa))]) A
set_option maxHeartbeats 4000000 in
set_option maxRecDepth 100000 in
theorem c_fill10 (l : Launch) (dC : Nat → ClassId) (dI : Nat → Nat → Nat) (sz : Nat) (aa : Nat) (vv : Int32) (ka : ClassId) (ff : Nat → Int32)  : Met l yJ7_fill_53178 (pw_w yJ7_fill_53178 cJ7_fill_53178 4 none) ({ frames := 0, cells := 0, slots := 0, locals := 0 }) (va_Pc [.ref aa, .int vv] (fun U => U.heap.size = sz ∧ va_P (dC, dI) vwCl [(aa, .inl (ka, 10, .inl ff))] U.heap ∧ va_K (dC, dI) vwCl [(ka, .int)] U ∧ va_D (fun _ => True) [(aa, .inl (ka, 10, .inl ff))])) (q_fill10 dC dI (va_A [(aa, .inl (ka, 10, .inl ff))] sz) aa vv ka ff) 0 0 (va_A [(aa, .inl (ka, 10, .inl ff))] sz) := by
  refine Met.ofW (cc := cJ7_fill_53178) (maxL := 4) (ret := none) (by decide) rfl ?_
  intro p e s m args below meth c s₁ B hml hv
  obtain ⟨rfl, hsz, hP, hK, hD0⟩ := hv
  have hx := B.exec
  have hb := B.bytes
  have hr := B.returns
  have hts := atoms_spec (ws := (pw_w yJ7_fill_53178 cJ7_fill_53178 4 none)) B.pre
  have hT : ∀ w ∈ pw_T, w.before _ s = true := fun w h => hts w (List.mem_cons_of_mem _ h)
  have hown : s.vm.findClass RJ7 = some m.cls := findClass_of_methodNamed B.named
  have hlocks := B.notSynchronized
  subst hsz
  have hD := hD0.self (sz := s.heap.size)
  generalize hAe : va_A [(aa, .inl (ka, 10, .inl ff))] s.heap.size = A at hD ⊢
  have hA : ∀ q : Nat, s.heap.size ≤ q → A q := fun q h => by rw [← hAe]; exact Or.inr h
  have hS : va_S A s.heap s.heap [] := va_S.rf
  have hP : va_P (dC, dI) vwCl [(aa, .inl (ka, 10, .inl ff))] s.heap := hP
  have hl := lv_entry ([.ref aa, .int vv]) (n := 4) (Nat.le_of_ble_eq_true rfl)
  rw [lg_entry_eq]
  generalize (lg_sl ([.ref aa, .int vv]) ++ List.replicate (4 - (lg_sl ([.ref aa, .int vv])).length) Slot.unset).toArray = ls at hl ⊢
  have hl : lv_has ls 4 [(0, .ref aa), (1, .int vv)] := hl
  refine lv_iconst (v := 0) hx hb dJ7_fill_53178_0 (by decide) ?_
  refine lv_istore_n (lv' := [(2, .int 0), (0, .ref aa), (1, .int vv)]) hx hb dJ7_fill_53178_1 rfl hl (by decide) rfl (fun ls hl => ?_)
  refine lv_aload_n hx hb dJ7_fill_53178_2 rfl (lv_at hl 1 rfl) ?_
  refine va_alen (v := 10) hx hb hK hP 0 0 rfl rfl (rfl) dJ7_fill_53178_3 ?_
  refine lv_istore_n (lv' := [(3, .int 10), (2, .int 0), (0, .ref aa), (1, .int vv)]) hx hb dJ7_fill_53178_4 rfl hl (by decide) rfl (fun ls hl => ?_)
  have loop_7 : ∀ (fu : Nat), ∀ (g_5_l2 : Int32), ∀ (g_5_f0 : Nat → Int32), (0 ≤ g_5_l2.toInt ∧ g_5_l2.toInt ≤ 10) → (FIt g_5_f0 vv g_5_l2) → (10 - g_5_l2.toInt < (fu : Int)) → ∀ (H : Heap) (locs : List Loc), va_P (dC, dI) vwCl [(aa, .inl (ka, 10, .inl g_5_f0))] H → va_D A [(aa, .inl (ka, 10, .inl g_5_f0))] → va_S A s.heap H locs → ∀ (ls : Array Slot), lv_has ls 4 [(3, .int 10), (2, .int g_5_l2), (0, .ref aa), (1, .int vv)] → W p l e (headSpec (pw_w yJ7_fill_53178 cJ7_fill_53178 4 none) ({ frames := 0, cells := 0, slots := 0, locals := 0 })).room s m ([.ref aa, .int vv] : List Value).toArray below meth c H locs 0 0 (MQ below (q_fill10 dC dI A aa vv ka ff) ([.ref aa, .int vv] : List Value).toArray s 0 0 A) (F0 m 5 ls []) := by
    intro fu
    induction fu with
    | zero => intro g_5_l2 g_5_f0 hg_5_l2 hi_fi_q_6 hfu; exact absurd hfu (by omega)
    | succ fu7 ih7 =>
      intro g_5_l2 g_5_f0 hg_5_l2 hi_fi_q_6 hfu7 H locs hP hD hS ls hl
      refine lv_iload_n hx hb dJ7_fill_53178_5 rfl (lv_at hl 1 rfl) ?_
      refine lv_iload_n hx hb dJ7_fill_53178_6 rfl (lv_at hl 0 rfl) ?_
      refine lv_icmp_ge (tgt := 20) hx hb dJ7_fill_53178_7 (by decide) (fun c_8 => ?_) (fun c_8 => ?_)
      · have kc_8 := il_le c_8
        have := (by decide : (10 : Int32).toInt = 10)
        have hP9 := hP.sub (ws' := [(aa, .inl (ka, 10, .inl g_5_f0))]) [0] rfl
        have hD9 := hD.sub (ws' := [(aa, .inl (ka, 10, .inl g_5_f0))]) [0] (by decide) rfl
        exact W.vret hx hb hr (fun t ht hW => ⟨⟨(), rfl, trivial, g_5_f0, (FIt_e hi_fi_q_6 (by omega)), by rw [ht]; exact hP9, hD9⟩, hS.F ht⟩) hS.2.2 dJ7_fill_53178_20
      · have kc_8 := il_nle c_8
        have := (by decide : (10 : Int32).toInt = 10)
        refine lv_aload_n hx hb dJ7_fill_53178_10 rfl (lv_at hl 2 rfl) ?_
        refine lv_iload_n hx hb dJ7_fill_53178_11 rfl (lv_at hl 1 rfl) ?_
        refine lv_iload_n hx hb dJ7_fill_53178_12 rfl (lv_at hl 3 rfl) ?_
        refine va_iast hx hb hK hP hD hS 0 0 rfl rfl (vp_in_iff.mpr (by omega)) dJ7_fill_53178_13 (fun H locs hP hD hS => ?_)
        have hP : va_P (dC, dI) vwCl [(aa, .inl (ka, 10, .inl (upd g_5_f0 (g_5_l2 : Int32).toNatClampNeg (vv : Int32))))] H := hP
        have hD : va_D A [(aa, .inl (ka, 10, .inl (upd g_5_f0 (g_5_l2 : Int32).toNatClampNeg (vv : Int32))))] := hD
        obtain ⟨f_9, ef_9⟩ : ∃ g : Nat → Int32, (upd g_5_f0 (g_5_l2 : Int32).toNatClampNeg (vv : Int32)) = g := ⟨_, rfl⟩
        rw [ef_9] at hP hD
        obtain ⟨z_10, ez_10⟩ : ∃ y : Int32, y = g_5_l2 + Int32.ofInt (1) := ⟨_, rfl⟩
        have kz_10 : z_10.toInt = g_5_l2.toInt + (1) := ti_add ez_10 rfl (by decide) (by omega) (by omega)
        refine lv_iinc (v := z_10) (lv' := [(2, .int z_10), (3, .int 10), (0, .ref aa), (1, .int vv)]) hx hb dJ7_fill_53178_14 hl (k := 1) rfl (ez_10.symm) (by decide) rfl (fun ls hl => ?_)
        clear ez_10
        refine lv_goto (tgt := 5) hx hb dJ7_fill_53178_17 (by decide) ?_
        exact ih7 z_10 f_9 (by omega) (FIt_s hi_fi_q_6 ef_9 (by omega) (by omega)) (by omega) _ _ (hP.sub [0] rfl) (hD.sub [0] (by decide) rfl) hS _ (lv_sub hl [1, 0, 2, 3] rfl)
  have := (by decide : (0 : Int32).toInt = 0)
  exact loop_7 4294967296 (0 : Int32) ff (by decide) FIt_0 (by omega) _ _ (hP.sub [0] rfl) (hD.sub [0] (by decide) rfl) hS _ (lv_sub hl [0, 1, 2, 3] rfl)
abbrev q_fill5 (dC : Nat → ClassId) (dI : Nat → Nat → Nat) (A : Nat → Prop) (aa : Nat) (vv : Int32) (ka : ClassId) (ff : Nat → Int32) : Array Value → State → Outcome → State → Prop := va_Qv (fun _ : Unit => True) (fun (_ : Unit) (t : State) => ∃ (g_aa : Nat → Int32), (FLt g_aa vv 5) ∧ va_P (dC, dI) vwCl [(aa, .inl (ka, 5, .inl g_aa))] t.heap ∧ va_D A [(aa, .inl (ka, 5, .inl g_aa))]) A
set_option maxHeartbeats 4000000 in
set_option maxRecDepth 100000 in
theorem c_fill5 (l : Launch) (dC : Nat → ClassId) (dI : Nat → Nat → Nat) (sz : Nat) (aa : Nat) (vv : Int32) (ka : ClassId) (ff : Nat → Int32)  : Met l yJ7_fill_53178 (pw_w yJ7_fill_53178 cJ7_fill_53178 4 none) ({ frames := 0, cells := 0, slots := 0, locals := 0 }) (va_Pc [.ref aa, .int vv] (fun U => U.heap.size = sz ∧ va_P (dC, dI) vwCl [(aa, .inl (ka, 5, .inl ff))] U.heap ∧ va_K (dC, dI) vwCl [(ka, .int)] U ∧ va_D (fun _ => True) [(aa, .inl (ka, 5, .inl ff))])) (q_fill5 dC dI (va_A [(aa, .inl (ka, 5, .inl ff))] sz) aa vv ka ff) 0 0 (va_A [(aa, .inl (ka, 5, .inl ff))] sz) := by
  refine Met.ofW (cc := cJ7_fill_53178) (maxL := 4) (ret := none) (by decide) rfl ?_
  intro p e s m args below meth c s₁ B hml hv
  obtain ⟨rfl, hsz, hP, hK, hD0⟩ := hv
  have hx := B.exec
  have hb := B.bytes
  have hr := B.returns
  have hts := atoms_spec (ws := (pw_w yJ7_fill_53178 cJ7_fill_53178 4 none)) B.pre
  have hT : ∀ w ∈ pw_T, w.before _ s = true := fun w h => hts w (List.mem_cons_of_mem _ h)
  have hown : s.vm.findClass RJ7 = some m.cls := findClass_of_methodNamed B.named
  have hlocks := B.notSynchronized
  subst hsz
  have hD := hD0.self (sz := s.heap.size)
  generalize hAe : va_A [(aa, .inl (ka, 5, .inl ff))] s.heap.size = A at hD ⊢
  have hA : ∀ q : Nat, s.heap.size ≤ q → A q := fun q h => by rw [← hAe]; exact Or.inr h
  have hS : va_S A s.heap s.heap [] := va_S.rf
  have hP : va_P (dC, dI) vwCl [(aa, .inl (ka, 5, .inl ff))] s.heap := hP
  have hl := lv_entry ([.ref aa, .int vv]) (n := 4) (Nat.le_of_ble_eq_true rfl)
  rw [lg_entry_eq]
  generalize (lg_sl ([.ref aa, .int vv]) ++ List.replicate (4 - (lg_sl ([.ref aa, .int vv])).length) Slot.unset).toArray = ls at hl ⊢
  have hl : lv_has ls 4 [(0, .ref aa), (1, .int vv)] := hl
  refine lv_iconst (v := 0) hx hb dJ7_fill_53178_0 (by decide) ?_
  refine lv_istore_n (lv' := [(2, .int 0), (0, .ref aa), (1, .int vv)]) hx hb dJ7_fill_53178_1 rfl hl (by decide) rfl (fun ls hl => ?_)
  refine lv_aload_n hx hb dJ7_fill_53178_2 rfl (lv_at hl 1 rfl) ?_
  refine va_alen (v := 5) hx hb hK hP 0 0 rfl rfl (rfl) dJ7_fill_53178_3 ?_
  refine lv_istore_n (lv' := [(3, .int 5), (2, .int 0), (0, .ref aa), (1, .int vv)]) hx hb dJ7_fill_53178_4 rfl hl (by decide) rfl (fun ls hl => ?_)
  have loop_7 : ∀ (fu : Nat), ∀ (g_5_l2 : Int32), ∀ (g_5_f0 : Nat → Int32), (0 ≤ g_5_l2.toInt ∧ g_5_l2.toInt ≤ 5) → (FIt g_5_f0 vv g_5_l2) → (5 - g_5_l2.toInt < (fu : Int)) → ∀ (H : Heap) (locs : List Loc), va_P (dC, dI) vwCl [(aa, .inl (ka, 5, .inl g_5_f0))] H → va_D A [(aa, .inl (ka, 5, .inl g_5_f0))] → va_S A s.heap H locs → ∀ (ls : Array Slot), lv_has ls 4 [(3, .int 5), (2, .int g_5_l2), (0, .ref aa), (1, .int vv)] → W p l e (headSpec (pw_w yJ7_fill_53178 cJ7_fill_53178 4 none) ({ frames := 0, cells := 0, slots := 0, locals := 0 })).room s m ([.ref aa, .int vv] : List Value).toArray below meth c H locs 0 0 (MQ below (q_fill5 dC dI A aa vv ka ff) ([.ref aa, .int vv] : List Value).toArray s 0 0 A) (F0 m 5 ls []) := by
    intro fu
    induction fu with
    | zero => intro g_5_l2 g_5_f0 hg_5_l2 hi_fi_q_6 hfu; exact absurd hfu (by omega)
    | succ fu7 ih7 =>
      intro g_5_l2 g_5_f0 hg_5_l2 hi_fi_q_6 hfu7 H locs hP hD hS ls hl
      refine lv_iload_n hx hb dJ7_fill_53178_5 rfl (lv_at hl 1 rfl) ?_
      refine lv_iload_n hx hb dJ7_fill_53178_6 rfl (lv_at hl 0 rfl) ?_
      refine lv_icmp_ge (tgt := 20) hx hb dJ7_fill_53178_7 (by decide) (fun c_8 => ?_) (fun c_8 => ?_)
      · have kc_8 := il_le c_8
        have := (by decide : (5 : Int32).toInt = 5)
        have hP9 := hP.sub (ws' := [(aa, .inl (ka, 5, .inl g_5_f0))]) [0] rfl
        have hD9 := hD.sub (ws' := [(aa, .inl (ka, 5, .inl g_5_f0))]) [0] (by decide) rfl
        exact W.vret hx hb hr (fun t ht hW => ⟨⟨(), rfl, trivial, g_5_f0, (FIt_e hi_fi_q_6 (by omega)), by rw [ht]; exact hP9, hD9⟩, hS.F ht⟩) hS.2.2 dJ7_fill_53178_20
      · have kc_8 := il_nle c_8
        have := (by decide : (5 : Int32).toInt = 5)
        refine lv_aload_n hx hb dJ7_fill_53178_10 rfl (lv_at hl 2 rfl) ?_
        refine lv_iload_n hx hb dJ7_fill_53178_11 rfl (lv_at hl 1 rfl) ?_
        refine lv_iload_n hx hb dJ7_fill_53178_12 rfl (lv_at hl 3 rfl) ?_
        refine va_iast hx hb hK hP hD hS 0 0 rfl rfl (vp_in_iff.mpr (by omega)) dJ7_fill_53178_13 (fun H locs hP hD hS => ?_)
        have hP : va_P (dC, dI) vwCl [(aa, .inl (ka, 5, .inl (upd g_5_f0 (g_5_l2 : Int32).toNatClampNeg (vv : Int32))))] H := hP
        have hD : va_D A [(aa, .inl (ka, 5, .inl (upd g_5_f0 (g_5_l2 : Int32).toNatClampNeg (vv : Int32))))] := hD
        obtain ⟨f_9, ef_9⟩ : ∃ g : Nat → Int32, (upd g_5_f0 (g_5_l2 : Int32).toNatClampNeg (vv : Int32)) = g := ⟨_, rfl⟩
        rw [ef_9] at hP hD
        obtain ⟨z_10, ez_10⟩ : ∃ y : Int32, y = g_5_l2 + Int32.ofInt (1) := ⟨_, rfl⟩
        have kz_10 : z_10.toInt = g_5_l2.toInt + (1) := ti_add ez_10 rfl (by decide) (by omega) (by omega)
        refine lv_iinc (v := z_10) (lv' := [(2, .int z_10), (3, .int 5), (0, .ref aa), (1, .int vv)]) hx hb dJ7_fill_53178_14 hl (k := 1) rfl (ez_10.symm) (by decide) rfl (fun ls hl => ?_)
        clear ez_10
        refine lv_goto (tgt := 5) hx hb dJ7_fill_53178_17 (by decide) ?_
        exact ih7 z_10 f_9 (by omega) (FIt_s hi_fi_q_6 ef_9 (by omega) (by omega)) (by omega) _ _ (hP.sub [0] rfl) (hD.sub [0] (by decide) rfl) hS _ (lv_sub hl [1, 0, 2, 3] rfl)
  have := (by decide : (0 : Int32).toInt = 0)
  exact loop_7 4294967296 (0 : Int32) ff (by decide) FIt_0 (by omega) _ _ (hP.sub [0] rfl) (hD.sub [0] (by decide) rfl) hS _ (lv_sub hl [0, 1, 2, 3] rfl)
abbrev q_fill5a (dC : Nat → ClassId) (dI : Nat → Nat → Nat) (A : Nat → Prop) (aa : Nat) (ka : ClassId) (ff : Nat → Int32) : Array Value → State → Outcome → State → Prop := va_Qv (fun _ : Unit => True) (fun (_ : Unit) (t : State) => ∃ (g_aa : Nat → Int32), (Rg g_aa 0 5) ∧ (FLt g_aa (0 : Int32) 5) ∧ va_P (dC, dI) vwCl [(aa, .inl (ka, 5, .inl g_aa))] t.heap ∧ va_D A [(aa, .inl (ka, 5, .inl g_aa))]) A
set_option maxHeartbeats 4000000 in
set_option maxRecDepth 100000 in
theorem c_fill5a (l : Launch) (dC : Nat → ClassId) (dI : Nat → Nat → Nat) (sz : Nat) (aa : Nat) (ka : ClassId) (ff : Nat → Int32) (h_ff : Rg ff 0 5) : Met l yJ7_fill_53178 (pw_w yJ7_fill_53178 cJ7_fill_53178 4 none) ({ frames := 0, cells := 0, slots := 0, locals := 0 }) (va_Pc [.ref aa, .int 0] (fun U => U.heap.size = sz ∧ va_P (dC, dI) vwCl [(aa, .inl (ka, 5, .inl ff))] U.heap ∧ va_K (dC, dI) vwCl [(ka, .int)] U ∧ va_D (fun _ => True) [(aa, .inl (ka, 5, .inl ff))])) (q_fill5a dC dI (va_A [(aa, .inl (ka, 5, .inl ff))] sz) aa ka ff) 0 0 (va_A [(aa, .inl (ka, 5, .inl ff))] sz) := by
  refine Met.ofW (cc := cJ7_fill_53178) (maxL := 4) (ret := none) (by decide) rfl ?_
  intro p e s m args below meth c s₁ B hml hv
  obtain ⟨rfl, hsz, hP, hK, hD0⟩ := hv
  have hx := B.exec
  have hb := B.bytes
  have hr := B.returns
  have hts := atoms_spec (ws := (pw_w yJ7_fill_53178 cJ7_fill_53178 4 none)) B.pre
  have hT : ∀ w ∈ pw_T, w.before _ s = true := fun w h => hts w (List.mem_cons_of_mem _ h)
  have hown : s.vm.findClass RJ7 = some m.cls := findClass_of_methodNamed B.named
  have hlocks := B.notSynchronized
  subst hsz
  have hD := hD0.self (sz := s.heap.size)
  generalize hAe : va_A [(aa, .inl (ka, 5, .inl ff))] s.heap.size = A at hD ⊢
  have hA : ∀ q : Nat, s.heap.size ≤ q → A q := fun q h => by rw [← hAe]; exact Or.inr h
  have hS : va_S A s.heap s.heap [] := va_S.rf
  have hP : va_P (dC, dI) vwCl [(aa, .inl (ka, 5, .inl ff))] s.heap := hP
  have hl := lv_entry ([.ref aa, .int 0]) (n := 4) (Nat.le_of_ble_eq_true rfl)
  rw [lg_entry_eq]
  generalize (lg_sl ([.ref aa, .int 0]) ++ List.replicate (4 - (lg_sl ([.ref aa, .int 0])).length) Slot.unset).toArray = ls at hl ⊢
  have hl : lv_has ls 4 [(0, .ref aa), (1, .int 0)] := hl
  refine lv_iconst (v := 0) hx hb dJ7_fill_53178_0 (by decide) ?_
  refine lv_istore_n (lv' := [(2, .int 0), (0, .ref aa), (1, .int 0)]) hx hb dJ7_fill_53178_1 rfl hl (by decide) rfl (fun ls hl => ?_)
  refine lv_aload_n hx hb dJ7_fill_53178_2 rfl (lv_at hl 1 rfl) ?_
  refine va_alen (v := 5) hx hb hK hP 0 0 rfl rfl (rfl) dJ7_fill_53178_3 ?_
  refine lv_istore_n (lv' := [(3, .int 5), (2, .int 0), (0, .ref aa), (1, .int 0)]) hx hb dJ7_fill_53178_4 rfl hl (by decide) rfl (fun ls hl => ?_)
  have loop_7 : ∀ (fu : Nat), ∀ (g_5_l2 : Int32), ∀ (g_5_f0 : Nat → Int32), (0 ≤ g_5_l2.toInt ∧ g_5_l2.toInt ≤ 5) → (Rg g_5_f0 0 5) → (FIt g_5_f0 (0 : Int32) g_5_l2) → (5 - g_5_l2.toInt < (fu : Int)) → ∀ (H : Heap) (locs : List Loc), va_P (dC, dI) vwCl [(aa, .inl (ka, 5, .inl g_5_f0))] H → va_D A [(aa, .inl (ka, 5, .inl g_5_f0))] → va_S A s.heap H locs → ∀ (ls : Array Slot), lv_has ls 4 [(3, .int 5), (2, .int g_5_l2), (0, .ref aa), (1, .int 0)] → W p l e (headSpec (pw_w yJ7_fill_53178 cJ7_fill_53178 4 none) ({ frames := 0, cells := 0, slots := 0, locals := 0 })).room s m ([.ref aa, .int 0] : List Value).toArray below meth c H locs 0 0 (MQ below (q_fill5a dC dI A aa ka ff) ([.ref aa, .int 0] : List Value).toArray s 0 0 A) (F0 m 5 ls []) := by
    intro fu
    induction fu with
    | zero => intro g_5_l2 g_5_f0 hg_5_l2 hg_5_f0 hi_fi_q_6 hfu; exact absurd hfu (by omega)
    | succ fu7 ih7 =>
      intro g_5_l2 g_5_f0 hg_5_l2 hg_5_f0 hi_fi_q_6 hfu7 H locs hP hD hS ls hl
      refine lv_iload_n hx hb dJ7_fill_53178_5 rfl (lv_at hl 1 rfl) ?_
      refine lv_iload_n hx hb dJ7_fill_53178_6 rfl (lv_at hl 0 rfl) ?_
      refine lv_icmp_ge (tgt := 20) hx hb dJ7_fill_53178_7 (by decide) (fun c_8 => ?_) (fun c_8 => ?_)
      · have kc_8 := il_le c_8
        have := (by decide : (5 : Int32).toInt = 5)
        have hP9 := hP.sub (ws' := [(aa, .inl (ka, 5, .inl g_5_f0))]) [0] rfl
        have hD9 := hD.sub (ws' := [(aa, .inl (ka, 5, .inl g_5_f0))]) [0] (by decide) rfl
        exact W.vret hx hb hr (fun t ht hW => ⟨⟨(), rfl, trivial, g_5_f0, hg_5_f0, (FIt_e hi_fi_q_6 (by omega)), by rw [ht]; exact hP9, hD9⟩, hS.F ht⟩) hS.2.2 dJ7_fill_53178_20
      · have kc_8 := il_nle c_8
        have := (by decide : (5 : Int32).toInt = 5)
        refine lv_aload_n hx hb dJ7_fill_53178_10 rfl (lv_at hl 2 rfl) ?_
        refine lv_iload_n hx hb dJ7_fill_53178_11 rfl (lv_at hl 1 rfl) ?_
        refine lv_iload_n hx hb dJ7_fill_53178_12 rfl (lv_at hl 3 rfl) ?_
        refine va_iast hx hb hK hP hD hS 0 0 rfl rfl (vp_in_iff.mpr (by omega)) dJ7_fill_53178_13 (fun H locs hP hD hS => ?_)
        have hP : va_P (dC, dI) vwCl [(aa, .inl (ka, 5, .inl (upd g_5_f0 (g_5_l2 : Int32).toNatClampNeg (0 : Int32))))] H := hP
        have hD : va_D A [(aa, .inl (ka, 5, .inl (upd g_5_f0 (g_5_l2 : Int32).toNatClampNeg (0 : Int32))))] := hD
        obtain ⟨f_9, hf_9, ef_9⟩ : ∃ g : Nat → Int32, Rg g 0 5 ∧ (upd g_5_f0 (g_5_l2 : Int32).toNatClampNeg (0 : Int32)) = g := ⟨_, Rg_upd hg_5_f0 (by decide), rfl⟩
        rw [ef_9] at hP hD
        obtain ⟨z_10, ez_10⟩ : ∃ y : Int32, y = g_5_l2 + Int32.ofInt (1) := ⟨_, rfl⟩
        have kz_10 : z_10.toInt = g_5_l2.toInt + (1) := ti_add ez_10 rfl (by decide) (by omega) (by omega)
        refine lv_iinc (v := z_10) (lv' := [(2, .int z_10), (3, .int 5), (0, .ref aa), (1, .int 0)]) hx hb dJ7_fill_53178_14 hl (k := 1) rfl (ez_10.symm) (by decide) rfl (fun ls hl => ?_)
        clear ez_10
        refine lv_goto (tgt := 5) hx hb dJ7_fill_53178_17 (by decide) ?_
        exact ih7 z_10 f_9 (by omega) hf_9 (FIt_s hi_fi_q_6 ef_9 (by omega) (by omega)) (by omega) _ _ (hP.sub [0] rfl) (hD.sub [0] (by decide) rfl) hS _ (lv_sub hl [1, 0, 2, 3] rfl)
  have := (by decide : (0 : Int32).toInt = 0)
  exact loop_7 4294967296 (0 : Int32) ff (by decide) h_ff FIt_0 (by omega) _ _ (hP.sub [0] rfl) (hD.sub [0] (by decide) rfl) hS _ (lv_sub hl [0, 1, 2, 3] rfl)
abbrev q_fill5b (dC : Nat → ClassId) (dI : Nat → Nat → Nat) (A : Nat → Prop) (aa : Nat) (ka : ClassId) (ff : Nat → Int32) : Array Value → State → Outcome → State → Prop := va_Qv (fun _ : Unit => True) (fun (_ : Unit) (t : State) => ∃ (g_aa : Nat → Int32), (Rg g_aa 0 64) ∧ (FLt g_aa (0 : Int32) 5) ∧ va_P (dC, dI) vwCl [(aa, .inl (ka, 5, .inl g_aa))] t.heap ∧ va_D A [(aa, .inl (ka, 5, .inl g_aa))]) A
set_option maxHeartbeats 4000000 in
set_option maxRecDepth 100000 in
theorem c_fill5b (l : Launch) (dC : Nat → ClassId) (dI : Nat → Nat → Nat) (sz : Nat) (aa : Nat) (ka : ClassId) (ff : Nat → Int32) (h_ff : Rg ff 0 64) : Met l yJ7_fill_53178 (pw_w yJ7_fill_53178 cJ7_fill_53178 4 none) ({ frames := 0, cells := 0, slots := 0, locals := 0 }) (va_Pc [.ref aa, .int 0] (fun U => U.heap.size = sz ∧ va_P (dC, dI) vwCl [(aa, .inl (ka, 5, .inl ff))] U.heap ∧ va_K (dC, dI) vwCl [(ka, .int)] U ∧ va_D (fun _ => True) [(aa, .inl (ka, 5, .inl ff))])) (q_fill5b dC dI (va_A [(aa, .inl (ka, 5, .inl ff))] sz) aa ka ff) 0 0 (va_A [(aa, .inl (ka, 5, .inl ff))] sz) := by
  refine Met.ofW (cc := cJ7_fill_53178) (maxL := 4) (ret := none) (by decide) rfl ?_
  intro p e s m args below meth c s₁ B hml hv
  obtain ⟨rfl, hsz, hP, hK, hD0⟩ := hv
  have hx := B.exec
  have hb := B.bytes
  have hr := B.returns
  have hts := atoms_spec (ws := (pw_w yJ7_fill_53178 cJ7_fill_53178 4 none)) B.pre
  have hT : ∀ w ∈ pw_T, w.before _ s = true := fun w h => hts w (List.mem_cons_of_mem _ h)
  have hown : s.vm.findClass RJ7 = some m.cls := findClass_of_methodNamed B.named
  have hlocks := B.notSynchronized
  subst hsz
  have hD := hD0.self (sz := s.heap.size)
  generalize hAe : va_A [(aa, .inl (ka, 5, .inl ff))] s.heap.size = A at hD ⊢
  have hA : ∀ q : Nat, s.heap.size ≤ q → A q := fun q h => by rw [← hAe]; exact Or.inr h
  have hS : va_S A s.heap s.heap [] := va_S.rf
  have hP : va_P (dC, dI) vwCl [(aa, .inl (ka, 5, .inl ff))] s.heap := hP
  have hl := lv_entry ([.ref aa, .int 0]) (n := 4) (Nat.le_of_ble_eq_true rfl)
  rw [lg_entry_eq]
  generalize (lg_sl ([.ref aa, .int 0]) ++ List.replicate (4 - (lg_sl ([.ref aa, .int 0])).length) Slot.unset).toArray = ls at hl ⊢
  have hl : lv_has ls 4 [(0, .ref aa), (1, .int 0)] := hl
  refine lv_iconst (v := 0) hx hb dJ7_fill_53178_0 (by decide) ?_
  refine lv_istore_n (lv' := [(2, .int 0), (0, .ref aa), (1, .int 0)]) hx hb dJ7_fill_53178_1 rfl hl (by decide) rfl (fun ls hl => ?_)
  refine lv_aload_n hx hb dJ7_fill_53178_2 rfl (lv_at hl 1 rfl) ?_
  refine va_alen (v := 5) hx hb hK hP 0 0 rfl rfl (rfl) dJ7_fill_53178_3 ?_
  refine lv_istore_n (lv' := [(3, .int 5), (2, .int 0), (0, .ref aa), (1, .int 0)]) hx hb dJ7_fill_53178_4 rfl hl (by decide) rfl (fun ls hl => ?_)
  have loop_7 : ∀ (fu : Nat), ∀ (g_5_l2 : Int32), ∀ (g_5_f0 : Nat → Int32), (0 ≤ g_5_l2.toInt ∧ g_5_l2.toInt ≤ 5) → (Rg g_5_f0 0 64) → (FIt g_5_f0 (0 : Int32) g_5_l2) → (5 - g_5_l2.toInt < (fu : Int)) → ∀ (H : Heap) (locs : List Loc), va_P (dC, dI) vwCl [(aa, .inl (ka, 5, .inl g_5_f0))] H → va_D A [(aa, .inl (ka, 5, .inl g_5_f0))] → va_S A s.heap H locs → ∀ (ls : Array Slot), lv_has ls 4 [(3, .int 5), (2, .int g_5_l2), (0, .ref aa), (1, .int 0)] → W p l e (headSpec (pw_w yJ7_fill_53178 cJ7_fill_53178 4 none) ({ frames := 0, cells := 0, slots := 0, locals := 0 })).room s m ([.ref aa, .int 0] : List Value).toArray below meth c H locs 0 0 (MQ below (q_fill5b dC dI A aa ka ff) ([.ref aa, .int 0] : List Value).toArray s 0 0 A) (F0 m 5 ls []) := by
    intro fu
    induction fu with
    | zero => intro g_5_l2 g_5_f0 hg_5_l2 hg_5_f0 hi_fi_q_6 hfu; exact absurd hfu (by omega)
    | succ fu7 ih7 =>
      intro g_5_l2 g_5_f0 hg_5_l2 hg_5_f0 hi_fi_q_6 hfu7 H locs hP hD hS ls hl
      refine lv_iload_n hx hb dJ7_fill_53178_5 rfl (lv_at hl 1 rfl) ?_
      refine lv_iload_n hx hb dJ7_fill_53178_6 rfl (lv_at hl 0 rfl) ?_
      refine lv_icmp_ge (tgt := 20) hx hb dJ7_fill_53178_7 (by decide) (fun c_8 => ?_) (fun c_8 => ?_)
      · have kc_8 := il_le c_8
        have := (by decide : (5 : Int32).toInt = 5)
        have hP9 := hP.sub (ws' := [(aa, .inl (ka, 5, .inl g_5_f0))]) [0] rfl
        have hD9 := hD.sub (ws' := [(aa, .inl (ka, 5, .inl g_5_f0))]) [0] (by decide) rfl
        exact W.vret hx hb hr (fun t ht hW => ⟨⟨(), rfl, trivial, g_5_f0, hg_5_f0, (FIt_e hi_fi_q_6 (by omega)), by rw [ht]; exact hP9, hD9⟩, hS.F ht⟩) hS.2.2 dJ7_fill_53178_20
      · have kc_8 := il_nle c_8
        have := (by decide : (5 : Int32).toInt = 5)
        refine lv_aload_n hx hb dJ7_fill_53178_10 rfl (lv_at hl 2 rfl) ?_
        refine lv_iload_n hx hb dJ7_fill_53178_11 rfl (lv_at hl 1 rfl) ?_
        refine lv_iload_n hx hb dJ7_fill_53178_12 rfl (lv_at hl 3 rfl) ?_
        refine va_iast hx hb hK hP hD hS 0 0 rfl rfl (vp_in_iff.mpr (by omega)) dJ7_fill_53178_13 (fun H locs hP hD hS => ?_)
        have hP : va_P (dC, dI) vwCl [(aa, .inl (ka, 5, .inl (upd g_5_f0 (g_5_l2 : Int32).toNatClampNeg (0 : Int32))))] H := hP
        have hD : va_D A [(aa, .inl (ka, 5, .inl (upd g_5_f0 (g_5_l2 : Int32).toNatClampNeg (0 : Int32))))] := hD
        obtain ⟨f_9, hf_9, ef_9⟩ : ∃ g : Nat → Int32, Rg g 0 64 ∧ (upd g_5_f0 (g_5_l2 : Int32).toNatClampNeg (0 : Int32)) = g := ⟨_, Rg_upd hg_5_f0 (by decide), rfl⟩
        rw [ef_9] at hP hD
        obtain ⟨z_10, ez_10⟩ : ∃ y : Int32, y = g_5_l2 + Int32.ofInt (1) := ⟨_, rfl⟩
        have kz_10 : z_10.toInt = g_5_l2.toInt + (1) := ti_add ez_10 rfl (by decide) (by omega) (by omega)
        refine lv_iinc (v := z_10) (lv' := [(2, .int z_10), (3, .int 5), (0, .ref aa), (1, .int 0)]) hx hb dJ7_fill_53178_14 hl (k := 1) rfl (ez_10.symm) (by decide) rfl (fun ls hl => ?_)
        clear ez_10
        refine lv_goto (tgt := 5) hx hb dJ7_fill_53178_17 (by decide) ?_
        exact ih7 z_10 f_9 (by omega) hf_9 (FIt_s hi_fi_q_6 ef_9 (by omega) (by omega)) (by omega) _ _ (hP.sub [0] rfl) (hD.sub [0] (by decide) rfl) hS _ (lv_sub hl [1, 0, 2, 3] rfl)
  have := (by decide : (0 : Int32).toInt = 0)
  exact loop_7 4294967296 (0 : Int32) ff (by decide) h_ff FIt_0 (by omega) _ _ (hP.sub [0] rfl) (hD.sub [0] (by decide) rfl) hS _ (lv_sub hl [0, 1, 2, 3] rfl)
