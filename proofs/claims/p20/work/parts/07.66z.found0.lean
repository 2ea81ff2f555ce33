
abbrev q_X11_found_0 (dC : Nat → ClassId) (dI : Nat → Nat → Nat) (A : Nat → Prop) (nn : Nat) (vn : Int32) (vw : Int32) (knn : ClassId) (fnn : Nat → Int32) : Array Value → State → Outcome → State → Prop := va_Qi (fun (r : Int32) (_ : Unit) => (-1 ≤ r.toInt ∧ (r.toInt = -1 ∨ r.toInt < vn.toInt)) ∧ r.toInt = pf_find (nx fnn 0) vw.toInt vn.toInt.toNat) (fun (_ : Unit) (t : State) => va_P (dC, dI) vwCl [(nn, .inl (knn, 10, .inl fnn))] t.heap ∧ va_D A [(nn, .inl (knn, 10, .inl fnn))]) A
set_option maxHeartbeats 4000000 in
set_option maxRecDepth 100000 in
theorem c_X11_found_0 (l : Launch) (dC : Nat → ClassId) (dI : Nat → Nat → Nat) (sz : Nat) (nn : Nat) (vn : Int32) (vw : Int32) (knn : ClassId) (fnn : Nat → Int32) (h_vn : 0 ≤ vn.toInt ∧ vn.toInt ≤ 5) : Met l yX11_found (pw_w yX11_found cX11_found 5 (some .int)) ({ frames := 0, cells := 0, slots := 0, locals := 0 }) (va_Pc [.ref nn, .int 0, .int vn, .int vw] (fun U => U.heap.size = sz ∧ va_P (dC, dI) vwCl [(nn, .inl (knn, 10, .inl fnn))] U.heap ∧ va_K (dC, dI) vwCl [(knn, .int)] U ∧ va_D (fun _ => True) [(nn, .inl (knn, 10, .inl fnn))])) (q_X11_found_0 dC dI (va_A [(nn, .inl (knn, 10, .inl fnn))] sz) nn vn vw knn fnn) 0 0 (va_A [(nn, .inl (knn, 10, .inl fnn))] sz) := by
  refine Met.ofW (cc := cX11_found) (maxL := 5) (ret := (some .int)) (by decide) rfl ?_
  intro p e s m args below meth c s₁ B hml hv
  obtain ⟨rfl, hsz, hP, hK, hD0⟩ := hv
  have hx := B.exec
  have hb := B.bytes
  have hr := B.returns
  have hts := atoms_spec (ws := (pw_w yX11_found cX11_found 5 (some .int))) B.pre
  have hT : ∀ w ∈ pw_T, w.before _ s = true := fun w h => hts w (List.mem_cons_of_mem _ h)
  have hown : s.vm.findClass RX11 = some m.cls := findClass_of_methodNamed B.named
  have hlocks := B.notSynchronized
  subst hsz
  have hD := hD0.self (sz := s.heap.size)
  generalize hAe : va_A [(nn, .inl (knn, 10, .inl fnn))] s.heap.size = A at hD ⊢
  have hA : ∀ q : Nat, s.heap.size ≤ q → A q := fun q h => by rw [← hAe]; exact Or.inr h
  have hS : va_S A s.heap s.heap [] := va_S.rf
  have hP : va_P (dC, dI) vwCl [(nn, .inl (knn, 10, .inl fnn))] s.heap := hP
  have hl := lv_entry ([.ref nn, .int 0, .int vn, .int vw]) (n := 5) (Nat.le_of_ble_eq_true rfl)
  rw [lg_entry_eq]
  generalize (lg_sl ([.ref nn, .int 0, .int vn, .int vw]) ++ List.replicate (5 - (lg_sl ([.ref nn, .int 0, .int vn, .int vw])).length) Slot.unset).toArray = ls at hl ⊢
  have hl : lv_has ls 5 [(0, .ref nn), (1, .int 0), (2, .int vn), (3, .int vw)] := hl
  have := (by decide : (0 : Int32).toInt = 0)
  refine lv_iconst (v := 0) hx hb dX11_found_0 (by decide) ?_
  refine lv_istore (lv' := [(4, .int 0), (0, .ref nn), (1, .int 0), (2, .int vn), (3, .int vw)]) hx hb dX11_found_1 hl (by decide) rfl (fun ls hl => ?_)
  have loop_9 : ∀ (fu : Nat), ∀ (g_7_l4 : Int32), (0 ≤ g_7_l4.toInt ∧ g_7_l4.toInt ≤ 5) → (FNx fnn (0 : Int32) vw g_7_l4) → (5 - g_7_l4.toInt < (fu : Int)) → ∀ (H : Heap) (locs : List Loc), va_P (dC, dI) vwCl [(nn, .inl (knn, 10, .inl fnn))] H → va_D A [(nn, .inl (knn, 10, .inl fnn))] → va_S A s.heap H locs → ∀ (ls : Array Slot), lv_has ls 5 [(4, .int g_7_l4), (0, .ref nn), (1, .int 0), (2, .int vn), (3, .int vw)] → W p l e (headSpec (pw_w yX11_found cX11_found 5 (some .int)) ({ frames := 0, cells := 0, slots := 0, locals := 0 })).room s m ([.ref nn, .int 0, .int vn, .int vw] : List Value).toArray below meth c H locs 0 0 (MQ below (q_X11_found_0 dC dI A nn vn vw knn fnn) ([.ref nn, .int 0, .int vn, .int vw] : List Value).toArray s 0 0 A) (F0 m 3 ls []) := by
    intro fu
    induction fu with
    | zero => intro g_7_l4 hg_7_l4 hi_fx_q_8 hfu; exact absurd hfu (by omega)
    | succ fu9 ih9 =>
      intro g_7_l4 hg_7_l4 hi_fx_q_8 hfu9 H locs hP hD hS ls hl
      refine lv_iload hx hb dX11_found_3 (lv_at hl 0 rfl) ?_
      refine lv_iload_n hx hb dX11_found_5 rfl (lv_at hl 3 rfl) ?_
      refine lv_icmp_ge (tgt := 28) hx hb dX11_found_6 (by decide) (fun c_10 => ?_) (fun c_10 => ?_)
      · have kc_10 := il_le c_10
        refine lv_iconst (v := (-1)) hx hb dX11_found_28 (by decide) ?_
        have hP9 := hP.sub (ws' := [(nn, .inl (knn, 10, .inl fnn))]) [0] rfl
        have hD9 := hD.sub (ws' := [(nn, .inl (knn, 10, .inl fnn))]) [0] (by decide) rfl
        have := (by decide : ((-1) : Int32).toInt = -1)
        exact W.iret (v := (-1)) hx hb hr (fun t ht hW => ⟨⟨(-1), (), rfl, ⟨by omega, FNx_n hi_fx_q_8 (by omega)⟩, by rw [ht]; exact hP9, hD9⟩, hS.F ht⟩) hS.2.2 dX11_found_29
      · have kc_10 := il_nle c_10
        refine lv_aload_n hx hb dX11_found_9 rfl (lv_at hl 1 rfl) ?_
        refine lv_iload_n hx hb dX11_found_10 rfl (lv_at hl 2 rfl) ?_
        refine lv_iload hx hb dX11_found_11 (lv_at hl 0 rfl) ?_
        refine lv_iadd hx hb dX11_found_13 ?_
        refine lv_topi (fun z_11 ez_11 => ?_)
        have kz_11 : z_11.toInt = 0 + g_7_l4.toInt := ti_add ez_11 (by decide) rfl (by omega) (by omega)
        clear ez_11
        refine va_iald hx hb hK hP 0 0 rfl rfl (vp_in_iff.mpr (by omega)) dX11_found_14 ?_
        refine lv_topi (fun z_12 ez_12 => ?_)
        refine lv_iload_n hx hb dX11_found_15 rfl (lv_at hl 4 rfl) ?_
        refine lv_icmp_ne (tgt := 22) hx hb dX11_found_16 (by decide) (fun c_13 => ?_) (fun c_13 => ?_)
        · have kc_13 := il_ne c_13
          have := Int32.toInt_lt z_12; have := Int32.le_toInt z_12
          have := Int32.toInt_lt vw; have := Int32.le_toInt vw
          obtain ⟨z_14, ez_14⟩ : ∃ y : Int32, y = g_7_l4 + Int32.ofInt (1) := ⟨_, rfl⟩
          have kz_14 : z_14.toInt = g_7_l4.toInt + (1) := ti_add ez_14 rfl (by decide) (by omega) (by omega)
          refine lv_iinc (v := z_14) (lv' := [(4, .int z_14), (0, .ref nn), (1, .int 0), (2, .int vn), (3, .int vw)]) hx hb dX11_found_22 hl (k := 0) rfl (ez_14.symm) (by decide) rfl (fun ls hl => ?_)
          clear ez_14
          refine lv_goto (tgt := 3) hx hb dX11_found_25 (by decide) ?_
          exact ih9 z_14 (by omega) (FNx_s (y := z_11) hi_fx_q_8 (by omega) (by omega) ez_12 (by omega) (by omega)) (by omega) _ _ (hP.sub [0] rfl) (hD.sub [0] (by decide) rfl) hS _ (lv_sub hl [0, 1, 2, 3, 4] rfl)
        · have kc_13 := il_eq c_13
          have := Int32.toInt_lt z_12; have := Int32.le_toInt z_12
          have := Int32.toInt_lt vw; have := Int32.le_toInt vw
          refine lv_iload hx hb dX11_found_19 (lv_at hl 0 rfl) ?_
          have hP9 := hP.sub (ws' := [(nn, .inl (knn, 10, .inl fnn))]) [0] rfl
          have hD9 := hD.sub (ws' := [(nn, .inl (knn, 10, .inl fnn))]) [0] (by decide) rfl
          exact W.iret (v := g_7_l4) hx hb hr (fun t ht hW => ⟨⟨g_7_l4, (), rfl, ⟨by omega, FNx_y (y := z_11) hi_fx_q_8 (by omega) (by omega) (by omega) ez_12 (by omega)⟩, by rw [ht]; exact hP9, hD9⟩, hS.F ht⟩) hS.2.2 dX11_found_21
  have := (by decide : (0 : Int32).toInt = 0)
  exact loop_9 4294967296 (0 : Int32) (by decide) FNx_0 (by omega) _ _ (hP.sub [0] rfl) (hD.sub [0] (by decide) rfl) hS _ (lv_sub hl [0, 1, 2, 3, 4] rfl)
