
abbrev q_X7_spelled (dC : Nat → ClassId) (dI : Nat → Nat → Nat) (A : Nat → Prop) (sK : Nat) (va : Int32) (vb : Int32) (sV : Nat) : Array Value → State → Outcome → State → Prop := va_Qi (fun (r : Int32) (_ : Unit) => r.toInt = tk_V (fI sB) va.toInt.toNat vb.toInt.toNat) (fun (_ : Unit) (t : State) => va_P (dC, dI) vwCl [] t.heap ∧ va_D A []) A
set_option maxHeartbeats 4000000 in
set_option maxRecDepth 100000 in
theorem c_X7_spelled (l : Launch) (dC : Nat → ClassId) (dI : Nat → Nat → Nat) (sz : Nat) (sK : Nat) (va : Int32) (vb : Int32) (sV : Nat) (h_va : 0 ≤ va.toInt ∧ va.toInt ≤ 104) (h_vb : 0 ≤ vb.toInt ∧ vb.toInt ≤ 104) (hab : va.toInt ≤ vb.toInt ∧ vb.toInt ≤ va.toInt + 6) (hsm : ∀ j, va.toInt.toNat ≤ j → j < vb.toInt.toNat → tk_small (fI sB j)) : Met l yX7_spelled (pw_w yX7_spelled cX7_spelled 5 (some .int)) ({ frames := 4, cells := 0, slots := 0, locals := 85 }) (va_Pc [.ref sK, .int va, .int vb] (fun U => U.heap.size = sz ∧ va_P (dC, dI) vwCl [] U.heap ∧ va_K (dC, dI) vwCl [] U ∧ va_D (fun _ => True) [] ∧ (st_S sK sV (va_A [] sz) U U.heap))) (q_X7_spelled dC dI (va_A [] sz) sK va vb sV) 0 0 (va_A [] sz) := by
  refine Met.ofW (cc := cX7_spelled) (maxL := 5) (ret := (some .int)) (by decide) rfl ?_
  intro p e s m args below meth c s₁ B hml hv
  obtain ⟨rfl, hsz, hP, hK, hD0, hx0_⟩ := hv
  have hx := B.exec
  have hb := B.bytes
  have hr := B.returns
  have hts := atoms_spec (ws := (pw_w yX7_spelled cX7_spelled 5 (some .int))) B.pre
  have hT : ∀ w ∈ pw_T, w.before _ s = true := fun w h => hts w (List.mem_cons_of_mem _ h)
  have hown : s.vm.findClass RX7 = some m.cls := findClass_of_methodNamed B.named
  have hlocks := B.notSynchronized
  subst hsz
  have hD := hD0.self (sz := s.heap.size)
  generalize hAe : va_A [] s.heap.size = A at hD hx0_ ⊢
  have hA : ∀ q : Nat, s.heap.size ≤ q → A q := fun q h => by rw [← hAe]; exact Or.inr h
  have hS : va_S A s.heap s.heap [] := va_S.rf
  have hP : va_P (dC, dI) vwCl [] s.heap := hP
  have hE := hx0_
  have hl := lv_entry ([.ref sK, .int va, .int vb]) (n := 5) (Nat.le_of_ble_eq_true rfl)
  rw [lg_entry_eq]
  generalize (lg_sl ([.ref sK, .int va, .int vb]) ++ List.replicate (5 - (lg_sl ([.ref sK, .int va, .int vb])).length) Slot.unset).toArray = ls at hl ⊢
  have hl : lv_has ls 5 [(0, .ref sK), (1, .int va), (2, .int vb)] := hl
  refine lv_iconst (v := 0) hx hb dX7_spelled_0 (by decide) ?_
  refine lv_istore_n (lv' := [(3, .int 0), (0, .ref sK), (1, .int va), (2, .int vb)]) hx hb dX7_spelled_1 rfl hl (by decide) rfl (fun ls hl => ?_)
  refine lv_iload_n hx hb dX7_spelled_2 rfl (lv_at hl 2 rfl) ?_
  refine lv_istore (lv' := [(4, .int va), (3, .int 0), (0, .ref sK), (1, .int va), (2, .int vb)]) hx hb dX7_spelled_3 hl (by decide) rfl (fun ls hl => ?_)
  have loop_9 : ∀ (fu : Nat), ∀ (g_7_l4 : Int32), ∀ (g_7_l3 : Int32), (0 ≤ g_7_l4.toInt ∧ g_7_l4.toInt ≤ 104) → (PKt sB va g_7_l4 g_7_l3) → (va.toInt ≤ g_7_l4.toInt) → (g_7_l4.toInt ≤ vb.toInt) → (104 - g_7_l4.toInt < (fu : Int)) → ∀ (H : Heap) (locs : List Loc), va_P (dC, dI) vwCl [] H → va_D A [] → va_S A s.heap H locs → ∀ (ls : Array Slot), lv_has ls 5 [(4, .int g_7_l4), (3, .int g_7_l3), (0, .ref sK), (1, .int va), (2, .int vb)] → W p l e (headSpec (pw_w yX7_spelled cX7_spelled 5 (some .int)) ({ frames := 4, cells := 0, slots := 0, locals := 85 })).room s m ([.ref sK, .int va, .int vb] : List Value).toArray below meth c H locs 0 0 (MQ below (q_X7_spelled dC dI A sK va vb sV) ([.ref sK, .int va, .int vb] : List Value).toArray s 0 0 A) (F0 m 5 ls []) := by
    intro fu
    induction fu with
    | zero => intro g_7_l4 g_7_l3 hg_7_l4 hi_pk_q_8 hx0 hx1 hfu; exact absurd hfu (by omega)
    | succ fu9 ih9 =>
      intro g_7_l4 g_7_l3 hg_7_l4 hi_pk_q_8 hx0 hx1 hfu9 H locs hP hD hS ls hl
      refine lv_iload hx hb dX7_spelled_5 (lv_at hl 0 rfl) ?_
      refine lv_iload_n hx hb dX7_spelled_7 rfl (lv_at hl 4 rfl) ?_
      refine lv_icmp_ge (tgt := 32) hx hb dX7_spelled_8 (by decide) (fun c_10 => ?_) (fun c_10 => ?_)
      · have kc_10 := il_le c_10
        refine lv_iload_n hx hb dX7_spelled_32 rfl (lv_at hl 1 rfl) ?_
        have hP9 := hP.sub (ws' := []) [] rfl
        have hD9 := hD.sub (ws' := []) [] (by decide) rfl
        exact W.iret (v := g_7_l3) hx hb hr (fun t ht hW => ⟨⟨g_7_l3, (), rfl, (PKt_e hi_pk_q_8 (by omega) (by omega) (by omega) (by omega)), by rw [ht]; exact hP9, hD9⟩, hS.F ht⟩) hS.2.2 dX7_spelled_33
      · have kc_10 := il_nle c_10
        refine lv_iload_n hx hb dX7_spelled_11 rfl (lv_at hl 1 rfl) ?_
        refine lv_iload hx hb dX7_spelled_12 (lv_at hl 0 rfl) ?_
        refine lv_iload_n hx hb dX7_spelled_14 rfl (lv_at hl 3 rfl) ?_
        refine lv_isub hx hb dX7_spelled_15 ?_
        refine lv_topi (fun z_11 ez_11 => ?_)
        have kz_11 : z_11.toInt = g_7_l4.toInt - va.toInt := ti_sub ez_11 rfl rfl (by omega) (by omega)
        clear ez_11
        refine lv_aload_n hx hb dX7_spelled_16 rfl (lv_at hl 2 rfl) ?_
        refine lv_iload hx hb dX7_spelled_17 (lv_at hl 0 rfl) ?_
        have hPc := hP.sub (ws' := []) [] rfl
        have hDc := hD.sub (ws' := []) [] (by decide) rfl
        have hKc := hK.sub (tys' := []) [] rfl
        have hFc := va_free (wc := []) hD hS hA [] rfl
        refine va_calli (va_runV (As := [.int g_7_l4]) (rest := [.int z_11, .int g_7_l3]) ⟨hx, hb, hml, hown, hT⟩ (c_J0_charAt_5068e l dC dI H.size sK g_7_l4 sV (by omega)) (cwV 1 hT (gwV mw_1_57 mw_1_58 mw_1_59 mw_1_4 mw_1_60) rfl rfl rfl (by decide +kernel) ⟨Nat.le_of_ble_eq_true rfl, Nat.le_of_ble_eq_true rfl⟩) ⟨fun a U g mk q => by obtain ⟨q0, q1, qP, qK, qD, qx0⟩ := q; exact ⟨q0, q1, qP, va_K.moved (u := U) (U := U.calling g mk a) (Vm.Alike.refl U.vm) qK, qD, st_S.moved (Vm.Alike.refl U.vm) qx0⟩, (by obtain ⟨cell, h1, h2, h3, -⟩ := va_O.kept hE.1 hS.2.1; exact ⟨cell, h1, h2, h3⟩), fun U hU hW => ⟨rfl, by rw [hU], by rw [hU]; exact hPc, va_K.moved hW.alike hKc, hDc.weaken (fun _ _ _ _ => trivial), by rw [hU]; exact st_S.moved hW.alike (st_S.narrow (st_S.kept hE hS.2.1) hFc)⟩⟩ rfl rfl hl.1 rfl (lv_room (Nat.le_of_ble_eq_true rfl)) dX7_spelled_19 ⟨Nat.le_of_ble_eq_true rfl, Nat.le_of_ble_eq_true rfl⟩) hS (fun q _ h => hFc q h) hFc (fun r_12 u t H1 locs ht hvm hw hB hz1 hk1 hS => ?_)
        obtain ⟨hP1, hD1⟩ := hB
        rw [ht] at hP1
        obtain ⟨hP, hD⟩ := va_join (wr := []) (w1 := []) hP hD [] [] rfl rfl (by decide) (by decide) hk1 hFc hP1 hD1
        generalize H1 = H at hP hS ⊢
        have hP : va_P (dC, dI) vwCl [] H := hP
        have hD : va_D A [] := hD
        clear hPc hDc hKc hFc hP1 hD1 hk1 hz1 ht hvm
        have hwr_12 : narrow .char (.int r_12) = .int r_12 ∧ r_12.toInt = (sB g_7_l4.toNatClampNeg).toInt := hw
        clear hw
        have hPc := hP.sub (ws' := []) [] rfl
        have hDc := hD.sub (ws' := []) [] (by decide) rfl
        have hKc := hK.sub (tys' := []) [] rfl
        have hFc := va_free (wc := []) hD hS hA [] rfl
        refine va_calli (va_runS (As := [.int g_7_l3, .int z_11, .int r_12]) (rest := []) ⟨hx, hb, hml, hown, hT⟩ (c_X7_withLetter l dC dI H.size g_7_l3 z_11 r_12 ) (va_cwS 3 hT (gwS mw_1_98 mw_1_99 mw_1_3 mw_1_100) rfl rfl rfl (by decide +kernel) ⟨Nat.le_of_ble_eq_true rfl, Nat.le_of_ble_eq_true rfl⟩) ⟨fun a U g mk q => by obtain ⟨q0, q1, qP, qK, qD⟩ := q; exact ⟨q0, q1, qP, va_K.moved (u := U) (U := U.calling g mk a) (Vm.Alike.refl U.vm) qK, qD⟩, fun U hU hW => ⟨rfl, by rw [hU], by rw [hU]; exact hPc, va_K.moved hW.alike hKc, hDc.weaken (fun _ _ _ _ => trivial)⟩⟩ rfl rfl hl.1 rfl (lv_room (Nat.le_of_ble_eq_true rfl)) dX7_spelled_22 ⟨Nat.le_of_ble_eq_true rfl, Nat.le_of_ble_eq_true rfl⟩) hS (fun q _ h => hFc q h) hFc (fun r_13 u t H1 locs ht hvm hw hB hz1 hk1 hS => ?_)
        obtain ⟨hP1, hD1⟩ := hB
        rw [ht] at hP1
        obtain ⟨hP, hD⟩ := va_join (wr := []) (w1 := []) hP hD [] [] rfl rfl (by decide) (by decide) hk1 hFc hP1 hD1
        generalize H1 = H at hP hS ⊢
        have hP : va_P (dC, dI) vwCl [] H := hP
        have hD : va_D A [] := hD
        clear hPc hDc hKc hFc hP1 hD1 hk1 hz1 ht hvm
        have hwr_13 : WLt g_7_l3 z_11 r_12 r_13 := hw
        clear hw
        refine lv_istore_n (lv' := [(3, .int r_13), (4, .int g_7_l4), (0, .ref sK), (1, .int va), (2, .int vb)]) hx hb dX7_spelled_25 rfl hl (by decide) rfl (fun ls hl => ?_)
        obtain ⟨z_14, ez_14⟩ : ∃ y : Int32, y = g_7_l4 + Int32.ofInt (1) := ⟨_, rfl⟩
        have kz_14 : z_14.toInt = g_7_l4.toInt + (1) := ti_add ez_14 rfl (by decide) (by omega) (by omega)
        refine lv_iinc (v := z_14) (lv' := [(4, .int z_14), (3, .int r_13), (0, .ref sK), (1, .int va), (2, .int vb)]) hx hb dX7_spelled_26 hl (k := 1) rfl (ez_14.symm) (by decide) rfl (fun ls hl => ?_)
        clear ez_14
        refine lv_goto (tgt := 5) hx hb dX7_spelled_29 (by decide) ?_
        exact ih9 z_14 r_13 (by omega) (PKt_add hi_pk_q_8 (Int32.toInt_inj.mp hwr_12.2) (by have y := hsm g_7_l4.toInt.toNat (by omega) (by omega); unfold tk_small fI at y; rw [hwr_12.2]; exact y) hwr_13 (by omega) (by omega) (by omega) (by omega) (by omega)) (by omega) (by omega) (by omega) _ _ (hP.sub [] rfl) (hD.sub [] (by decide) rfl) hS _ (lv_sub hl [0, 1, 2, 3, 4] rfl)
  have := (by decide : (0 : Int32).toInt = 0)
  exact loop_9 4294967296 va (0 : Int32) (by omega) (PKt_0 (by omega)) (by omega) (by omega) (by omega) _ _ (hP.sub [] rfl) (hD.sub [] (by decide) rfl) hS _ (lv_sub hl [0, 1, 2, 3, 4] rfl)
