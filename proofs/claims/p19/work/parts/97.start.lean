theorem dL_law_0 : decode cL_law 0 = .ok (.new 8, 3) := by decide +kernel
theorem dL_law_3 : decode cL_law 3 = .ok (.dup, 1) := by decide +kernel
theorem dL_law_4 : decode cL_law 4 = .ok (.invokespecial 17, 3) := by decide +kernel
theorem dL_law_7 : decode cL_law 7 = .ok (.astore_n 1, 1) := by decide +kernel
theorem dL_law_8 : decode cL_law 8 = .ok (.new 18, 3) := by decide +kernel
theorem dL_law_11 : decode cL_law 11 = .ok (.dup, 1) := by decide +kernel
theorem dL_law_12 : decode cL_law 12 = .ok (.invokespecial 20, 3) := by decide +kernel
theorem dL_law_15 : decode cL_law 15 = .ok (.astore_n 2, 1) := by decide +kernel
theorem dL_law_16 : decode cL_law 16 = .ok (.iconst 1, 1) := by decide +kernel
theorem dL_law_17 : decode cL_law 17 = .ok (.newarray .long, 2) := by decide +kernel
theorem dL_law_19 : decode cL_law 19 = .ok (.astore_n 3, 1) := by decide +kernel
theorem dL_law_20 : decode cL_law 20 = .ok (.iconst 0, 1) := by decide +kernel
theorem dL_law_21 : decode cL_law 21 = .ok (.istore 4, 2) := by decide +kernel
set_option maxHeartbeats 4000000 in
set_option maxRecDepth 100000 in
theorem whole_start {p : Program} {e : Env} {s : State} {m : MethodId} {below : List Frame} {meth : Method} {c : Code} (l : Launch) (hst : l.stackTraces = false) {b L : Nat} {xs : Nat → Int32} (hL : L ≤ 3584) (C0 : lw_At p s m meth c b L xs) : W p l e room_1 s m #[Value.ref b] below meth c s.heap [] 0 0 (lw_Z below #[Value.ref b] s) (entryFrame m ([Value.ref b] : List Value).toArray 7) := by
  obtain ⟨hx, hb, hr, hml, hown, hts, hXs, hbl, hlocks, hgv⟩ := C0
  have hT : ∀ w ∈ pw_T, w.before #[Value.ref b] s = true := fun w h => hts w (List.mem_filter.mp h).1
  have hown : s.vm.findClass RL = some m.cls := hown
  obtain ⟨A, hAd⟩ : ∃ A : Nat → Prop, A = (fun q : Nat => s.heap.size ≤ q) := ⟨_, rfl⟩
  have hA : ∀ q : Nat, s.heap.size ≤ q → A q := fun q h => by rw [hAd]; exact h
  have hAo : ∀ q : Nat, A q → s.heap.size ≤ q := fun q h => by rw [hAd] at h; exact h
  have hNA : ∀ q : Nat, q < s.heap.size → ¬ A q := fun q h z => absurd (hAo q z) (Nat.not_le.mpr h)
  have hbA : ¬ A b := hNA b hbl
  obtain ⟨c0, iS0, hKn0⟩ := u_known (C := RX0) (T := TX0) (N := 14) (n := 14) hT inX0 (hT _ mw_2_99)
  obtain ⟨c1, iS1, hKn1⟩ := u_known (C := RX1) (T := TX1) (N := 7) (n := 7) hT inX1 (hT _ mw_2_222)
  obtain ⟨c2, iS2, hKn2⟩ := u_known (C := RX2) (T := TX2) (N := 2) (n := 2) hT inX2 (hT _ mw_2_158)
  obtain ⟨c3, iS3, hKn3⟩ := u_known (C := RX3) (T := TX3) (N := 9) (n := 9) hT inX3 (hT _ mw_2_53)
  obtain ⟨c4, iS4, hKn4⟩ := u_known (C := RX4) (T := TX4) (N := 8) (n := 8) hT inX4 (hT _ mw_1_35)
  obtain ⟨c5, iS5, hKn5⟩ := u_known (C := RX5) (T := TX5) (N := 7) (n := 7) hT inX5 (hT _ mw_2_173)
  obtain ⟨c6, iS6, hKn6⟩ := u_known (C := RX6) (T := TX6) (N := 7) (n := 7) hT inX6 (hT _ mw_1_158)
  obtain ⟨c7, iS7, hKn7⟩ := u_known (C := RX7) (T := TX7) (N := 5) (n := 5) hT inX7 (hT _ mw_1_41)
  obtain ⟨c8, iS8, hKn8⟩ := u_known (C := RX8) (T := TX8) (N := 18) (n := 18) hT inX8 (hT _ mw_1_152)
  obtain ⟨c9, iS9, hKn9⟩ := u_known (C := RX9) (T := TX9) (N := 3) (n := 3) hT inX9 (hT _ mw_2_203)
  obtain ⟨c10, iS10, hKn10⟩ := u_known (C := RX10) (T := TX10) (N := 15) (n := 15) hT inX10 (hT _ mw_1_27)
  obtain ⟨c11, iS11, hKn11⟩ := u_known (C := RX11) (T := TX11) (N := 73) (n := 73) hT inX11 (hT _ mw_6_12)
  obtain ⟨dC, dI, hKc⟩ : ∃ (dC : Nat → ClassId) (dI : Nat → Nat → Nat), ∀ (k : Nat) (q : vw_C), vwCl[k]? = some q → u_Kn s q.1 q.2.1 q.2.2 (dC k) (dI k) := by
    refine ⟨fun k => if k = 0 then c0 else if k = 1 then c1 else if k = 2 then c2 else if k = 3 then c3 else if k = 4 then c4 else if k = 5 then c5 else if k = 6 then c6 else if k = 7 then c7 else if k = 8 then c8 else if k = 9 then c9 else if k = 10 then c10 else c11, fun k => if k = 0 then iS0 else if k = 1 then iS1 else if k = 2 then iS2 else if k = 3 then iS3 else if k = 4 then iS4 else if k = 5 then iS5 else if k = 6 then iS6 else if k = 7 then iS7 else if k = 8 then iS8 else if k = 9 then iS9 else if k = 10 then iS10 else iS11, ?_⟩
    intro k q hq
    match k, hq with
    | 0, hq => cases hq; exact hKn0
    | 1, hq => cases hq; exact hKn1
    | 2, hq => cases hq; exact hKn2
    | 3, hq => cases hq; exact hKn3
    | 4, hq => cases hq; exact hKn4
    | 5, hq => cases hq; exact hKn5
    | 6, hq => cases hq; exact hKn6
    | 7, hq => cases hq; exact hKn7
    | 8, hq => cases hq; exact hKn8
    | 9, hq => cases hq; exact hKn9
    | 10, hq => cases hq; exact hKn10
    | 11, hq => cases hq; exact hKn11
    | k + 12, hq => simp [vwCl] at hq
  have hS : va_S A s.heap s.heap [] := va_S.rf
  have hK : va_K (dC, dI) vwCl [] s := ⟨hKc, fun k q h => by simp at h⟩
  have hs := flat_of_before _ hgv
  obtain ⟨adK, adV, hKS, hKe⟩ := vk_Sof (args := #[Value.ref b]) (s := s) (N := 1) (tm := fun _ => (Term.string "PassedClocks$Tokens" 24)) (len := [104]) (byt := [[99, 108, 111, 99, 107, 32, 112, 101, 114, 115, 111, 110, 32, 114, 111, 117, 110, 100, 32, 103, 117, 110, 32, 103, 97, 105, 110, 115, 32, 114, 111, 117, 103, 104, 32, 105, 102, 32, 115, 101, 116, 115, 32, 116, 97, 107, 101, 115, 32, 104, 97, 108, 102, 32, 112, 97, 114, 116, 32, 109, 105, 100, 100, 108, 101, 32, 111, 114, 32, 97, 110, 100, 32, 110, 111, 116, 32, 97, 104, 101, 97, 100, 32, 108, 97, 115, 116, 32, 112, 97, 115, 115, 101, 100, 32, 104, 111, 117, 114, 32, 100, 97, 121, 32]]) (A := A) (by decide) (fun _ _ => hs _ sf_ex) (fun _ _ => hs _ sf_co) (fun _ _ => hs _ sf_ar) (fun i hi => by have q : i = 0 := (by omega); subst q; exact hs _ sf_le) (fun i hi j hj => hs _ (sf_el i hi j (by have q : i = 0 := (by omega); subst q; exact hj))) (fun i j hi hj h => absurd (show i = j by omega) h) hNA
  obtain ⟨sK, hsK⟩ : ∃ a, a = adK 0 := ⟨_, rfl⟩
  obtain ⟨sV, hsV⟩ : ∃ a, a = adV 0 := ⟨_, rfl⟩
  have hE : st_S sK sV A s s.heap := by
    obtain ⟨h1, h2, h3, h4⟩ := hKS.1 0 (by decide)
    rw [← hsK] at h1 h2 h3
    rw [← hsV] at h3 h4
    exact ⟨h1, h2, h3, h4, va_Zof (hts _ (tb_1 (List.mem_of_getElem? (i := 56) (by rfl)))) (hT _ mw_1_4) (va_eqi (hs _ sf_cs)) hNA, va_Zqof (hts _ (tb_1 (List.mem_of_getElem? (i := 72) (by rfl)))) (hT _ mw_1_6) (hs _ sf_si) hNA⟩
  have hR : vk_R RX7 24 "clock person round gun gains rough if sets takes half part middle or and not ahead last passed hour day " sK s := vk_R.of (A := #[Value.ref b]) (hts _ (tb_1 (List.mem_of_getElem? (i := 46) (by rfl)))) (by rw [hsK]; exact hKe 0 (by decide))
  clear hKS hKe
  obtain ⟨adK, adV, hKS, hKe⟩ := vk_Sof (args := #[Value.ref b]) (s := s) (N := 1) (tm := fun _ => (Term.string "PassedClocksModel" 186)) (len := [104]) (byt := [[99, 108, 111, 99, 107, 32, 112, 101, 114, 115, 111, 110, 32, 114, 111, 117, 110, 100, 32, 103, 117, 110, 32, 103, 97, 105, 110, 115, 32, 114, 111, 117, 103, 104, 32, 105, 102, 32, 115, 101, 116, 115, 32, 116, 97, 107, 101, 115, 32, 104, 97, 108, 102, 32, 112, 97, 114, 116, 32, 109, 105, 100, 100, 108, 101, 32, 111, 114, 32, 97, 110, 100, 32, 110, 111, 116, 32, 97, 104, 101, 97, 100, 32, 108, 97, 115, 116, 32, 112, 97, 115, 115, 101, 100, 32, 104, 111, 117, 114, 32, 100, 97, 121, 32]]) (A := A) (by decide) (fun _ _ => hs _ sf2_ex) (fun _ _ => hs _ sf2_co) (fun _ _ => hs _ sf2_ar) (fun i hi => by have q : i = 0 := (by omega); subst q; exact hs _ sf2_le) (fun i hi j hj => hs _ (sf2_el i hi j (by have q : i = 0 := (by omega); subst q; exact hj))) (fun i j hi hj h => absurd (show i = j by omega) h) hNA
  obtain ⟨sK2, hsK2⟩ : ∃ a, a = adK 0 := ⟨_, rfl⟩
  obtain ⟨sV2, hsV2⟩ : ∃ a, a = adV 0 := ⟨_, rfl⟩
  have hE2 : st_S sK2 sV2 A s s.heap := by
    obtain ⟨h1, h2, h3, h4⟩ := hKS.1 0 (by decide)
    rw [← hsK2] at h1 h2 h3
    rw [← hsV2] at h3 h4
    exact ⟨h1, h2, h3, h4, va_Zof (hts _ (tb_1 (List.mem_of_getElem? (i := 56) (by rfl)))) (hT _ mw_1_4) (va_eqi (hs _ sf_cs)) hNA, va_Zqof (hts _ (tb_1 (List.mem_of_getElem? (i := 72) (by rfl)))) (hT _ mw_1_6) (hs _ sf_si) hNA⟩
  have hRm : vk_R RX11 186 "clock person round gun gains rough if sets takes half part middle or and not ahead last passed hour day " sK2 s := vk_R.of (A := #[Value.ref b]) (hts _ (tb_7 (List.mem_of_getElem? (i := 20) (by rfl)))) (by rw [hsK2]; exact hKe 0 (by decide))
  clear hKS hKe
  have hn_15 : va_Nw (.methodLinkNest RX10 15 yX4_init "PassedClocks") s := va_Nw.of rfl (hts _ (tb_1 (List.mem_of_getElem? (i := 36) (by rfl))))
  have hn_22 : va_Nw (.methodLinkNest RX10 22 yX8_init "PassedClocks") s := va_Nw.of rfl (hts _ (tb_1 (List.mem_of_getElem? (i := 153) (by rfl))))
  have hn_62 : va_Nw (.methodLinkNest RX10 62 yX2_init "PassedClocks") s := va_Nw.of rfl (hts _ (tb_2 (List.mem_of_getElem? (i := 159) (by rfl))))
  have hn_69 : va_Nw (.methodLinkNest RX10 69 yX5_init "PassedClocks") s := va_Nw.of rfl (hts _ (tb_2 (List.mem_of_getElem? (i := 174) (by rfl))))
  have hn_76 : va_Nw (.methodLinkNest RX10 76 yX9_init "PassedClocks") s := va_Nw.of rfl (hts _ (tb_2 (List.mem_of_getElem? (i := 204) (by rfl))))
  have hn_83 : va_Nw (.methodLinkNest RX10 83 yX1_init "PassedClocks") s := va_Nw.of rfl (hts _ (tb_2 (List.mem_of_getElem? (i := 223) (by rfl))))
  have hn_50 : va_Nw (.methodLinkNest RX8 50 yX6_init "PassedClocks") s := va_Nw.of rfl (hts _ (tb_1 (List.mem_of_getElem? (i := 159) (by rfl))))
  obtain ⟨ns, _, _, _, hqns, -⟩ := Cond.exactly_spec (args := #[Value.ref b]) (first := s) (o := none) (s := s) (idx := []) (t := Term.string "PassedClocks" 148) (cls := "java/lang/String") (hs _ sf_np)
  have hR2 : vk_R RX10 148 "no such person" ns s := vk_R.of (A := #[Value.ref b]) (hts _ (tb_5 (List.mem_of_getElem? (i := 209) (by rfl)))) hqns
  obtain ⟨nw, _, _, _, hqnw, -⟩ := Cond.exactly_spec (args := #[Value.ref b]) (first := s) (o := none) (s := s) (idx := []) (t := Term.string "PassedClocks" 183) (cls := "java/lang/String") (hs _ sf_nw)
  have hR3 : vk_R RX10 183 "no such what" nw s := vk_R.of (A := #[Value.ref b]) (hts _ (tb_6 (List.mem_of_getElem? (i := 4) (by rfl)))) hqnw
  have hZU : vx_Zq Bundle.tN "UNASSIGNED_STACK" Bundle.steD A s s.heap := vx_Zqof (hts _ (tb_5 (List.mem_of_getElem? (i := 196) (by rfl)))) (hT _ mw_1_20) (hs _ sf_us) hNA
  have hZN : vx_Zq Bundle.tN "SUPPRESSED_SENTINEL" Bundle.listD A s s.heap := vx_Zqof (hts _ (tb_5 (List.mem_of_getElem? (i := 198) (by rfl)))) (hT _ mw_1_20) (hs _ sf_ss) hNA
  have hcast : va_Nw (.castable "java/lang/IndexOutOfBoundsException" "java/lang/IndexOutOfBoundsException") s := va_Nw.of rfl (hts _ (tb_5 (List.mem_of_getElem? (i := 171) (by rfl))))
  have hcas2 : va_Nw (.castable "java/util/NoSuchElementException" "java/util/NoSuchElementException") s := va_Nw.of rfl (hts _ (tb_5 (List.mem_of_getElem? (i := 237) (by rfl))))
  have hnc : va_Nc "java/util/NoSuchElementException" "java/lang/IndexOutOfBoundsException" s := va_Nc.of (hs _ sf_nc)
  have hd_0 : va_Nw (.declares ⟨"java/lang/RuntimeException", "<init>", "(Ljava/lang/String;)V"⟩) s := va_Nw.of rfl (hts _ (tb_5 (List.mem_of_getElem? (i := 173) (by rfl))))
  have hd_1 : va_Nw (.declares ⟨"java/lang/Exception", "<init>", "(Ljava/lang/String;)V"⟩) s := va_Nw.of rfl (hts _ (tb_5 (List.mem_of_getElem? (i := 175) (by rfl))))
  have hd_2 : va_Nw (.declares ⟨"java/lang/Throwable", "<init>", "(Ljava/lang/String;)V"⟩) s := va_Nw.of rfl (hts _ (tb_5 (List.mem_of_getElem? (i := 177) (by rfl))))
  have hl := lv_entry ([.ref b]) (n := 7) (Nat.le_of_ble_eq_true rfl)
  rw [lg_entry_eq]
  generalize (lg_sl ([.ref b]) ++ List.replicate (7 - (lg_sl ([.ref b])).length) Slot.unset).toArray = ls at hl ⊢
  have hl : lv_has ls 7 [(0, .ref b)] := hl
  refine nw_new (ci := 10) (fs := [.null, .null, .null, .null, .null, .null, .null, .int 0, .null, .null, .null, .null, .null, .null, .null]) (C := RX10) (T := TX10) (N := 15) hx hb hT inX10 tyX10 tyX10_ok hown (hT _ mw_1_26) (hT _ mw_1_27) (hT _ mw_1_1) hK rfl dfX10 (Nat.le_of_ble_eq_true rfl) (Nat.le_of_ble_eq_true rfl) dL_law_0 (fun H1 hP z1 o1 => ?_)
  have hP : va_P (dC, dI) vwCl [(s.heap.size, .inr (10, [.null, .null, .null, .null, .null, .null, .null, .int 0, .null, .null, .null, .null, .null, .null, .null]))] H1 := hP
  refine W.widen (k := 1) (n := 15) (Nat.le_of_ble_eq_true rfl) (Nat.le_of_ble_eq_true rfl) ?_
  have hS := nd_S hS z1 o1
  refine lv_dup hx hb dL_law_3 rfl ?_
  have hFc : ∀ q, va_A [(s.heap.size, .inr (10, [.null, .null, .null, .null, .null, .null, .null, .int 0, .null, .null, .null, .null, .null, .null, .null]))] H1.size q → A q := fun q h => by rcases nd_A h with h | h <;> exact hA _ (by have := hS.1; omega)
  refine va_callv (va_runI (As := []) (rest := [.ref s.heap.size]) ⟨hx, hb, hml, hown, hT⟩ (c_X10_init l dC dI H1.size s.heap.size sK sV) (cwI 0 hT (gw mw_1_30) rfl rfl rfl (hT _ mw_1_1) (hT _ mw_1_28) (hT _ mw_1_29) rfl (by decide +kernel) ⟨Nat.le_of_ble_eq_true rfl, Nat.le_of_ble_eq_true rfl⟩) ⟨fun a U g mk q => by obtain ⟨q0, q1, qP, qK, qD, qx0, qx1, qx2, qx3, qx4, qx5, qx6, qx7, qx8⟩ := q; exact ⟨q0, q1, qP, va_K.moved (u := U) (U := U.calling g mk a) (Vm.Alike.refl U.vm) qK, qD, st_S.moved (Vm.Alike.refl U.vm) qx0, vk_R.same rfl qx1, va_Nw.same rfl rfl qx2, va_Nw.same rfl rfl qx3, va_Nw.same rfl rfl qx4, va_Nw.same rfl rfl qx5, va_Nw.same rfl rfl qx6, va_Nw.same rfl rfl qx7, va_Nw.same rfl rfl qx8⟩, fun U hU hW => ⟨rfl, by rw [hU], by rw [hU]; exact hP, va_K.moved hW.alike hK, nd1 trivial, by rw [hU]; exact st_S.moved hW.alike (st_S.narrow (st_S.kept hE hS.2.1) hFc), vk_R.warm hW hR, va_Nw.warmM hW hn_15, va_Nw.warmM hW hn_22, va_Nw.warmM hW hn_62, va_Nw.warmM hW hn_69, va_Nw.warmM hW hn_76, va_Nw.warmM hW hn_83, va_Nw.warmM hW hn_50⟩⟩ rfl rfl hl.1 rfl (lv_room (Nat.le_of_ble_eq_true rfl)) dL_law_4 ⟨Nat.le_of_ble_eq_true rfl, Nat.le_of_ble_eq_true rfl⟩) hS (fun q _ h => hFc q h) hFc (fun u t H2 locs ht hvm hw hB hz1 hk1 hS => ?_)
  refine W.widen (k := 117) (n := 26376) (Nat.le_of_ble_eq_true rfl) (Nat.le_of_ble_eq_true rfl) ?_
  obtain ⟨ga, gk, f_tk_language, hLG, hK1, hP1, hD1⟩ := hB
  rw [ht] at hP1
  have hX : XW dC dI (fun q : Nat => s.heap.size ≤ q ∧ q < H2.size) s H2 s.heap.size 0 0 (-1) (fun _ => 0) dd0 0 0 0 0 (-1) := XW_made hvm.symm hK1 hP1 hD1 (fun q h1 h2 => ⟨hAo q (hFc q h2), h1⟩) hLG
  have hn1 : s.heap.size < H2.size := by have := hS.1; omega
  clear hFc hK1 hP1 hD1 hk1 hz1 ht hvm hw hP
  refine lv_astore_n (lv' := [(1, .ref s.heap.size), (0, .ref b)]) hx hb dL_law_7 rfl hl (by decide) rfl (fun ls hl => ?_)
  refine nw_new (ci := 11) (fs := [.int 0, .null, .int 0, .null, .null, .null, .null, .null, .null, .null, .null, .null, .null, .null, .null, .null, .null, .null, .null, .null, .null, .null, .null, .null, .int 0, .int 0, .int 0, .int 0, .int 0, .int 0, .int 0, .int 0, .int 0, .int 0, .int 0, .int 0, .int 0, .int 0, .int 0, .int 0, .int 0, .int 0, .int 0, .int 0, .int 0, .int 0, .null, .null, .null, .null, .null, .null, .int 0, .int 0, .null, .null, .null, .int 0, .int 0, .int 0, .null, .null, .null, .null, .int 0, .int 0, .int 0, .null, .null, .null, .null, .null, .null]) (C := RX11) (T := TX11) (N := 73) hx hb hT inX11 tyX11 tyX11_ok hown (hT _ mw_6_11) (hT _ mw_6_12) (hT _ mw_1_16) hK rfl dfX11 (Nat.le_of_ble_eq_true rfl) (Nat.le_of_ble_eq_true rfl) dL_law_8 (fun H3 hP z3 o3 => ?_)
  have hP : va_P (dC, dI) vwCl [(H2.size, .inr (11, [.int 0, .null, .int 0, .null, .null, .null, .null, .null, .null, .null, .null, .null, .null, .null, .null, .null, .null, .null, .null, .null, .null, .null, .null, .null, .int 0, .int 0, .int 0, .int 0, .int 0, .int 0, .int 0, .int 0, .int 0, .int 0, .int 0, .int 0, .int 0, .int 0, .int 0, .int 0, .int 0, .int 0, .int 0, .int 0, .int 0, .int 0, .null, .null, .null, .null, .null, .null, .int 0, .int 0, .null, .null, .null, .int 0, .int 0, .int 0, .null, .null, .null, .null, .int 0, .int 0, .int 0, .null, .null, .null, .null, .null, .null]))] H3 := hP
  refine W.widen (k := 118) (n := 26449) (Nat.le_of_ble_eq_true rfl) (Nat.le_of_ble_eq_true rfl) ?_
  have hS := nd_S hS z3 o3
  have hX := hX.keep (fun q h _ => o3 q h)
  refine lv_dup hx hb dL_law_11 rfl ?_
  have hFc : ∀ q, va_A [(H2.size, .inr (11, [.int 0, .null, .int 0, .null, .null, .null, .null, .null, .null, .null, .null, .null, .null, .null, .null, .null, .null, .null, .null, .null, .null, .null, .null, .null, .int 0, .int 0, .int 0, .int 0, .int 0, .int 0, .int 0, .int 0, .int 0, .int 0, .int 0, .int 0, .int 0, .int 0, .int 0, .int 0, .int 0, .int 0, .int 0, .int 0, .int 0, .int 0, .null, .null, .null, .null, .null, .null, .int 0, .int 0, .null, .null, .null, .int 0, .int 0, .int 0, .null, .null, .null, .null, .int 0, .int 0, .int 0, .null, .null, .null, .null, .null, .null]))] H3.size q → A q := fun q h => by rcases nd_A h with h | h <;> exact hA _ (by have := hS.1; omega)
  refine va_callv (va_runI (As := []) (rest := [.ref H2.size]) ⟨hx, hb, hml, hown, hT⟩ (c_X11_init l dC dI H3.size H2.size) (cwI 0 hT (gw mw_6_15) rfl rfl rfl (hT _ mw_1_16) (hT _ mw_6_13) (hT _ mw_6_14) rfl (by decide +kernel) ⟨Nat.le_of_ble_eq_true rfl, Nat.le_of_ble_eq_true rfl⟩) ⟨fun a U g mk q => by obtain ⟨q0, q1, qP, qK, qD⟩ := q; exact ⟨q0, q1, qP, va_K.moved (u := U) (U := U.calling g mk a) (Vm.Alike.refl U.vm) qK, qD⟩, fun U hU hW => ⟨rfl, by rw [hU], by rw [hU]; exact hP, va_K.moved hW.alike hK, nd1 trivial⟩⟩ rfl rfl hl.1 rfl (lv_room (Nat.le_of_ble_eq_true rfl)) dL_law_12 ⟨Nat.le_of_ble_eq_true rfl, Nat.le_of_ble_eq_true rfl⟩) hS (fun q _ h => hFc q h) hFc (fun u t H4 locs ht hvm hw hB hz1 hk1 hS => ?_)
  refine W.widen (k := 159) (n := 67978) (Nat.le_of_ble_eq_true rfl) (Nat.le_of_ble_eq_true rfl) ?_
  obtain ⟨ga2, gk2, hK1, hP1, hD1⟩ := hB
  rw [ht] at hP1
  have hM : MW dC dI (fun q : Nat => H2.size ≤ q ∧ q < H4.size) s H4 H2.size 0 0 (-1) (fun _ => 0) dd0 0 0 0 0 (-1) := MW_made hvm.symm hK1 hP1 hD1 (fun q h1 h => ⟨by rcases nd_A h with h | h <;> omega, h1⟩)
  have hX := hX.keep (H1 := H4) (fun q h1 h2 => hk1 q h1 (fun z => by have h3 : q < H2.size := h2.2; rcases nd_A z with z | z <;> omega))
  have hn2 : H2.size < H4.size := by have := hz1; omega
  clear hFc hK1 hP1 hD1 hk1 hz1 ht hvm hw hP
  refine lv_astore_n (lv' := [(2, .ref H2.size), (1, .ref s.heap.size), (0, .ref b)]) hx hb dL_law_15 rfl hl (by decide) rfl (fun ls hl => ?_)
  refine lv_iconst (v := 1) hx hb dL_law_16 (by decide) ?_
  refine va_newaK (atype := .long) (n := 1) (N := 1) (h := H4.size) hx hb (hT _ mw_1_189) rfl dL_law_17 rfl (by decide) (by decide) (by decide) (Nat.le_of_ble_eq_true rfl) (Nat.le_of_ble_eq_true rfl) rfl (fun H5 cA e5 z5 o5 hAr hNm => ?_)
  refine W.eq (g2 := F0 m 19 ls [.ref H4.size]) rfl ?_
  refine W.widen (k := 160) (n := 67979) (Nat.le_of_ble_eq_true rfl) (Nat.le_of_ble_eq_true rfl) ?_
  have hO : OW dC dI (fun q : Nat => H4.size ≤ q) s H5 H4.size := by
    refine ⟨cA, fun _ => 0, ⟨hK.1, fun k q hk => ?_⟩, fun k q hk => ?_, nd1 (Nat.le_refl _)⟩
    · have hz : k < 1 := (List.getElem?_eq_some_iff.mp hk).1
      rw [show k = 0 by omega] at hk
      cases hk
      exact ⟨hAr, hNm⟩
    · have hz : k < 1 := (List.getElem?_eq_some_iff.mp hk).1
      rw [show k = 0 by omega] at hk
      cases hk
      exact e5
  have hS := nd_S hS z5 o5
  have hX := hX.keep (fun q h _ => o5 q h)
  have hM := hM.keep (fun q h _ => o5 q h)
  refine lv_astore_n (lv' := [(3, .ref H4.size), (2, .ref H2.size), (1, .ref s.heap.size), (0, .ref b)]) hx hb dL_law_19 rfl hl (by decide) rfl (fun ls hl => ?_)
  refine lv_iconst (v := 0) hx hb dL_law_20 (by decide) ?_
  refine lv_istore (lv' := [(4, .int 0), (3, .ref H4.size), (2, .ref H2.size), (1, .ref s.heap.size), (0, .ref b)]) hx hb dL_law_21 hl (by decide) rfl (fun ls hl => ?_)
  exact law_loop hx hb hml hown hT hA (fun q h => hA _ h.1) (fun q h => hA _ (by have := h.1; omega)) (fun q h => hA _ (by have : H4.size ≤ q := h; omega)) (fun q h g => by have := h.2; have := g.1; omega) (fun q h g => by have := h.2; have : H4.size ≤ q := g; omega) (fun q h g => by have := h.2; have : H4.size ≤ q := g; omega) hXs hbl hbA hL hr hlocks hAo hst hR2 hR3 hZU hZN hcast hcas2 hnc hd_0 hd_1 hd_2 hE2 hRm 513 160 67979 0 0 0 (-1) (fun _ => 0) dd0 0 0 0 0 (-1) 0 0 (-1) (fun _ => 0) dd0 0 0 0 0 (-1) H5 locs ls (by omega) (by omega) (by decide) (by decide) (by have := (by decide : (0 : Int32).toInt = 0); omega) rfl (BTt_0 (by decide)) rfl rfl rfl rfl rfl rfl rfl rfl hX hM hO hS hl
