theorem dX4_kind_0 : decode cX4_kind 0 = .ok (.aload_n 0, 1) := by decide +kernel
theorem dX4_kind_1 : decode cX4_kind 1 = .ok (.getfield 25, 3) := by decide +kernel
theorem dX4_kind_4 : decode cX4_kind 4 = .ok (.getfield 77, 3) := by decide +kernel
theorem dX4_kind_7 : decode cX4_kind 7 = .ok (.aload_n 0, 1) := by decide +kernel
theorem dX4_kind_8 : decode cX4_kind 8 = .ok (.getfield 36, 3) := by decide +kernel
theorem dX4_kind_12 : decode cX4_kind 12 = .ok (.ireturn, 1) := by decide +kernel
theorem dX4_kind_11 : decode cX4_kind 11 = .ok (.iaload, 1) := by decide +kernel
abbrev q_X4_kind (dC : Nat → ClassId) (dI : Nat → Nat → Nat) (A : Nat → Prop) (rr : Nat) (rr_tape : Nat) (rr_bytes : Int32) (rr_fault : Int32) (rr_place : Int32) (tk : Nat) (td : Nat) (rr_at : Int32) (rr_knots : Int32) (tk_count : Int32) (tk_kind : Nat) (tk_place : Nat) (tk_worth : Nat) (tk_language : Nat) (k_tk_kind : ClassId) (f_tk_kind : Nat → Int32) : Array Value → State → Outcome → State → Prop := va_Qi (fun (r : Int32) (_ : Unit) => (0 ≤ r.toInt ∧ r.toInt ≤ 39) ∧ (r = f_tk_kind rr_at.toNatClampNeg)) (fun (_ : Unit) (t : State) => va_P (dC, dI) vwCl [(rr, .inr (4, [.ref rr_tape, .int rr_bytes, .int rr_fault, .int rr_place, .ref tk, .ref td, .int rr_at, .int rr_knots])), (tk, .inr (7, [.int tk_count, .ref tk_kind, .ref tk_place, .ref tk_worth, .ref tk_language])), (tk_kind, .inl (k_tk_kind, 701, .inl f_tk_kind))] t.heap ∧ va_D A [(rr, .inr (4, [.ref rr_tape, .int rr_bytes, .int rr_fault, .int rr_place, .ref tk, .ref td, .int rr_at, .int rr_knots])), (tk, .inr (7, [.int tk_count, .ref tk_kind, .ref tk_place, .ref tk_worth, .ref tk_language])), (tk_kind, .inl (k_tk_kind, 701, .inl f_tk_kind))]) A
set_option maxHeartbeats 4000000 in
set_option maxRecDepth 100000 in
theorem c_X4_kind (l : Launch) (dC : Nat → ClassId) (dI : Nat → Nat → Nat) (sz : Nat) (rr : Nat) (rr_tape : Nat) (rr_bytes : Int32) (rr_fault : Int32) (rr_place : Int32) (tk : Nat) (td : Nat) (rr_at : Int32) (rr_knots : Int32) (tk_count : Int32) (tk_kind : Nat) (tk_place : Nat) (tk_worth : Nat) (tk_language : Nat) (k_tk_kind : ClassId) (f_tk_kind : Nat → Int32) (h_rr_bytes : 0 ≤ rr_bytes.toInt ∧ rr_bytes.toInt ≤ 700) (h_rr_at : 0 ≤ rr_at.toInt ∧ rr_at.toInt ≤ 700) (h_rr_knots : 0 ≤ rr_knots.toInt ∧ rr_knots.toInt ≤ 64) (h_tk_count : 1 ≤ tk_count.toInt ∧ tk_count.toInt ≤ 701) (h_f_tk_kind : Rg f_tk_kind 0 39) : Met l yX4_kind (pw_w yX4_kind cX4_kind 1 (some .int)) ({ frames := 0, cells := 0, slots := 0, locals := 0 }) (va_Pc [.ref rr] (fun U => U.heap.size = sz ∧ va_P (dC, dI) vwCl [(rr, .inr (4, [.ref rr_tape, .int rr_bytes, .int rr_fault, .int rr_place, .ref tk, .ref td, .int rr_at, .int rr_knots])), (tk, .inr (7, [.int tk_count, .ref tk_kind, .ref tk_place, .ref tk_worth, .ref tk_language])), (tk_kind, .inl (k_tk_kind, 701, .inl f_tk_kind))] U.heap ∧ va_K (dC, dI) vwCl [(k_tk_kind, .int)] U ∧ va_D (fun _ => True) [(rr, .inr (4, [.ref rr_tape, .int rr_bytes, .int rr_fault, .int rr_place, .ref tk, .ref td, .int rr_at, .int rr_knots])), (tk, .inr (7, [.int tk_count, .ref tk_kind, .ref tk_place, .ref tk_worth, .ref tk_language])), (tk_kind, .inl (k_tk_kind, 701, .inl f_tk_kind))])) (q_X4_kind dC dI (va_A [(rr, .inr (4, [.ref rr_tape, .int rr_bytes, .int rr_fault, .int rr_place, .ref tk, .ref td, .int rr_at, .int rr_knots])), (tk, .inr (7, [.int tk_count, .ref tk_kind, .ref tk_place, .ref tk_worth, .ref tk_language])), (tk_kind, .inl (k_tk_kind, 701, .inl f_tk_kind))] sz) rr rr_tape rr_bytes rr_fault rr_place tk td rr_at rr_knots tk_count tk_kind tk_place tk_worth tk_language k_tk_kind f_tk_kind) 0 0 (va_A [(rr, .inr (4, [.ref rr_tape, .int rr_bytes, .int rr_fault, .int rr_place, .ref tk, .ref td, .int rr_at, .int rr_knots])), (tk, .inr (7, [.int tk_count, .ref tk_kind, .ref tk_place, .ref tk_worth, .ref tk_language])), (tk_kind, .inl (k_tk_kind, 701, .inl f_tk_kind))] sz) := by
  refine Met.ofW (cc := cX4_kind) (maxL := 1) (ret := (some .int)) (by decide) rfl ?_
  intro p e s m args below meth c s₁ B hml hv
  obtain ⟨rfl, hsz, hP, hK, hD0⟩ := hv
  have hx := B.exec
  have hb := B.bytes
  have hr := B.returns
  have hts := atoms_spec (ws := (pw_w yX4_kind cX4_kind 1 (some .int))) B.pre
  have hT : ∀ w ∈ pw_T, w.before _ s = true := fun w h => hts w (List.mem_cons_of_mem _ h)
  have hown : s.vm.findClass RX4 = some m.cls := findClass_of_methodNamed B.named
  have hlocks := B.notSynchronized
  subst hsz
  have hD := hD0.self (sz := s.heap.size)
  generalize hAe : va_A [(rr, .inr (4, [.ref rr_tape, .int rr_bytes, .int rr_fault, .int rr_place, .ref tk, .ref td, .int rr_at, .int rr_knots])), (tk, .inr (7, [.int tk_count, .ref tk_kind, .ref tk_place, .ref tk_worth, .ref tk_language])), (tk_kind, .inl (k_tk_kind, 701, .inl f_tk_kind))] s.heap.size = A at hD ⊢
  have hA : ∀ q : Nat, s.heap.size ≤ q → A q := fun q h => by rw [← hAe]; exact Or.inr h
  have hS : va_S A s.heap s.heap [] := va_S.rf
  have hP : va_P (dC, dI) vwCl [(rr, .inr (4, [.ref rr_tape, .int rr_bytes, .int rr_fault, .int rr_place, .ref tk, .ref td, .int rr_at, .int rr_knots])), (tk, .inr (7, [.int tk_count, .ref tk_kind, .ref tk_place, .ref tk_worth, .ref tk_language])), (tk_kind, .inl (k_tk_kind, 701, .inl f_tk_kind))] s.heap := hP
  have hl := lv_entry ([.ref rr]) (n := 1) (Nat.le_of_ble_eq_true rfl)
  rw [lg_entry_eq]
  generalize (lg_sl ([.ref rr]) ++ List.replicate (1 - (lg_sl ([.ref rr])).length) Slot.unset).toArray = ls at hl ⊢
  have hl : lv_has ls 1 [(0, .ref rr)] := hl
  refine lv_aload_n hx hb dX4_kind_0 rfl (lv_at hl 0 rfl) ?_
  refine va_get (D := (dC, dI)) (ci := 4) (v := .ref tk) (C := RX4) (T := TX4) (N := 8) hx hb hT inX4 hown hK hP 0 rfl rfl 4 (by decide) (hT _ mw_1_130) (fun _ h9 => h9) rfl dX4_kind_1 ?_
  refine va_get (D := (dC, dI)) (ci := 7) (v := .ref tk_kind) (C := RX7) (T := TX7) (N := 5) hx hb hT inX7 hown hK hP 1 rfl rfl 1 (by decide) (hT _ mw_1_104) (fun _ h9 => h9) rfl dX4_kind_4 ?_
  refine lv_aload_n hx hb dX4_kind_7 rfl (lv_at hl 0 rfl) ?_
  refine va_get (D := (dC, dI)) (ci := 4) (v := .int rr_at) (C := RX4) (T := TX4) (N := 8) hx hb hT inX4 hown hK hP 0 rfl rfl 6 (by decide) (hT _ mw_1_132) (fun _ h9 => h9) rfl dX4_kind_8 ?_
  refine va_iald hx hb hK hP 2 0 rfl rfl (vp_in_iff.mpr (by omega)) dX4_kind_11 ?_
  refine lv_topi (fun z_1 ez_1 => ?_)
  have kz_1 : 0 ≤ z_1.toInt ∧ z_1.toInt ≤ 39 := by rw [ez_1]; exact h_f_tk_kind _
  have hP9 := hP.sub (ws' := [(rr, .inr (4, [.ref rr_tape, .int rr_bytes, .int rr_fault, .int rr_place, .ref tk, .ref td, .int rr_at, .int rr_knots])), (tk, .inr (7, [.int tk_count, .ref tk_kind, .ref tk_place, .ref tk_worth, .ref tk_language])), (tk_kind, .inl (k_tk_kind, 701, .inl f_tk_kind))]) [0, 1, 2] rfl
  have hD9 := hD.sub (ws' := [(rr, .inr (4, [.ref rr_tape, .int rr_bytes, .int rr_fault, .int rr_place, .ref tk, .ref td, .int rr_at, .int rr_knots])), (tk, .inr (7, [.int tk_count, .ref tk_kind, .ref tk_place, .ref tk_worth, .ref tk_language])), (tk_kind, .inl (k_tk_kind, 701, .inl f_tk_kind))]) [0, 1, 2] (by decide) rfl
  exact W.iret (v := z_1) hx hb hr (fun t ht hW => ⟨⟨z_1, (), rfl, ⟨(by omega), ez_1⟩, by rw [ht]; exact hP9, hD9⟩, hS.F ht⟩) hS.2.2 dX4_kind_12
