
set_option maxRecDepth 20000 in
theorem sf_e0 : ∀ j, j < 104 → (flatC (Jvm.Cond.and given_1 narrow_1))[41 + j]? = some (Cond.eq (.elem (Term.field (Term.string "PassedClocks$Tokens" 24) "java/lang/String" "value" "[B") (.int (Int32.ofNat j))) (.int (([99, 108, 111, 99, 107, 32, 112, 101, 114, 115, 111, 110, 32, 114, 111, 117, 110, 100, 32, 103, 117, 110, 32, 103, 97, 105, 110, 115, 32, 114, 111, 117, 103, 104, 32, 105, 102, 32, 115, 101, 116, 115, 32, 116, 97, 107, 101, 115, 32, 104, 97, 108, 102, 32, 112, 97, 114, 116, 32, 109, 105, 100, 100, 108, 101, 32, 111, 114, 32, 97, 110, 100, 32, 110, 111, 116, 32, 97, 104, 101, 97, 100, 32, 108, 97, 115, 116, 32, 112, 97, 115, 115, 101, 100, 32, 104, 111, 117, 114, 32, 100, 97, 121, 32] : List Int32).getD j 0))) := by decide +kernel
theorem sf_el : ∀ i, i < 1 → ∀ j, j < 104 → Cond.eq (.elem (Term.field (Term.string "PassedClocks$Tokens" 24) "java/lang/String" "value" "[B") (.int (Int32.ofNat j))) (.int ((([[99, 108, 111, 99, 107, 32, 112, 101, 114, 115, 111, 110, 32, 114, 111, 117, 110, 100, 32, 103, 117, 110, 32, 103, 97, 105, 110, 115, 32, 114, 111, 117, 103, 104, 32, 105, 102, 32, 115, 101, 116, 115, 32, 116, 97, 107, 101, 115, 32, 104, 97, 108, 102, 32, 112, 97, 114, 116, 32, 109, 105, 100, 100, 108, 101, 32, 111, 114, 32, 97, 110, 100, 32, 110, 111, 116, 32, 97, 104, 101, 97, 100, 32, 108, 97, 115, 116, 32, 112, 97, 115, 115, 101, 100, 32, 104, 111, 117, 114, 32, 100, 97, 121, 32]] : List (List Int32)).getD i []).getD j 0)) ∈ flatC (Jvm.Cond.and given_1 narrow_1) := by
  intro i hi j hj
  have q : i = 0 := by omega
  subst q
  exact List.mem_of_getElem? (sf_e0 j hj)
set_option maxRecDepth 20000 in
theorem sf_ex : Cond.exactly (Term.string "PassedClocks$Tokens" 24) "java/lang/String" ∈ flatC (Jvm.Cond.and given_1 narrow_1) := List.mem_of_getElem? (i := 37) (by rfl)
set_option maxRecDepth 20000 in
theorem sf_co : Cond.eq (.field (Term.string "PassedClocks$Tokens" 24) "java/lang/String" "coder" "B") (.int 0) ∈ flatC (Jvm.Cond.and given_1 narrow_1) := List.mem_of_getElem? (i := 38) (by rfl)
set_option maxRecDepth 20000 in
theorem sf_ar : Cond.arrayOf (Term.field (Term.string "PassedClocks$Tokens" 24) "java/lang/String" "value" "[B") .byte ∈ flatC (Jvm.Cond.and given_1 narrow_1) := List.mem_of_getElem? (i := 39) (by rfl)
set_option maxRecDepth 20000 in
theorem sf_le : Cond.eq (.length (Term.field (Term.string "PassedClocks$Tokens" 24) "java/lang/String" "value" "[B")) (.int (Int32.ofNat 104)) ∈ flatC (Jvm.Cond.and given_1 narrow_1) := List.mem_of_getElem? (i := 40) (by rfl)
set_option maxRecDepth 20000 in
theorem sf2_e0 : ∀ j, j < 104 → (flatC (Jvm.Cond.and given_1 narrow_1))[186 + j]? = some (Cond.eq (.elem (Term.field (Term.string "PassedClocksModel" 186) "java/lang/String" "value" "[B") (.int (Int32.ofNat j))) (.int (([99, 108, 111, 99, 107, 32, 112, 101, 114, 115, 111, 110, 32, 114, 111, 117, 110, 100, 32, 103, 117, 110, 32, 103, 97, 105, 110, 115, 32, 114, 111, 117, 103, 104, 32, 105, 102, 32, 115, 101, 116, 115, 32, 116, 97, 107, 101, 115, 32, 104, 97, 108, 102, 32, 112, 97, 114, 116, 32, 109, 105, 100, 100, 108, 101, 32, 111, 114, 32, 97, 110, 100, 32, 110, 111, 116, 32, 97, 104, 101, 97, 100, 32, 108, 97, 115, 116, 32, 112, 97, 115, 115, 101, 100, 32, 104, 111, 117, 114, 32, 100, 97, 121, 32] : List Int32).getD j 0))) := by decide +kernel
theorem sf2_el : ∀ i, i < 1 → ∀ j, j < 104 → Cond.eq (.elem (Term.field (Term.string "PassedClocksModel" 186) "java/lang/String" "value" "[B") (.int (Int32.ofNat j))) (.int ((([[99, 108, 111, 99, 107, 32, 112, 101, 114, 115, 111, 110, 32, 114, 111, 117, 110, 100, 32, 103, 117, 110, 32, 103, 97, 105, 110, 115, 32, 114, 111, 117, 103, 104, 32, 105, 102, 32, 115, 101, 116, 115, 32, 116, 97, 107, 101, 115, 32, 104, 97, 108, 102, 32, 112, 97, 114, 116, 32, 109, 105, 100, 100, 108, 101, 32, 111, 114, 32, 97, 110, 100, 32, 110, 111, 116, 32, 97, 104, 101, 97, 100, 32, 108, 97, 115, 116, 32, 112, 97, 115, 115, 101, 100, 32, 104, 111, 117, 114, 32, 100, 97, 121, 32]] : List (List Int32)).getD i []).getD j 0)) ∈ flatC (Jvm.Cond.and given_1 narrow_1) := by
  intro i hi j hj
  have q : i = 0 := by omega
  subst q
  exact List.mem_of_getElem? (sf2_e0 j hj)
set_option maxRecDepth 20000 in
theorem sf2_ex : Cond.exactly (Term.string "PassedClocksModel" 186) "java/lang/String" ∈ flatC (Jvm.Cond.and given_1 narrow_1) := List.mem_of_getElem? (i := 182) (by rfl)
set_option maxRecDepth 20000 in
theorem sf2_co : Cond.eq (.field (Term.string "PassedClocksModel" 186) "java/lang/String" "coder" "B") (.int 0) ∈ flatC (Jvm.Cond.and given_1 narrow_1) := List.mem_of_getElem? (i := 183) (by rfl)
set_option maxRecDepth 20000 in
theorem sf2_ar : Cond.arrayOf (Term.field (Term.string "PassedClocksModel" 186) "java/lang/String" "value" "[B") .byte ∈ flatC (Jvm.Cond.and given_1 narrow_1) := List.mem_of_getElem? (i := 184) (by rfl)
set_option maxRecDepth 20000 in
theorem sf2_le : Cond.eq (.length (Term.field (Term.string "PassedClocksModel" 186) "java/lang/String" "value" "[B")) (.int (Int32.ofNat 104)) ∈ flatC (Jvm.Cond.and given_1 narrow_1) := List.mem_of_getElem? (i := 185) (by rfl)
set_option maxRecDepth 20000 in
theorem sf_cs : Cond.eq (.static "java/lang/String" "COMPACT_STRINGS" "Z") (.int 1) ∈ flatC (Jvm.Cond.and given_1 narrow_1) := List.mem_of_getElem? (i := 4) (by rfl)
set_option maxRecDepth 20000 in
theorem sf_si : Cond.isRef (.static "jdk/internal/util/Preconditions" "SIOOBE_FORMATTER" "Ljava/util/function/BiFunction;") ∈ flatC (Jvm.Cond.and given_1 narrow_1) := List.mem_of_getElem? (i := 5) (by rfl)
set_option maxRecDepth 20000 in
theorem sf_us : Cond.isRef (.static Bundle.tN "UNASSIGNED_STACK" Bundle.steD) ∈ flatC (Jvm.Cond.and given_1 narrow_1) := List.mem_of_getElem? (i := 9) (by rfl)
set_option maxRecDepth 20000 in
theorem sf_ss : Cond.isRef (.static Bundle.tN "SUPPRESSED_SENTINEL" Bundle.listD) ∈ flatC (Jvm.Cond.and given_1 narrow_1) := List.mem_of_getElem? (i := 10) (by rfl)
set_option maxRecDepth 20000 in
theorem sf_nc : Cond.not (Cond.castable "java/util/NoSuchElementException" "java/lang/IndexOutOfBoundsException") ∈ flatC (Jvm.Cond.and given_1 narrow_1) := List.mem_of_getElem? (i := 23) (by rfl)
set_option maxRecDepth 20000 in
theorem sf_np : Cond.exactly (Term.string "PassedClocks" 148) "java/lang/String" ∈ flatC (Jvm.Cond.and given_1 narrow_1) := List.mem_of_getElem? (i := 145) (by rfl)
set_option maxRecDepth 20000 in
theorem sf_nw : Cond.exactly (Term.string "PassedClocks" 183) "java/lang/String" ∈ flatC (Jvm.Cond.and given_1 narrow_1) := List.mem_of_getElem? (i := 164) (by rfl)
theorem nw_new {p : Program} {l : Launch} {e : Env} {R : Room} {s : State} {m : MethodId} {args : Array Value} {below : List Frame} {meth : Method} {c0 : Code} {H : Heap} {locs : List Loc} {cells slots : Nat} {Q : State → Prop} {cc : ByteArray} {pc : Nat} {ls : Array Slot} {rest : List Value} {D : va_G} {cl : List vw_C} {tys : List (ClassId × FieldType)} (hexec : p.tables.exec = Jvm.exec) (hb : c0.code = cc) {own C : String} {T : u_T} {N ci index : Nat} {Ts : List Cond} (hts : ∀ w ∈ Ts, w.before args s = true) (hin : ∀ w ∈ u_ws C T N, w ∈ Ts) (ty : Nat → FieldType) (hty : ∀ k, k < N → parseFieldDescriptor (T k).2.2.1 = some (ty k)) (hown : s.vm.findClass own = some m.cls) (hcl : (Cond.classLink own index C).before args s = true) (hinst : (Cond.instantiable C N).before args s = true) (hini : (Cond.initialized C).before args s = true)
    (hK : va_K D cl tys s) (hc : cl[ci]? = some (C, T, N)) {fs : List Value} (hfs : ∀ j, j < N → defaultValue (ty j) = vp_V fs j) (hcells : cells + 1 ≤ R.cells) (hslots : slots + N ≤ R.slots) (hdg : decode cc pc = .ok (.new index, 3))
    (kk : ∀ (H1 : Heap), va_P D cl [(H.size, .inr (ci, fs))] H1 → H1.size = H.size + 1 → (∀ q, q < H.size → H1[q]? = H[q]?) →
      W p l e R s m args below meth c0 H1 locs (cells + 1) (slots + N) Q (F0 m (pc + 3) ls (.ref H.size :: rest))) : W p l e R s m args below meth c0 H locs cells slots Q (F0 m pc ls rest) := by
  have hKn := hK.1 ci _ hc
  refine W.newcK hexec hb hown hcl hinst hini rfl hdg hcells hslots hKn.2.1 rfl fun H1 kC hkC e1 z1 o1 => ?_
  refine kk H1 (fun k x hx => ?_) z1 o1
  have hz : k < 1 := (List.getElem?_eq_some_iff.mp hx).1
  rw [show k = 0 by omega] at hx
  cases hx
  exact ⟨_, hc, (u_born ty hts hin hKn hkC e1 hty).to hfs⟩
theorem nd1 {A : Nat → Prop} {a : Nat} {e : va_E} (h : A a) : va_D A [(a, e)] := by
  refine ⟨fun i j p q h1 h2 _ => ?_, fun k q hk => ?_⟩
  · have a1 : i < 1 := (List.getElem?_eq_some_iff.mp h1).1
    have a2 : j < 1 := (List.getElem?_eq_some_iff.mp h2).1
    omega
  · have a1 : k < 1 := (List.getElem?_eq_some_iff.mp hk).1
    rw [show k = 0 by omega] at hk
    cases hk
    exact h
theorem nd_S {A : Nat → Prop} {H0 H H1 : Heap} {locs : List Loc} (hS : va_S A H0 H locs) (z : H1.size = H.size + 1) (o : ∀ q, q < H.size → H1[q]? = H[q]?) : va_S A H0 H1 locs := ⟨by have := hS.1; omega, fun q h1 h2 => (o q (Nat.lt_of_lt_of_le h1 hS.1)).trans (hS.2.1 q h1 h2), hS.2.2⟩
theorem nd_A {a : Nat} {e : va_E} {sz q : Nat} (h : va_A [(a, e)] sz q) : q = a ∨ sz ≤ q := by
  rcases h with ⟨k, e2, hk⟩ | h
  · have a1 : k < 1 := (List.getElem?_eq_some_iff.mp hk).1
    rw [show k = 0 by omega] at hk
    cases hk
    exact Or.inl rfl
  · exact Or.inr h
theorem Rg_z {lo hi : Int} (h1 : lo ≤ 0) (h2 : 0 ≤ hi) : Rg (fun _ => 0) lo hi := fun _ => ⟨h1, h2⟩
theorem NB_z0 : NB (fun _ => 0) := by unfold NB; decide
theorem PCt_z {a b : Nat → Int32} : PCt (fun _ => 0) a b := fun _ => ⟨fun h => absurd (show (0 : Int32).toInt = 3 from h) (by decide), fun h => absurd (show (0 : Int32).toInt = 4 from h) (by decide)⟩
theorem RLt_z {rf rt ks kv : Nat → Int32} : RLt rf rt ks kv (fun _ => 0) := fun p h0 h1 => absurd h1 (by have := (by decide : (0 : Int32).toInt = 0); show ¬ p.toInt < (0 : Int32).toInt; omega)
theorem DPn_z {ro : Nat → Int32} : DPn ro (fun _ => 0) := fun p h0 h1 => absurd h1 (by have := (by decide : (0 : Int32).toInt = 0); show ¬ p.toInt < (0 : Int32).toInt; omega)
theorem KMt_z {a km : Nat → Int32} : KMt (fun _ => 0) a km 0 := fun _ _ h => absurd (show (0 : Int32).toInt = 4 from h) (by decide)
theorem MDz_0 {nu cn co cg cr pn po pg pr cu ca cb rf rt ro ra rh ga gh : Nat → Int32} (h : ∀ j, j < 5 → (nu j).toInt = 0) : MDz dd0 nu cn co cg cr pn po pg pr cu ca cb rf rt ro ra rh ga gh := by
  have z : ∀ a b, dd0 a b = 0 := fun _ _ => rfl
  have r : ∀ (f : Nat → Int32) (o c r : Nat), RR (dd0 18 c) f o dd0 r := fun f o c r => RR_0 (by rw [z]; omega)
  exact ⟨WD_0, ⟨h 0 (by decide), h 1 (by decide), h 2 (by decide), h 3 (by decide)⟩, ⟨r _ _ _ _, r _ _ _ _, r _ _ _ _, r _ _ _ _⟩, ⟨r _ _ _ _, r _ _ _ _, r _ _ _ _, r _ _ _ _, r _ _ _ _, r _ _ _ _, r _ _ _ _, r _ _ _ _, r _ _ _ _⟩, ⟨r _ _ _ _, r _ _ _ _, r _ _ _ _⟩, ⟨r _ _ _ _, r _ _ _ _⟩⟩
theorem CMa_z {cu pa : Nat → Int32} : CMa cu pa 0 := fun p h0 h1 => absurd h1 (by have := (by decide : (0 : Int32).toInt = 0); omega)
