
theorem BTt_le {f g : Nat → Int32} {n m : Int} (h : BTt f g n) (hm : m ≤ n) : BTt f g m := fun j hj => h j (by omega)
theorem bt_feed {f f1 g g1 : Nat → Int32} {b t n v0 v1 v2 v3 v4 : Int32} (h : BTt f g b.toInt) (hb : b.toInt = t.toInt) (h0 : 0 ≤ b.toInt) (x : (680 < b.toInt ∧ f1 = f) ∨ (b.toInt ≤ 680 ∧ FDX f f1 b v0 v1 v2 v3 v4)) (m : (680 < t.toInt ∧ g1 = g) ∨ (t.toInt ≤ 680 ∧ FDM g g1 t v0 v1 v2 v3 v4)) (hn : (680 < b.toInt ∧ n.toInt = b.toInt) ∨ (b.toInt ≤ 680 ∧ n.toInt = b.toInt + 20)) : BTt f1 g1 n.toInt := by
  rcases x with ⟨x1, rfl⟩ | ⟨x1, x2⟩
  · rcases m with ⟨m1, rfl⟩ | ⟨m1, m2⟩
    · exact BTt_le h (by omega)
    · omega
  · rcases m with ⟨m1, rfl⟩ | ⟨m1, m2⟩
    · omega
    · rw [show n.toInt = b.toInt + 20 by omega]; exact BTt_fd h hb h0 x2 m2
theorem tx_agree {K PL W : Nat → Int32} {e : Nat} {rX flX plX rM flM plM : Int32} {dX dM nX nM : DD} (hd : dX = dM) (h4 : flX.toInt = ps_f (RT_ K W e).1) (h5 : (ps_f (RT_ K W e).1 ≠ 0 ∧ rX.toInt = -1 ∧ plX = PL (ps_u (RT_ K W e).1) ∧ nX = dX) ∨ (ps_f (RT_ K W e).1 = 0 ∧ rX.toInt = (RT_ K W e).2 18 4 ∧ plX.toInt = -1 ∧ nX = (RT_ K W e).2)) (g4 : flM.toInt = ps_f (RT_ K W e).1) (g5 : (ps_f (RT_ K W e).1 ≠ 0 ∧ rM.toInt = -1 ∧ plM = PL (ps_u (RT_ K W e).1) ∧ nM = dM) ∨ (ps_f (RT_ K W e).1 = 0 ∧ rM.toInt = (RT_ K W e).2 18 4 ∧ plM.toInt = -1 ∧ nM = (RT_ K W e).2)) : rX.toInt = rM.toInt ∧ flX = flM ∧ plX = plM ∧ nX = nM := by
  have hf := Int32.toInt_inj.mp (h4.trans g4.symm)
  rcases h5 with ⟨a, b, c, d⟩ | ⟨a, b, c, d⟩
  · rcases g5 with ⟨a', b', c', d'⟩ | ⟨a', b', c', d'⟩
    · exact ⟨by rw [b, b'], hf, by rw [c, c'], by rw [d, d', hd]⟩
    · exact absurd a' a
  · rcases g5 with ⟨a', b', c', d'⟩ | ⟨a', b', c', d'⟩
    · exact absurd a a'
    · exact ⟨by rw [b, b'], hf, Int32.toInt_inj.mp (c.trans c'.symm), by rw [d, d']⟩
theorem nm_agree {D E : DD} {v0 v1 r1 r2 : Int32} (hd : D = E) (h : (v0.toInt = 0 ∧ r1.toInt = pf_find (D 0) v1.toInt (D 18 0).toNat) ∨ (v0.toInt = 1 ∧ r1.toInt = pf_find (D 4) v1.toInt (D 18 1).toNat) ∨ (v0.toInt ≠ 0 ∧ v0.toInt ≠ 1 ∧ r1.toInt = -1)) (g : (v0.toInt = 0 ∧ r2.toInt = pf_find (E 0) v1.toInt (E 18 0).toNat) ∨ (v0.toInt = 1 ∧ r2.toInt = pf_find (E 4) v1.toInt (E 18 1).toNat) ∨ (v0.toInt ≠ 0 ∧ v0.toInt ≠ 1 ∧ r2.toInt = -1)) : r1.toInt = r2.toInt := by
  subst hd
  omega
theorem cl_agree {D E : DD} {none : Int} {v0 v1 r1 r2 : Int32} {n a0 a1 a2 : Nat} (hd : D = E) (h : (0 ≤ v0.toInt ∧ v0.toInt < D 18 n ∧ ((v1.toInt = 0 ∧ r1.toInt = D a0 v0.toInt.toNat) ∨ (v1.toInt = 1 ∧ r1.toInt = D a1 v0.toInt.toNat) ∨ (v1.toInt = 2 ∧ r1.toInt = D a2 v0.toInt.toNat))) ∨ ((v0.toInt < 0 ∨ D 18 n ≤ v0.toInt ∨ v1.toInt < 0 ∨ 2 < v1.toInt) ∧ r1.toInt = none)) (g : (0 ≤ v0.toInt ∧ v0.toInt < E 18 n ∧ ((v1.toInt = 0 ∧ r2.toInt = E a0 v0.toInt.toNat) ∨ (v1.toInt = 1 ∧ r2.toInt = E a1 v0.toInt.toNat) ∨ (v1.toInt = 2 ∧ r2.toInt = E a2 v0.toInt.toNat))) ∨ ((v0.toInt < 0 ∨ E 18 n ≤ v0.toInt ∨ v1.toInt < 0 ∨ 2 < v1.toInt) ∧ r2.toInt = none)) : r1.toInt = r2.toInt := by
  subst hd
  omega
theorem fl_agree {v r1 r2 a b a2 b2 : Int32} (h : (v.toInt = 0 ∧ r1 = a) ∨ (v.toInt = 1 ∧ r1 = b) ∨ (v.toInt ≠ 0 ∧ v.toInt ≠ 1 ∧ r1.toInt = -1)) (g : (v.toInt = 0 ∧ r2 = a2) ∨ (v.toInt = 1 ∧ r2 = b2) ∨ (v.toInt ≠ 0 ∧ v.toInt ≠ 1 ∧ r2.toInt = -1)) (ha : a = a2) (hb : b = b2) : r1.toInt = r2.toInt := by
  subst ha hb
  rcases h with ⟨h0, h1⟩ | ⟨h0, h1⟩ | ⟨h0, h2, h1⟩ <;> rcases g with ⟨g0, g1⟩ | ⟨g0, g1⟩ | ⟨g0, g2, g1⟩ <;> first | omega | (rw [h1, g1])
set_option maxHeartbeats 4000000 in
set_option maxRecDepth 100000 in
theorem XW.rng {dC : Nat → ClassId} {dI : Nat → Nat → Nat} {A : Nat → Prop} {U : State} {H : Heap} {xx : Nat} {rr_bytes : Int32} {rr_fault : Int32} {rr_place : Int32} {f_rr_tape : Nat → Int32} {dX : DD} {cn_hour : Int32} {ci_hour : Int32} {xx_imageKept : Int32} {rd_count : Int32} {rd_knownFirst : Int32} (h : XW dC dI A U H xx rr_bytes rr_fault rr_place f_rr_tape dX cn_hour ci_hour xx_imageKept rd_count rd_knownFirst) : (0 ≤ rr_bytes.toInt ∧ rr_bytes.toInt ≤ 700) ∧ Rg f_rr_tape (-128) 127 := by
  obtain ⟨ga, gk, gi, gf, gl, gv, hp, -⟩ := h
  exact ⟨hp.2.1, hp.2.2.2.2.1⟩
