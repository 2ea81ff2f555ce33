
theorem BTt_le {f g : Nat → Int32} {n m : Int} (h : BTt f g n) (hm : m ≤ n) : BTt f g m := fun j hj => h j (by omega)
theorem bt_feed {f f1 g g1 : Nat → Int32} {b t n v0 v1 v2 v3 v4 : Int32} (h : BTt f g b.toInt) (hb : b.toInt = t.toInt) (h0 : 0 ≤ b.toInt) (x : (680 < b.toInt ∧ f1 = f) ∨ (b.toInt ≤ 680 ∧ FDX f f1 b v0 v1 v2 v3 v4)) (m : (680 < t.toInt ∧ g1 = g) ∨ (t.toInt ≤ 680 ∧ FDM g g1 t v0 v1 v2 v3 v4)) (hn : (680 < b.toInt ∧ n.toInt = b.toInt) ∨ (b.toInt ≤ 680 ∧ n.toInt = b.toInt + 20)) : BTt f1 g1 n.toInt := by
  rcases x with ⟨x1, rfl⟩ | ⟨x1, x2⟩
  · rcases m with ⟨m1, rfl⟩ | ⟨m1, m2⟩
    · exact BTt_le h (by omega)
    · omega
  · rcases m with ⟨m1, rfl⟩ | ⟨m1, m2⟩
    · omega
    · rw [show n.toInt = b.toInt + 20 by omega]; exact BTt_fd h hb h0 x2 m2
theorem tx_agree {K PL W : Nat → Int32} {e : Nat} {rX flX plX rM flM plM : Int32} {zX zM nX nM : ZZ} (hd : zX = zM) (h4 : flX.toInt = ps_f (RT_ K W e).1) (h5 : (ps_f (RT_ K W e).1 ≠ 0 ∧ rX.toInt = -1 ∧ plX = PL (ps_u (RT_ K W e).1) ∧ nX = zX) ∨ (ps_f (RT_ K W e).1 = 0 ∧ rX.toInt = (RT_ K W e).2 18 4 ∧ plX.toInt = -1 ∧ nX = ((RT_ K W e).2, ps_L (RT_ K W e).1))) (g4 : flM.toInt = ps_f (RT_ K W e).1) (g5 : (ps_f (RT_ K W e).1 ≠ 0 ∧ rM.toInt = -1 ∧ plM = PL (ps_u (RT_ K W e).1) ∧ nM = zM) ∨ (ps_f (RT_ K W e).1 = 0 ∧ rM.toInt = (RT_ K W e).2 18 4 ∧ plM.toInt = -1 ∧ nM = ((RT_ K W e).2, ps_L (RT_ K W e).1))) : rX.toInt = rM.toInt ∧ flX = flM ∧ plX = plM ∧ nX = nM := by
  have hf := Int32.toInt_inj.mp (h4.trans g4.symm)
  rcases h5 with ⟨a, b, c, d⟩ | ⟨a, b, c, d⟩
  · rcases g5 with ⟨a', b', c', d'⟩ | ⟨a', b', c', d'⟩
    · exact ⟨by rw [b, b'], hf, by rw [c, c'], by rw [d, d', hd]⟩
    · exact absurd a' a
  · rcases g5 with ⟨a', b', c', d'⟩ | ⟨a', b', c', d'⟩
    · exact absurd a a'
    · exact ⟨by rw [b, b'], hf, Int32.toInt_inj.mp (c.trans c'.symm), by rw [d, d']⟩
theorem ps_agree {D E : DD} {v p q e f H G : Int32} (hd : D = E) (hp : p = q) (hh : H.toInt = G.toInt) (h : ((v.toInt < 0 ∨ 500 < v.toInt ∨ 2000 < H.toInt + v.toInt) ∧ e = p) ∨ (0 ≤ v.toInt ∧ v.toInt ≤ 500 ∧ H.toInt + v.toInt ≤ 2000 ∧ e = p + Int32.ofNat (psm (D 15) (D 18 2).toNat H.toInt v.toInt.toNat))) (g : ((v.toInt < 0 ∨ 500 < v.toInt ∨ 2000 < G.toInt + v.toInt) ∧ f = q) ∨ (0 ≤ v.toInt ∧ v.toInt ≤ 500 ∧ G.toInt + v.toInt ≤ 2000 ∧ f = q + Int32.ofNat (psm (E 15) (E 18 2).toNat G.toInt v.toInt.toNat))) : e = f := by
  subst hd hp
  rw [← hh] at g
  rcases h with ⟨h1, rfl⟩ | ⟨h1, h2, h3, h4⟩
  · rcases g with ⟨-, rfl⟩ | ⟨g1, g2, g3, -⟩
    · rfl
    · omega
  · rcases g with ⟨g1, -⟩ | ⟨-, -, -, g4⟩
    · omega
    · rw [h4, g4]
theorem pa_agree {D E : DD} {v w p q e f H G : Int32} (hd : D = E) (hp : p = q) (hh : H.toInt = G.toInt) (h : (0 ≤ v.toInt ∧ v.toInt < D 18 1 ∧ 0 ≤ w.toInt ∧ w.toInt < D 18 0 ∧ H.toInt ≠ 0 ∧ e = p + 1) ∨ ((v.toInt < 0 ∨ D 18 1 ≤ v.toInt ∨ w.toInt < 0 ∨ D 18 0 ≤ w.toInt ∨ H.toInt = 0) ∧ e = p)) (g : (0 ≤ v.toInt ∧ v.toInt < E 18 1 ∧ 0 ≤ w.toInt ∧ w.toInt < E 18 0 ∧ G.toInt ≠ 0 ∧ f = q + 1) ∨ ((v.toInt < 0 ∨ E 18 1 ≤ v.toInt ∨ w.toInt < 0 ∨ E 18 0 ≤ w.toInt ∨ G.toInt = 0) ∧ f = q)) : e = f := by
  subst hd hp
  rcases h with ⟨h1, h2, h3, h4, h5, h6⟩ | ⟨h1, h2⟩
  · rcases g with ⟨-, -, -, -, -, g6⟩ | ⟨g1, -⟩
    · rw [h6, g6]
    · omega
  · rcases g with ⟨g1, g2, g3, g4, g5, -⟩ | ⟨-, g2⟩
    · omega
    · rw [h2, g2]
theorem bk_agree {i j p q e f s t : Int32} (hi : i.toInt = j.toInt) (hp : p = q) (hs : s = t) (h : (i.toInt = 0 ∧ e = p) ∨ (i.toInt ≠ 0 ∧ e = s)) (g : (j.toInt = 0 ∧ f = q) ∨ (j.toInt ≠ 0 ∧ f = t)) : e = f := by
  subst hp hs
  rcases h with ⟨h1, h2⟩ | ⟨h1, h2⟩ <;> rcases g with ⟨g1, g2⟩ | ⟨g1, g2⟩
  · rw [h2, g2]
  · omega
  · omega
  · rw [h2, g2]
theorem nm_agree {D E : DD} {v0 v1 r1 r2 : Int32} (hd : D = E) (h : (v0.toInt = 0 ∧ r1.toInt = pf_find (D 0) v1.toInt (D 18 0).toNat) ∨ (v0.toInt = 1 ∧ r1.toInt = pf_find (D 4) v1.toInt (D 18 1).toNat) ∨ (v0.toInt ≠ 0 ∧ v0.toInt ≠ 1 ∧ r1.toInt = -1)) (g : (v0.toInt = 0 ∧ r2.toInt = pf_find (E 0) v1.toInt (E 18 0).toNat) ∨ (v0.toInt = 1 ∧ r2.toInt = pf_find (E 4) v1.toInt (E 18 1).toNat) ∨ (v0.toInt ≠ 0 ∧ v0.toInt ≠ 1 ∧ r2.toInt = -1)) : r1.toInt = r2.toInt := by
  subst hd
  omega
theorem cl_agree {D E : DD} {none : Int} {v0 v1 r1 r2 : Int32} {n a0 a1 a2 : Nat} (hd : D = E) (h : (0 ≤ v0.toInt ∧ v0.toInt < D 18 n ∧ ((v1.toInt = 0 ∧ r1.toInt = D a0 v0.toInt.toNat) ∨ (v1.toInt = 1 ∧ r1.toInt = D a1 v0.toInt.toNat) ∨ (v1.toInt = 2 ∧ r1.toInt = D a2 v0.toInt.toNat))) ∨ ((v0.toInt < 0 ∨ D 18 n ≤ v0.toInt ∨ v1.toInt < 0 ∨ 2 < v1.toInt) ∧ r1.toInt = none)) (g : (0 ≤ v0.toInt ∧ v0.toInt < E 18 n ∧ ((v1.toInt = 0 ∧ r2.toInt = E a0 v0.toInt.toNat) ∨ (v1.toInt = 1 ∧ r2.toInt = E a1 v0.toInt.toNat) ∨ (v1.toInt = 2 ∧ r2.toInt = E a2 v0.toInt.toNat))) ∨ ((v0.toInt < 0 ∨ E 18 n ≤ v0.toInt ∨ v1.toInt < 0 ∨ 2 < v1.toInt) ∧ r2.toInt = none)) : r1.toInt = r2.toInt := by
  subst hd
  omega
theorem ct_agree {y z : ZZ} {v r s a b c d e f g h : Int32} (hd : y = z) (h1 : a.toInt = b.toInt) (h2 : c.toInt = d.toInt) (h3 : e.toInt = f.toInt) (h4 : g = h) (hX : (v.toInt = 0 ∧ r.toInt = y.1 18 0) ∨ (v.toInt = 1 ∧ r.toInt = y.1 18 1) ∨ (v.toInt = 2 ∧ r.toInt = y.1 18 2) ∨ (v.toInt = 3 ∧ r.toInt = y.1 18 3) ∨ (v.toInt = 4 ∧ r.toInt = a.toInt) ∨ (v.toInt = 6 ∧ r.toInt = e.toInt) ∨ (v.toInt = 7 ∧ r.toInt = (y.2.length : Int)) ∨ (v.toInt = 8 ∧ r.toInt = g.toInt) ∨ (v.toInt = 5 ∧ ((c.toInt = -1 ∧ r.toInt = a.toInt) ∨ (c.toInt ≠ -1 ∧ r.toInt = c.toInt))) ∨ ((v.toInt < 0 ∨ 8 < v.toInt) ∧ r.toInt = -1)) (hM : (v.toInt = 0 ∧ s.toInt = z.1 18 0) ∨ (v.toInt = 1 ∧ s.toInt = z.1 18 1) ∨ (v.toInt = 2 ∧ s.toInt = z.1 18 2) ∨ (v.toInt = 3 ∧ s.toInt = z.1 18 3) ∨ (v.toInt = 4 ∧ s.toInt = b.toInt) ∨ (v.toInt = 6 ∧ s.toInt = f.toInt) ∨ (v.toInt = 7 ∧ s.toInt = (z.2.length : Int)) ∨ (v.toInt = 8 ∧ s.toInt = h.toInt) ∨ (v.toInt = 5 ∧ ((d.toInt = -1 ∧ s.toInt = b.toInt) ∨ (d.toInt ≠ -1 ∧ s.toInt = d.toInt))) ∨ ((v.toInt < 0 ∨ 8 < v.toInt) ∧ s.toInt = -1)) : r.toInt = s.toInt := by
  subst hd h4
  rcases hX with x | x | x | x | x | x | x | x | x | x <;> rcases hM with w | w | w | w | w | w | w | w | w | w <;> omega
theorem fl_agree {v r1 r2 a b a2 b2 : Int32} (h : (v.toInt = 0 ∧ r1 = a) ∨ (v.toInt = 1 ∧ r1 = b) ∨ (v.toInt ≠ 0 ∧ v.toInt ≠ 1 ∧ r1.toInt = -1)) (g : (v.toInt = 0 ∧ r2 = a2) ∨ (v.toInt = 1 ∧ r2 = b2) ∨ (v.toInt ≠ 0 ∧ v.toInt ≠ 1 ∧ r2.toInt = -1)) (ha : a = a2) (hb : b = b2) : r1.toInt = r2.toInt := by
  subst ha hb
  rcases h with ⟨h0, h1⟩ | ⟨h0, h1⟩ | ⟨h0, h2, h1⟩ <;> rcases g with ⟨g0, g1⟩ | ⟨g0, g1⟩ | ⟨g0, g2, g1⟩ <;> first | omega | (rw [h1, g1])
set_option maxHeartbeats 4000000 in
set_option maxRecDepth 100000 in
theorem XW.rng {dC : Nat → ClassId} {dI : Nat → Nat → Nat} {A : Nat → Prop} {U : State} {H : Heap} {xx : Nat} {rr_bytes : Int32} {rr_fault : Int32} {rr_place : Int32} {f_rr_tape : Nat → Int32} {zX : ZZ} {cn_hour : Int32} {ci_hour : Int32} {xx_imageKept : Int32} {rd_count : Int32} {rd_knownFirst : Int32} {cn_passings : Int32} {ci_passings : Int32} (h : XW dC dI A U H xx rr_bytes rr_fault rr_place f_rr_tape zX cn_hour ci_hour xx_imageKept rd_count rd_knownFirst cn_passings ci_passings) : (0 ≤ rr_bytes.toInt ∧ rr_bytes.toInt ≤ 700) ∧ Rg f_rr_tape (-128) 127 := by
  obtain ⟨ga, gk, gi, gf, gl, gv, hp, -⟩ := h
  exact ⟨hp.2.1, hp.2.2.2.2.1⟩
