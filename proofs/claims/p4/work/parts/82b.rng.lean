
theorem BTt_le {f g : Nat → Int32} {n m : Int} (h : BTt f g n) (hm : m ≤ n) : BTt f g m := fun j hj => h j (by omega)
theorem bt_feed {f f1 g g1 : Nat → Int32} {b t n v0 v1 v2 v3 v4 : Int32} (h : BTt f g b.toInt) (hb : b.toInt = t.toInt) (h0 : 0 ≤ b.toInt) (x : (680 < b.toInt ∧ f1 = f) ∨ (b.toInt ≤ 680 ∧ FDX f f1 b v0 v1 v2 v3 v4)) (m : (680 < t.toInt ∧ g1 = g) ∨ (t.toInt ≤ 680 ∧ FDM g g1 t v0 v1 v2 v3 v4)) (hn : (680 < b.toInt ∧ n.toInt = b.toInt) ∨ (b.toInt ≤ 680 ∧ n.toInt = b.toInt + 20)) : BTt f1 g1 n.toInt := by
  rcases x with ⟨x1, rfl⟩ | ⟨x1, x2⟩
  · rcases m with ⟨m1, rfl⟩ | ⟨m1, m2⟩
    · exact BTt_le h (by omega)
    · omega
  · rcases m with ⟨m1, rfl⟩ | ⟨m1, m2⟩
    · omega
    · rw [show n.toInt = b.toInt + 20 by omega]; exact BTt_fd h hb h0 x2 m2
theorem tx_agree {K PL W : Nat → Int32} {e : Nat} {rX flX plX rM flM plM : Int32} (h4 : flX.toInt = ps_f (RT_ K W e).1) (h5 : (ps_f (RT_ K W e).1 ≠ 0 ∧ rX.toInt = -1 ∧ plX = PL (ps_u (RT_ K W e).1)) ∨ (ps_f (RT_ K W e).1 = 0 ∧ rX.toInt = (RT_ K W e).2 18 4 ∧ plX.toInt = -1 ∧ True)) (g4 : flM.toInt = ps_f (RT_ K W e).1) (g5 : (ps_f (RT_ K W e).1 ≠ 0 ∧ rM.toInt = -1 ∧ plM = PL (ps_u (RT_ K W e).1)) ∨ (ps_f (RT_ K W e).1 = 0 ∧ rM.toInt = (RT_ K W e).2 18 4 ∧ plM.toInt = -1)) : rX.toInt = rM.toInt ∧ flX = flM ∧ plX = plM := by
  refine ⟨?_, Int32.toInt_inj.mp (h4.trans g4.symm), ?_⟩
  · rcases h5 with ⟨a, b, c⟩ | ⟨a, b, c, -⟩
    · rcases g5 with ⟨a', b', c'⟩ | ⟨a', b', c'⟩
      · rw [b, b']
      · exact absurd a' a
    · rcases g5 with ⟨a', b', c'⟩ | ⟨a', b', c'⟩
      · exact absurd a a'
      · rw [b, b']
  · rcases h5 with ⟨a, b, c⟩ | ⟨a, b, c, -⟩
    · rcases g5 with ⟨a', b', c'⟩ | ⟨a', b', c'⟩
      · rw [c, c']
      · exact absurd a' a
    · rcases g5 with ⟨a', b', c'⟩ | ⟨a', b', c'⟩
      · exact absurd a a'
      · exact Int32.toInt_inj.mp (c.trans c'.symm)
theorem fl_agree {v r1 r2 a b a2 b2 : Int32} (h : (v.toInt = 0 ∧ r1 = a) ∨ (v.toInt = 1 ∧ r1 = b) ∨ (v.toInt ≠ 0 ∧ v.toInt ≠ 1 ∧ r1.toInt = -1)) (g : (v.toInt = 0 ∧ r2 = a2) ∨ (v.toInt = 1 ∧ r2 = b2) ∨ (v.toInt ≠ 0 ∧ v.toInt ≠ 1 ∧ r2.toInt = -1)) (ha : a = a2) (hb : b = b2) : r1.toInt = r2.toInt := by
  subst ha hb
  rcases h with ⟨h0, h1⟩ | ⟨h0, h1⟩ | ⟨h0, h2, h1⟩ <;> rcases g with ⟨g0, g1⟩ | ⟨g0, g1⟩ | ⟨g0, g2, g1⟩ <;> first | omega | (rw [h1, g1])
set_option maxHeartbeats 4000000 in
set_option maxRecDepth 100000 in
theorem XW.rng {dC : Nat → ClassId} {dI : Nat → Nat → Nat} {A : Nat → Prop} {U : State} {H : Heap} {xx : Nat} {rr_bytes : Int32} {rr_fault : Int32} {rr_place : Int32} {f_rr_tape : Nat → Int32} (h : XW dC dI A U H xx rr_bytes rr_fault rr_place f_rr_tape) : (0 ≤ rr_bytes.toInt ∧ rr_bytes.toInt ≤ 700) ∧ Rg f_rr_tape (-128) 127 := by
  obtain ⟨ga, gk, gi, gf, gl, gv, hp, -⟩ := h
  exact ⟨hp.2.1, hp.2.2.2.2.1⟩
