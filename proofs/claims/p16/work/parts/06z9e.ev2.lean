
/-! the reference's loop over a rule's knots -/
theorem lg_le {x y : Int64} (h : x.toInt ≤ y.toInt) : (lg_cmp x y).toInt ≤ 0 := by
  unfold lg_cmp
  rw [if_neg (fun q : y < x => by have := Int64.lt_iff_toInt_lt.mp q; omega)]
  split <;> decide
theorem lg_ge {x y : Int64} (h : y.toInt ≤ x.toInt) : 0 ≤ (lg_cmp x y).toInt := by
  unfold lg_cmp
  split
  · decide
  · rename_i c
    have c1 : x.toInt ≤ y.toInt := by
      by_cases d : y.toInt < x.toInt
      · exact absurd (Int64.lt_iff_toInt_lt.mpr d) c
      · omega
    rw [if_pos (Int64.toInt_inj.mp (by omega))]
    decide
theorem evb_i32 {x : Int32} : evb x.toInt64 = false := by
  have a := x.toInt_lt
  have b := x.le_toInt
  exact evb_0 (lg_le (by rw [Int32.toInt_toInt64, show (1000000000000 : Int64).toInt = 1000000000000 by decide]; omega)) (lg_ge (by rw [Int32.toInt_toInt64, show (-1000000000000 : Int64).toInt = -1000000000000 by decide]; omega))
theorem NMn_i32 {g : Nat → Int64} {v0 v1 v2 v3 : Int32} (h : NMn g v0 v1 v2 v3) : ∀ j, j < 5 → ∃ x : Int32, g j = x.toInt64
  | 0, _ => ⟨_, h.1⟩
  | 1, _ => ⟨_, h.2.1⟩
  | 2, _ => ⟨_, h.2.2.1⟩
  | 3, _ => ⟨_, h.2.2.2.1⟩
  | 4, _ => ⟨_, h.2.2.2.2⟩
def sgk (s : Int) : Int := if s = 43 then 7 else if s = 45 then 8 else if s = 42 then 9 else if s = 47 then 10 else if s = 60 then 11 else if s = 256 then 12 else if s = 61 then 13 else if s = 257 then 14 else if s = 258 then 15 else if s = 62 then 16 else if s = 261 then 33 else 32
theorem sgk_43 {s : Int} (h : s = 43) : sgk s = 7 := by subst h; rfl
theorem sgk_45 {s : Int} (h : s = 45) : sgk s = 8 := by subst h; rfl
theorem sgk_42 {s : Int} (h : s = 42) : sgk s = 9 := by subst h; rfl
theorem sgk_47 {s : Int} (h : s = 47) : sgk s = 10 := by subst h; rfl
theorem sgk_60 {s : Int} (h : s = 60) : sgk s = 11 := by subst h; rfl
theorem sgk_256 {s : Int} (h : s = 256) : sgk s = 12 := by subst h; rfl
theorem sgk_61 {s : Int} (h : s = 61) : sgk s = 13 := by subst h; rfl
theorem sgk_257 {s : Int} (h : s = 257) : sgk s = 14 := by subst h; rfl
theorem sgk_258 {s : Int} (h : s = 258) : sgk s = 15 := by subst h; rfl
theorem sgk_62 {s : Int} (h : s = 62) : sgk s = 16 := by subst h; rfl
theorem sgk_261 {s : Int} (h : s = 261) : sgk s = 33 := by subst h; rfl
theorem sgk_d {s : Int} (h : s ≠ 43 ∧ s ≠ 45 ∧ s ≠ 42 ∧ s ≠ 47 ∧ s ≠ 60 ∧ s ≠ 256 ∧ s ≠ 61 ∧ s ≠ 257 ∧ s ≠ 258 ∧ s ≠ 62 ∧ s ≠ 261) : sgk s = 32 := by
  obtain ⟨h1, h2, h3, h4, h5, h6, h7, h8, h9, h10, h11⟩ := h
  unfold sgk
  rw [if_neg h1, if_neg h2, if_neg h3, if_neg h4, if_neg h5, if_neg h6, if_neg h7, if_neg h8, if_neg h9, if_neg h10, if_neg h11]
/-- a sign worked out: f, g the stack ahead and behind, wm its height, r whether it is no error -/
def EWk (f g : Nat → Int64) (s wm r : Int32) : Prop := (s.toInt = 260 ∧ r.toInt = 1 ∧ ∃ d : Nat, (d : Int) = wm.toInt - 1 ∧ eup f d (if (lg_cmp (f d) 0).toInt = 0 then 1 else 0) = g) ∨ (s.toInt ≠ 260 ∧ ∃ d : Nat, (d : Int) = wm.toInt - 2 ∧ ((r.toInt = 1 ∧ evb (evj (sgk s.toInt) (f d) (f (d + 1))) = false ∧ eup f d (evj (sgk s.toInt) (f d) (f (d + 1))) = g) ∨ (r.toInt = 0 ∧ evb (evj (sgk s.toInt) (f d) (f (d + 1))) = true)))
theorem EWk_n {f g : Nat → Int64} {s wm r z z1 : Int32} {y v : Int64} (hs : s.toInt = 260) (hr : r.toInt = 1) (hw : 1 ≤ wm.toInt) (hz : z.toInt = wm.toInt - 1) (hz1 : z1.toInt = wm.toInt - 1) (ey : y = f z.toNatClampNeg) (hv : v = if (lg_cmp y 0).toInt = 0 then 1 else 0) (e : vp_updL f z1.toNatClampNeg v = g) : EWk f g s wm r := by
  refine Or.inl ⟨hs, hr, (wm.toInt - 1).toNat, by omega, ?_⟩
  have c : z.toNatClampNeg = (wm.toInt - 1).toNat := by rw [tn_c]; omega
  have c1 : z1.toNatClampNeg = (wm.toInt - 1).toNat := by rw [tn_c]; omega
  rw [c] at ey
  rw [c1] at e
  rw [← ey, ← hv]
  exact e
theorem EWk_y {f g : Nat → Int64} {s wm r zx zy z1 : Int32} {x y v : Int64} (hs : s.toInt ≠ 260) (hr : r.toInt = 1) (hw : 2 ≤ wm.toInt) (hy : zy.toInt = wm.toInt - 1) (hx : zx.toInt = wm.toInt - 2) (hz1 : z1.toInt = wm.toInt - 2) (ey : y = f zy.toNatClampNeg) (ex : x = f zx.toNatClampNeg) (hv : v = evj (sgk s.toInt) x y) (hb : evb v = false) (e : vp_updL f z1.toNatClampNeg v = g) : EWk f g s wm r := by
  obtain ⟨d, hd⟩ : ∃ d : Nat, (d : Int) = wm.toInt - 2 := ⟨(wm.toInt - 2).toNat, by omega⟩
  have c : zy.toNatClampNeg = d + 1 := by rw [tn_c]; omega
  have c0 : zx.toNatClampNeg = d := by rw [tn_c]; omega
  have c1 : z1.toNatClampNeg = d := by rw [tn_c]; omega
  rw [c] at ey
  rw [c0] at ex
  rw [c1] at e
  refine Or.inr ⟨hs, d, hd, Or.inl ⟨hr, ?_, ?_⟩⟩
  · rw [← ey, ← ex, ← hv]; exact hb
  · rw [← ey, ← ex, ← hv]; exact e
theorem EWk_no {f g : Nat → Int64} {s wm r zx zy : Int32} {x y v : Int64} (hs : s.toInt ≠ 260) (hr : r.toInt = 0) (hw : 2 ≤ wm.toInt) (hy : zy.toInt = wm.toInt - 1) (hx : zx.toInt = wm.toInt - 2) (ey : y = f zy.toNatClampNeg) (ex : x = f zx.toNatClampNeg) (hv : v = evj (sgk s.toInt) x y) (hb : evb v = true) : EWk f g s wm r := by
  obtain ⟨d, hd⟩ : ∃ d : Nat, (d : Int) = wm.toInt - 2 := ⟨(wm.toInt - 2).toNat, by omega⟩
  have c : zy.toNatClampNeg = d + 1 := by rw [tn_c]; omega
  have c0 : zx.toNatClampNeg = d := by rw [tn_c]; omega
  rw [c] at ey
  rw [c0] at ex
  refine Or.inr ⟨hs, d, hd, Or.inr ⟨hr, ?_⟩⟩
  rw [← ey, ← ex, ← hv]; exact hb
def KMe (k w its v : Int) : Prop := (k = 1 ∧ its = 0 ∧ v = w) ∨ (35 ≤ k ∧ k ≤ 39 ∧ its = 1 ∧ v = k - 35) ∨ (its = 2 ∧ ((k = 7 ∧ v = 43) ∨ (k = 8 ∧ v = 45) ∨ (k = 9 ∧ v = 42) ∨ (k = 10 ∧ v = 47) ∨ (k = 11 ∧ v = 60) ∨ (k = 12 ∧ v = 256) ∨ (k = 13 ∧ v = 61) ∨ (k = 14 ∧ v = 257) ∨ (k = 15 ∧ v = 258) ∨ (k = 16 ∧ v = 62) ∨ (k = 34 ∧ v = 260) ∨ (k = 33 ∧ v = 261) ∨ (k = 32 ∧ v = 262)))
/-- the knots of a rule, as the reference has them -/
def KSe (gk gn ks kv : Nat → Int32) (f t : Int32) : Prop := ∀ i : Int32, f.toInt ≤ i.toInt → i.toInt < t.toInt → KMe (gk i.toNatClampNeg).toInt (gn i.toNatClampNeg).toInt (ks i.toNatClampNeg).toInt (kv i.toNatClampNeg).toInt
theorem EVi_num {nm : Nat → Int64} {gk gn : Nat → Int32} {a i i1 wm wm1 s q : Int32} {wk wk1 : Nat → Int64} {v : Int64} (h : EVi nm gk gn a i wm wk) (h0 : 0 ≤ a.toInt) (km : KMe (gk i.toNatClampNeg).toInt (gn i.toNatClampNeg).toInt s.toInt q.toInt) (hs : s.toInt = 0) (hv : v = q.toInt64) (e : vp_updL wk wm.toNatClampNeg v = wk1) (hw : wm1.toInt = wm.toInt + 1) (hi : i1.toInt = i.toInt + 1) : EVi nm gk gn a i1 wm1 wk1 := by
  have hk : (gk i.toNatClampNeg).toInt = 1 ∧ q.toInt = (gn i.toNatClampNeg).toInt := by unfold KMe at km; omega
  have hq : q = gn i.toNatClampNeg := Int32.toInt_inj.mp hk.2
  exact EVi_s (t1 := wm) h h0 rfl (by rw [evo_0 (Or.inl hk.1)]; omega) h.2.1 (by rw [evv_1 hk.1, hv, hq]) (by rw [hv]; exact evb_i32) e hw hi
theorem EVi_nam {nm : Nat → Int64} {gk gn : Nat → Int32} {a i i1 wm wm1 s q v0 v1 v2 v3 : Int32} {wk wk1 : Nat → Int64} {v : Int64} (h : EVi nm gk gn a i wm wk) (h0 : 0 ≤ a.toInt) (km : KMe (gk i.toNatClampNeg).toInt (gn i.toNatClampNeg).toInt s.toInt q.toInt) (hs : s.toInt ≠ 2 ∧ s.toInt ≠ 0) (hn : NMn nm v0 v1 v2 v3) (hv : v = nm q.toNatClampNeg) (e : vp_updL wk wm.toNatClampNeg v = wk1) (hw : wm1.toInt = wm.toInt + 1) (hi : i1.toInt = i.toInt + 1) : EVi nm gk gn a i1 wm1 wk1 := by
  have hk : 35 ≤ (gk i.toNatClampNeg).toInt ∧ (gk i.toNatClampNeg).toInt ≤ 39 ∧ q.toInt = (gk i.toNatClampNeg).toInt - 35 := by unfold KMe at km; omega
  have c : q.toNatClampNeg = ((gk i.toNatClampNeg).toInt - 35).toNat := by rw [tn_c, hk.2.2]
  obtain ⟨x, hx⟩ := NMn_i32 hn ((gk i.toNatClampNeg).toInt - 35).toNat (by omega)
  exact EVi_s (t1 := wm) h h0 rfl (by rw [evo_0 (Or.inr hk.1)]; omega) h.2.1 (by rw [evv_2 hk.1, hv, c]) (by rw [hv, c, hx]; exact evb_i32) e hw hi
theorem sg_km {k w s q : Int} (km : KMe k w s q) (hs : s = 2) : (q = 260 ∧ k = 34) ∨ (q ≠ 260 ∧ k ≠ 1 ∧ k < 34 ∧ sgk q = k) := by
  unfold KMe at km
  rcases km with km | km | ⟨-, km⟩
  · omega
  · omega
  · rcases km with ⟨rfl, rfl⟩ | ⟨rfl, rfl⟩ | ⟨rfl, rfl⟩ | ⟨rfl, rfl⟩ | ⟨rfl, rfl⟩ | ⟨rfl, rfl⟩ | ⟨rfl, rfl⟩ | ⟨rfl, rfl⟩ | ⟨rfl, rfl⟩ | ⟨rfl, rfl⟩ | ⟨rfl, rfl⟩ | ⟨rfl, rfl⟩ | ⟨rfl, rfl⟩ <;> first | (left; exact ⟨rfl, rfl⟩) | (right; exact ⟨by decide, by decide, by decide, rfl⟩)
theorem EVi_sgn {nm : Nat → Int64} {gk gn : Nat → Int32} {a i i1 wm wm1 s q r : Int32} {wk wk1 : Nat → Int64} (h : EVi nm gk gn a i wm wk) (h0 : 0 ≤ a.toInt) (km : KMe (gk i.toNatClampNeg).toInt (gn i.toNatClampNeg).toInt s.toInt q.toInt) (hs : s.toInt = 2) (g : EWk wk wk1 q wm r) (hr : r.toInt = 1) (hw : (q.toInt = 260 ∧ wm1.toInt = wm.toInt) ∨ (q.toInt ≠ 260 ∧ wm1.toInt = wm.toInt - 1)) (hb : 1 ≤ wm1.toInt ∧ wm1.toInt ≤ 64) (hi : i1.toInt = i.toInt + 1) : EVi nm gk gn a i1 wm1 wk1 := by
  have ht : (wm1 - 1).toInt = wm1.toInt - 1 := ti_sub rfl rfl (by decide) (by omega) (by omega)
  have ct : (wm1 - 1).toNatClampNeg = (wm1.toInt - 1).toNat := by rw [tn_c, ht]
  rcases sg_km km hs with ⟨k1, k2⟩ | ⟨k1, k2, k3, k4⟩
  · rcases g with ⟨-, -, d, hd, e⟩ | ⟨g1, -⟩
    · have cd : (wm1 - 1).toNatClampNeg = d := by rw [ct]; omega
      have cd' : (wm1 - 1).toInt.toNat = d := cd
      exact EVi_s (t1 := wm1 - 1) (v := if (lg_cmp (wk d) 0).toInt = 0 then 1 else 0) h h0 rfl (by rw [evo_1 k2]; omega) (by omega) (by rw [evv_3 k2, cd']) (by split <;> decide +kernel) (by rw [cd]; exact e) (by omega) hi
    · exact absurd k1 g1
  · rcases g with ⟨g1, -⟩ | ⟨-, d, hd, ⟨-, e1, e2⟩ | ⟨e1, -⟩⟩
    · exact absurd g1 k1
    · have cd : (wm1 - 1).toNatClampNeg = d := by rw [ct]; omega
      have cd' : (wm1 - 1).toInt.toNat = d := cd
      rw [k4] at e1 e2
      exact EVi_s (t1 := wm1 - 1) (v := evj (gk i.toNatClampNeg).toInt (wk d) (wk (d + 1))) h h0 rfl (by rw [evo_2 k2 k3]; omega) (by omega) (by rw [evv_4 k2 k3, cd']) e1 (by rw [cd]; exact e2) (by omega) hi
    · omega
theorem EVi_bad {nm : Nat → Int64} {gk gn : Nat → Int32} {a i u wm s q r : Int32} {wk wk1 : Nat → Int64} (h : EVi nm gk gn a i wm wk) (h0 : 0 ≤ a.toInt) (km : KMe (gk i.toNatClampNeg).toInt (gn i.toNatClampNeg).toInt s.toInt q.toInt) (hs : s.toInt = 2) (g : EWk wk wk1 q wm r) (hr : r.toInt = 0) (hb : wm.toInt ≤ 64) (hu : i.toInt < u.toInt) : evf (evr nm gk gn a.toInt.toNat (u.toInt - a.toInt).toNat) = -9223372036854775808 := by
  rcases g with ⟨-, g1, -⟩ | ⟨g1, d, hd, ⟨e1, -⟩ | ⟨-, e1⟩⟩
  · omega
  · omega
  · rcases sg_km km hs with ⟨k1, -⟩ | ⟨k1, k2, k3, k4⟩
    · exact absurd k1 g1
    · have ht : (wm - 2).toInt = wm.toInt - 2 := ti_sub rfl rfl (by decide) (by omega) (by omega)
      have cd' : (wm - 2).toInt.toNat = d := by rw [ht]; omega
      rw [k4] at e1
      exact EVi_x h h0 rfl hu (Or.inr ⟨wm - 2, _, by rw [evo_2 k2 k3]; omega, by omega, by rw [evv_4 k2 k3, cd'], e1⟩)
/-- what working out a rule comes to: whether it is no error, and the value at the stack's foot -/
def REt (gk gn : Nat → Int32) (f t v1 v2 v3 v4 : Int32) (wk : Nat → Int64) (r : Int32) : Prop := ∃ nm : Nat → Int64, NMn nm v1 v2 v3 v4 ∧ ((r.toInt = 1 ∧ wk (0 : Int32).toNatClampNeg = evf (evr nm gk gn f.toInt.toNat (t.toInt - f.toInt).toNat)) ∨ (r.toInt = 0 ∧ evf (evr nm gk gn f.toInt.toNat (t.toInt - f.toInt).toNat) = -9223372036854775808))
theorem REt_1 {gk gn : Nat → Int32} {f t v1 v2 v3 v4 i wm r : Int32} {wk nm : Nat → Int64} (hn : NMn nm v1 v2 v3 v4) (h : EVi nm gk gn f i wm wk) (hu : (t.toInt - f.toInt).toNat = (i.toInt - f.toInt).toNat) (hw : wm.toInt = 1) (hr : r.toInt = 1) : REt gk gn f t v1 v2 v3 v4 wk r := ⟨nm, hn, Or.inl ⟨hr, EVi_1 h hu hw rfl⟩⟩
theorem REt_0 {gk gn : Nat → Int32} {f t v1 v2 v3 v4 r : Int32} {wk nm : Nat → Int64} (hn : NMn nm v1 v2 v3 v4) (h : evf (evr nm gk gn f.toInt.toNat (t.toInt - f.toInt).toNat) = -9223372036854775808) (hr : r.toInt = 0) : REt gk gn f t v1 v2 v3 v4 wk r := ⟨nm, hn, Or.inr ⟨hr, h⟩⟩
def RVx (kd nu : Nat → Int32) (f t v1 v2 v3 v4 : Int32) (r : Int64) : Prop := ∃ nm : Nat → Int64, NMn nm v1 v2 v3 v4 ∧ r = evf (evr nm kd nu f.toInt.toNat (t.toInt - f.toInt).toNat)
theorem rv_1 {gk gn : Nat → Int32} {f t v1 v2 v3 v4 q : Int32} {wk : Nat → Int64} {r : Int64} (h : REt gk gn f t v1 v2 v3 v4 wk q) (hq : q.toInt ≠ 0) (e : r = wk (0 : Int32).toNatClampNeg) : RVx gk gn f t v1 v2 v3 v4 r := by
  obtain ⟨nm, hn, ⟨-, h1⟩ | ⟨h1, -⟩⟩ := h
  · exact ⟨nm, hn, e.trans h1⟩
  · exact absurd h1 hq
theorem rv_0 {gk gn : Nat → Int32} {f t v1 v2 v3 v4 q : Int32} {wk : Nat → Int64} (h : REt gk gn f t v1 v2 v3 v4 wk q) (hq : q.toInt = 0) : RVx gk gn f t v1 v2 v3 v4 (-9223372036854775808) := by
  obtain ⟨nm, hn, ⟨h1, -⟩ | ⟨-, h1⟩⟩ := h
  · omega
  · exact ⟨nm, hn, h1.symm⟩
/-- everyone's rule, as the reference has it -/
def KAm (gk gn rf rt ks kv nu : Nat → Int32) : Prop := ∀ p : Int32, 0 ≤ p.toInt → p.toInt < (nu 1).toInt → (rf p.toNatClampNeg).toInt ≤ (rt p.toNatClampNeg).toInt ∧ KSe gk gn ks kv (rf p.toNatClampNeg) (rt p.toNatClampNeg)
