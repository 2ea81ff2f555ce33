
/-! what a rule comes to: knots one by one, over a stack -/
def evb (v : Int64) : Bool := decide (0 < (lg_cmp v 1000000000000).toInt) || decide ((lg_cmp v (-1000000000000)).toInt < 0)
theorem evb_1 {v : Int64} (h : 0 < (lg_cmp v 1000000000000).toInt) : evb v = true := by unfold evb; rw [decide_eq_true h]; rfl
theorem evb_2 {v : Int64} (h : (lg_cmp v (-1000000000000)).toInt < 0) : evb v = true := by unfold evb; rw [decide_eq_true h, Bool.or_true]
theorem evb_0 {v : Int64} (h1 : (lg_cmp v 1000000000000).toInt ≤ 0) (h2 : 0 ≤ (lg_cmp v (-1000000000000)).toInt) : evb v = false := by unfold evb; rw [decide_eq_false (by omega), decide_eq_false (by omega)]; rfl
def evj (k : Int) (a b : Int64) : Int64 :=
  if k = 7 then a + b else if k = 8 then a - b else
  if k = 9 then (if (lg_cmp a 0).toInt ≠ 0 ∧ 0 < (lg_cmp (labs b) (1000000000000 / labs a)).toInt then -9223372036854775808 else a * b) else
  if k = 10 then (if (lg_cmp b 0).toInt = 0 then -9223372036854775808 else a / b) else
  if k = 11 then (if (lg_cmp a b).toInt < 0 then 1 else 0) else
  if k = 12 then (if (lg_cmp a b).toInt ≤ 0 then 1 else 0) else
  if k = 13 then (if (lg_cmp a b).toInt = 0 then 1 else 0) else
  if k = 14 then (if (lg_cmp a b).toInt ≠ 0 then 1 else 0) else
  if k = 15 then (if 0 ≤ (lg_cmp a b).toInt then 1 else 0) else
  if k = 16 then (if 0 < (lg_cmp a b).toInt then 1 else 0) else
  if k = 33 then (if (lg_cmp a 0).toInt ≠ 0 ∧ (lg_cmp b 0).toInt ≠ 0 then 1 else 0) else
  if k = 32 then (if (lg_cmp a 0).toInt ≠ 0 ∨ (lg_cmp b 0).toInt ≠ 0 then 1 else 0) else -9223372036854775808
theorem evj_7 {k : Int} {a b : Int64} (h : k = 7) : evj k a b = a + b := by unfold evj; rw [if_pos h]
theorem evj_8 {k : Int} {a b : Int64} (h : k = 8) : evj k a b = a - b := by unfold evj; rw [if_neg (by omega), if_pos h]
theorem evj_9 {k : Int} {a b : Int64} (h : k = 9) : evj k a b = if (lg_cmp a 0).toInt ≠ 0 ∧ 0 < (lg_cmp (labs b) (1000000000000 / labs a)).toInt then -9223372036854775808 else a * b := by unfold evj; rw [if_neg (by omega), if_neg (by omega), if_pos h]
theorem evj_10 {k : Int} {a b : Int64} (h : k = 10) : evj k a b = if (lg_cmp b 0).toInt = 0 then -9223372036854775808 else a / b := by unfold evj; rw [if_neg (by omega), if_neg (by omega), if_neg (by omega), if_pos h]
theorem evj_11 {k : Int} {a b : Int64} (h : k = 11) : evj k a b = if (lg_cmp a b).toInt < 0 then 1 else 0 := by subst h; rfl
theorem evj_12 {k : Int} {a b : Int64} (h : k = 12) : evj k a b = if (lg_cmp a b).toInt ≤ 0 then 1 else 0 := by subst h; rfl
theorem evj_13 {k : Int} {a b : Int64} (h : k = 13) : evj k a b = if (lg_cmp a b).toInt = 0 then 1 else 0 := by subst h; rfl
theorem evj_14 {k : Int} {a b : Int64} (h : k = 14) : evj k a b = if (lg_cmp a b).toInt ≠ 0 then 1 else 0 := by subst h; rfl
theorem evj_15 {k : Int} {a b : Int64} (h : k = 15) : evj k a b = if 0 ≤ (lg_cmp a b).toInt then 1 else 0 := by subst h; rfl
theorem evj_16 {k : Int} {a b : Int64} (h : k = 16) : evj k a b = if 0 < (lg_cmp a b).toInt then 1 else 0 := by subst h; rfl
theorem evj_33 {k : Int} {a b : Int64} (h : k = 33) : evj k a b = if (lg_cmp a 0).toInt ≠ 0 ∧ (lg_cmp b 0).toInt ≠ 0 then 1 else 0 := by subst h; rfl
theorem evj_32 {k : Int} {a b : Int64} (h : k = 32) : evj k a b = if (lg_cmp a 0).toInt ≠ 0 ∨ (lg_cmp b 0).toInt ≠ 0 then 1 else 0 := by subst h; rfl
theorem evj_d {k : Int} {a b : Int64} (h : k < 7 ∨ (16 < k ∧ k < 32) ∨ 33 < k) : evj k a b = -9223372036854775808 := by
  unfold evj
  rw [if_neg (by omega), if_neg (by omega), if_neg (by omega), if_neg (by omega), if_neg (by omega), if_neg (by omega), if_neg (by omega), if_neg (by omega), if_neg (by omega), if_neg (by omega), if_neg (by omega), if_neg (by omega)]
theorem evb_min : evb (-9223372036854775808) = true := by decide +kernel
abbrev ES := Nat × (Nat → Int64)
def eup (f : Nat → Int64) (i : Nat) (v : Int64) : Nat → Int64 := fun j => if j = i then v else f j
def evo (k : Int) : Nat := if k = 1 ∨ 35 ≤ k then 0 else if k = 34 then 1 else 2
def evv (nm : Nat → Int64) (k n : Int32) (f : Nat → Int64) (d : Nat) : Int64 :=
  if k.toInt = 1 then n.toInt64 else if 35 ≤ k.toInt then nm (k.toInt - 35).toNat else
  if k.toInt = 34 then (if (lg_cmp (f d) 0).toInt = 0 then 1 else 0) else evj k.toInt (f d) (f (d + 1))
def evs (nm : Nat → Int64) (k n : Int32) (s : ES) : Option ES :=
  if s.1 < evo k.toInt then none else
  if evb (evv nm k n s.2 (s.1 - evo k.toInt)) = true then none else
  some (s.1 - evo k.toInt + 1, eup s.2 (s.1 - evo k.toInt) (evv nm k n s.2 (s.1 - evo k.toInt)))
def evr (nm : Nat → Int64) (kd nu : Nat → Int32) (a : Nat) : Nat → Option ES
  | 0 => some (0, fun _ => 0)
  | n + 1 => match evr nm kd nu a n with
    | none => none
    | some s => evs nm (kd (a + n)) (nu (a + n)) s
def evf (o : Option ES) : Int64 := match o with
  | some (1, f) => f 0
  | _ => -9223372036854775808
theorem evr_s {nm : Nat → Int64} {kd nu : Nat → Int32} {a n : Nat} {s : ES} (h : evr nm kd nu a n = some s) : evr nm kd nu a (n + 1) = evs nm (kd (a + n)) (nu (a + n)) s := by
  show (match evr nm kd nu a n with | none => none | some s => evs nm (kd (a + n)) (nu (a + n)) s) = _
  rw [h]
theorem evr_n {nm : Nat → Int64} {kd nu : Nat → Int32} {a n : Nat} (h : evr nm kd nu a n = none) : ∀ d, evr nm kd nu a (n + d) = none
  | 0 => h
  | d + 1 => by
    show (match evr nm kd nu a (n + d) with | none => none | some s => evs nm (kd (a + (n + d))) (nu (a + (n + d))) s) = _
    rw [evr_n h d]
theorem evr_le {nm : Nat → Int64} {kd nu : Nat → Int32} {a : Nat} : ∀ n s, evr nm kd nu a n = some s → s.1 ≤ n
  | 0, s, h => by cases h; exact Nat.le_refl 0
  | n + 1, s, h => by
    cases q : evr nm kd nu a n with
    | none => rw [evr_n q 1] at h; cases h
    | some t =>
      have ih := evr_le n t q
      rw [evr_s q] at h
      unfold evs at h
      split at h
      · cases h
      · split at h
        · cases h
        · cases h
          show t.1 - evo _ + 1 ≤ n + 1
          omega
theorem evv_eq {nm : Nat → Int64} {k n : Int32} {f g : Nat → Int64} {d : Nat} (h : ∀ j, j < d + evo k.toInt → f j = g j) : evv nm k n f d = evv nm k n g d := by
  unfold evv
  split
  · rfl
  · split
    · rfl
    · split
      · rename_i c1 c2 c3
        rw [h d (by unfold evo; rw [if_neg (by omega), if_pos c3]; omega)]
      · rename_i c1 c2 c3
        rw [h d (by unfold evo; rw [if_neg (by omega), if_neg c3]; omega), h (d + 1) (by unfold evo; rw [if_neg (by omega), if_neg c3]; omega)]
/-! the class's loop: at knot i, so many on the stack -/
def EVi (nm : Nat → Int64) (kd nu : Nat → Int32) (a i top : Int32) (st : Nat → Int64) : Prop := a.toInt ≤ i.toInt ∧ 0 ≤ top.toInt ∧ ∃ f : Nat → Int64, evr nm kd nu a.toInt.toNat (i.toInt - a.toInt).toNat = some (top.toInt.toNat, f) ∧ ∀ j : Nat, (j : Int) < top.toInt → st j = f j
theorem EVi_0 {nm : Nat → Int64} {kd nu : Nat → Int32} {a : Int32} {st : Nat → Int64} : EVi nm kd nu a a (0 : Int32) st := by
  refine ⟨Int.le_refl _, by decide, fun _ => 0, ?_, fun j hj => absurd hj (by have := (by decide : (0 : Int32).toInt = 0); omega)⟩
  rw [show (a.toInt - a.toInt).toNat = 0 by omega, show (0 : Int32).toInt.toNat = 0 by decide]
  rfl
theorem EVi_s {nm : Nat → Int64} {kd nu : Nat → Int32} {a i top i1 t1 t2 k : Int32} {st st1 : Nat → Int64} {v : Int64} (h : EVi nm kd nu a i top st) (h0 : 0 ≤ a.toInt) (ek : k = kd i.toNatClampNeg) (ht : t1.toInt = top.toInt - (evo k.toInt : Int)) (ht0 : 0 ≤ t1.toInt) (hv : v = evv nm k (nu i.toNatClampNeg) st t1.toInt.toNat) (hb : evb v = false) (hst : vp_updL st t1.toNatClampNeg v = st1) (ht2 : t2.toInt = t1.toInt + 1) (hi : i1.toInt = i.toInt + 1) : EVi nm kd nu a i1 t2 st1 := by
  obtain ⟨h1, h2, f, h3, h4⟩ := h
  have e1 : (i1.toInt - a.toInt).toNat = (i.toInt - a.toInt).toNat + 1 := by omega
  have e2 : a.toInt.toNat + (i.toInt - a.toInt).toNat = i.toNatClampNeg := by show _ = i.toInt.toNat; omega
  have e3 : top.toInt.toNat - evo k.toInt = t1.toInt.toNat := by omega
  have e4 : v = evv nm k (nu i.toNatClampNeg) f t1.toInt.toNat := by rw [hv]; exact evv_eq (fun j hj => h4 j (by omega))
  refine ⟨by omega, by omega, eup f t1.toInt.toNat v, ?_, ?_⟩
  · rw [e1, evr_s h3, e2, ← ek]
    unfold evs
    rw [if_neg (show ¬ top.toInt.toNat < evo k.toInt by omega)]
    show (if evb (evv nm k (nu i.toNatClampNeg) f (top.toInt.toNat - evo k.toInt)) = true then none else some (top.toInt.toNat - evo k.toInt + 1, eup f (top.toInt.toNat - evo k.toInt) (evv nm k (nu i.toNatClampNeg) f (top.toInt.toNat - evo k.toInt)))) = _
    rw [e3, ← e4, hb, if_neg (by decide), show t2.toInt.toNat = t1.toInt.toNat + 1 by omega]
  · intro j hj
    subst hst
    unfold vp_updL eup
    rw [show t1.toNatClampNeg = t1.toInt.toNat from rfl]
    split
    · rfl
    · exact h4 j (by omega)
/-- it is an error: too few operands, or a value beyond the limit -/
theorem EVi_x {nm : Nat → Int64} {kd nu : Nat → Int32} {a i top k u : Int32} {st : Nat → Int64} (h : EVi nm kd nu a i top st) (h0 : 0 ≤ a.toInt) (ek : k = kd i.toNatClampNeg) (hu : i.toInt < u.toInt) (hx : top.toInt < (evo k.toInt : Int) ∨ ∃ (t1 : Int32) (v : Int64), t1.toInt = top.toInt - (evo k.toInt : Int) ∧ 0 ≤ t1.toInt ∧ v = evv nm k (nu i.toNatClampNeg) st t1.toInt.toNat ∧ evb v = true) : evf (evr nm kd nu a.toInt.toNat (u.toInt - a.toInt).toNat) = -9223372036854775808 := by
  obtain ⟨h1, h2, f, h3, h4⟩ := h
  have e2 : a.toInt.toNat + (i.toInt - a.toInt).toNat = i.toNatClampNeg := by show _ = i.toInt.toNat; omega
  have g : evr nm kd nu a.toInt.toNat ((i.toInt - a.toInt).toNat + 1) = none := by
    rw [evr_s h3, e2, ← ek]
    unfold evs
    rcases hx with hx | ⟨t1, v, ht, ht0, hv, hb⟩
    · rw [if_pos (show top.toInt.toNat < evo k.toInt by omega)]
    · rw [if_neg (show ¬ top.toInt.toNat < evo k.toInt by omega)]
      have e3 : top.toInt.toNat - evo k.toInt = t1.toInt.toNat := by omega
      show (if evb (evv nm k (nu i.toNatClampNeg) f (top.toInt.toNat - evo k.toInt)) = true then none else _) = _
      rw [e3, ← evv_eq (f := st) (fun j hj => h4 j (by omega)), ← hv, hb, if_pos rfl]
  have g2 := evr_n g ((u.toInt - a.toInt).toNat - ((i.toInt - a.toInt).toNat + 1))
  rw [show (i.toInt - a.toInt).toNat + 1 + ((u.toInt - a.toInt).toNat - ((i.toInt - a.toInt).toNat + 1)) = (u.toInt - a.toInt).toNat by omega] at g2
  rw [g2]
  rfl
theorem EVi_t {nm : Nat → Int64} {kd nu : Nat → Int32} {a i top : Int32} {st : Nat → Int64} (h : EVi nm kd nu a i top st) : top.toInt ≤ i.toInt - a.toInt := by
  obtain ⟨h1, h2, f, h3, h4⟩ := h
  have := evr_le _ _ h3
  have h5 : top.toInt.toNat ≤ (i.toInt - a.toInt).toNat := this
  omega
/-- all knots are done -/
theorem EVi_1 {nm : Nat → Int64} {kd nu : Nat → Int32} {a i top u : Int32} {st : Nat → Int64} {v : Int64} (h : EVi nm kd nu a i top st) (hu : (u.toInt - a.toInt).toNat = (i.toInt - a.toInt).toNat) (ht : top.toInt = 1) (hv : v = st (0 : Int32).toNatClampNeg) : v = evf (evr nm kd nu a.toInt.toNat (u.toInt - a.toInt).toNat) := by
  obtain ⟨h1, h2, f, h3, h4⟩ := h
  rw [hu, h3, ht, hv]
  exact h4 0 (by omega)
theorem EVi_2 {nm : Nat → Int64} {kd nu : Nat → Int32} {a i top u : Int32} {st : Nat → Int64} (h : EVi nm kd nu a i top st) (hu : (u.toInt - a.toInt).toNat = (i.toInt - a.toInt).toNat) (ht : top.toInt ≠ 1) : (-9223372036854775808 : Int64) = evf (evr nm kd nu a.toInt.toNat (u.toInt - a.toInt).toNat) := by
  obtain ⟨h1, h2, f, h3, h4⟩ := h
  rw [hu, h3]
  obtain ⟨t, ht'⟩ : ∃ t, t = top.toInt.toNat := ⟨_, rfl⟩
  have h5 : t ≠ 1 := by omega
  rw [← ht']
  unfold evf
  split
  · rename_i q; cases q; exact absurd rfl h5
  · rfl
theorem evo_0 {k : Int} (h : k = 1 ∨ 35 ≤ k) : evo k = 0 := by unfold evo; rw [if_pos h]
theorem evo_1 {k : Int} (h : k = 34) : evo k = 1 := by unfold evo; rw [if_neg (by omega), if_pos h]
theorem evo_2 {k : Int} (h : k ≠ 1) (h1 : k < 34) : evo k = 2 := by unfold evo; rw [if_neg (by omega), if_neg (by omega)]
theorem evv_1 {nm : Nat → Int64} {k n : Int32} {f : Nat → Int64} {d : Nat} (h : k.toInt = 1) : evv nm k n f d = n.toInt64 := by unfold evv; rw [if_pos h]
theorem evv_2 {nm : Nat → Int64} {k n : Int32} {f : Nat → Int64} {d : Nat} (h : 35 ≤ k.toInt) : evv nm k n f d = nm (k.toInt - 35).toNat := by unfold evv; rw [if_neg (by omega), if_pos h]
theorem evv_3 {nm : Nat → Int64} {k n : Int32} {f : Nat → Int64} {d : Nat} (h : k.toInt = 34) : evv nm k n f d = if (lg_cmp (f d) 0).toInt = 0 then 1 else 0 := by unfold evv; rw [if_neg (by omega), if_neg (by omega), if_pos h]
theorem evv_4 {nm : Nat → Int64} {k n : Int32} {f : Nat → Int64} {d : Nat} (h : k.toInt ≠ 1) (h1 : k.toInt < 34) : evv nm k n f d = evj k.toInt (f d) (f (d + 1)) := by unfold evv; rw [if_neg h, if_neg (by omega), if_neg (by omega)]
/-- the names a rule goes by -/
def NMn (g : Nat → Int64) (v0 v1 v2 v3 : Int32) : Prop := g 0 = v0.toInt64 ∧ g 1 = v1.toInt64 ∧ g 2 = v2.toInt64 ∧ g 3 = (v3 - v3 / 24 * 24).toInt64 ∧ g 4 = (v3 / 24 - v3 / 24 / 7 * 7).toInt64
theorem NMn_eq {g h : Nat → Int64} {v0 v1 v2 v3 : Int32} (a : NMn g v0 v1 v2 v3) (b : NMn h v0 v1 v2 v3) : ∀ j, j < 5 → g j = h j
  | 0, _ => a.1.trans b.1.symm
  | 1, _ => a.2.1.trans b.2.1.symm
  | 2, _ => a.2.2.1.trans b.2.2.1.symm
  | 3, _ => a.2.2.2.1.trans b.2.2.2.1.symm
  | 4, _ => a.2.2.2.2.trans b.2.2.2.2.symm
theorem evs_nm {nm nm1 : Nat → Int64} {k n : Int32} {s : ES} (h : ∀ j, j < 5 → nm j = nm1 j) (hk : k.toInt ≤ 39) : evs nm k n s = evs nm1 k n s := by
  have e : ∀ f d, evv nm k n f d = evv nm1 k n f d := fun f d => by
    unfold evv
    by_cases c : 35 ≤ k.toInt
    · rw [h (k.toInt - 35).toNat (by omega)]
    · rw [if_neg c, if_neg c]
  unfold evs
  rw [e]
theorem evr_eq {nm nm1 : Nat → Int64} {kd nu kd1 nu1 : Nat → Int32} {a : Nat} (h : ∀ j, j < 5 → nm j = nm1 j) : ∀ n, (∀ i, a ≤ i → i < a + n → kd i = kd1 i ∧ nu i = nu1 i ∧ (kd i).toInt ≤ 39) → evr nm kd nu a n = evr nm1 kd1 nu1 a n
  | 0, _ => rfl
  | n + 1, e => by
    have ih := evr_eq (kd := kd) (nu := nu) (kd1 := kd1) (nu1 := nu1) h n (fun i a1 b1 => e i a1 (by omega))
    have e1 := e (a + n) (by omega) (by omega)
    show (match evr nm kd nu a n with | none => none | some s => evs nm (kd (a + n)) (nu (a + n)) s) = (match evr nm1 kd1 nu1 a n with | none => none | some s => evs nm1 (kd1 (a + n)) (nu1 (a + n)) s)
    rw [ih, e1.1, e1.2.1]
    split
    · rfl
    · rw [evs_nm h (by rw [← e1.1]; exact e1.2.2)]
theorem NMn_i {f f1 f2 f3 f4 f5 : Nat → Int64} {x0 x1 x2 x3 x4 : Int64} {v0 v1 v2 v3 : Int32} (e1 : vp_updL f (0 : Int32).toNatClampNeg x0 = f1) (e2 : vp_updL f1 (1 : Int32).toNatClampNeg x1 = f2) (e3 : vp_updL f2 (2 : Int32).toNatClampNeg x2 = f3) (e4 : vp_updL f3 (3 : Int32).toNatClampNeg x3 = f4) (e5 : vp_updL f4 (4 : Int32).toNatClampNeg x4 = f5) (h0 : x0 = v0.toInt64) (h1 : x1 = v1.toInt64) (h2 : x2 = v2.toInt64) (h3 : x3 = (v3 - v3 / 24 * 24).toInt64) (h4 : x4 = (v3 / 24 - v3 / 24 / 7 * 7).toInt64) : NMn f5 v0 v1 v2 v3 := by
  subst e1 e2 e3 e4 e5 h0 h1 h2 h3 h4
  have u : ∀ (g : Nat → Int64) (i : Int32) (x : Int64) (j : Nat), vp_updL g i.toNatClampNeg x j = if j = i.toNatClampNeg then x else g j := fun _ _ _ _ => rfl
  refine ⟨?_, ?_, ?_, ?_, ?_⟩
  · rw [u, if_neg (by decide), u, if_neg (by decide), u, if_neg (by decide), u, if_neg (by decide), u, if_pos (by decide)]
  · rw [u, if_neg (by decide), u, if_neg (by decide), u, if_neg (by decide), u, if_pos (by decide)]
  · rw [u, if_neg (by decide), u, if_neg (by decide), u, if_pos (by decide)]
  · rw [u, if_neg (by decide), u, if_pos (by decide)]
  · rw [u, if_pos (by decide)]
