
/-! the reference's tokens -/
theorem tk_nb {f : Nat → Int} {n a p b : Nat} {k w : Int} (h : TokAt f n a k p w b) : ¬ tk_blank (f p) := by
  obtain ⟨h1, h2, h3, h4, h5⟩ := h
  rcases h5 with ⟨⟨g1, g2, g3, g4⟩, -⟩ | ⟨⟨g1, g2, g3, g4⟩, -⟩ | ⟨g, -⟩
  · have := g3 p (Nat.le_refl _) g1
    unfold tk_small at this; unfold tk_blank; omega
  · have := g3 p (Nat.le_refl _) g1
    unfold tk_digit at this; unfold tk_blank; omega
  · exact g
def BKt (f : Nat → Int32) (a : Nat) (x : Int32) : Prop := (a : Int) ≤ x.toInt ∧ ∀ j, a ≤ j → j < x.toInt.toNat → tk_blank (fI f j)
theorem BKt_0 {f : Nat → Int32} {a : Nat} {x : Int32} (h : x.toInt = (a : Int)) : BKt f a x := ⟨by omega, fun j h1 h2 => absurd h1 (by omega)⟩
theorem BKt_s {f : Nat → Int32} {a : Nat} {x y sz r : Int32} (h : BKt f a x) (hr : (x.toInt < sz.toInt ∧ r.toInt = (f x.toNatClampNeg).toInt) ∨ (sz.toInt ≤ x.toInt ∧ r.toInt = -1)) (hb : r.toInt = 10 ∨ r.toInt = 32) (hy : y.toInt = x.toInt + 1) : BKt f a y := by
  refine ⟨by have := h.1; omega, fun j h1 h2 => ?_⟩
  by_cases q : j < x.toInt.toNat
  · exact h.2 j h1 q
  · have e : j = x.toNatClampNeg := by rw [tn_c]; have := h.1; omega
    rw [e]; show tk_blank (f x.toNatClampNeg).toInt
    unfold tk_blank; omega
/-- what stands behind the blanks: a token, or the end -/
theorem tk_here {f : Nat → Int32} {sz x r1 r2 : Int32} {K PL W : Nat → Int} {q : Nat → Nat} {e t : Nat} (h : TS (fI f) sz.toInt.toNat K PL W q e) (ht : t ≤ e) (hb : BKt f (q t) x) (hx : x.toInt ≤ sz.toInt) (h1 : (x.toInt < sz.toInt ∧ r1.toInt = (f x.toNatClampNeg).toInt) ∨ (sz.toInt ≤ x.toInt ∧ r1.toInt = -1)) (h2 : (x.toInt < sz.toInt ∧ r2.toInt = (f x.toNatClampNeg).toInt) ∨ (sz.toInt ≤ x.toInt ∧ r2.toInt = -1)) (n1 : r1.toInt ≠ 10) (n2 : r2.toInt ≠ 32) :
    (t < e ∧ x.toInt < sz.toInt ∧ x.toInt = PL t) ∨ (t = e ∧ x.toInt = sz.toInt) := by
  obtain ⟨a1, a2, a3, a4, a5, a6, a7⟩ := h
  have hn : x.toInt < sz.toInt → ¬ tk_blank (fI f x.toInt.toNat) := fun g => by
    have e1 : fI f x.toInt.toNat = (f x.toNatClampNeg).toInt := rfl
    rw [e1]; unfold tk_blank; omega
  by_cases c : t < e
  · left
    obtain ⟨g, g0⟩ := a4 t c
    have nb := tk_nb g
    obtain ⟨g1, g2, g3, g4, -⟩ := g
    have hb1 := hb.1
    have c1 : ¬ x.toInt.toNat < (PL t).toNat := fun z => hn (by omega) (g4 _ (by omega) z)
    have c2 : ¬ (PL t).toNat < x.toInt.toNat := fun z => nb (hb.2 _ g1 z)
    exact ⟨c, by omega, by omega⟩
  · right
    have : t = e := by omega
    subst this
    refine ⟨rfl, ?_⟩
    have hb1 := hb.1
    by_cases c2 : x.toInt < sz.toInt
    · exact absurd (a7 x.toInt.toNat (by omega) (by omega)) (hn c2)
    · omega
theorem ts_tok {f : Nat → Int} {n : Nat} {K PL W : Nat → Int} {q : Nat → Nat} {e t : Nat} (h : TS f n K PL W q e) (ht : t < e) : TokAt f n (q t) (K t) (PL t).toNat (W t) (q (t + 1)) ∧ 0 ≤ PL t := h.2.2.2.1 t ht
theorem ts_le {f : Nat → Int} {n : Nat} {K PL W : Nat → Int} {q : Nat → Nat} {e t : Nat} (h : TS f n K PL W q e) (ht : t ≤ e) : q t ≤ n := by
  by_cases c : t < e
  · have := (ts_tok h c).1; have h1 := this.1; have h2 := this.2.1; omega
  · have : t = e := by omega
    rw [this]; exact h.2.2.1
/-- a row of one sort ends where it ends -/
def RUt (P : Int → Prop) (f : Nat → Int32) (p x : Int32) : Prop := p.toInt ≤ x.toInt ∧ ∀ j, p.toInt.toNat ≤ j → j < x.toInt.toNat → P (fI f j)
theorem RUt_0 {P : Int → Prop} {f : Nat → Int32} {p : Int32} : RUt P f p p := ⟨Int.le_refl _, fun j h1 h2 => absurd h1 (by omega)⟩
theorem RUt_s {P : Int → Prop} {f : Nat → Int32} {p x y sz r : Int32} (h : RUt P f p x) (hr : (x.toInt < sz.toInt ∧ r.toInt = (f x.toNatClampNeg).toInt) ∨ (sz.toInt ≤ x.toInt ∧ r.toInt = -1)) (hP : P r.toInt) (h0 : 0 ≤ r.toInt) (hp : 0 ≤ p.toInt) (hy : y.toInt = x.toInt + 1) : RUt P f p y := by
  have h1 := h.1
  refine ⟨by omega, sm_ext (P := P) h.2 (by omega) hy ?_⟩
  have e1 : fI f x.toNatClampNeg = r.toInt := by show (f x.toNatClampNeg).toInt = _; omega
  rw [e1]; exact hP
theorem RUt_e {P : Int → Prop} {f : Nat → Int32} {p x sz r : Int32} {b : Nat} (h : RUt P f p x) (g : tk_run P (fI f) sz.toInt.toNat p.toInt.toNat b) (hr : (x.toInt < sz.toInt ∧ r.toInt = (f x.toNatClampNeg).toInt) ∨ (sz.toInt ≤ x.toInt ∧ r.toInt = -1)) (hP : x.toInt < sz.toInt → ¬ P r.toInt) (hx : x.toInt ≤ sz.toInt) (hp : 0 ≤ p.toInt) : x.toInt = (b : Int) := by
  have h1 := h.1
  obtain ⟨g1, g2, g3, g4⟩ := g
  have c1 : ¬ x.toInt.toNat < b := fun z => by
    have z1 := g3 x.toInt.toNat (by omega) z
    have z2 : x.toInt < sz.toInt := by omega
    have e1 : fI f x.toInt.toNat = r.toInt := by show (f x.toNatClampNeg).toInt = _; omega
    rw [e1] at z1
    exact hP z2 z1
  have c2 : ¬ b < x.toInt.toNat := fun z => g4 (by omega) (h.2 b (by omega) z)
  omega
theorem tok_small {f : Nat → Int} {n a p b : Nat} {k w : Int} (h : TokAt f n a k p w b) (hs : tk_small (f p)) : tk_run tk_small f n p b ∧ tk_word f p b k w := by
  rcases h.2.2.2.2 with g | ⟨⟨g1, g2, g3, g4⟩, -⟩ | ⟨-, g, -⟩
  · exact g
  · have := g3 p (Nat.le_refl _) g1
    unfold tk_digit at this; unfold tk_small at hs; omega
  · exact absurd hs g
theorem tok_digit {f : Nat → Int} {n a p b : Nat} {k w : Int} (h : TokAt f n a k p w b) (hs : tk_digit (f p)) : tk_run tk_digit f n p b ∧ k = 1 ∧ w = tk_nv f p (b - p) := by
  rcases h.2.2.2.2 with ⟨⟨g1, g2, g3, g4⟩, -⟩ | g | ⟨-, -, g, -⟩
  · have := g3 p (Nat.le_refl _) g1
    unfold tk_small at this; unfold tk_digit at hs; omega
  · exact g
  · exact absurd hs g
theorem tok_sign {f : Nat → Int} {n a p b : Nat} {k w : Int} (h : TokAt f n a k p w b) (h1 : ¬ tk_small (f p)) (h2 : ¬ tk_digit (f p)) : ∃ s, b = p + s ∧ tk_sgn (f p) (if p + 1 < n then f (p + 1) else 0) k s := by
  rcases h.2.2.2.2 with ⟨⟨g1, g2, g3, g4⟩, -⟩ | ⟨⟨g1, g2, g3, g4⟩, -⟩ | ⟨-, -, -, g⟩
  · exact absurd (g3 p (Nat.le_refl _) g1) h1
  · exact absurd (g3 p (Nat.le_refl _) g1) h2
  · exact g
/-! words -/
def WDt (f : Nat → Int32) (p a r : Int32) : Prop := (r.toInt = -1 ∧ ∀ i, i < 20 → ¬ tk_is (fI f) p.toInt.toNat a.toInt.toNat i) ∨ (0 ≤ r.toInt ∧ r.toInt < 20 ∧ tk_is (fI f) p.toInt.toNat a.toInt.toNat r.toInt.toNat)
theorem tk_lang_inj : ∀ i, i < 20 → ∀ j, j < 20 → tk_lang i = tk_lang j → i = j := by decide +kernel
theorem tm_w0 {f : Nat → Int32} {p a r : Int32} {k w : Int} (hs : RUt tk_small f p a) (hw : tk_word (fI f) p.toInt.toNat a.toInt.toNat k w) (hr : WDt f p a r) (hn : r.toInt ≠ -1) : TM k w 0 r.toInt := by
  have hs1 := hs.1
  rcases hr with ⟨h, -⟩ | ⟨h0, h1, h2⟩
  · exact absurd h hn
  · have g := (tk_is_iff hs.2 (by omega) (by omega)).mp h2
    rcases hw with ⟨q, -⟩ | ⟨q, q1, q2⟩
    · exact absurd g.1 (by omega)
    · rcases q2 with ⟨i, i1, i2, i3⟩ | ⟨i1, i2⟩
      · have := tk_lang_inj i i1 r.toInt.toNat (by omega) (by rw [← i3, q1, g.2])
        exact Or.inr (Or.inr (Or.inr (Or.inr (Or.inl ⟨by omega, by omega, rfl, by omega⟩))))
      · exact absurd (q1.trans g.2) (i2 _ (by omega))
theorem tm_w5 {f : Nat → Int32} {p a : Int32} {k w v : Int} (hw : tk_word (fI f) p.toInt.toNat a.toInt.toNat k w) (hp : 0 ≤ p.toInt) (h6 : p.toInt + 6 < a.toInt) : TM k w 5 v := by
  rcases hw with ⟨q, q1⟩ | ⟨q, q1, q2⟩
  · exact Or.inr (Or.inr (Or.inr (Or.inl ⟨q1, rfl⟩)))
  · omega
theorem tm_w1 {f : Nat → Int32} {p a r : Int32} {k w v : Int} (hs : RUt tk_small f p a) (hw : tk_word (fI f) p.toInt.toNat a.toInt.toNat k w) (hr : WDt f p a r) (hn : r.toInt = -1) (h6 : a.toInt ≤ p.toInt + 6) (hp : 0 ≤ p.toInt) (hv : v = tk_V (fI f) p.toInt.toNat a.toInt.toNat) : TM k w 1 v := by
  have hs1 := hs.1
  rcases hr with ⟨-, h⟩ | ⟨h0, -⟩
  · rcases hw with ⟨q, -⟩ | ⟨q, q1, q2⟩
    · omega
    · rcases q2 with ⟨i, i1, i2, i3⟩ | ⟨i1, i2⟩
      · exact absurd ((tk_is_iff hs.2 (by omega) i1).mpr ⟨q, q1.symm.trans i3⟩) (h i i1)
      · exact Or.inr (Or.inr (Or.inl ⟨i1, rfl, hv.trans q1.symm⟩))
  · omega
/-! the reference's walk along the words of the language -/
theorem tk_sB : ∀ n, n < 20 → (∀ m, m < tk_len n → (sB (tk_start n + m)).toInt = tk_wd n m + 96 ∧ (sB (tk_start n + m)).toInt ≠ 32) ∧ (sB (tk_start n + tk_len n)).toInt = 32 ∧ tk_start (n + 1) = tk_start n + tk_len n + 1 ∧ tk_start n + tk_len n < 104 := by decide +kernel
def STt (n k : Int32) : Prop := 0 ≤ n.toInt ∧ n.toInt ≤ 20 ∧ 0 ≤ k.toInt ∧ k.toInt.toNat = tk_start n.toInt.toNat
def SUt (n k : Int32) : Prop := 0 ≤ n.toInt ∧ n.toInt < 20 ∧ 0 ≤ k.toInt ∧ tk_start n.toInt.toNat ≤ k.toInt.toNat ∧ k.toInt.toNat ≤ tk_start n.toInt.toNat + tk_len n.toInt.toNat
theorem STt_0 : STt (0 : Int32) (0 : Int32) := by unfold STt; decide
theorem STt_end : tk_start 20 = 104 := by decide
theorem STt_lt {n k : Int32} (h : STt n k) (hk : k.toInt < 104) : n.toInt < 20 := by
  obtain ⟨h1, h2, h3, h4⟩ := h
  by_cases q : n.toInt = 20
  · rw [show n.toInt.toNat = 20 by omega, STt_end] at h4; omega
  · omega
theorem STt_n {n k : Int32} (h : STt n k) (hk : 104 ≤ k.toInt) : 20 ≤ n.toInt := by
  obtain ⟨h1, h2, h3, h4⟩ := h
  by_cases q : n.toInt < 20
  · have := (tk_sB n.toInt.toNat (by omega)).2.2.2; omega
  · omega
theorem SUt_0 {n k : Int32} (h : STt n k) (hk : k.toInt < 104) : SUt n k := ⟨h.1, STt_lt h hk, h.2.2.1, by rw [h.2.2.2]; exact Nat.le_refl _, by rw [h.2.2.2]; omega⟩
theorem SUt_s {n k k1 c : Int32} (h : SUt n k) (hc : c.toInt = (sB k.toNatClampNeg).toInt) (hn : c.toInt ≠ 32) (hk : k1.toInt = k.toInt + 1) : SUt n k1 := by
  obtain ⟨h1, h2, h3, h4, h5⟩ := h
  have g := tk_sB n.toInt.toNat (by omega)
  have : k.toInt.toNat ≠ tk_start n.toInt.toNat + tk_len n.toInt.toNat := fun z => by
    have e : k.toNatClampNeg = tk_start n.toInt.toNat + tk_len n.toInt.toNat := z
    rw [e, g.2.1] at hc; exact hn hc
  exact ⟨h1, h2, by omega, by omega, by omega⟩
theorem SUt_e {n n1 k k1 c : Int32} (h : SUt n k) (hc : c.toInt = (sB k.toNatClampNeg).toInt) (hn : c.toInt = 32) (hk : k1.toInt = k.toInt + 1) (hn1 : n1.toInt = n.toInt + 1) : STt n1 k1 := by
  obtain ⟨h1, h2, h3, h4, h5⟩ := h
  have g := tk_sB n.toInt.toNat (by omega)
  have e : k.toInt.toNat = tk_start n.toInt.toNat + tk_len n.toInt.toNat := by
    by_cases q : k.toInt.toNat - tk_start n.toInt.toNat < tk_len n.toInt.toNat
    · have := (g.1 _ q).2
      rw [show tk_start n.toInt.toNat + (k.toInt.toNat - tk_start n.toInt.toNat) = k.toNatClampNeg by rw [tn_c]; omega] at this
      omega
    · omega
  exact ⟨by omega, by omega, by omega, by rw [show n1.toInt.toNat = n.toInt.toNat + 1 by omega, g.2.2.1]; omega⟩
def NOt (f : Nat → Int32) (p a n : Int32) : Prop := ∀ i : Nat, (i : Int) < n.toInt → ¬ tk_is (fI f) p.toInt.toNat a.toInt.toNat i
theorem NOt_0 {f : Nat → Int32} {p a : Int32} : NOt f p a (0 : Int32) := fun i h => absurd h (by have := (by decide : (0 : Int32).toInt = 0); omega)
/-- so many letters of the word at k are there -/
def MTt (f : Nat → Int32) (p a k i : Int32) : Prop := 0 ≤ i.toInt ∧ ∀ j : Nat, (j : Int) < i.toInt → p.toInt + j < a.toInt ∧ fI f (p.toInt.toNat + j) = (sB (k.toInt.toNat + j)).toInt ∧ (sB (k.toInt.toNat + j)).toInt ≠ 32
theorem MTt_0 {f : Nat → Int32} {p a k : Int32} : MTt f p a k (0 : Int32) := ⟨by decide, fun j h => absurd h (by have := (by decide : (0 : Int32).toInt = 0); omega)⟩
theorem MTt_s {f : Nat → Int32} {p a k i i1 x y z c : Int32} (h : MTt f p a k i) (hk : 0 ≤ k.toInt) (hp : 0 ≤ p.toInt) (hx : x.toInt = k.toInt + i.toInt) (hc : c.toInt = (sB x.toNatClampNeg).toInt) (hn : c.toInt ≠ 32) (hy : y.toInt = p.toInt + i.toInt) (ha : y.toInt < a.toInt) (ez : z = f y.toNatClampNeg) (hz : z.toInt = c.toInt) (hi : i1.toInt = i.toInt + 1) : MTt f p a k i1 := by
  have h0 := h.1
  refine ⟨by omega, fun j hj => ?_⟩
  by_cases q : (j : Int) < i.toInt
  · exact h.2 j q
  · have e1 : k.toInt.toNat + j = x.toNatClampNeg := by rw [tn_c]; omega
    have e2 : p.toInt.toNat + j = y.toNatClampNeg := by rw [tn_c]; omega
    rw [e1, e2]
    refine ⟨by omega, ?_, by omega⟩
    show (f y.toNatClampNeg).toInt = _
    rw [← ez]; omega
theorem nm_yes {f : Nat → Int32} {p a n k i x c : Int32} (h : MTt f p a k i) (hk : STt n k) (hn : n.toInt < 20) (hp : 0 ≤ p.toInt) (hx : x.toInt = k.toInt + i.toInt) (hc : c.toInt = (sB x.toNatClampNeg).toInt) (h32 : c.toInt = 32) (hpa : p.toInt + i.toInt = a.toInt) : tk_is (fI f) p.toInt.toNat a.toInt.toNat n.toInt.toNat := by
  have h0 := h.1
  obtain ⟨k1, k2, k3, k4⟩ := hk
  have g := tk_sB n.toInt.toNat (by omega)
  have e1 : ¬ tk_len n.toInt.toNat < i.toInt.toNat := fun q => by
    have := (h.2 (tk_len n.toInt.toNat) (by omega)).2.2
    rw [k4, g.2.1] at this
    exact this rfl
  have e2 : ¬ i.toInt.toNat < tk_len n.toInt.toNat := fun q => by
    have := (g.1 _ q).2
    rw [show tk_start n.toInt.toNat + i.toInt.toNat = x.toNatClampNeg by rw [tn_c]; omega] at this
    omega
  refine ⟨by omega, fun m hm => ?_⟩
  have z := h.2 m (by omega)
  rw [z.2.1, k4]
  exact (g.1 m hm).1
theorem nm_no {f : Nat → Int32} {p a n k i x c : Int32} (h : MTt f p a k i) (hk : STt n k) (hn : n.toInt < 20) (hp : 0 ≤ p.toInt) (hx : x.toInt = k.toInt + i.toInt) (hc : c.toInt = (sB x.toNatClampNeg).toInt) (he : (c.toInt = 32 ∧ p.toInt + i.toInt ≠ a.toInt) ∨ (c.toInt ≠ 32 ∧ (a.toInt ≤ p.toInt + i.toInt ∨ fI f (p.toInt + i.toInt).toNat ≠ c.toInt))) : ¬ tk_is (fI f) p.toInt.toNat a.toInt.toNat n.toInt.toNat := by
  intro z
  have h0 := h.1
  obtain ⟨k1, k2, k3, k4⟩ := hk
  have g := tk_sB n.toInt.toNat (by omega)
  have z1 := z.1
  have e1 : ¬ tk_len n.toInt.toNat < i.toInt.toNat := fun q => by
    have := (h.2 (tk_len n.toInt.toNat) (by omega)).2.2
    rw [k4, g.2.1] at this
    exact this rfl
  have hl := (tk_len_wd n.toInt.toNat (by omega)).2.1
  have ex : x.toNatClampNeg = tk_start n.toInt.toNat + i.toInt.toNat := by rw [tn_c]; omega
  by_cases q : i.toInt.toNat < tk_len n.toInt.toNat
  · have g1 := g.1 _ q
    have z2 := z.2 _ q
    rw [ex] at hc
    rcases he with ⟨y, -⟩ | ⟨-, y | y⟩
    · omega
    · omega
    · rw [show (p.toInt + i.toInt).toNat = p.toInt.toNat + i.toInt.toNat by omega] at y
      omega
  · have e : i.toInt.toNat = tk_len n.toInt.toNat := by omega
    rw [ex, e, g.2.1] at hc
    rcases he with ⟨-, y⟩ | ⟨y, -⟩
    · omega
    · omega
/-- that word isn't it (i: how far it was looked at) -/
def NNx (f : Nat → Int32) (p a n i : Int32) : Prop := ¬ tk_is (fI f) p.toInt.toNat a.toInt.toNat n.toInt.toNat
theorem NOt_s {f : Nat → Int32} {p a n n1 i : Int32} (h : NOt f p a n) (g : NNx f p a n i) (h0 : 0 ≤ n.toInt) (hn : n1.toInt = n.toInt + 1) : NOt f p a n1 := fun i hi => by
  by_cases q : (i : Int) < n.toInt
  · exact h i q
  · have : i = n.toInt.toNat := by omega
    rw [this]; exact g
theorem WDt_n {f : Nat → Int32} {p a n : Int32} (h : NOt f p a n) (hn : 20 ≤ n.toInt) : WDt f p a (-1 : Int32) := Or.inl ⟨by decide, fun i hi => h i (by omega)⟩
theorem WDt_y {f : Nat → Int32} {p a n : Int32} (h : tk_is (fI f) p.toInt.toNat a.toInt.toNat n.toInt.toNat) (h0 : 0 ≤ n.toInt) (hn : n.toInt < 20) : WDt f p a n := Or.inr ⟨h0, hn, h⟩
/-! names -/
def tk_vp (f : Nat → Int) (p b : Nat) : Nat → Int
  | 0 => 0
  | m + 1 => tk_vp f p b m * 32 + tk_dg f p b m
theorem tk_vp6 {f : Nat → Int} {p b : Nat} : tk_vp f p b 6 = tk_V f p b := by
  simp only [tk_vp, tk_V]; omega
theorem tk_vp_rng {f : Nat → Int} {p b : Nat} (h : ∀ j, p ≤ j → j < b → tk_small (f j)) : ∀ m, m ≤ 5 → 0 ≤ tk_vp f p b m ∧ tk_vp f p b m < 33554432 := by
  have a0 := tk_dg_rng h 0; have a1 := tk_dg_rng h 1; have a2 := tk_dg_rng h 2; have a3 := tk_dg_rng h 3; have a4 := tk_dg_rng h 4
  intro m hm
  match m, hm with
  | 0, _ => simp only [tk_vp]; omega
  | 1, _ => simp only [tk_vp]; omega
  | 2, _ => simp only [tk_vp]; omega
  | 3, _ => simp only [tk_vp]; omega
  | 4, _ => simp only [tk_vp]; omega
  | 5, _ => simp only [tk_vp]; omega
theorem sh_or {x y z w : Int32} (e1 : y = x <<< ((5 : Int32) &&& 31)) (e2 : z = y ||| w) (hx : 0 ≤ x.toInt ∧ x.toInt < 33554432) (hw : 0 ≤ w.toInt ∧ w.toInt < 32) : z.toInt = x.toInt * 32 + w.toInt := by
  have x1 := ni_of hx.1
  have w1 := ni_of hw.1
  rw [e2, e1, x1, w1, show ((5 : Int32) &&& 31) = 5 by decide, pk_shlN 5 5 (by decide) (by omega), oi_or, or_add (k := 5) (by omega), nI_toInt (by omega), nI_toInt (by omega), nI_toInt (by omega)]
  omega
def VPt (f : Nat → Int32) (p a k v : Int32) : Prop := v.toInt = tk_vp (fI f) p.toInt.toNat a.toInt.toNat k.toInt.toNat
theorem VPt_0 {f : Nat → Int32} {p a : Int32} : VPt f p a (0 : Int32) (0 : Int32) := by unfold VPt; rfl
theorem VPt_s {f : Nat → Int32} {p a k k1 x y z w : Int32} (h : VPt f p a k x) (hs : RUt tk_small f p a) (hp : 0 ≤ p.toInt) (hk : 0 ≤ k.toInt ∧ k.toInt ≤ 5) (hk1 : k1.toInt = k.toInt + 1) (e1 : y = x <<< ((5 : Int32) &&& 31)) (e2 : z = y ||| w) (hw : (p.toInt + k.toInt < a.toInt ∧ w.toInt = fI f (p.toInt + k.toInt).toNat - 96) ∨ (a.toInt ≤ p.toInt + k.toInt ∧ w.toInt = 0)) : VPt f p a k1 z := by
  unfold VPt at h ⊢
  have r := tk_vp_rng hs.2 k.toInt.toNat (by omega)
  have dg : tk_dg (fI f) p.toInt.toNat a.toInt.toNat k.toInt.toNat = w.toInt := by
    unfold tk_dg
    rcases hw with ⟨g1, g2⟩ | ⟨g1, g2⟩
    · rw [if_pos (by omega), g2, show (p.toInt + k.toInt).toNat = p.toInt.toNat + k.toInt.toNat by omega]
    · rw [if_neg (by omega), g2]
  have dr := tk_dg_rng hs.2 k.toInt.toNat
  rw [dg] at dr
  rw [sh_or e1 e2 (by omega) (by omega), show k1.toInt.toNat = k.toInt.toNat + 1 by omega]
  show _ = tk_vp (fI f) p.toInt.toNat a.toInt.toNat k.toInt.toNat * 32 + tk_dg (fI f) p.toInt.toNat a.toInt.toNat k.toInt.toNat
  rw [dg, h]
/-! numbers -/
def NRt (f : Nat → Int32) (p x v : Int32) : Prop := RUt tk_digit f p x ∧ v.toInt = tk_rv (fI f) p.toInt.toNat (x.toInt.toNat - p.toInt.toNat)
theorem NRt_0 {f : Nat → Int32} {p : Int32} : NRt f p p (0 : Int32) := ⟨RUt_0, by rw [Nat.sub_self]; rfl⟩
theorem NRt_s {f : Nat → Int32} {p x y sz r v v1 : Int32} (h : NRt f p x v) (hr : (x.toInt < sz.toInt ∧ r.toInt = (f x.toNatClampNeg).toInt) ∨ (sz.toInt ≤ x.toInt ∧ r.toInt = -1)) (hd : 48 ≤ r.toInt ∧ r.toInt ≤ 57) (hp : 0 ≤ p.toInt) (hy : y.toInt = x.toInt + 1) (hv : (99999 < v.toInt ∧ v1.toInt = v.toInt) ∨ (v.toInt ≤ 99999 ∧ v1.toInt = 10 * v.toInt + r.toInt - 48)) : NRt f p y v1 := by
  have h1 := h.1.1
  refine ⟨RUt_s h.1 hr hd (by omega) hp hy, ?_⟩
  have h2 := h.2
  have e1 : fI f (p.toInt.toNat + (x.toInt.toNat - p.toInt.toNat)) = r.toInt := by
    rw [show p.toInt.toNat + (x.toInt.toNat - p.toInt.toNat) = x.toNatClampNeg by rw [tn_c]; omega]
    show (f x.toNatClampNeg).toInt = _; omega
  rw [show y.toInt.toNat - p.toInt.toNat = (x.toInt.toNat - p.toInt.toNat) + 1 by omega]
  show v1.toInt = if 99999 < tk_rv (fI f) p.toInt.toNat (x.toInt.toNat - p.toInt.toNat) then tk_rv (fI f) p.toInt.toNat (x.toInt.toNat - p.toInt.toNat) else 10 * tk_rv (fI f) p.toInt.toNat (x.toInt.toNat - p.toInt.toNat) + fI f (p.toInt.toNat + (x.toInt.toNat - p.toInt.toNat)) - 48
  rw [e1, ← h2]
  split <;> omega
theorem NRt_r {f : Nat → Int32} {p x v : Int32} (h : NRt f p x v) : 0 ≤ v.toInt ∧ v.toInt ≤ 999999 := by
  have g := tk_rv_nv (f := fI f) (p := p.toInt.toNat) (x.toInt.toNat - p.toInt.toNat) (fun j hj => h.1.2 _ (by omega) (by omega))
  have h2 := h.2
  omega
theorem tm_n {f : Nat → Int32} {p x v : Int32} {k w : Int} {b : Nat} (h : NRt f p x v) (hk : k = 1) (hw : w = tk_nv (fI f) p.toInt.toNat (b - p.toInt.toNat)) (hb : x.toInt = (b : Int)) : TM k w 2 v.toInt := by
  have g := tk_rv_nv (f := fI f) (p := p.toInt.toNat) (x.toInt.toNat - p.toInt.toNat) (fun j hj => h.1.2 _ (by omega) (by omega))
  have h2 := h.2
  rw [show b - p.toInt.toNat = x.toInt.toNat - p.toInt.toNat by omega] at hw
  refine Or.inr (Or.inl ⟨hk, rfl, ?_⟩)
  rw [h2, hw]
  omega
/-! signs -/
def SGr (c d s v : Int) (n : Int) : Prop :=
  (c = 60 ∧ d = 61 ∧ s = 3 ∧ v = 256 ∧ n = 2) ∨ (c = 60 ∧ d = 62 ∧ s = 3 ∧ v = 257 ∧ n = 2) ∨ (c = 62 ∧ d = 61 ∧ s = 3 ∧ v = 258 ∧ n = 2) ∨
  (n = 1 ∧ ((c = 60 ∧ d ≠ 61 ∧ d ≠ 62 ∧ s = 3 ∧ v = c) ∨ (c = 62 ∧ d ≠ 61 ∧ s = 3 ∧ v = c) ∨ ((c = 59 ∨ c = 40 ∨ c = 41 ∨ c = 43 ∨ c = 45 ∨ c = 42 ∨ c = 47 ∨ c = 61) ∧ s = 3 ∧ v = c) ∨ (c ≠ 60 ∧ c ≠ 62 ∧ c ≠ 59 ∧ c ≠ 40 ∧ c ≠ 41 ∧ c ≠ 43 ∧ c ≠ 45 ∧ c ≠ 42 ∧ c ≠ 47 ∧ c ≠ 61 ∧ s = 5)))
def SGt (f : Nat → Int32) (x sz c y s v : Int32) : Prop := ∃ d : Int, ((x.toInt + 1 < sz.toInt ∧ d = fI f (x.toInt + 1).toNat) ∨ (sz.toInt ≤ x.toInt + 1 ∧ d = -1)) ∧ SGr c.toInt d s.toInt v.toInt (y.toInt - x.toInt)
theorem SGt_any {f : Nat → Int32} {x sz c y s v : Int32} (h : ∀ d, SGr c.toInt d s.toInt v.toInt (y.toInt - x.toInt)) : SGt f x sz c y s v := by
  by_cases q : x.toInt + 1 < sz.toInt
  · exact ⟨_, Or.inl ⟨q, rfl⟩, h _⟩
  · exact ⟨-1, Or.inr ⟨by omega, rfl⟩, h _⟩
theorem SGt_one {f : Nat → Int32} {x sz c y s v a r : Int32} (ha : a.toInt = x.toInt + 1) (hr : (a.toInt < sz.toInt ∧ r.toInt = (f a.toNatClampNeg).toInt) ∨ (sz.toInt ≤ a.toInt ∧ r.toInt = -1)) (h : SGr c.toInt r.toInt s.toInt v.toInt (y.toInt - x.toInt)) : SGt f x sz c y s v := by
  refine ⟨r.toInt, ?_, h⟩
  rcases hr with ⟨h1, h2⟩ | ⟨h1, h2⟩
  · exact Or.inl ⟨by omega, by rw [h2]; show _ = (f (x.toInt + 1).toNat).toInt; rw [show (x.toInt + 1).toNat = a.toNatClampNeg by rw [tn_c]; omega]⟩
  · exact Or.inr ⟨by omega, h2⟩
theorem SGr_1 {c d s v n : Int} (k : Int) (hc : c = k) (hk : k = 59 ∨ k = 40 ∨ k = 41 ∨ k = 43 ∨ k = 45 ∨ k = 42 ∨ k = 47 ∨ k = 61) (hs : s = 3) (hv : v = c) (hn : n = 1) : SGr c d s v n :=
  Or.inr (Or.inr (Or.inr ⟨hn, Or.inr (Or.inr (Or.inl ⟨by rw [hc]; exact hk, hs, hv⟩))⟩))
theorem SGr_60a {c d s v n : Int} (hc : c = 60) (hd : d = 61) (hs : s = 3) (hv : v = 256) (hn : n = 2) : SGr c d s v n := Or.inl ⟨hc, hd, hs, hv, hn⟩
theorem SGr_60b {c d s v n : Int} (hc : c = 60) (hd : d = 62) (hs : s = 3) (hv : v = 257) (hn : n = 2) : SGr c d s v n := Or.inr (Or.inl ⟨hc, hd, hs, hv, hn⟩)
theorem SGr_62a {c d s v n : Int} (hc : c = 62) (hd : d = 61) (hs : s = 3) (hv : v = 258) (hn : n = 2) : SGr c d s v n := Or.inr (Or.inr (Or.inl ⟨hc, hd, hs, hv, hn⟩))
theorem SGr_60 {c d s v n : Int} (hc : c = 60) (h1 : d ≠ 61) (h2 : d ≠ 62) (hs : s = 3) (hv : v = c) (hn : n = 1) : SGr c d s v n := Or.inr (Or.inr (Or.inr ⟨hn, Or.inl ⟨hc, h1, h2, hs, hv⟩⟩))
theorem SGr_62 {c d s v n : Int} (hc : c = 62) (h1 : d ≠ 61) (hs : s = 3) (hv : v = c) (hn : n = 1) : SGr c d s v n := Or.inr (Or.inr (Or.inr ⟨hn, Or.inr (Or.inl ⟨hc, h1, hs, hv⟩)⟩))
theorem SGr_no {c d s v n : Int} (h1 : c ≠ 60) (h2 : c ≠ 62) (h3 : c ≠ 59) (h4 : c ≠ 40) (h5 : c ≠ 41) (h6 : c ≠ 43) (h7 : c ≠ 45) (h8 : c ≠ 42) (h9 : c ≠ 47) (h0 : c ≠ 61) (hs : s = 5) (hn : n = 1) : SGr c d s v n := Or.inr (Or.inr (Or.inr ⟨hn, Or.inr (Or.inr (Or.inr ⟨h1, h2, h3, h4, h5, h6, h7, h8, h9, h0, hs⟩))⟩))
theorem tm_s {f : Nat → Int32} {x sz c y s v : Int32} {k w : Int} {b : Nat} (h : SGt f x sz c y s v) (hx : 0 ≤ x.toInt) (hc : c.toInt = fI f x.toInt.toNat) (hg : ∃ n, b = x.toInt.toNat + n ∧ tk_sgn (fI f x.toInt.toNat) (if x.toInt.toNat + 1 < sz.toInt.toNat then fI f (x.toInt.toNat + 1) else 0) k n) : TM k w s.toInt v.toInt ∧ y.toInt = (b : Int) := by
  obtain ⟨d, hd, h⟩ := h
  obtain ⟨n, hb, g⟩ := hg
  rw [← hc] at g
  have e : ∃ d', (d' = d ∨ (d' = 0 ∧ d = -1)) ∧ tk_sgn c.toInt d' k n := by
    rcases hd with ⟨h1, h2⟩ | ⟨h1, h2⟩
    · refine ⟨d, Or.inl rfl, ?_⟩
      rw [if_pos (by omega)] at g
      rw [h2, show (x.toInt + 1).toNat = x.toInt.toNat + 1 by omega]; exact g
    · refine ⟨0, Or.inr ⟨rfl, h2⟩, ?_⟩
      rw [if_neg (by omega)] at g
      exact g
  obtain ⟨d', e1, g⟩ := e
  clear hd
  unfold tk_sgn at g
  unfold SGr at h
  have sg : ∀ (a b : Int), s.toInt = 3 → k = a → v.toInt = b → ((a = 4 ∧ b = 59) ∨ (a = 5 ∧ b = 40) ∨ (a = 6 ∧ b = 41) ∨ (a = 7 ∧ b = 43) ∨ (a = 8 ∧ b = 45) ∨ (a = 9 ∧ b = 42) ∨ (a = 10 ∧ b = 47) ∨ (a = 11 ∧ b = 60) ∨ (a = 12 ∧ b = 256) ∨ (a = 13 ∧ b = 61) ∨ (a = 14 ∧ b = 257) ∨ (a = 15 ∧ b = 258) ∨ (a = 16 ∧ b = 62)) → TM k w s.toInt v.toInt := fun a b h1 h2 h3 h4 => Or.inr (Or.inr (Or.inr (Or.inr (Or.inr ⟨h1, by rw [h2, h3]; exact h4⟩))))
  have key : TM k w s.toInt v.toInt ∧ y.toInt - x.toInt = (n : Int) := by
    rcases g with ⟨gc, gd, gk, gn⟩ | ⟨gc, gd, gk, gn⟩ | ⟨gc, gd, gk, gn⟩ | ⟨g0, g⟩
    · exact ⟨sg 12 256 (by omega) gk (by omega) (by decide), by omega⟩
    · exact ⟨sg 14 257 (by omega) gk (by omega) (by decide), by omega⟩
    · exact ⟨sg 15 258 (by omega) gk (by omega) (by decide), by omega⟩
    · rcases g with ⟨gc, gd, gd2, gk⟩ | ⟨gc, gd, gk⟩ | ⟨gc, gk⟩ | ⟨gc, gk⟩ | ⟨gc, gk⟩ | ⟨gc, gk⟩ | ⟨gc, gk⟩ | ⟨gc, gk⟩ | ⟨gc, gk⟩ | ⟨gc, gk⟩ | ⟨g1, g2, g3, g4, g5, g6, g7, g8, g9, g10, gk⟩
      · exact ⟨sg 11 60 (by omega) gk (by omega) (by decide), by omega⟩
      · exact ⟨sg 16 62 (by omega) gk (by omega) (by decide), by omega⟩
      · exact ⟨sg 4 59 (by omega) gk (by omega) (by decide), by omega⟩
      · exact ⟨sg 5 40 (by omega) gk (by omega) (by decide), by omega⟩
      · exact ⟨sg 6 41 (by omega) gk (by omega) (by decide), by omega⟩
      · exact ⟨sg 7 43 (by omega) gk (by omega) (by decide), by omega⟩
      · exact ⟨sg 8 45 (by omega) gk (by omega) (by decide), by omega⟩
      · exact ⟨sg 9 42 (by omega) gk (by omega) (by decide), by omega⟩
      · exact ⟨sg 10 47 (by omega) gk (by omega) (by decide), by omega⟩
      · exact ⟨sg 13 61 (by omega) gk (by omega) (by decide), by omega⟩
      · exact ⟨Or.inr (Or.inr (Or.inr (Or.inl ⟨gk, by omega⟩))), by omega⟩
  exact ⟨key.1, by omega⟩
