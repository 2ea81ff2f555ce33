
/-! the words of the language, as the class spells them -/
theorem PKt_e {fb : Nat → Int32} {p a b x : Int32} (h : PKt fb p a x) (hab : a.toInt = b.toInt) (h6 : b.toInt ≤ p.toInt + 6) (hp : 0 ≤ p.toInt) (hpb : p.toInt ≤ b.toInt) : x.toInt = tk_V (fI fb) p.toInt.toNat b.toInt.toNat := by
  rw [h.2, show min a.toInt.toNat (p.toInt.toNat + 6) = b.toInt.toNat by omega]
def LGi (g : Nat → Int32) (n : Int32) : Prop := ∀ i : Nat, (i : Int) < n.toInt → (g i).toInt = tk_lang i
theorem LGi_0 {g : Nat → Int32} : LGi g (0 : Int32) := fun i h => absurd h (by have := (by decide : (0 : Int32).toInt = 0); omega)
theorem LGi_s {f g : Nat → Int32} {n m v : Int32} (h : LGi f n) (e : upd f n.toNatClampNeg v = g) (hn : 0 ≤ n.toInt) (hv : v.toInt = tk_lang n.toInt.toNat) (hm : m.toInt = n.toInt + 1) : LGi g m := by
  subst e
  intro i hi
  by_cases c : i = n.toNatClampNeg
  · rw [c, ud_at]; exact hv
  · rw [ud_ne c]; exact h i (by rw [tn_c] at c; omega)
def LPx (n f i : Int32) : Prop := STt n f ∧ (SUt n i ∨ (n.toInt = 20 ∧ i.toInt = 104))
theorem LPx_0 : LPx (0 : Int32) (0 : Int32) (0 : Int32) := ⟨STt_0, Or.inl (SUt_0 STt_0 (by decide))⟩
theorem LPx_u {n f i : Int32} (h : LPx n f i) (hi : i.toInt < 104) : SUt n i := by
  rcases h.2 with g | g
  · exact g
  · omega
theorem LPx_s {n f i m c : Int32} (h : LPx n f i) (hi : i.toInt < 104) (hc : c.toInt = (sB i.toNatClampNeg).toInt) (hn : c.toInt ≠ 32) (hm : m.toInt = i.toInt + 1) : LPx n f m := ⟨h.1, Or.inl (SUt_s (LPx_u h hi) hc hn hm)⟩
theorem LPx_n {n f i n1 m c : Int32} (h : LPx n f i) (hi : i.toInt < 104) (hc : c.toInt = (sB i.toNatClampNeg).toInt) (hn : c.toInt = 32) (hm : m.toInt = i.toInt + 1) (hn1 : n1.toInt = n.toInt + 1) : LPx n1 m m := by
  have u := LPx_u h hi
  have g := SUt_e u hc hn hm hn1
  refine ⟨g, ?_⟩
  by_cases q : n1.toInt < 20
  · exact Or.inl ⟨g.1, q, g.2.2.1, by rw [g.2.2.2]; exact Nat.le_refl _, by rw [g.2.2.2]; omega⟩
  · have h20 : n1.toInt = 20 := by have := g.2.1; omega
    have g4 := g.2.2.2
    rw [show n1.toInt.toNat = 20 by omega, STt_end] at g4
    exact Or.inr ⟨h20, by have := g.2.2.1; omega⟩
theorem LPx_e {n f i : Int32} (h : LPx n f i) (hi : 104 ≤ i.toInt ∨ 20 ≤ n.toInt) : n.toInt = 20 := by
  rcases h.2 with g | g
  · obtain ⟨g1, g2, g3, g4, g5⟩ := g
    have := (tk_sB n.toInt.toNat (by omega)).2.2.2
    omega
  · exact g.1
theorem tk_wd_sm : ∀ n, n < 20 → ∀ m, m < tk_len n → 1 ≤ tk_wd n m ∧ tk_wd n m ≤ 26 := by decide +kernel
/-- a word is found: its letters, its length, its number -/
theorem LPx_w {n f i c : Int32} (h : LPx n f i) (hi : i.toInt < 104) (hc : c.toInt = (sB i.toNatClampNeg).toInt) (hn : c.toInt = 32) : (f.toInt ≤ i.toInt ∧ i.toInt ≤ f.toInt + 6 ∧ 0 ≤ f.toInt) ∧ (∀ j, f.toInt.toNat ≤ j → j < i.toInt.toNat → tk_small (fI sB j)) ∧ tk_V (fI sB) f.toInt.toNat i.toInt.toNat = tk_lang n.toInt.toNat := by
  obtain ⟨h1, h2, h3, h4, h5⟩ := LPx_u h hi
  have g := tk_sB n.toInt.toNat (by omega)
  have hf := h.1.2.2.2
  have hf0 := h.1.2.2.1
  have hl := tk_len_wd n.toInt.toNat (by omega)
  have e : i.toInt.toNat = tk_start n.toInt.toNat + tk_len n.toInt.toNat := by
    by_cases q : i.toInt.toNat - tk_start n.toInt.toNat < tk_len n.toInt.toNat
    · have := (g.1 _ q).2
      rw [show tk_start n.toInt.toNat + (i.toInt.toNat - tk_start n.toInt.toNat) = i.toNatClampNeg by rw [tn_c]; omega] at this
      omega
    · omega
  have sm : ∀ j, f.toInt.toNat ≤ j → j < i.toInt.toNat → tk_small (fI sB j) := by
    intro j a b
    have q := (g.1 (j - tk_start n.toInt.toNat) (by omega)).1
    rw [show tk_start n.toInt.toNat + (j - tk_start n.toInt.toNat) = j by omega] at q
    have w := tk_wd_sm n.toInt.toNat (by omega) (j - tk_start n.toInt.toNat) (by omega)
    show tk_small (sB j).toInt
    unfold tk_small
    omega
  refine ⟨⟨by omega, by omega, hf0⟩, sm, ?_⟩
  refine ((tk_is_iff sm (by omega) (by omega)).mp ⟨by omega, fun m hm => ?_⟩).2
  rw [hf]
  exact (g.1 m hm).1
theorem LGi_e {g : Nat → Int32} {n : Int32} (h : LGi g n) (hn : n.toInt = 20) : LGt g := fun i hi => h i (by omega)
