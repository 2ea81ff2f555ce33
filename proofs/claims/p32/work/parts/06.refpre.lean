/-- the reference's numbers: clocks, people, rounds, guns, knots, as told and as being told -/
def NB (f : Nat → Int32) : Prop := ((0 ≤ (f 0).toInt ∧ (f 0).toInt ≤ 5) ∧ (0 ≤ (f 1).toInt ∧ (f 1).toInt ≤ 5) ∧ (0 ≤ (f 2).toInt ∧ (f 2).toInt ≤ 12) ∧ (0 ≤ (f 3).toInt ∧ (f 3).toInt ≤ 3) ∧ (0 ≤ (f 4).toInt ∧ (f 4).toInt ≤ 64)) ∧ ((0 ≤ (f 5).toInt ∧ (f 5).toInt ≤ 5) ∧ (0 ≤ (f 6).toInt ∧ (f 6).toInt ≤ 5) ∧ (0 ≤ (f 7).toInt ∧ (f 7).toInt ≤ 12) ∧ (0 ≤ (f 8).toInt ∧ (f 8).toInt ≤ 3) ∧ (0 ≤ (f 9).toInt ∧ (f 9).toInt ≤ 64))
theorem NB_0 {f : Nat → Int32} (h : NB f) : 0 ≤ (f 0).toInt ∧ (f 0).toInt ≤ 5 := h.1.1
theorem NB_1 {f : Nat → Int32} (h : NB f) : 0 ≤ (f 1).toInt ∧ (f 1).toInt ≤ 5 := h.1.2.1
theorem NB_2 {f : Nat → Int32} (h : NB f) : 0 ≤ (f 2).toInt ∧ (f 2).toInt ≤ 12 := h.1.2.2.1
theorem NB_3 {f : Nat → Int32} (h : NB f) : 0 ≤ (f 3).toInt ∧ (f 3).toInt ≤ 3 := h.1.2.2.2.1
theorem NB_4 {f : Nat → Int32} (h : NB f) : 0 ≤ (f 4).toInt ∧ (f 4).toInt ≤ 64 := h.1.2.2.2.2
/-- a custom with numbers has them -/
def PCt (cu a b : Nat → Int32) : Prop := ∀ j, ((cu j).toInt = 3 → 1 ≤ (b j).toInt) ∧ ((cu j).toInt = 4 → 1 ≤ (a j).toInt ∧ (a j).toInt ≤ 5)
/-- the rounds' people are told -/
def DPn (ro nu : Nat → Int32) : Prop := ∀ i : Int32, 0 ≤ i.toInt → i.toInt < (nu 2).toInt → (ro i.toNatClampNeg).toInt < (nu 1).toInt
/-- what is kept for the middle is no more than told; o: 0 now, 5 in a run -/
def KMt (cu a km : Nat → Int32) (o : Nat) : Prop := ∀ p : Nat, p < 5 → (cu p).toInt = 4 → (km (o + p)).toInt ≤ (a p).toInt
/-- knots as a row with the operands ahead: how deep it is behind the n-th from a on, what each one wants -/
def Kd (ks kv : Nat → Int32) (i : Nat) : Int := if (ks i).toInt = 2 then (if (kv i).toInt = 260 then 0 else -1) else 1
def Nd (ks kv : Nat → Int32) (i : Nat) : Int := if (ks i).toInt = 2 then (if (kv i).toInt = 260 then 1 else 2) else 0
def Dq (ks kv : Nat → Int32) (a : Nat) : Nat → Int
  | 0 => 0
  | n + 1 => Dq ks kv a n + Kd ks kv (a + n)
def SEG (ks kv : Nat → Int32) (a b : Nat) : Prop := Dq ks kv a (b - a) = 1 ∧ ∀ n, n < b - a → Nd ks kv (a + n) ≤ Dq ks kv a n ∧ ((ks (a + n)).toInt = 2 ∨ (ks (a + n)).toInt = 0 ∨ (0 ≤ (kv (a + n)).toInt ∧ (kv (a + n)).toInt ≤ 4))
/-- each one's rule is such a row -/
def RLt (rf rt ks kv nu : Nat → Int32) : Prop := ∀ p : Int32, 0 ≤ p.toInt → p.toInt < (nu 1).toInt → (rf p.toNatClampNeg).toInt < (rt p.toNatClampNeg).toInt → SEG ks kv (rf p.toNatClampNeg).toInt.toNat (rt p.toNatClampNeg).toInt.toNat
theorem Dq_le (ks kv : Nat → Int32) (a : Nat) : ∀ n, Dq ks kv a n ≤ n
  | 0 => Int.le_refl 0
  | n + 1 => by
    have h := Dq_le ks kv a n
    have h2 : Kd ks kv (a + n) ≤ 1 := by
      unfold Kd
      split
      · split <;> decide
      · decide
    show Dq ks kv a n + Kd ks kv (a + n) ≤ ((n + 1 : Nat) : Int)
    omega
theorem SEG_dp {ks kv : Nat → Int32} {a b : Nat} (h : SEG ks kv a b) : ∀ n, n ≤ b - a → 0 ≤ Dq ks kv a n
  | 0, _ => Int.le_refl 0
  | n + 1, hn => by
    have h1 := SEG_dp h n (by omega)
    have h2 := (h.2 n (by omega)).1
    show 0 ≤ Dq ks kv a n + Kd ks kv (a + n)
    unfold Nd at h2
    unfold Kd
    split
    · rename_i q
      rw [if_pos q] at h2
      split
      · omega
      · rename_i q2
        rw [if_neg q2] at h2
        omega
    · omega
/-- one step of the row, as the reference works it: a value laid down -/
theorem SEG_push {ks kv : Nat → Int32} {f t k w : Int32} (h : SEG ks kv f.toInt.toNat t.toInt.toNat) (h0 : 0 ≤ f.toInt) (h1 : f.toInt ≤ k.toInt) (h2 : k.toInt < t.toInt) (hw : w.toInt = Dq ks kv f.toInt.toNat (k.toInt - f.toInt).toNat) (hk : (ks k.toNatClampNeg).toInt ≠ 2) : w.toInt + 1 = Dq ks kv f.toInt.toNat (k.toInt + 1 - f.toInt).toNat ∧ 0 ≤ w.toInt ∧ w.toInt ≤ k.toInt - f.toInt ∧ ((ks k.toNatClampNeg).toInt = 0 ∨ (0 ≤ (kv k.toNatClampNeg).toInt ∧ (kv k.toNatClampNeg).toInt ≤ 4)) := by
  obtain ⟨n, hn⟩ : ∃ n, n = (k.toInt - f.toInt).toNat := ⟨_, rfl⟩
  have e1 : (k.toInt + 1 - f.toInt).toNat = n + 1 := by omega
  have e2 : f.toInt.toNat + n = k.toNatClampNeg := by show f.toInt.toNat + n = k.toInt.toNat; omega
  have h3 := h.2 n (by omega)
  have h4 := SEG_dp h n (by omega)
  have h5 := Dq_le ks kv f.toInt.toNat n
  rw [← hn] at hw
  rw [e2] at h3
  refine ⟨?_, by omega, by omega, h3.2.elim (fun q => absurd q hk) (fun q => q)⟩
  rw [e1]
  show w.toInt + 1 = Dq ks kv f.toInt.toNat n + Kd ks kv (f.toInt.toNat + n)
  rw [e2]
  unfold Kd
  rw [if_neg hk]
  omega
/-- a sign that joins -/
theorem SEG_sign {ks kv : Nat → Int32} {f t k w : Int32} (h : SEG ks kv f.toInt.toNat t.toInt.toNat) (h0 : 0 ≤ f.toInt) (h1 : f.toInt ≤ k.toInt) (h2 : k.toInt < t.toInt) (hw : w.toInt = Dq ks kv f.toInt.toNat (k.toInt - f.toInt).toNat) (hk : (ks k.toNatClampNeg).toInt = 2) : ((kv k.toNatClampNeg).toInt = 260 → w.toInt = Dq ks kv f.toInt.toNat (k.toInt + 1 - f.toInt).toNat) ∧ ((kv k.toNatClampNeg).toInt ≠ 260 → w.toInt - 1 = Dq ks kv f.toInt.toNat (k.toInt + 1 - f.toInt).toNat) ∧ 1 ≤ w.toInt ∧ ((kv k.toNatClampNeg).toInt = 260 ∨ 2 ≤ w.toInt) ∧ w.toInt ≤ k.toInt - f.toInt := by
  obtain ⟨n, hn⟩ : ∃ n, n = (k.toInt - f.toInt).toNat := ⟨_, rfl⟩
  have e1 : (k.toInt + 1 - f.toInt).toNat = n + 1 := by omega
  have e2 : f.toInt.toNat + n = k.toNatClampNeg := by show f.toInt.toNat + n = k.toInt.toNat; omega
  have h3 := (h.2 n (by omega)).1
  have h5 := Dq_le ks kv f.toInt.toNat n
  rw [← hn] at hw
  rw [e2] at h3
  unfold Nd at h3
  rw [if_pos hk] at h3
  have e3 : Dq ks kv f.toInt.toNat (n + 1) = Dq ks kv f.toInt.toNat n + Kd ks kv (f.toInt.toNat + n) := rfl
  rw [e1, e3, e2]
  unfold Kd
  rw [if_pos hk]
  by_cases q : (kv k.toNatClampNeg).toInt = 260
  · rw [if_pos q] at h3
    rw [if_pos q]
    exact ⟨fun _ => by omega, fun z => absurd q z, by omega, Or.inl q, by omega⟩
  · rw [if_neg q] at h3
    rw [if_neg q]
    exact ⟨fun z => absurd z q, fun _ => by omega, by omega, Or.inr (by omega), by omega⟩
/-- what keeping one more does to the counts -/
def KUt (g f : Nat → Int32) (i m : Int32) : Prop := (∀ j, j ≠ i.toNatClampNeg → g j = f j) ∧ (g i.toNatClampNeg).toInt ≤ m.toInt
theorem KUt_1 {f g : Nat → Int32} {i m v : Int32} (e : upd f i.toNatClampNeg v = g) (hv : v.toInt ≤ m.toInt) : KUt g f i m := by
  refine ⟨fun j hj => ?_, ?_⟩
  · rw [← e]; unfold upd; rw [if_neg hj]
  · rw [← e]; unfold upd; rw [if_pos rfl]; exact hv
theorem KUt_2 {f g h : Nat → Int32} {i m v w : Int32} (e : upd f i.toNatClampNeg v = g) (e2 : upd g i.toNatClampNeg w = h) (hv : w.toInt ≤ m.toInt) : KUt h f i m := by
  refine ⟨fun j hj => ?_, ?_⟩
  · rw [← e2, ← e]; unfold upd; rw [if_neg hj, if_neg hj]
  · rw [← e2]; unfold upd; rw [if_pos rfl]; exact hv
theorem KMt_keep {cu a g f : Nat → Int32} {p i m : Int32} {o : Nat} (h : KMt cu a f o) (k : KUt g f i m) (hp : 0 ≤ p.toInt ∧ p.toInt ≤ 4) (hi : i.toInt = o + p.toInt) (hm : m = a p.toNatClampNeg) : KMt cu a g o := by
  intro q hq h4
  by_cases c : o + q = i.toNatClampNeg
  · rw [c]
    have : q = p.toNatClampNeg := by
      have c2 : o + q = i.toInt.toNat := c
      show q = p.toInt.toNat
      omega
    rw [this, ← hm]
    exact k.2
  · rw [k.1 _ c]; exact h q hq h4
theorem PCt_b {cu a b : Nat → Int32} {p : Int32} (h : PCt cu a b) (h3 : (cu p.toNatClampNeg).toInt = 3) : 1 ≤ (b p.toNatClampNeg).toInt := (h _).1 h3
/-- the first i from o on are 0 -/
def ZRt (f : Nat → Int32) (o : Nat) (i : Int32) : Prop := ∀ j : Nat, (j : Int) < i.toInt → (f (o + j)).toInt = 0
theorem ZRt_0 {f : Nat → Int32} {o : Nat} {i : Int32} (h : i.toInt ≤ 0) : ZRt f o i := fun j hj => absurd hj (by omega)
theorem ZRt_s {f g : Nat → Int32} {o : Nat} {i k n : Int32} (h : ZRt f o i) (e : upd f n.toNatClampNeg 0 = g) (hn : n.toInt = o + i.toInt) (hi : 0 ≤ i.toInt) (hk : k.toInt = i.toInt + 1) : ZRt g o k := by
  intro j hj
  rw [← e]
  unfold upd
  by_cases c : o + j = n.toNatClampNeg
  · rw [if_pos c]; rfl
  · rw [if_neg c]
    have c2 : ¬ o + j = n.toInt.toNat := c
    exact h j (by omega)
theorem ZRt_km {cu a b f : Nat → Int32} {o : Nat} {i : Int32} (h : ZRt f o i) (hi : 5 ≤ i.toInt) (hp : PCt cu a b) : KMt cu a f o := fun p hp5 h4 => by
  have := h p (by omega)
  have := ((hp p).2 h4).1
  omega
/-- the first o are as before -/
def EQl (g f : Nat → Int32) (o : Nat) : Prop := ∀ j, j < o → g j = f j
theorem EQl_r {f : Nat → Int32} {o : Nat} : EQl f f o := fun _ _ => rfl
theorem EQl_u {f g h : Nat → Int32} {o : Nat} {n v : Int32} (q : EQl g f o) (e : upd g n.toNatClampNeg v = h) (hn : (o : Int) ≤ n.toInt) : EQl h f o := fun j hj => by
  rw [← e]
  unfold upd
  rw [if_neg (by show ¬ j = n.toInt.toNat; omega)]
  exact q j hj
theorem EQl_km {cu a f g : Nat → Int32} (q : EQl g f 5) (h : KMt cu a f 0) : KMt cu a g 0 := fun p hp h4 => by rw [Nat.zero_add, q p hp]; have := h p hp h4; rw [Nat.zero_add] at this; exact this
/-- rows copied: the first i of g from o on are those of f from 0 on -/
def CPt (g f : Nat → Int32) (o : Nat) (i : Int32) : Prop := ∀ j : Nat, (j : Int) < i.toInt → g (o + j) = f j
theorem CPt_0 {g f : Nat → Int32} {o : Nat} {i : Int32} (h : i.toInt ≤ 0) : CPt g f o i := fun j hj => absurd hj (by omega)
theorem CPt_s {f g h : Nat → Int32} {o : Nat} {i k n v : Int32} (q : CPt g f o i) (e : upd g n.toNatClampNeg v = h) (hv : v = f i.toNatClampNeg) (hn : n.toInt = o + i.toInt) (hi : 0 ≤ i.toInt) (hk : k.toInt = i.toInt + 1) : CPt h f o k := by
  intro j hj
  rw [← e]
  unfold upd
  by_cases c : o + j = n.toNatClampNeg
  · have c2 : o + j = n.toInt.toNat := c
    have c3 : j = i.toNatClampNeg := by show j = i.toInt.toNat; omega
    rw [if_pos c, hv, ← c3]
  · rw [if_neg c]
    have c2 : ¬ o + j = n.toInt.toNat := c
    exact q j (by omega)
theorem CPt_km {cu a f g : Nat → Int32} {o : Nat} {i : Int32} (q : CPt g f o i) (hi : 5 ≤ i.toInt) (h : KMt cu a f 0) : KMt cu a g o := fun p hp h4 => by
  rw [q p (by omega)]
  have := h p hp h4
  rw [Nat.zero_add] at this
  exact this
def RSp (rf rt ks kv : Nat → Int32) (p : Int32) : Prop := (rf p.toNatClampNeg).toInt < (rt p.toNatClampNeg).toInt → SEG ks kv (rf p.toNatClampNeg).toInt.toNat (rt p.toNatClampNeg).toInt.toNat
/-- how many values are worked so far -/
def WMt (w : Int32) (ks kv : Nat → Int32) (f k : Int32) : Prop := f.toInt ≤ k.toInt ∧ w.toInt = Dq ks kv f.toInt.toNat (k.toInt - f.toInt).toNat
theorem WMt_0 {w f k : Int32} {ks kv : Nat → Int32} (hw : w.toInt = 0) (h : k = f) : WMt w ks kv f k := by
  subst h
  refine ⟨Int.le_refl _, ?_⟩
  rw [Int.sub_self, hw]
  rfl
theorem WMt_push {ks kv : Nat → Int32} {f t k k2 w w2 : Int32} (h : SEG ks kv f.toInt.toNat t.toInt.toNat) (h0 : 0 ≤ f.toInt) (hm : WMt w ks kv f k) (h2 : k.toInt < t.toInt) (hk : (ks k.toNatClampNeg).toInt ≠ 2) (hw : w2.toInt = w.toInt + 1) (hk2 : k2.toInt = k.toInt + 1) : WMt w2 ks kv f k2 := by
  have q := SEG_push h h0 hm.1 h2 hm.2 hk
  exact ⟨by have := hm.1; omega, by rw [hk2, ← q.1]; exact hw⟩
theorem WMt_sign {ks kv : Nat → Int32} {f t k k2 w w2 v : Int32} (h : SEG ks kv f.toInt.toNat t.toInt.toNat) (h0 : 0 ≤ f.toInt) (hm : WMt w ks kv f k) (h2 : k.toInt < t.toInt) (hk : (ks k.toNatClampNeg).toInt = 2) (hv : v.toInt = (kv k.toNatClampNeg).toInt) (hw : (v.toInt = 260 ∧ w2.toInt = w.toInt) ∨ (v.toInt ≠ 260 ∧ w2.toInt = w.toInt - 1)) (hk2 : k2.toInt = k.toInt + 1) : WMt w2 ks kv f k2 := by
  have q := SEG_sign h h0 hm.1 h2 hm.2 hk
  refine ⟨by have := hm.1; omega, ?_⟩
  rw [hk2]
  rcases hw with ⟨a, b⟩ | ⟨a, b⟩
  · rw [b]; exact q.1 (by rw [← hv]; exact a)
  · rw [b]; exact q.2.1 (by rw [← hv]; exact a)
theorem KMt_at {cu a km : Nat → Int32} {o : Nat} {p i m : Int32} (h : KMt cu a km o) (hp : 0 ≤ p.toInt ∧ p.toInt ≤ 4) (hi : i.toInt = o + p.toInt) (h4 : (cu p.toNatClampNeg).toInt = 4) (hm : m = a p.toNatClampNeg) : (km i.toNatClampNeg).toInt ≤ m.toInt := by
  have e : i.toNatClampNeg = o + p.toNatClampNeg := by show i.toInt.toNat = o + p.toInt.toNat; omega
  rw [e, hm]
  exact h _ (by show p.toInt.toNat < 5; omega) h4
theorem EQl_t {f g h : Nat → Int32} {o : Nat} (a : EQl h g o) (b : EQl g f o) : EQl h f o := fun j hj => (a j hj).trans (b j hj)
theorem EQl_ku {f g : Nat → Int32} {i m : Int32} (k : KUt g f i m) (hi : 5 ≤ i.toInt) : EQl g f 5 := fun j hj => k.1 j (by show ¬ j = i.toInt.toNat; omega)
def KIt (h : Int32) (cu a im : Nat → Int32) : Prop := h.toInt ≠ 0 → KMt cu a im 0
