
/-! how many of the first n -/
def cnt (p : Nat → Bool) : Nat → Nat
  | 0 => 0
  | n + 1 => cnt p n + (if p n = true then 1 else 0)
theorem cnt_eq {p q : Nat → Bool} : ∀ n, (∀ i, i < n → p i = q i) → cnt p n = cnt q n
  | 0, _ => rfl
  | n + 1, h => by
    show cnt p n + _ = cnt q n + _
    rw [cnt_eq n (fun i hi => h i (by omega)), h n (by omega)]
theorem cnt_0 {p : Nat → Bool} : ∀ n, (∀ i, i < n → p i = false) → cnt p n = 0
  | 0, _ => rfl
  | n + 1, h => by
    show cnt p n + _ = 0
    rw [cnt_0 n (fun i hi => h i (by omega)), h n (by omega)]
    rfl
theorem cnt_le {p : Nat → Bool} : ∀ n, cnt p n ≤ n
  | 0 => Nat.le_refl 0
  | n + 1 => by
    have h := cnt_le (p := p) n
    show cnt p n + (if p n = true then 1 else 0) ≤ n + 1
    split <;> omega
theorem cnt_one {p q : Nat → Bool} {d : Nat} : ∀ n, d < n → (∀ i, i < n → i ≠ d → p i = q i) → q d = false → cnt p n = cnt q n + (if p d = true then 1 else 0)
  | 0, h, _, _ => absurd h (Nat.not_lt_zero d)
  | n + 1, h, e, z => by
    show cnt p n + _ = cnt q n + _ + _
    by_cases c : d = n
    · subst c
      rw [cnt_eq (q := q) d (fun i hi => e i (by omega) (by omega)), z]
      rfl
    · rw [cnt_one n (by omega) (fun i hi => e i (by omega)) z, e n (by omega) (fun y => c y.symm)]
      exact Nat.add_right_comm _ _ _
theorem cnt_ins {p q : Nat → Bool} {k : Nat} (h1 : ∀ i, i < k → q i = p i) : ∀ d, (∀ i, k ≤ i → i < k + d → q (i + 1) = p i) → cnt q (k + d + 1) = cnt p (k + d) + (if q k = true then 1 else 0)
  | 0, _ => by
    show cnt q k + _ = cnt p k + _
    rw [cnt_eq k h1]
  | d + 1, h => by
    show cnt q (k + d + 1) + (if q (k + d + 1) = true then 1 else 0) = cnt p (k + d) + (if p (k + d) = true then 1 else 0) + _
    rw [cnt_ins h1 d (fun i a b => h i a (by omega)), h (k + d) (by omega) (by omega)]
    exact Nat.add_right_comm _ _ _
/-! the deeds of a plan: in the order of their hours, as many as rounds are told -/
def dT (dh dp : Nat → Int32) (x : Int) (i : Nat) : Bool := decide ((dp i).toInt ≠ -1) && decide ((dh i).toInt = x)
def rT (f : Nat → Int) (x : Int) (i : Nat) : Bool := decide (f i = x)
def PLs (dh : Nat → Int32) (n : Int32) : Prop := ∀ i j : Nat, i ≤ j → (j : Int) < n.toInt → (dh i).toInt ≤ (dh j).toInt
def PCn (dh dp : Nat → Int32) (n : Int32) (f : Nat → Int) (m : Nat) : Prop := ∀ x : Int, cnt (dT dh dp x) n.toInt.toNat = cnt (rT f x) m
def INk (dh dp : Nat → Int32) (n vh vp : Int32) (dh1 dp1 : Nat → Int32) (k : Nat) : Prop := (k : Int) ≤ n.toInt ∧ (∀ i, i < k → dh1 i = dh i ∧ dp1 i = dp i) ∧ dh1 k = vh ∧ dp1 k = vp ∧ (∀ i, k ≤ i → (i : Int) < n.toInt → dh1 (i + 1) = dh i ∧ dp1 (i + 1) = dp i) ∧ (∀ i, k ≤ i → (i : Int) < n.toInt → vh.toInt ≤ (dh i).toInt) ∧ (k = 0 ∨ (dh (k - 1)).toInt ≤ vh.toInt)
/-- a deed is laid among n -/
def INS (dh dp : Nat → Int32) (n vh vp : Int32) (dh1 dp1 : Nat → Int32) (n1 : Int32) : Prop := (16 ≤ n.toInt ∧ dh1 = dh ∧ dp1 = dp ∧ n1 = n) ∨ (n.toInt < 16 ∧ n1.toInt = n.toInt + 1 ∧ ∃ k : Nat, INk dh dp n vh vp dh1 dp1 k)
/-- its place is looked for -/
def INy (dh dp : Nat → Int32) (n l vh : Int32) (dh1 dp1 : Nat → Int32) : Prop := (∀ i : Nat, (i : Int) < l.toInt → dh1 i = dh i ∧ dp1 i = dp i) ∧ (∀ i : Nat, l.toInt ≤ (i : Int) → (i : Int) < n.toInt → dh1 (i + 1) = dh i ∧ dp1 (i + 1) = dp i) ∧ ∀ i : Nat, l.toInt ≤ (i : Int) → (i : Int) < n.toInt → vh.toInt ≤ (dh i).toInt
theorem INy_0 {dh dp : Nat → Int32} {n vh : Int32} : INy dh dp n n vh dh dp := ⟨fun _ _ => ⟨rfl, rfl⟩, fun i a b => absurd b (by omega), fun i a b => absurd b (by omega)⟩
theorem INy_s {dh dp dh1 dp1 dh2 dp2 : Nat → Int32} {n l l1 z y a b vh : Int32} (h : INy dh dp n l vh dh1 dp1) (hl : 0 < l.toInt) (hl1 : l1.toInt = l.toInt - 1) (hz : z.toInt = l.toInt - 1) (hy : y.toInt = l.toInt - 1) (ea : a = dh1 z.toNatClampNeg) (eb : b = dp1 y.toNatClampNeg) (e1 : upd dh1 l.toNatClampNeg a = dh2) (e2 : upd dp1 l.toNatClampNeg b = dp2) (hb : vh.toInt ≤ (dh1 z.toNatClampNeg).toInt) : INy dh dp n l1 vh dh2 dp2 := by
  obtain ⟨k, hk⟩ : ∃ k : Nat, (k : Int) = l.toInt - 1 := ⟨(l.toInt - 1).toNat, by omega⟩
  have cz : z.toNatClampNeg = k := by rw [tn_c]; omega
  have cy : y.toNatClampNeg = k := by rw [tn_c]; omega
  have cl : l.toNatClampNeg = k + 1 := by rw [tn_c]; omega
  rw [cz] at ea hb
  rw [cy] at eb
  rw [cl] at e1 e2
  have hk1 := h.1 k (by omega)
  subst e1 e2
  refine ⟨fun i hi => ?_, fun i a1 b1 => ?_, fun i a1 b1 => ?_⟩
  · rw [ud_ne (by omega), ud_ne (by omega)]; exact h.1 i (by omega)
  · by_cases c : i = k
    · subst c; rw [ud_at, ud_at, ea, eb]; exact hk1
    · rw [ud_ne (by omega), ud_ne (by omega)]; exact h.2.1 i (by omega) b1
  · by_cases c : i = k
    · subst c; rw [← hk1.1]; exact hb
    · exact h.2.2 i (by omega) b1
theorem INy_e {dh dp dh1 dp1 dh2 dp2 : Nat → Int32} {n l n1 vh vp : Int32} (h : INy dh dp n l vh dh1 dp1) (h0 : 0 ≤ l.toInt) (hn : l.toInt ≤ n.toInt) (h16 : n.toInt < 16) (hn1 : n1.toInt = n.toInt + 1) (e1 : upd dh1 l.toNatClampNeg vh = dh2) (e2 : upd dp1 l.toNatClampNeg vp = dp2) (hs : l.toInt ≤ 0 ∨ ∃ z : Int32, z.toInt = l.toInt - 1 ∧ (dh1 z.toNatClampNeg).toInt ≤ vh.toInt) : INS dh dp n vh vp dh2 dp2 n1 := by
  obtain ⟨k, hk⟩ : ∃ k : Nat, (k : Int) = l.toInt := ⟨l.toInt.toNat, by omega⟩
  have cl : l.toNatClampNeg = k := by rw [tn_c]; omega
  rw [cl] at e1 e2
  subst e1 e2
  refine Or.inr ⟨h16, hn1, k, by omega, fun i hi => ?_, ud_at, ud_at, fun i a b => ?_, fun i a b => h.2.2 i (by omega) b, ?_⟩
  · rw [ud_ne (by omega), ud_ne (by omega)]; exact h.1 i (by omega)
  · rw [ud_ne (by omega), ud_ne (by omega)]; exact h.2.1 i (by omega) b
  · rcases hs with hs | ⟨z, hz, hs⟩
    · exact Or.inl (by omega)
    · by_cases c : k = 0
      · exact Or.inl c
      · refine Or.inr ?_
        rw [← (h.1 (k - 1) (by omega)).1]
        rw [show z.toNatClampNeg = k - 1 by rw [tn_c]; omega] at hs
        exact hs
theorem PLs_0 {dh : Nat → Int32} : PLs dh (0 : Int32) := fun i j _ hj => absurd hj (by have := (by decide : (0 : Int32).toInt = 0); omega)
theorem PCn_0 {dh dp : Nat → Int32} {f : Nat → Int} : PCn dh dp (0 : Int32) f 0 := fun x => by rw [show (0 : Int32).toInt.toNat = 0 by decide]; rfl
theorem PLs_ins {dh dp dh1 dp1 : Nat → Int32} {n vh vp n1 : Int32} (h : PLs dh n) (q : INS dh dp n vh vp dh1 dp1 n1) : PLs dh1 n1 := by
  rcases q with ⟨-, q1, -, q2⟩ | ⟨-, hn, k, k0, k1, k2, -, k4, k5, k6⟩
  · rw [q1, q2]; exact h
  · have s : ∀ i : Nat, (i : Int) < n.toInt + 1 → (i < k ∧ dh1 i = dh i) ∨ (i = k ∧ dh1 i = vh) ∨ (k < i ∧ dh1 i = dh (i - 1)) := fun i hi => by
      rcases Nat.lt_trichotomy i k with c | c | c
      · exact Or.inl ⟨c, (k1 i c).1⟩
      · exact Or.inr (Or.inl ⟨c, by rw [c]; exact k2⟩)
      · refine Or.inr (Or.inr ⟨c, ?_⟩)
        have := (k4 (i - 1) (by omega) (by omega)).1
        rw [show i - 1 + 1 = i by omega] at this
        exact this
    intro i j hij hj
    rcases s i (by omega) with ⟨a, ea⟩ | ⟨a, ea⟩ | ⟨a, ea⟩ <;> rcases s j (by omega) with ⟨b, eb⟩ | ⟨b, eb⟩ | ⟨b, eb⟩ <;> rw [ea, eb]
    · exact h i j hij (by omega)
    · rcases k6 with k6 | k6
      · omega
      · exact Int.le_trans (h i (k - 1) (by omega) (by omega)) k6
    · exact h i (j - 1) (by omega) (by omega)
    · omega
    · exact Int.le_refl _
    · exact k5 (j - 1) (by omega) (by omega)
    · omega
    · omega
    · exact h (i - 1) (j - 1) (by omega) (by omega)
theorem cnt_INk {dh dp dh1 dp1 : Nat → Int32} {n vh vp : Int32} {k : Nat} (q : INk dh dp n vh vp dh1 dp1 k) (x : Int) : cnt (dT dh1 dp1 x) (n.toInt.toNat + 1) = cnt (dT dh dp x) n.toInt.toNat + (if (decide (vp.toInt ≠ -1) && decide (vh.toInt = x)) = true then 1 else 0) := by
  obtain ⟨k0, k1, k2, k3, k4, -, -⟩ := q
  have g := cnt_ins (p := dT dh dp x) (q := dT dh1 dp1 x) (k := k) (fun i hi => by unfold dT; rw [(k1 i hi).1, (k1 i hi).2]) (n.toInt.toNat - k) (fun i a b => by unfold dT; rw [(k4 i a (by omega)).1, (k4 i a (by omega)).2])
  rw [show k + (n.toInt.toNat - k) = n.toInt.toNat by omega] at g
  rw [g, show dT dh1 dp1 x k = (decide (vp.toInt ≠ -1) && decide (vh.toInt = x)) by unfold dT; rw [k2, k3]]
/-- a gun's deed -/
theorem PCn_gun {dh dp dh1 dp1 : Nat → Int32} {n vh vp n1 : Int32} {f : Nat → Int} {m : Nat} (h : PCn dh dp n f m) (q : INS dh dp n vh vp dh1 dp1 n1) (h0 : 0 ≤ n.toInt) (h16 : n.toInt < 16) (hp : vp.toInt = -1) : PCn dh1 dp1 n1 f m := by
  rcases q with ⟨q, -⟩ | ⟨-, hn, k, hk⟩
  · omega
  · intro x
    have g := cnt_INk hk x
    rw [show n1.toInt.toNat = n.toInt.toNat + 1 by omega, g, h x, show (decide (vp.toInt ≠ -1) && decide (vh.toInt = x)) = false by simp [hp]]
    rfl
/-- a round's -/
theorem PCn_round {dh dp dh1 dp1 : Nat → Int32} {n vh vp n1 : Int32} {f : Nat → Int} {m : Nat} (h : PCn dh dp n f m) (q : INS dh dp n vh vp dh1 dp1 n1) (h0 : 0 ≤ n.toInt) (h16 : n.toInt < 16) (hp : vp.toInt ≠ -1) (hv : vh.toInt = f m) : PCn dh1 dp1 n1 f (m + 1) := by
  rcases q with ⟨q, -⟩ | ⟨-, hn, k, hk⟩
  · omega
  · intro x
    have g := cnt_INk hk x
    rw [show n1.toInt.toNat = n.toInt.toNat + 1 by omega, g, h x]
    show _ = cnt (rT f x) m + (if rT f x m = true then 1 else 0)
    rw [show (decide (vp.toInt ≠ -1) && decide (vh.toInt = x)) = rT f x m by unfold rT; rw [hv]; simp [hp]]
theorem INS_lt {dh dp dh1 dp1 : Nat → Int32} {n vh vp n1 : Int32} (q : INS dh dp n vh vp dh1 dp1 n1) (h16 : n.toInt < 16) : n1.toInt = n.toInt + 1 := by
  rcases q with ⟨q, -⟩ | ⟨-, hn, -⟩
  · omega
  · exact hn
/-! where a course stands ahead of hour H: deeds done come before H, the others at H or later -/
def CPx (dh : Nat → Int32) (n d w : Int32) (H : Int) : Prop := 0 ≤ w.toInt ∧ 0 ≤ d.toInt ∧ (d.toInt < n.toInt ∨ (n.toInt = 0 ∧ d.toInt = 0 ∧ w.toInt = 0)) ∧ (∀ i : Nat, (i : Int) < d.toInt → w.toInt * 168 + (dh i).toInt < H) ∧ (∀ i : Nat, d.toInt ≤ (i : Int) → (i : Int) < n.toInt → H ≤ w.toInt * 168 + (dh i).toInt) ∧ (1 ≤ w.toInt → ∀ i : Nat, (i : Int) < n.toInt → (w.toInt - 1) * 168 + (dh i).toInt < H)
theorem CPx_0 {dh : Nat → Int32} {n : Int32} (hn : 0 ≤ n.toInt) (hr : Rg dh 0 167) : CPx dh n (0 : Int32) (0 : Int32) 0 := by
  have z : (0 : Int32).toInt = 0 := by decide
  refine ⟨by omega, by omega, by omega, fun i hi => absurd hi (by omega), fun i _ _ => by have := (hr i).1; omega, fun h => absurd h (by omega)⟩
/-- those that are left at hour H, of the rounds, and all -/
def dR (dh dp : Nat → Int32) (d w : Int32) (H : Int) (i : Nat) : Bool := decide (d.toInt ≤ (i : Int)) && (decide ((dp i).toInt ≠ -1) && decide (w.toInt * 168 + (dh i).toInt = H))
def gR (dh : Nat → Int32) (d w : Int32) (H : Int) (i : Nat) : Bool := decide (d.toInt ≤ (i : Int)) && decide (w.toInt * 168 + (dh i).toInt = H)
/-- in the midst of hour H: j deeds are done of it; P passings ahead of them -/
def CPm (dh dp : Nat → Int32) (n d w j : Int32) (H : Int) (P p : Int32) : Prop := (0 ≤ w.toInt ∧ 0 ≤ d.toInt ∧ (d.toInt < n.toInt ∨ (n.toInt = 0 ∧ d.toInt = 0 ∧ w.toInt = 0)) ∧ (∀ i : Nat, (i : Int) < d.toInt → w.toInt * 168 + (dh i).toInt < H + 1) ∧ (∀ i : Nat, d.toInt ≤ (i : Int) → (i : Int) < n.toInt → H ≤ w.toInt * 168 + (dh i).toInt) ∧ (1 ≤ w.toInt → ∀ i : Nat, (i : Int) < n.toInt → (w.toInt - 1) * 168 + (dh i).toInt < H + 1)) ∧ (j.toInt + ((cnt (gR dh d w H) n.toInt.toNat : Nat) : Int) ≤ n.toInt) ∧ p + Int32.ofNat (cnt (dR dh dp d w H) n.toInt.toNat) = P + Int32.ofNat (cnt (dT dh dp (H % 168)) n.toInt.toNat)
theorem CPm_0 {dh dp : Nat → Int32} {n d w p : Int32} {H : Int} (h : CPx dh n d w H) (hn : 0 ≤ n.toInt) (hr : Rg dh 0 167) (hH : 0 ≤ H) : CPm dh dp n d w (0 : Int32) H p p := by
  obtain ⟨h1, h2, h3, h4, h5, h6⟩ := h
  have z : (0 : Int32).toInt = 0 := by decide
  refine ⟨⟨h1, h2, h3, fun i hi => by have := h4 i hi; omega, h5, fun a i hi => by have := h6 a i hi; omega⟩, ?_, ?_⟩
  · have := cnt_le (p := gR dh d w H) n.toInt.toNat; omega
  · rw [cnt_eq (q := dT dh dp (H % 168)) n.toInt.toNat (fun i hi => ?_)]
    unfold dR dT
    have r := hr i
    by_cases c : d.toInt ≤ (i : Int)
    · rw [decide_eq_true c, Bool.true_and]
      have a := h5 i c (by omega)
      congr 1
      rw [decide_eq_decide]
      constructor
      · intro e; omega
      · intro e
        by_cases g : w.toInt * 168 ≤ H
        · omega
        · exfalso
          have hw : 1 ≤ w.toInt := by omega
          have b := h6 hw i (by omega)
          omega
    · rw [decide_eq_false c, Bool.false_and]
      have a := h4 i (by omega)
      have e : (dh i).toInt ≠ H % 168 := by
        intro e
        have hd : d.toInt < n.toInt := by omega
        have b := h5 d.toInt.toNat (by omega) (by omega)
        have r2 := hr d.toInt.toNat
        omega
      rw [decide_eq_false e, Bool.and_false]
theorem CPm_w {dh dp : Nat → Int32} {n d w j P p : Int32} {H : Int} (h : CPm dh dp n d w j H P p) (hn : 0 < n.toInt) (hr : Rg dh 0 167) (hH : H ≤ 2000) : 0 ≤ w.toInt ∧ w.toInt ≤ 12 := by
  obtain ⟨⟨h1, -, -, -, -, h6⟩, -⟩ := h
  refine ⟨h1, ?_⟩
  by_cases c : 1 ≤ w.toInt
  · have := h6 c 0 (by omega)
    have := hr 0
    omega
  · omega
theorem CPx_w {dh : Nat → Int32} {n d w : Int32} {H : Int} (h : CPx dh n d w H) (hn : 0 ≤ n.toInt) (hr : Rg dh 0 167) (hH : H ≤ 2000) : 0 ≤ w.toInt ∧ w.toInt ≤ 12 := by
  obtain ⟨h1, h2, h3, -, -, h6⟩ := h
  refine ⟨h1, ?_⟩
  by_cases c : 1 ≤ w.toInt
  · have := h6 c 0 (by omega)
    have := hr 0
    omega
  · omega
theorem CPm_j {dh dp : Nat → Int32} {n d w j P p : Int32} {H : Int} (h : CPm dh dp n d w j H P p) : j.toInt ≤ n.toInt := by
  have := h.2.1
  omega
theorem pa_add {p q P : Int32} {a b t : Nat} (h : p + Int32.ofNat (a + b) = P + Int32.ofNat t) (hq : q = p + Int32.ofNat b) : q + Int32.ofNat a = P + Int32.ofNat t := by
  rw [hq, ← h, Int32.ofNat_add, Int32.add_assoc, Int32.add_comm (Int32.ofNat b)]
theorem cp_one {dh dp : Nat → Int32} {n d d1 w j H' : Int32} {H : Int} (hd0 : 0 ≤ d.toInt) (hdn : d.toInt < n.toInt) (hd1 : d1.toInt = d.toInt + 1) (he : w.toInt * 168 + (dh d.toNatClampNeg).toInt = H) : cnt (gR dh d w H) n.toInt.toNat = cnt (gR dh d1 w H) n.toInt.toNat + 1 ∧ cnt (dR dh dp d w H) n.toInt.toNat = cnt (dR dh dp d1 w H) n.toInt.toNat + (if decide ((dp d.toNatClampNeg).toInt ≠ -1) = true then 1 else 0) := by
  have cd : d.toNatClampNeg = d.toInt.toNat := rfl
  have e1 : ∀ i : Nat, i ≠ d.toInt.toNat → decide (d.toInt ≤ (i : Int)) = decide (d1.toInt ≤ (i : Int)) := fun i hi => by
    rw [decide_eq_decide]; omega
  have e2 : decide (d1.toInt ≤ ((d.toInt.toNat : Nat) : Int)) = false := decide_eq_false (by omega)
  have e3 : decide (d.toInt ≤ ((d.toInt.toNat : Nat) : Int)) = true := decide_eq_true (by omega)
  rw [cd] at he ⊢
  constructor
  · have g := cnt_one (p := gR dh d w H) (q := gR dh d1 w H) (d := d.toInt.toNat) n.toInt.toNat (by omega) (fun i _ hi => by unfold gR; rw [e1 i hi]) (by unfold gR; rw [e2]; rfl)
    rw [g, show gR dh d w H d.toInt.toNat = true by unfold gR; rw [e3, decide_eq_true he]; rfl]
    rfl
  · have g := cnt_one (p := dR dh dp d w H) (q := dR dh dp d1 w H) (d := d.toInt.toNat) n.toInt.toNat (by omega) (fun i _ hi => by unfold dR; rw [e1 i hi]) (by unfold dR; rw [e2]; rfl)
    rw [g, show dR dh dp d w H d.toInt.toNat = decide ((dp d.toInt.toNat).toInt ≠ -1) by unfold dR; rw [e3, decide_eq_true he, Bool.true_and, Bool.and_true]]
theorem pa_of {p q : Int32} {b : Prop} [Decidable b] (h : (¬ b ∧ q = p) ∨ (b ∧ q = p + 1)) : q = p + Int32.ofNat (if decide b = true then 1 else 0) := by
  rcases h with ⟨h1, h2⟩ | ⟨h1, h2⟩
  · rw [h2, decide_eq_false h1]; exact (Int32.add_zero p).symm
  · rw [h2, decide_eq_true h1]; rfl
/-- a deed of hour H is done; another is left in the week -/
theorem CPm_s1 {dh dp : Nat → Int32} {n d d1 w j j1 P p p1 : Int32} {H : Int} (h : CPm dh dp n d w j H P p) (hdn : d.toInt < n.toInt) (hle : w.toInt * 168 + (dh d.toNatClampNeg).toInt < H + 1) (hd1 : d1.toInt = d.toInt + 1) (hne : d1.toInt ≠ n.toInt) (hj : j1.toInt = j.toInt + 1) (hp : (¬ (dp d.toNatClampNeg).toInt ≠ -1 ∧ p1 = p) ∨ ((dp d.toNatClampNeg).toInt ≠ -1 ∧ p1 = p + 1)) : CPm dh dp n d1 w j1 H P p1 := by
  obtain ⟨⟨h1, h2, h3, h4, h5, h6⟩, h7, h8⟩ := h
  have a := h5 d.toInt.toNat (by omega) (by omega)
  have he : w.toInt * 168 + (dh d.toNatClampNeg).toInt = H := by
    have : (dh d.toNatClampNeg) = dh d.toInt.toNat := rfl
    rw [this] at hle ⊢; omega
  obtain ⟨g1, g2⟩ := cp_one (dp := dp) (j := j) (H' := j) h2 hdn hd1 he
  refine ⟨⟨h1, by omega, Or.inl (by omega), fun i hi => ?_, fun i a b => h5 i (by omega) b, h6⟩, by omega, ?_⟩
  · by_cases c : (i : Int) < d.toInt
    · exact h4 i c
    · rw [show i = d.toNatClampNeg by rw [tn_c]; omega]; exact hle
  · rw [g2] at h8
    exact pa_add h8 (pa_of hp)
/-- the week's last one -/
theorem CPm_s2 {dh dp : Nat → Int32} {n d d1 w w1 j j1 P p p1 : Int32} {H : Int} (h : CPm dh dp n d w j H P p) (hr : Rg dh 0 167) (hs : PLs dh n) (hdn : d.toInt < n.toInt) (hle : w.toInt * 168 + (dh d.toNatClampNeg).toInt < H + 1) (hd1 : d1.toInt = d.toInt + 1) (heq : d1.toInt = n.toInt) (hw1 : w1.toInt = w.toInt + 1) (hj : j1.toInt = j.toInt + 1) (hp : (¬ (dp d.toNatClampNeg).toInt ≠ -1 ∧ p1 = p) ∨ ((dp d.toNatClampNeg).toInt ≠ -1 ∧ p1 = p + 1)) : CPm dh dp n (0 : Int32) w1 j1 H P p1 := by
  obtain ⟨⟨h1, h2, h3, h4, h5, h6⟩, h7, h8⟩ := h
  have z : (0 : Int32).toInt = 0 := by decide
  have a := h5 d.toInt.toNat (by omega) (by omega)
  have cd : d.toNatClampNeg = d.toInt.toNat := rfl
  have he : w.toInt * 168 + (dh d.toNatClampNeg).toInt = H := by rw [cd] at hle ⊢; omega
  have r := hr d.toNatClampNeg
  obtain ⟨g1, g2⟩ := cp_one (dp := dp) (j := j) (H' := j) h2 hdn hd1 he
  have g3 : cnt (gR dh d1 w H) n.toInt.toNat = 0 := cnt_0 _ (fun i hi => by unfold gR; rw [decide_eq_false (by omega), Bool.false_and])
  have g4 : cnt (dR dh dp d1 w H) n.toInt.toNat = 0 := cnt_0 _ (fun i hi => by unfold dR; rw [decide_eq_false (by omega), Bool.false_and])
  have g5 : cnt (gR dh (0 : Int32) w1 H) n.toInt.toNat = 0 := cnt_0 _ (fun i hi => by
    have := hr i
    unfold gR; rw [decide_eq_false (p := w1.toInt * 168 + (dh i).toInt = H) (by omega), Bool.and_false])
  have g6 : cnt (dR dh dp (0 : Int32) w1 H) n.toInt.toNat = 0 := cnt_0 _ (fun i hi => by
    have := hr i
    unfold dR; rw [decide_eq_false (p := w1.toInt * 168 + (dh i).toInt = H) (by omega), Bool.and_false, Bool.and_false])
  refine ⟨⟨by omega, by omega, Or.inl (by omega), fun i hi => absurd hi (by omega), fun i _ hi => by have := hr i; omega, fun _ i hi => ?_⟩, by rw [g5]; omega, ?_⟩
  · have b := hs i d.toInt.toNat (by omega) (by omega)
    rw [cd] at he
    rw [show w1.toInt - 1 = w.toInt by omega]
    omega
  · rw [g2, g4] at h8
    rw [g6]
    exact pa_add h8 (pa_of hp)
/-- hour H is done -/
theorem CPm_x {dh dp : Nat → Int32} {n d w j P p : Int32} {H : Int} (h : CPm dh dp n d w j H P p) (hs : PLs dh n) (hx : n.toInt ≤ d.toInt ∨ H + 1 ≤ w.toInt * 168 + (dh d.toNatClampNeg).toInt) : CPx dh n d w (H + 1) ∧ p = P + Int32.ofNat (cnt (dT dh dp (H % 168)) n.toInt.toNat) := by
  obtain ⟨⟨h1, h2, h3, h4, h5, h6⟩, h7, h8⟩ := h
  have k : ∀ i : Nat, d.toInt ≤ (i : Int) → (i : Int) < n.toInt → H + 1 ≤ w.toInt * 168 + (dh i).toInt := fun i a b => by
    rcases hx with hx | hx
    · omega
    · have := hs d.toInt.toNat i (by omega) b
      rw [show d.toNatClampNeg = d.toInt.toNat from rfl] at hx
      omega
  refine ⟨⟨h1, h2, h3, h4, k, h6⟩, ?_⟩
  have g : cnt (dR dh dp d w H) n.toInt.toNat = 0 := cnt_0 _ (fun i hi => by
    unfold dR
    by_cases c : d.toInt ≤ (i : Int)
    · have := k i c (by omega)
      rw [decide_eq_false (p := w.toInt * 168 + (dh i).toInt = H) (by omega), Bool.and_false, Bool.and_false]
    · rw [decide_eq_false c, Bool.false_and])
  rw [g] at h8
  rw [← h8]
  exact (Int32.add_zero p).symm
/-! hours one by one -/
def psm (f : Nat → Int) (m : Nat) (H : Int) : Nat → Nat
  | 0 => 0
  | k + 1 => psm f m H k + cnt (rT f ((H + (k : Int)) % 168)) m
theorem psm_s {f : Nat → Int} {m : Nat} {H : Int} {P p q h1 : Int32} {l l1 : Int32} (h : p = P + Int32.ofNat (psm f m H l.toInt.toNat)) (h0 : 0 ≤ l.toInt) (hh : h1.toInt = H + l.toInt) (hq : q = p + Int32.ofNat (cnt (rT f (h1.toInt % 168)) m)) (hl : l1.toInt = l.toInt + 1) : q = P + Int32.ofNat (psm f m H l1.toInt.toNat) := by
  rw [show l1.toInt.toNat = l.toInt.toNat + 1 by omega, hq, h]
  show _ = P + Int32.ofNat (psm f m H l.toInt.toNat + cnt (rT f ((H + ((l.toInt.toNat : Nat) : Int)) % 168)) m)
  rw [show H + ((l.toInt.toNat : Nat) : Int) = h1.toInt by omega, Int32.ofNat_add, Int32.add_assoc]
theorem psm_0 {f : Nat → Int} {m : Nat} {H : Int} {P : Int32} : P = P + Int32.ofNat (psm f m H (0 : Int32).toInt.toNat) := by
  rw [show (0 : Int32).toInt.toNat = 0 by decide]
  exact (Int32.add_zero P).symm
theorem cnt_rT {f g : Nat → Int} {x : Int} {m : Nat} (h : ∀ j, j < m → f j = g j) : cnt (rT f x) m = cnt (rT g x) m := cnt_eq m (fun i hi => by unfold rT; rw [h i hi])
theorem psm_eq {f g : Nat → Int} {m : Nat} {H : Int} (h : ∀ j, j < m → f j = g j) : ∀ k, psm f m H k = psm g m H k
  | 0 => rfl
  | k + 1 => by
    show psm f m H k + _ = psm g m H k + _
    rw [psm_eq h k, cnt_rT h]
/-! the reference's rounds of an hour, one by one -/
theorem rc_0 {f : Nat → Int} {x : Int} {P : Int32} : P = P + Int32.ofNat (cnt (rT f x) (0 : Int32).toInt.toNat) := by
  rw [show (0 : Int32).toInt.toNat = 0 by decide]
  exact (Int32.add_zero P).symm
theorem rc_s {f : Nat → Int} {x : Int} {P p q l l1 : Int32} (h : p = P + Int32.ofNat (cnt (rT f x) l.toInt.toNat)) (h0 : 0 ≤ l.toInt) (hl : l1.toInt = l.toInt + 1) (hq : (¬ f l.toInt.toNat = x ∧ q = p) ∨ (f l.toInt.toNat = x ∧ q = p + 1)) : q = P + Int32.ofNat (cnt (rT f x) l1.toInt.toNat) := by
  rw [pa_of hq, h, show l1.toInt.toNat = l.toInt.toNat + 1 by omega]
  show _ = P + Int32.ofNat (cnt (rT f x) l.toInt.toNat + (if rT f x l.toInt.toNat = true then 1 else 0))
  rw [Int32.ofNat_add, Int32.add_assoc]
  rfl
theorem CPx_z {dh : Nat → Int32} {n d w : Int32} {H : Int} (hd : d.toInt = 0) (hw : w.toInt = 0) (hH : H = 0) (hn : 0 ≤ n.toInt) (hr : Rg dh 0 167) : CPx dh n d w H := by
  refine ⟨by omega, by omega, by omega, fun i hi => absurd hi (by omega), fun i _ _ => by have := (hr i).1; omega, fun h => absurd h (by omega)⟩
theorem ps_up {p P : Int32} {a b : Nat} (h : p = P + Int32.ofNat a) (e : a = b) : p = P + Int32.ofNat b := by rw [h, e]
