
/-! a rule by the text's own knots -/
def lKd (L : List (Int32 × Int32)) (i : Nat) : Int32 := ((L[i]?).getD (0, 0)).1
def lNm (L : List (Int32 × Int32)) (i : Nat) : Int32 := ((L[i]?).getD (0, 0)).2
theorem lK_at {L : List (Int32 × Int32)} {i : Nat} (h : i < L.length) : ∃ p, L[i]? = some p ∧ lKd L i = p.1 ∧ lNm L i = p.2 := by
  refine ⟨L[i], List.getElem?_eq_getElem h, ?_, ?_⟩
  · unfold lKd; rw [List.getElem?_eq_getElem h]; rfl
  · unfold lNm; rw [List.getElem?_eq_getElem h]; rfl
def RVd (L : List (Int32 × Int32)) (f t : Int) (v1 v2 v3 v4 : Int32) (r : Int64) : Prop := ∃ nm : Nat → Int64, NMn nm v1 v2 v3 v4 ∧ r = evf (evr nm (lKd L) (lNm L) f.toNat (t - f).toNat)
theorem rv_x {L : List (Int32 × Int32)} {fk fn : Nat → Int32} {f t : Int32} {v1 v2 v3 v4 : Int32} {r : Int64} (h : RVx fk fn f t v1 v2 v3 v4 r) (ag : AG L fk fn) (hr : Rg fk 0 39) (h0 : 0 ≤ f.toInt) (ht : t.toInt ≤ (L.length : Int)) : RVd L f.toInt t.toInt v1 v2 v3 v4 r := by
  obtain ⟨nm, hn, e⟩ := h
  refine ⟨nm, hn, e.trans ?_⟩
  rw [evr_eq (fun _ _ => rfl) (kd1 := lKd L) (nu1 := lNm L) _ (fun i a b => ?_)]
  obtain ⟨p, hp, e1, e2⟩ := lK_at (L := L) (i := i) (by omega)
  have g := ag i p hp
  exact ⟨g.1.trans e1.symm, g.2.trans e2.symm, (hr i).2⟩
theorem rv_agree {L : List (Int32 × Int32)} {ks kv : Nat → Int32} {f t : Int} {v1 v2 v3 v4 : Int32} {r s : Int64} (h : RVd L f t v1 v2 v3 v4 r) (g : RVd L f t v1 v2 v3 v4 s) (hk : AGz L ks kv) (h0 : 0 ≤ f) (ht : t ≤ (L.length : Int)) : r = s := by
  obtain ⟨n1, a1, e1⟩ := h
  obtain ⟨n2, a2, e2⟩ := g
  rw [e1, e2, evr_eq (NMn_eq a1 a2) (kd1 := lKd L) (nu1 := lNm L) _ (fun i a b => ⟨rfl, rfl, ?_⟩)]
  obtain ⟨p, hp, q1, q2⟩ := lK_at (L := L) (i := i) (by omega)
  have km := hk i p hp
  rw [q1]
  unfold KM at km
  omega
theorem kz_m {L : List (Int32 × Int32)} {D : DD} {nu rf rt ks kv : Nat → Int32} (k : KTm L nu ks kv) (w : WDr D L.length) (hn : (nu 1).toInt = D 18 1) (r1 : RR (D 18 1) rf 0 D 11) (r2 : RR (D 18 1) rt 0 D 12) (h64 : Rg rf 0 64) : KAm (lKd L) (lNm L) rf rt ks kv nu := by
  intro p p0 p1
  have a := r1 p.toInt.toNat (by omega)
  have b := r2 p.toInt.toNat (by omega)
  rw [Nat.zero_add] at a b
  have a' : (rf p.toNatClampNeg).toInt = D 11 p.toInt.toNat := a
  have b' : (rt p.toNatClampNeg).toInt = D 12 p.toInt.toNat := b
  have c := w p.toInt.toNat
  refine ⟨by omega, fun i i0 i1 => ?_⟩
  have h0 := (h64 p.toNatClampNeg).1
  have hi : i.toNatClampNeg < L.length := by rw [tn_c]; omega
  obtain ⟨q, hq, e1, e2⟩ := lK_at hi
  have km := k.2.2 i.toNatClampNeg q hq
  rw [e1, e2]
  exact km
/-- the rule's answer in D's words -/
def RLd (z : ZZ) (v0 v1 v2 v3 v4 : Int32) (r : Int64) : Prop := (0 ≤ v0.toInt ∧ v0.toInt < z.1 18 1 ∧ z.1 11 v0.toInt.toNat < z.1 12 v0.toInt.toNat ∧ (-99999 ≤ v1.toInt ∧ v1.toInt ≤ 99999) ∧ (-99999 ≤ v2.toInt ∧ v2.toInt ≤ 99999) ∧ (0 ≤ v3.toInt ∧ v3.toInt ≤ 99999) ∧ (0 ≤ v4.toInt ∧ v4.toInt ≤ 1999) ∧ RVd z.2 (z.1 11 v0.toInt.toNat) (z.1 12 v0.toInt.toNat) v1 v2 v3 v4 r) ∨ ((v0.toInt < 0 ∨ z.1 18 1 ≤ v0.toInt ∨ z.1 12 v0.toInt.toNat ≤ z.1 11 v0.toInt.toNat ∨ v1.toInt < -99999 ∨ 99999 < v1.toInt ∨ v2.toInt < -99999 ∨ 99999 < v2.toInt ∨ v3.toInt < 0 ∨ 99999 < v3.toInt ∨ v4.toInt < 0 ∨ 1999 < v4.toInt) ∧ r = -9223372036854775808)
theorem rl_x {z : ZZ} {n : Int} {fr un fk fn : Nat → Int32} {kn v0 v1 v2 v3 v4 : Int32} {r : Int64} (hn : n = z.1 18 1) (tr : TRu z.1 fr un) (kt : KTx z.2 kn fk fn) (w : WDr z.1 z.2.length) (hr : Rg fk 0 39) (hf : Rg fr 0 64) (h : (0 ≤ v0.toInt ∧ v0.toInt < n ∧ (fr v0.toNatClampNeg).toInt < (un v0.toNatClampNeg).toInt ∧ -99999 ≤ v1.toInt ∧ v1.toInt ≤ 99999 ∧ -99999 ≤ v2.toInt ∧ v2.toInt ≤ 99999 ∧ 0 ≤ v3.toInt ∧ v3.toInt ≤ 99999 ∧ 0 ≤ v4.toInt ∧ v4.toInt ≤ 1999 ∧ RVx fk fn (fr v0.toNatClampNeg) (un v0.toNatClampNeg) v1 v2 v3 v4 r) ∨ ((v0.toInt < 0 ∨ n ≤ v0.toInt ∨ (un v0.toNatClampNeg).toInt ≤ (fr v0.toNatClampNeg).toInt ∨ v1.toInt < -99999 ∨ 99999 < v1.toInt ∨ v2.toInt < -99999 ∨ 99999 < v2.toInt ∨ v3.toInt < 0 ∨ 99999 < v3.toInt ∨ v4.toInt < 0 ∨ 1999 < v4.toInt) ∧ r = -9223372036854775808)) : RLd z v0 v1 v2 v3 v4 r := by
  have u : 0 ≤ v0.toInt → v0.toInt < z.1 18 1 → RUx (fr v0.toNatClampNeg).toInt (un v0.toNatClampNeg).toInt (z.1 11 v0.toInt.toNat) (z.1 12 v0.toInt.toNat) := fun a b => tr v0.toInt.toNat (by omega)
  have w9 := w v0.toInt.toNat
  rcases h with ⟨h1, h2, h3, a1, a2, a3, a4, a5, a6, a7, a8, h4⟩ | ⟨h1, h2⟩
  · have x := u h1 (by omega)
    unfold RUx at x
    have x1 : (fr v0.toNatClampNeg).toInt = z.1 11 v0.toInt.toNat ∧ (un v0.toNatClampNeg).toInt = z.1 12 v0.toInt.toNat := by omega
    have g := rv_x h4 kt.2 hr (hf _).1 (by omega)
    rw [x1.1, x1.2] at g
    exact Or.inl ⟨h1, by omega, by omega, ⟨a1, a2⟩, ⟨a3, a4⟩, ⟨a5, a6⟩, ⟨a7, a8⟩, g⟩
  · refine Or.inr ⟨?_, h2⟩
    by_cases c : 0 ≤ v0.toInt ∧ v0.toInt < z.1 18 1
    · have x := u c.1 c.2
      unfold RUx at x
      omega
    · omega
theorem rl_m {z : ZZ} {rf rt nu : Nat → Int32} {v0 v1 v2 v3 v4 : Int32} {r : Int64} (hn : (nu 1).toInt = z.1 18 1) (r1 : RR (z.1 18 1) rf 0 z.1 11) (r2 : RR (z.1 18 1) rt 0 z.1 12) (h : (0 ≤ v0.toInt ∧ v0.toInt < (nu 1).toInt ∧ (rf v0.toNatClampNeg).toInt < (rt v0.toNatClampNeg).toInt ∧ -99999 ≤ v1.toInt ∧ v1.toInt ≤ 99999 ∧ -99999 ≤ v2.toInt ∧ v2.toInt ≤ 99999 ∧ 0 ≤ v3.toInt ∧ v3.toInt ≤ 99999 ∧ 0 ≤ v4.toInt ∧ v4.toInt ≤ 1999 ∧ RVx (lKd z.2) (lNm z.2) (rf v0.toNatClampNeg) (rt v0.toNatClampNeg) v1 v2 v3 v4 r) ∨ ((v0.toInt < 0 ∨ (nu 1).toInt ≤ v0.toInt ∨ (rt v0.toNatClampNeg).toInt ≤ (rf v0.toNatClampNeg).toInt ∨ v1.toInt < -99999 ∨ 99999 < v1.toInt ∨ v2.toInt < -99999 ∨ 99999 < v2.toInt ∨ v3.toInt < 0 ∨ 99999 < v3.toInt ∨ v4.toInt < 0 ∨ 1999 < v4.toInt) ∧ r = -9223372036854775808)) : RLd z v0 v1 v2 v3 v4 r := by
  have u : 0 ≤ v0.toInt → v0.toInt < z.1 18 1 → (rf v0.toNatClampNeg).toInt = z.1 11 v0.toInt.toNat ∧ (rt v0.toNatClampNeg).toInt = z.1 12 v0.toInt.toNat := fun a b => by
    have x := r1 v0.toInt.toNat (by omega)
    have y := r2 v0.toInt.toNat (by omega)
    rw [Nat.zero_add] at x y
    exact ⟨x, y⟩
  rcases h with ⟨h1, h2, h3, a1, a2, a3, a4, a5, a6, a7, a8, nm, hm, h4⟩ | ⟨h1, h2⟩
  · have x := u h1 (by omega)
    rw [x.1, x.2] at h3 h4
    exact Or.inl ⟨h1, by omega, h3, ⟨a1, a2⟩, ⟨a3, a4⟩, ⟨a5, a6⟩, ⟨a7, a8⟩, nm, hm, h4⟩
  · refine Or.inr ⟨?_, h2⟩
    by_cases c : 0 ≤ v0.toInt ∧ v0.toInt < z.1 18 1
    · have x := u c.1 c.2
      omega
    · omega
theorem rl_agree {y z : ZZ} {nu ks kv : Nat → Int32} {v0 v1 v2 v3 v4 : Int32} {r s : Int64} (hd : y = z) (k : KTm z.2 nu ks kv) (w : WDr z.1 z.2.length) (hr0 : ∀ j, 0 ≤ z.1 11 j) (h : RLd y v0 v1 v2 v3 v4 r) (g : RLd z v0 v1 v2 v3 v4 s) : r = s := by
  subst hd
  rcases h with ⟨h1, h2, h3, a1, a2, a3, a4, h4⟩ | ⟨h1, h2⟩
  · rcases g with ⟨-, -, -, -, -, -, -, g4⟩ | ⟨g1, -⟩
    · exact rv_agree h4 g4 k.2.2 (hr0 _) (w v0.toInt.toNat).2
    · omega
  · rcases g with ⟨g1, g2, g3, a1, a2, a3, a4, -⟩ | ⟨-, g2⟩
    · omega
    · rw [h2, g2]
/-- with what makes the answer the only one -/
def RLe (z : ZZ) (v0 v1 v2 v3 v4 : Int32) (r : Int64) : Prop := RLd z v0 v1 v2 v3 v4 r ∧ (∃ ks kv : Nat → Int32, AGz z.2 ks kv) ∧ (0 ≤ v0.toInt → v0.toInt < z.1 18 1 → 0 ≤ z.1 11 v0.toInt.toNat ∧ z.1 12 v0.toInt.toNat ≤ (z.2.length : Int))
theorem rl_e {z : ZZ} {nu ks kv rf : Nat → Int32} {v0 v1 v2 v3 v4 : Int32} {r : Int64} (h : RLd z v0 v1 v2 v3 v4 r) (k : KTm z.2 nu ks kv) (w : WDr z.1 z.2.length) (r1 : RR (z.1 18 1) rf 0 z.1 11) (h64 : Rg rf 0 64) : RLe z v0 v1 v2 v3 v4 r := by
  refine ⟨h, ⟨ks, kv, k.2.2⟩, fun a b => ⟨?_, (w _).2⟩⟩
  have x := r1 v0.toInt.toNat (by omega)
  have y := (h64 (0 + v0.toInt.toNat)).1
  omega
theorem rl_same {y z : ZZ} {v0 v1 v2 v3 v4 : Int32} {r s : Int64} (hd : y = z) (h : RLd y v0 v1 v2 v3 v4 r) (g : RLe z v0 v1 v2 v3 v4 s) : r = s := by
  subst hd
  obtain ⟨g, ⟨ks, kv, k⟩, b⟩ := g
  rcases h with ⟨h1, h2, h3, a1, a2, a3, a4, h4⟩ | ⟨h1, h2⟩
  · rcases g with ⟨-, -, -, -, -, -, -, g4⟩ | ⟨g1, -⟩
    · have q := b h1 h2
      exact rv_agree h4 g4 k q.1 q.2
    · omega
  · rcases g with ⟨g1, g2, g3, a1, a2, a3, a4, -⟩ | ⟨-, g2⟩
    · omega
    · rw [h2, g2]
theorem lc_eq {x y : Int64} {z : Int32} (e : z = lg_cmp x y) (h : x = y) : z.toInt = 0 := by
  rw [e, h]
  unfold lg_cmp
  rw [if_neg (fun q : y < y => Int64.lt_irrefl q), if_pos rfl]
  rfl
