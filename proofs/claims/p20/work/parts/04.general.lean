/-- every element of a row lies between two numbers -/
def Rg (f : Nat → Int32) (lo hi : Int) : Prop := ∀ j, lo ≤ (f j).toInt ∧ (f j).toInt ≤ hi
theorem Rg_upd {f : Nat → Int32} {lo hi : Int} {k : Nat} {x : Int32} (h : Rg f lo hi) (hx : lo ≤ x.toInt ∧ x.toInt ≤ hi) : Rg (upd f k x) lo hi := by
  intro j
  unfold upd
  split
  · exact hx
  · exact h j
theorem Rg_cpy {f g : Nat → Int32} {lo hi : Int} {a b n : Nat} (h : Rg f lo hi) (h2 : Rg g lo hi) : Rg (va_cpy f g a b n) lo hi := by
  intro j
  unfold va_cpy
  split
  · exact h _
  · exact h2 j
theorem bm_in {x : Int} (h1 : -2147483648 ≤ x) (h2 : x ≤ 2147483647) : x.bmod (2 ^ 32) = x := by
  exact Int.bmod_eq_of_le (by omega) (by omega)
theorem ti_add {x y z : Int32} {a b : Int} (e : z = x + y) (ha : x.toInt = a) (hb : y.toInt = b) (h1 : -2147483648 ≤ a + b) (h2 : a + b ≤ 2147483647) : z.toInt = a + b := by
  rw [e, Int32.toInt_add, ha, hb]
  exact bm_in h1 h2
theorem ti_sub {x y z : Int32} {a b : Int} (e : z = x - y) (ha : x.toInt = a) (hb : y.toInt = b) (h1 : -2147483648 ≤ a - b) (h2 : a - b ≤ 2147483647) : z.toInt = a - b := by
  rw [e, Int32.toInt_sub, ha, hb]
  exact bm_in h1 h2
theorem ti_mul {x y z : Int32} {a b : Int} (e : z = x * y) (ha : x.toInt = a) (hb : y.toInt = b) (h1 : -2147483648 ≤ a * b) (h2 : a * b ≤ 2147483647) : z.toInt = a * b := by
  rw [e, Int32.toInt_mul, ha, hb]
  exact bm_in h1 h2
theorem ti_neg {x z : Int32} (e : z = -x) (h : -2147483647 ≤ x.toInt) : z.toInt = -x.toInt := by
  have := x.toInt_lt
  have := x.le_toInt
  rw [e, Int32.toInt_neg]
  exact bm_in (by omega) (by omega)
theorem ni_of {x : Int32} (h : 0 ≤ x.toInt) : x = nI x.toInt.toNat := by
  apply Int32.toInt_inj.mp
  have := x.toInt_lt
  rw [nI_toInt (by omega)]
  omega
theorem ti_div {x y z : Int32} {a b : Int} (e : z = x / y) (ha : x.toInt = a) (hb : y.toInt = b) (h1 : 0 ≤ a) (h2 : 0 < b) : z.toInt = a / b := by
  have h3 := x.toInt_lt
  rw [e, Int32.toInt_div, ha, hb, Int.tdiv_eq_ediv_of_nonneg h1]
  have h4 : a / b ≤ a := Int.ediv_le_self b h1
  have h5 : 0 ≤ a / b := Int.ediv_nonneg h1 (Int.le_of_lt h2)
  exact bm_in (by omega) (by omega)
theorem ti_divn {x y z : Int32} {a b : Int} (e : z = x / y) (ha : x.toInt = a) (hb : y.toInt = b) (h1 : -b < a) (h2 : 0 < b) : 0 ≤ z.toInt ∧ (a < 0 ∨ z.toInt = a / b) ∧ (0 ≤ a ∨ z.toInt = 0) := by
  rcases Int.lt_or_le a 0 with h | h
  · have h6 : a.tdiv b = 0 := by
      have : a = -(-a) := by omega
      rw [this, Int.neg_tdiv, Int.tdiv_eq_ediv_of_nonneg (by omega), Int.ediv_eq_zero_of_lt (by omega) (by omega)]
      rfl
    have h7 : z.toInt = 0 := by
      rw [e, Int32.toInt_div, ha, hb, h6]
      rfl
    exact ⟨by omega, Or.inl h, Or.inr h7⟩
  · have h7 := ti_div e ha hb h h2
    exact ⟨by rw [h7]; exact Int.ediv_nonneg h (Int.le_of_lt h2), Or.inr h7, Or.inl h⟩
theorem ti_rem {x y z : Int32} {a b : Int} (e : z = x - x / y * y) (ha : x.toInt = a) (hb : y.toInt = b) (h1 : 0 ≤ a) (h2 : 0 < b) : z.toInt = a % b := by
  have h3 := x.toInt_lt
  have h4 := y.toInt_lt
  have ex := ni_of (x := x) (by omega)
  have ey := ni_of (x := y) (by omega)
  rw [e, ex, ey, pk_rem (by omega) (by omega) (by omega)]
  have h5 : x.toInt.toNat % y.toInt.toNat < y.toInt.toNat := Nat.mod_lt _ (by omega)
  rw [nI_toInt (by omega), ← ha, ← hb, Int.natCast_emod, Int.toNat_of_nonneg (by omega), Int.toNat_of_nonneg (by omega)]
theorem ti_andl {x y z : Int32} {b : Int} (e : z = y &&& x) (hb : y.toInt = b ∧ 0 ≤ b) : 0 ≤ z.toInt ∧ z.toInt ≤ b := by
  obtain ⟨hb, h0⟩ := hb
  have ey := ni_of (x := y) (by omega)
  have hy := y.toInt_lt
  have h1 : z.toBitVec = BitVec.ofNat 32 y.toInt.toNat &&& x.toBitVec := by rw [e]; exact congrArg (fun q : Int32 => q.toBitVec &&& x.toBitVec) ey
  have h2 : z.toBitVec.toNat ≤ y.toInt.toNat := by
    rw [h1, BitVec.toNat_and, BitVec.toNat_ofNat, Nat.mod_eq_of_lt (by omega)]
    exact Nat.and_le_left
  have h3 : z.toInt = (z.toBitVec.toNat : Int) := by
    show z.toBitVec.toInt = _
    rw [BitVec.toInt_eq_toNat_of_lt (by omega)]
  omega
theorem ti_and {x y z : Int32} {b : Int} (e : z = x &&& y) (hb : y.toInt = b ∧ 0 ≤ b) : 0 ≤ z.toInt ∧ z.toInt ≤ b := ti_andl (x := x) (y := y) (e.trans (Int32.and_comm x y)) hb
theorem lc_rng {x y : Int64} {z : Int32} (e : z = lg_cmp x y) : -1 ≤ z.toInt ∧ z.toInt ≤ 1 := by
  rw [e]
  unfold lg_cmp
  split
  · decide
  · split <;> decide
theorem lc_ne {x y : Int64} {z : Int32} (e : z = lg_cmp x y) (h : z.toInt ≠ 0) : ¬ x = y := by
  intro q
  apply h
  rw [e, q]
  unfold lg_cmp
  rw [if_neg (Int64.lt_irrefl), if_pos rfl]
  rfl
theorem nz_ok {z : Int32} (h1 : 0 ≤ z.toInt) (h2 : z.toInt ≤ 1) : narrow .boolean (.int z) = .int z := by
  have h : z = 0 ∨ z = 1 := by
    rcases Int.lt_or_le z.toInt 1 with h | h
    · exact Or.inl (Int32.toInt_inj.mp (by have := (by decide : (0 : Int32).toInt = 0); omega))
    · exact Or.inr (Int32.toInt_inj.mp (by have := (by decide : (1 : Int32).toInt = 1); omega))
  rcases h with rfl | rfl <;> rfl
theorem cp_nn {z : Int32} (h : 0 ≤ z.toInt) : ¬ z < 0 := fun q => by
  have := Int32.lt_iff_toInt_lt.mp q
  have := (by decide : (0 : Int32).toInt = 0)
  omega
theorem cp_le {a b : Int32} {n : Nat} (h1 : 0 ≤ a.toInt) (h2 : 0 ≤ b.toInt) (h : a.toInt + b.toInt ≤ n) : a.toNatClampNeg + b.toNatClampNeg ≤ n := by
  show a.toInt.toNat + b.toInt.toNat ≤ n
  omega
/-- a person who keeps for the middle keeps one at least, five at most -/
def CMp (cu pa : Nat → Int32) (p : Int32) : Prop := (cu p.toNatClampNeg).toInt = 4 → 1 ≤ (pa p.toNatClampNeg).toInt ∧ (pa p.toNatClampNeg).toInt ≤ 5
def CMa (cu pa : Nat → Int32) (k : Int32) : Prop := ∀ p : Int32, 0 ≤ p.toInt → p.toInt < k.toInt → CMp cu pa p
/-- the first n of a row lie below k -/
def DP (f : Nat → Int32) (n k : Int32) : Prop := ∀ i : Int32, 0 ≤ i.toInt → i.toInt < n.toInt → (f i.toNatClampNeg).toInt < k.toInt
/-- so do the first n + 1, but for one place -/
def DPx (f : Nat → Int32) (n a k : Int32) : Prop := ∀ i : Int32, 0 ≤ i.toInt → i.toInt ≤ n.toInt → i.toInt ≠ a.toInt → (f i.toNatClampNeg).toInt < k.toInt
theorem ab_ne {w z : Int64} (e : z = -w) : ¬ w = 0 → ¬ z = 0 := by
  intro h q
  apply h
  rw [e] at q
  have : w = -(-w) := (Int64.neg_neg).symm
  rw [this, q]
  rfl
theorem i2l_ne {x : Int32} {z : Int64} (e : z = x.toInt64) (h : x.toInt ≠ 0) : ¬ z = 0 := by
  intro q
  apply h
  have : z.toInt = x.toInt := by rw [e, Int32.toInt_toInt64]
  rw [← this, q]
  rfl
theorem upd_at {f g : Nat → Int32} {a i v : Int32} (e : upd f a.toNatClampNeg v = g) (h : i.toInt = a.toInt) : g i.toNatClampNeg = v := by
  have : i = a := Int32.toInt_inj.mp h
  rw [← e, this]
  unfold upd
  rw [if_pos rfl]
theorem upd_ne {f g : Nat → Int32} {a i v : Int32} (e : upd f a.toNatClampNeg v = g) (h0 : 0 ≤ i.toInt) (h1 : 0 ≤ a.toInt) (h : i.toInt ≠ a.toInt) : g i.toNatClampNeg = f i.toNatClampNeg := by
  rw [← e]
  unfold upd
  rw [if_neg]
  show ¬ i.toInt.toNat = a.toInt.toNat
  omega
theorem DP_0 {f : Nat → Int32} {n k : Int32} (h : n.toInt ≤ 0) : DP f n k := fun i h0 h1 => absurd h1 (by omega)
theorem DPx_of {f : Nat → Int32} {n k : Int32} (h : DP f n k) : DPx f n n k := fun i h0 h1 h2 => h i h0 (by omega)
theorem DPx_step {f g : Nat → Int32} {n a b k v : Int32} (h : DPx f n a k) (e : upd f a.toNatClampNeg v = g) (hv : v.toInt < k.toInt) : DPx g n b k := by
  intro i h0 h1 h2
  by_cases q : i.toInt = a.toInt
  · rw [upd_at e q]; exact hv
  · by_cases ha : 0 ≤ a.toInt
    · rw [upd_ne e h0 ha q]; exact h i h0 h1 q
    · have e2 : a.toNatClampNeg = (0 : Int32).toNatClampNeg := by
        show a.toInt.toNat = (0 : Int32).toInt.toNat
        have := (by decide : (0 : Int32).toInt = 0)
        omega
      rw [e2] at e
      by_cases q0 : i.toInt = (0 : Int32).toInt
      · rw [upd_at e q0]; exact hv
      · rw [upd_ne e h0 (by decide) q0]; exact h i h0 h1 q
theorem DPx_end {f g : Nat → Int32} {n m a k v : Int32} (h : DPx f n a k) (e : upd f a.toNatClampNeg v = g) (hv : v.toInt < k.toInt) (ha : 0 ≤ a.toInt) (hm : m.toInt = n.toInt + 1) (_ : 0 ≤ n.toInt) : DP g m k := by
  intro i h0 h1
  by_cases q : i.toInt = a.toInt
  · rw [upd_at e q]; exact hv
  · rw [upd_ne e h0 ha q]; exact h i h0 (by omega) q
theorem CMa_upd {cu g pa : Nat → Int32} {a k v : Int32} (h : CMa cu pa k) (e : upd cu a.toNatClampNeg v = g) (hv : v.toInt ≠ 4) : CMa g pa k := by
  intro p h0 h1 h4
  by_cases q : p.toNatClampNeg = a.toNatClampNeg
  · rw [← e] at h4
    unfold upd at h4
    rw [if_pos q] at h4
    exact absurd h4 hv
  · rw [← e] at h4
    unfold upd at h4
    rw [if_neg q] at h4
    exact h p h0 h1 h4
theorem CMa_cpy {cu f g pa : Nat → Int32} {k : Int32} (h : CMa cu pa k) (hk : k.toInt ≤ 5) (e : va_cpy cu f (0 : Int32).toNatClampNeg (0 : Int32).toNatClampNeg (5 : Int32).toNatClampNeg = g) : CMa g pa k := by
  intro p h0 h1 h4
  rw [← e] at h4
  unfold va_cpy at h4
  rw [if_pos ⟨Nat.zero_le _, by show p.toInt.toNat < 0 + 5; omega⟩] at h4
  have : (0 : Int32).toNatClampNeg + (p.toNatClampNeg - (0 : Int32).toNatClampNeg) = p.toNatClampNeg := by
    show 0 + (p.toInt.toNat - 0) = p.toInt.toNat
    omega
  rw [this] at h4
  exact h p h0 h1 h4
/-- a fault that was there stays -/
def FSt (a b : Int32) : Prop := a.toInt = 0 → b.toInt = 0
def FC (fa : Int32) (cu pa : Nat → Int32) (k : Int32) : Prop := fa.toInt = 0 → CMa cu pa k
def FC1 (fa : Int32) (cu pa : Nat → Int32) (k : Int32) : Prop := fa.toInt = 0 → ∀ p : Int32, 0 ≤ p.toInt → p.toInt ≤ k.toInt → CMp cu pa p
/-- what holds of a text that is being told, as long as there is no fault -/
def OKt (fa : Int32) (rp : Nat → Int32) (n k : Int32) (cu pa : Nat → Int32) : Prop := fa.toInt = 0 → DP rp n k ∧ CMa cu pa k
theorem OKt_0 {fa : Int32} {rp cu pa : Nat → Int32} : OKt fa rp 0 0 cu pa := fun _ => ⟨DP_0 (by decide), fun p h0 h1 => absurd h1 (by have := (by decide : (0 : Int32).toInt = 0); omega)⟩
theorem OKt_m {fa fb : Int32} {rp cu pa : Nat → Int32} {n k : Int32} (h : OKt fa rp n k cu pa) (f : FSt fb fa) : OKt fb rp n k cu pa := fun q => h (f q)
theorem OKt_c {fa fb : Int32} {rp cu pa : Nat → Int32} {n k : Int32} (h : OKt fa rp n k cu pa) (f : FSt fb fa) : FC fb cu pa k := fun q => (h (f q)).2
theorem OKt_p {fa fb fc : Int32} {rp cu pa cu2 pa2 : Nat → Int32} {n k m : Int32} (h : OKt fa rp n k cu pa) (h2 : FC1 fc cu2 pa2 k) (f : FSt fb fa) (g : FSt fb fc) (hm : m.toInt = k.toInt + 1) (_ : 0 ≤ k.toInt) : OKt fb rp n m cu2 pa2 := fun q => ⟨fun i h0 h1 => by have := (h (f q)).1 i h0 h1; omega, fun p h0 h1 => h2 (g q) p h0 (by omega)⟩
theorem OKt_r {fa fb fc : Int32} {rp g cu pa : Nat → Int32} {n k m v : Int32} (h : OKt fa rp n k cu pa) (f : FSt fb fa) (e : upd rp n.toNatClampNeg v = g) (hv : fc.toInt ≠ 0 ∨ v.toInt < k.toInt) (hm : m.toInt = n.toInt + 1) (h0 : 0 ≤ n.toInt) (fg : FSt fb fc) : OKt fb g m k cu pa := fun q => ⟨fun i hi h1 => by
  have hv2 : v.toInt < k.toInt := hv.elim (fun z => absurd (fg q) z) (fun z => z)
  by_cases c : i.toInt = n.toInt
  · rw [upd_at e c]; exact hv2
  · rw [upd_ne e hi h0 c]; exact (h (f q)).1 i hi (by omega), (h (f q)).2⟩
theorem FC1_no {fa : Int32} {cu pa : Nat → Int32} {k : Int32} (h : fa.toInt ≠ 0) : FC1 fa cu pa k := fun q => absurd q h
theorem FC1_n {fa fb : Int32} {cu pa g : Nat → Int32} {k c : Int32} (h : FC fa cu pa k) (f : FSt fb fa) (e : upd cu k.toNatClampNeg c = g) (hc : 0 ≤ k.toInt ∧ c.toInt ≠ 4) : FC1 fb g pa k := by
  intro q p h0 h1 h4
  by_cases z : p.toInt = k.toInt
  · rw [upd_at e z] at h4
    exact absurd h4 hc.2
  · rw [upd_ne e h0 hc.1 z] at h4
    exact h (f q) p h0 (by omega) h4
theorem FC1_u {fa fb fc : Int32} {cu pa g gp : Nat → Int32} {k c v : Int32} (h : FC fa cu pa k) (f : FSt fb fa) (fg : FSt fb fc) (e : upd cu k.toNatClampNeg c = g) (e2 : upd pa k.toNatClampNeg v = gp) (hk : 0 ≤ k.toInt) (hc : c.toInt ≠ 4 ∨ fc.toInt ≠ 0 ∨ (1 ≤ v.toInt ∧ v.toInt ≤ 5)) : FC1 fb g gp k := by
  intro q p h0 h1 h4
  by_cases z : p.toInt = k.toInt
  · rw [upd_at e z] at h4
    rw [upd_at e2 z]
    rcases hc with hc | hc | hc
    · exact absurd h4 hc
    · exact absurd (fg q) hc
    · exact hc
  · rw [upd_ne e h0 hk z] at h4
    rw [upd_ne e2 h0 hk z]
    exact h (f q) p h0 (by omega) h4
theorem mt_ofWF {l : Launch} {y : MethodName} {ws ws' : List Cond} {rm : Room} {Pc : Array Value → State → Prop} {Qc : Array Value → State → Outcome → State → Prop} {mc ms : Nat} {free : Addr → Prop} {cc : ByteArray} {maxL : Nat} {ret : Option FieldType} (hy : plainFor y = true) (hw : ws = Cond.code y cc maxL ret :: ws')
    (body : ∀ p e s m args below meth c s₁, BodyLoose p l y (headSpec ws rm) cc maxL ret e s m args below meth c s₁ → c.maxLocals = maxL → Pc args s → W p l e (headSpec ws rm).room s m args below meth c s.heap [] 0 0 (MQ below Qc args s mc ms free) (entryFrame m args maxL)) : Met l y ws rm Pc Qc mc ms free := by
  refine MetFree.of_bodySF (code := cc) (maxLocals := maxL) (ret := ret) hy ?_ ?_
  · intro args s m h hn
    obtain ⟨meth, c, h1, h2, h3, h4, h5, h6, -, -⟩ := Cond.code_spec hn (atoms_spec (ws := ws) h _ (by rw [hw]; exact List.mem_cons_self))
    exact ⟨meth, c, h1, h2, h3, h4, h5, h6⟩
  · intro p e s m args below meth c s₁ B hml hP _
    have hh0 : s₁.heap = s.heap := by rw [B.state]; rfl
    obtain ⟨t, a1, o, b1, b2, b3⟩ := body p e s m args below meth c s₁ B hml hP s₁ hh0 (Stand.of_body B)
    exact ⟨t, o, a1, b1, b2, ⟨b3.1, b3.2⟩⟩
theorem fz_ok {z : Int32} (h1 : 0 ≤ z.toInt) (h2 : z.toInt ≤ 1) : fits .boolean (.int z) = true := by
  have h : z = 0 ∨ z = 1 := by
    rcases Int.lt_or_le z.toInt 1 with h | h
    · exact Or.inl (Int32.toInt_inj.mp (by have := (by decide : (0 : Int32).toInt = 0); omega))
    · exact Or.inr (Int32.toInt_inj.mp (by have := (by decide : (1 : Int32).toInt = 1); omega))
  rcases h with rfl | rfl <;> rfl
