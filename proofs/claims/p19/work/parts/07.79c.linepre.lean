
/-- one row written at one place -/
def UPk (g f : Nat → Int32) (k v : Int32) : Prop := g k.toNatClampNeg = v ∧ ∀ j, j ≠ k.toNatClampNeg → g j = f j
theorem UPk_1 {f g : Nat → Int32} {k v : Int32} (e : upd f k.toNatClampNeg v = g) : UPk g f k v := by
  refine ⟨?_, fun j hj => ?_⟩
  · rw [← e]; unfold upd; rw [if_pos rfl]
  · rw [← e]; unfold upd; rw [if_neg hj]
theorem UPk_2 {f g h : Nat → Int32} {k v w : Int32} (a : UPk g f k v) (e : upd g k.toNatClampNeg w = h) : UPk h f k w := ⟨(UPk_1 e).1, fun j hj => ((UPk_1 e).2 j hj).trans (a.2 j hj)⟩
theorem UPk_e {f g : Nat → Int32} {k v : Int32} {n : Nat} (a : UPk g f k v) (h : (n : Int) ≤ k.toInt) : EQl g f n := fun j hj => a.2 j (by show j ≠ k.toInt.toNat; omega)
theorem PCt_u {cu ca cb c2 a2 b2 : Nat → Int32} {k c a b : Int32} (h : PCt cu ca cb) (u : UPk c2 cu k c) (v : UPk a2 ca k a) (w : UPk b2 cb k b) (h3 : c.toInt = 3 → 1 ≤ b.toInt) (h4 : c.toInt = 4 → 1 ≤ a.toInt ∧ a.toInt ≤ 5) : PCt c2 a2 b2 := by
  intro j
  by_cases q : j = k.toNatClampNeg
  · rw [q, u.1, v.1, w.1]; exact ⟨h3, h4⟩
  · rw [u.2 j q, v.2 j q, w.2 j q]; exact h j
def MRt (fa : Int32) (rf f0 rt t0 : Nat → Int32) (k : Int32) (nu ks kv : Nat → Int32) : Prop := (∀ j, j ≠ k.toNatClampNeg → rf j = f0 j ∧ rt j = t0 j) ∧ RSg fa (rf k.toNatClampNeg) (rt k.toNatClampNeg) nu ks kv
theorem MRt_no {fa k : Int32} {f0 t0 nu ks kv : Nat → Int32} (h : fa.toInt ≠ 0) : MRt fa f0 f0 t0 t0 k nu ks kv := ⟨fun _ _ => ⟨rfl, rfl⟩, RSg_no h⟩
theorem MRt_y {fa k f t : Int32} {rf f0 rt t0 nu ks kv : Nat → Int32} (a : UPk rf f0 k f) (b : UPk rt t0 k t) (h : RSg fa f t nu ks kv) : MRt fa rf f0 rt t0 k nu ks kv := ⟨fun j hj => ⟨a.2 j hj, b.2 j hj⟩, by rw [a.1, b.1]; exact h⟩
/-- the rules that are being told -/
def URt (fa : Int32) (rf rt nu ks kv : Nat → Int32) : Prop := fa.toInt = 0 → ∀ p : Nat, (p : Int) < (nu 6).toInt → 0 ≤ (rf (5 + p)).toInt ∧ (rt (5 + p)).toInt ≤ (nu 9).toInt ∧ ((rf (5 + p)).toInt < (rt (5 + p)).toInt → SEG ks kv (64 + (rf (5 + p)).toInt).toNat (64 + (rt (5 + p)).toInt).toNat)
theorem URt_no {fa : Int32} {rf rt nu ks kv : Nat → Int32} (h : fa.toInt ≠ 0) : URt fa rf rt nu ks kv := fun q => absurd q h
theorem URt_0 {fa : Int32} {rf rt nu ks kv : Nat → Int32} (h : (nu 6).toInt = 0) : URt fa rf rt nu ks kv := fun _ p hp => absurd hp (by omega)
theorem URt_p {fa co fb cb fc k : Int32} {rf rt nu ks kv mu js jv rf2 rt2 lu : Nat → Int32} (h : URt fa rf rt nu ks kv) (a : RDa fa co nu ks kv fb cb mu js jv) (m : MRt fb rf2 rf rt2 rt k mu js jv) (hk : k.toInt = 5 + (nu 6).toInt) (o : OMt lu mu 6) (fs : FSt fc fb) (h0 : 0 ≤ (nu 6).toInt) : URt fc rf2 rt2 lu js jv := by
  intro q p hp
  have f1 := fs q
  have f0 := (a.2.2.2 f1).1
  have e6 : mu 6 = nu 6 := a.2.1 6 (by decide)
  have e9 : lu 9 = mu 9 := o.2 9 (by decide)
  have o6 := o.1
  rw [e6] at o6
  rw [e9]
  by_cases c : (p : Int) = (nu 6).toInt
  · have e : 5 + p = k.toNatClampNeg := by show 5 + p = k.toInt.toNat; omega
    rw [e]
    exact m.2 f1
  · have g := h f0 p (by omega)
    have w := m.1 (5 + p) (by show ¬ 5 + p = k.toInt.toNat; omega)
    rw [w.1, w.2]
    exact ⟨g.1, Int.le_trans g.2.1 a.1, fun z => SEG_frame (g.2.2 z) (fun j h1 h2 => a.2.2.1 j (by have := g.2.1; omega))⟩
theorem URt_o {fa fc : Int32} {rf rt nu ks kv lu : Nat → Int32} {k : Nat} (h : URt fa rf rt nu ks kv) (o : OMt lu nu k) (hk : 6 ≠ k ∧ 9 ≠ k) (fs : FSt fc fa) : URt fc rf rt lu ks kv := by
  intro q p hp
  rw [o.2 6 hk.1] at hp
  rw [o.2 9 hk.2]
  exact h (fs q) p hp
/-- the people of the rounds that are being told -/
def UDt (fa : Int32) (ro nu : Nat → Int32) : Prop := fa.toInt = 0 → ∀ i : Nat, (i : Int) < (nu 7).toInt → (ro (12 + i)).toInt < (nu 6).toInt
theorem UDt_no {fa : Int32} {ro nu : Nat → Int32} (h : fa.toInt ≠ 0) : UDt fa ro nu := fun q => absurd q h
theorem UDt_0 {fa : Int32} {ro nu : Nat → Int32} (h : (nu 7).toInt = 0) : UDt fa ro nu := fun _ i hi => absurd hi (by omega)
theorem UDt_p {fa co fb cb fc : Int32} {ro nu ks kv mu js jv lu : Nat → Int32} (h : UDt fa ro nu) (a : RDa fa co nu ks kv fb cb mu js jv) (o : OMt lu mu 6) (fs : FSt fc fb) : UDt fc ro lu := by
  intro q i hi
  have e6 : mu 6 = nu 6 := a.2.1 6 (by decide)
  have e7 : lu 7 = nu 7 := (o.2 7 (by decide)).trans (a.2.1 7 (by decide))
  have o6 := o.1
  rw [e6] at o6
  rw [e7] at hi
  have := h (a.2.2.2 (fs q)).1 i hi
  omega
theorem UDt_o {fa fc : Int32} {ro nu lu : Nat → Int32} {k : Nat} (h : UDt fa ro nu) (o : OMt lu nu k) (hk : 6 ≠ k ∧ 7 ≠ k) (fs : FSt fc fa) : UDt fc ro lu := by
  intro q i hi
  rw [o.2 7 hk.2] at hi
  rw [o.2 6 hk.1]
  exact h (fs q) i hi
theorem UDt_r {fa fb fc k v : Int32} {ro r2 nu lu : Nat → Int32} (h : UDt fa ro nu) (u : UPk r2 ro k v) (hk : k.toInt = 12 + (nu 7).toInt) (hv : fb.toInt ≠ 0 ∨ v.toInt < (nu 6).toInt) (o : OMt lu nu 7) (fs : FSt fc fa) (f2 : FSt fc fb) (h0 : 0 ≤ (nu 7).toInt) : UDt fc r2 lu := by
  intro q i hi
  have o7 := o.1
  rw [o.2 6 (by decide)]
  by_cases c : (i : Int) = (nu 7).toInt
  · have e : 12 + i = k.toNatClampNeg := by show 12 + i = k.toInt.toNat; omega
    rw [e, u.1]
    exact hv.elim (fun z => absurd (f2 q) z) (fun z => z)
  · rw [u.2 (12 + i) (by show ¬ 12 + i = k.toInt.toNat; omega)]
    exact h (fs q) i (by omega)
/-- a line more -/
def LNt (fc : Int32) (lu nu : Nat → Int32) : Prop := fc.toInt = 0 → (lu 5).toInt + (lu 6).toInt + (lu 7).toInt + (lu 8).toInt = (nu 5).toInt + (nu 6).toInt + (nu 7).toInt + (nu 8).toInt + 1
theorem LNt_i {fc : Int32} {lu mu nu : Nat → Int32} {k : Nat} (o : OMt lu mu k) (hk : k = 5 ∨ k = 6 ∨ k = 7 ∨ k = 8) (e : ∀ j, j ≠ 9 → mu j = nu j) : LNt fc lu nu := by
  intro _
  have a5 := e 5 (by decide)
  have a6 := e 6 (by decide)
  have a7 := e 7 (by decide)
  have a8 := e 8 (by decide)
  have o1 := o.1
  rcases hk with rfl | rfl | rfl | rfl
  · rw [o.2 6 (by decide), o.2 7 (by decide), o.2 8 (by decide), o1, a5, a6, a7, a8]; omega
  · rw [o.2 5 (by decide), o.2 7 (by decide), o.2 8 (by decide), o1, a5, a6, a7, a8]; omega
  · rw [o.2 5 (by decide), o.2 6 (by decide), o.2 8 (by decide), o1, a5, a6, a7, a8]; omega
  · rw [o.2 5 (by decide), o.2 6 (by decide), o.2 7 (by decide), o1, a5, a6, a7, a8]; omega
theorem EQl_o {g f : Nat → Int32} {k : Nat} (o : OMt g f k) (hk : 5 ≤ k) : EQl g f 5 := fun j hj => o.2 j (by omega)
theorem EQl_n {fa co fb cb : Int32} {nu ks kv mu js jv : Nat → Int32} (a : RDa fa co nu ks kv fb cb mu js jv) : EQl mu nu 5 := fun j hj => a.2.1 j (by omega)
theorem EQl_ks {fa co fb cb : Int32} {nu ks kv mu js jv : Nat → Int32} (a : RDa fa co nu ks kv fb cb mu js jv) (h0 : 0 ≤ (nu 9).toInt) : EQl js ks 64 := fun j hj => (a.2.2.1 j (by omega)).1
theorem EQl_kv {fa co fb cb : Int32} {nu ks kv mu js jv : Nat → Int32} (a : RDa fa co nu ks kv fb cb mu js jv) (h0 : 0 ≤ (nu 9).toInt) : EQl jv kv 64 := fun j hj => (a.2.2.1 j (by omega)).2
theorem EQl_m1 {fa k : Int32} {rf f0 rt t0 nu ks kv : Nat → Int32} (m : MRt fa rf f0 rt t0 k nu ks kv) (h : 5 ≤ k.toInt) : EQl rf f0 5 := fun j hj => (m.1 j (by show ¬ j = k.toInt.toNat; omega)).1
theorem EQl_m2 {fa k : Int32} {rf f0 rt t0 nu ks kv : Nat → Int32} (m : MRt fa rf f0 rt t0 k nu ks kv) (h : 5 ≤ k.toInt) : EQl rt t0 5 := fun j hj => (m.1 j (by show ¬ j = k.toInt.toNat; omega)).2
theorem Kst_o {fa co : Int32} {nu lu : Nat → Int32} {k : Nat} {d : Int} (h : Kst fa co nu d) (o : OMt lu nu k) (hk : 9 ≠ k) : Kst fa co lu d := fun q => by rw [o.2 9 hk]; exact h q
/-- the second half is laid upon the first -/
def HLt (g f : Nat → Int32) (n : Nat) (i : Int32) : Prop := (∀ j : Nat, (j : Int) < i.toInt → g j = f (n + j)) ∧ ∀ j : Nat, i.toInt ≤ (j : Int) → g j = f j
def HFt (g f : Nat → Int32) (n : Nat) : Prop := (∀ j, j < n → g j = f (n + j)) ∧ ∀ j, n ≤ j → g j = f j
theorem HLt_0 {f : Nat → Int32} {n : Nat} {i : Int32} (h : i.toInt ≤ 0) : HLt f f n i := ⟨fun j hj => absurd hj (by omega), fun _ _ => rfl⟩
theorem HLt_s {f g h : Nat → Int32} {n : Nat} {i k z m : Int32} (q : HLt g f n i) (hz : z = g k.toNatClampNeg) (hk : k.toInt = n + i.toInt) (e : upd g i.toNatClampNeg z = h) (h0 : 0 ≤ i.toInt) (hn : i.toInt < n) (hm : m.toInt = i.toInt + 1) : HLt h f n m := by
  have ek : k.toNatClampNeg = n + i.toNatClampNeg := by show k.toInt.toNat = n + i.toInt.toNat; omega
  have hzz : z = f (n + i.toNatClampNeg) := by rw [hz, q.2 _ (by show i.toInt ≤ ((k.toInt.toNat : Nat) : Int); omega), ek]
  refine ⟨fun j hj => ?_, fun j hj => ?_⟩
  · rw [← e]
    unfold upd
    by_cases c : j = i.toNatClampNeg
    · rw [if_pos c, c]; exact hzz
    · rw [if_neg c]
      have c2 : ¬ j = i.toInt.toNat := c
      exact q.1 j (by omega)
  · rw [← e]
    unfold upd
    rw [if_neg (by show ¬ j = i.toInt.toNat; omega)]
    exact q.2 j (by omega)
theorem HLt_e {f g : Nat → Int32} {n : Nat} {i : Int32} (q : HLt g f n i) (h : i.toInt = n) : HFt g f n := ⟨fun j hj => q.1 j (by omega), fun j hj => q.2 j (by omega)⟩
theorem PCt_h {cu ca cb c2 a2 b2 : Nat → Int32} (h : PCt cu ca cb) (u : HFt c2 cu 5) (v : HFt a2 ca 5) (w : HFt b2 cb 5) : PCt c2 a2 b2 := by
  intro j
  by_cases q : j < 5
  · rw [u.1 j q, v.1 j q, w.1 j q]; exact h _
  · rw [u.2 j (by omega), v.2 j (by omega), w.2 j (by omega)]; exact h _
theorem Dq_sh {ks kv js jv : Nat → Int32} {a b : Nat} : ∀ n, (∀ i, i < n → js (a + i) = ks (b + i) ∧ jv (a + i) = kv (b + i)) → Dq js jv a n = Dq ks kv b n
  | 0, _ => rfl
  | n + 1, h => by
    show Dq js jv a n + Kd js jv (a + n) = Dq ks kv b n + Kd ks kv (b + n)
    rw [Dq_sh n (fun i hi => h i (by omega))]
    unfold Kd
    rw [(h n (by omega)).1, (h n (by omega)).2]
theorem SEG_sh {ks kv js jv : Nat → Int32} {a b c d : Nat} (h : SEG ks kv c d) (he : d - c = b - a) (hq : ∀ i, i < b - a → js (a + i) = ks (c + i) ∧ jv (a + i) = kv (c + i)) : SEG js jv a b := by
  refine ⟨?_, fun n hn => ?_⟩
  · rw [Dq_sh _ (fun i hi => hq i hi), ← he]; exact h.1
  · have q := h.2 n (by omega)
    have w := hq n hn
    unfold Nd at q ⊢
    rw [Dq_sh n (fun i hi => hq i (by omega)), w.1, w.2]
    exact q
theorem RLt_h {fa : Int32} {rf rt nu ks kv rf2 rt2 nu2 ks2 kv2 : Nat → Int32} (h : URt fa rf rt nu ks kv) (h0 : fa.toInt = 0) (hn : NB nu) (a : HFt rf2 rf 5) (b : HFt rt2 rt 5) (c : HFt nu2 nu 5) (d : HFt ks2 ks 64) (e : HFt kv2 kv 64) : RLt rf2 rt2 ks2 kv2 nu2 := by
  intro p p0 p1 hl
  have n6 := NB_6 hn
  have n9 := NB_9 hn
  have e1 : nu2 1 = nu 6 := c.1 1 (by decide)
  rw [e1] at p1
  have hp5 : p.toNatClampNeg < 5 := by show p.toInt.toNat < 5; omega
  have g := h h0 p.toNatClampNeg (by show ((p.toInt.toNat : Nat) : Int) < _; omega)
  rw [a.1 _ hp5, b.1 _ hp5] at hl ⊢
  refine SEG_sh (g.2.2 hl) (by omega) (fun i hi => ?_)
  have ei : (64 + (rf (5 + p.toNatClampNeg)).toInt).toNat + i = 64 + ((rf (5 + p.toNatClampNeg)).toInt.toNat + i) := by omega
  rw [ei]
  exact ⟨d.1 _ (by omega), e.1 _ (by omega)⟩
theorem DPn_h {fa : Int32} {ro nu r2 nu2 : Nat → Int32} (h : UDt fa ro nu) (h0 : fa.toInt = 0) (hn : NB nu) (a : HFt r2 ro 12) (c : HFt nu2 nu 5) : DPn r2 nu2 := by
  intro i i0 i1
  have n7 := NB_7 hn
  have e2 : nu2 2 = nu 7 := c.1 2 (by decide)
  have e1 : nu2 1 = nu 6 := c.1 1 (by decide)
  rw [e2] at i1
  rw [e1, a.1 _ (by show i.toInt.toNat < 12; omega)]
  exact h h0 _ (by show ((i.toInt.toNat : Nat) : Int) < _; omega)
theorem RLt_e {rf rt nu ks kv rf2 rt2 nu2 ks2 kv2 : Nat → Int32} (h : RLt rf rt ks kv nu) (hn : NB nu) (hr : Rg rt 0 64) (hf : Rg rf 0 64) (a : EQl rf2 rf 5) (b : EQl rt2 rt 5) (c : EQl nu2 nu 5) (d : EQl ks2 ks 64) (e : EQl kv2 kv 64) : RLt rf2 rt2 ks2 kv2 nu2 := by
  intro p p0 p1 hl
  have n1 := NB_1 hn
  rw [c 1 (by decide)] at p1
  have hp5 : p.toNatClampNeg < 5 := by show p.toInt.toNat < 5; omega
  rw [a _ hp5, b _ hp5] at hl ⊢
  have q1 := hr p.toNatClampNeg
  have q2 := hf p.toNatClampNeg
  exact SEG_frame (h p p0 p1 hl) (fun j h1 h2 => ⟨d j (by omega), e j (by omega)⟩)
theorem DPn_e {ro nu r2 nu2 : Nat → Int32} (h : DPn ro nu) (hn : NB nu) (a : EQl r2 ro 12) (c : EQl nu2 nu 5) : DPn r2 nu2 := by
  intro i i0 i1
  have n2 := NB_2 hn
  rw [c 2 (by decide)] at i1
  rw [c 1 (by decide), a _ (by show i.toInt.toNat < 12; omega)]
  exact h i i0 i1
theorem KMt_e {cu ca km c2 a2 : Nat → Int32} (h : KMt cu ca km 0) (a : EQl c2 cu 5) (b : EQl a2 ca 5) : KMt c2 a2 km 0 := by
  intro p hp h4
  rw [a p hp] at h4
  rw [b p hp]
  exact h p hp h4
theorem KIt_e {hi : Int32} {cu ca km c2 a2 : Nat → Int32} (h : KIt hi cu ca km) (a : EQl c2 cu 5) (b : EQl a2 ca 5) : KIt hi c2 a2 km := fun q => KMt_e (h q) a b
theorem KIt_0 {cu ca km : Nat → Int32} : KIt 0 cu ca km := fun q => absurd (by decide) q
