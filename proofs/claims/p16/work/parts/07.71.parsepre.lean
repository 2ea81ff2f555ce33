
theorem NB_5 {f : Nat → Int32} (h : NB f) : 0 ≤ (f 5).toInt ∧ (f 5).toInt ≤ 5 := h.2.1
theorem NB_6 {f : Nat → Int32} (h : NB f) : 0 ≤ (f 6).toInt ∧ (f 6).toInt ≤ 5 := h.2.2.1
theorem NB_7 {f : Nat → Int32} (h : NB f) : 0 ≤ (f 7).toInt ∧ (f 7).toInt ≤ 12 := h.2.2.2.1
theorem NB_8 {f : Nat → Int32} (h : NB f) : 0 ≤ (f 8).toInt ∧ (f 8).toInt ≤ 3 := h.2.2.2.2.1
theorem NB_9 {f : Nat → Int32} (h : NB f) : 0 ≤ (f 9).toInt ∧ (f 9).toInt ≤ 64 := h.2.2.2.2.2
theorem NB_u5 {f g : Nat → Int32} {v : Int32} (h : NB f) (e : upd f 5 v = g) (hv : 0 ≤ v.toInt ∧ v.toInt ≤ 5) : NB g := by
  rw [← e]
  exact ⟨h.1, hv, h.2.2⟩
theorem NB_u6 {f g : Nat → Int32} {v : Int32} (h : NB f) (e : upd f 6 v = g) (hv : 0 ≤ v.toInt ∧ v.toInt ≤ 5) : NB g := by
  rw [← e]
  exact ⟨h.1, h.2.1, hv, h.2.2.2⟩
theorem NB_u7 {f g : Nat → Int32} {v : Int32} (h : NB f) (e : upd f 7 v = g) (hv : 0 ≤ v.toInt ∧ v.toInt ≤ 12) : NB g := by
  rw [← e]
  exact ⟨h.1, h.2.1, h.2.2.1, hv, h.2.2.2.2⟩
theorem NB_u8 {f g : Nat → Int32} {v : Int32} (h : NB f) (e : upd f 8 v = g) (hv : 0 ≤ v.toInt ∧ v.toInt ≤ 3) : NB g := by
  rw [← e]
  exact ⟨h.1, h.2.1, h.2.2.1, h.2.2.2.1, hv, h.2.2.2.2.2⟩
theorem NB_u9 {f g : Nat → Int32} {v : Int32} (h : NB f) (e : upd f 9 v = g) (hv : 0 ≤ v.toInt ∧ v.toInt ≤ 64) : NB g := by
  rw [← e]
  exact ⟨h.1, h.2.1, h.2.2.1, h.2.2.2.1, h.2.2.2.2.1, hv⟩
theorem NB_z {f g : Nat → Int32} {i : Int32} (h : NB f) (h5 : 5 ≤ i.toInt) (h9 : i.toInt ≤ 9) (e : upd f i.toNatClampNeg 0 = g) : NB g := by
  have z : 0 ≤ (0 : Int32).toInt ∧ (0 : Int32).toInt ≤ 3 := by decide
  have q : i.toNatClampNeg = 5 ∨ i.toNatClampNeg = 6 ∨ i.toNatClampNeg = 7 ∨ i.toNatClampNeg = 8 ∨ i.toNatClampNeg = 9 := by
    show i.toInt.toNat = 5 ∨ i.toInt.toNat = 6 ∨ i.toInt.toNat = 7 ∨ i.toInt.toNat = 8 ∨ i.toInt.toNat = 9
    omega
  rcases q with q | q | q | q | q <;> rw [q] at e
  · exact NB_u5 h e (by omega)
  · exact NB_u6 h e (by omega)
  · exact NB_u7 h e (by omega)
  · exact NB_u8 h e (by omega)
  · exact NB_u9 h e (by omega)
theorem NB_h {f g : Nat → Int32} {k i v : Int32} (h : NB f) (hk : 0 ≤ k.toInt) (hk5 : k.toInt < 5) (hi : i.toInt = 5 + k.toInt) (hv : v = f i.toNatClampNeg) (e : upd f k.toNatClampNeg v = g) : NB g := by
  have ei : i.toNatClampNeg = 5 + k.toNatClampNeg := by show i.toInt.toNat = 5 + k.toInt.toNat; omega
  have q : k.toNatClampNeg = 0 ∨ k.toNatClampNeg = 1 ∨ k.toNatClampNeg = 2 ∨ k.toNatClampNeg = 3 ∨ k.toNatClampNeg = 4 := by
    show k.toInt.toNat = 0 ∨ k.toInt.toNat = 1 ∨ k.toInt.toNat = 2 ∨ k.toInt.toNat = 3 ∨ k.toInt.toNat = 4
    omega
  rw [ei] at hv
  rcases q with q | q | q | q | q <;> rw [q] at e hv <;> rw [← e, hv]
  · exact ⟨⟨h.2.1, h.1.2⟩, h.2⟩
  · exact ⟨⟨h.1.1, h.2.2.1, h.1.2.2⟩, h.2⟩
  · exact ⟨⟨h.1.1, h.1.2.1, h.2.2.2.1, h.1.2.2.2⟩, h.2⟩
  · exact ⟨⟨h.1.1, h.1.2.1, h.1.2.2.1, h.2.2.2.2.1, h.1.2.2.2.2⟩, h.2⟩
  · exact ⟨⟨h.1.1, h.1.2.1, h.1.2.2.1, h.1.2.2.2.1, h.2.2.2.2.2⟩, h.2⟩
/-- one more at place k, the rest as it was -/
def OMt (g f : Nat → Int32) (k : Nat) : Prop := (g k).toInt = (f k).toInt + 1 ∧ ∀ j, j ≠ k → g j = f j
theorem OMt_i {f g : Nat → Int32} {v i : Int32} {k : Nat} (e : upd f i.toNatClampNeg v = g) (hi : i.toInt = k) (hv : v.toInt = (f k).toInt + 1) : OMt g f k := by
  have ei : i.toNatClampNeg = k := by show i.toInt.toNat = k; omega
  rw [ei] at e
  refine ⟨?_, fun j hj => ?_⟩
  · rw [← e]; unfold upd; rw [if_pos rfl]; exact hv
  · rw [← e]; unfold upd; rw [if_neg hj]
/-- what a token is: a word of the language by its number; a sign -/
def TVt (so va : Int32) : Prop := (so.toInt = 0 → 0 ≤ va.toInt ∧ va.toInt ≤ 19) ∧ (so.toInt = 3 → va.toInt ≤ 258)
theorem TVt_w {so va : Int32} (h : TVt so va) (h0 : so.toInt = 0) : 0 ≤ va.toInt ∧ va.toInt ≤ 19 := h.1 h0
theorem TVt_n {so va : Int32} (h : so.toInt ≠ 0) (h3 : so.toInt ≠ 3) : TVt so va := ⟨fun q => absurd q h, fun q => absurd q h3⟩
theorem TVt_0 {so va : Int32} (h3 : so.toInt ≠ 3) (h : 0 ≤ va.toInt ∧ va.toInt ≤ 19) : TVt so va := ⟨fun _ => h, fun q => absurd q h3⟩
theorem TVt_3 {so va : Int32} (h3 : so.toInt ≠ 0) (h : va.toInt ≤ 258) : TVt so va := ⟨fun q => absurd q h3, fun _ => h⟩
/-- a knot is counted -/
def KNt (fa co fb cb : Int32) : Prop := fb.toInt = 0 → fa.toInt = 0 ∧ cb.toInt = co.toInt + 1
/-- so many knots are counted that aren't laid yet -/
def Kst (fa co : Int32) (nu : Nat → Int32) (d : Int) : Prop := fa.toInt = 0 → (nu 9).toInt + d ≤ co.toInt
def Pot (fa op co : Int32) (n : Nat) : Prop := fa.toInt = 0 → 73 - op.toInt - co.toInt ≤ (n : Int)
def PUt (fa its v : Int32) (nu ks kv mu js jv : Nat → Int32) : Prop := (fa.toInt ≠ 0 → mu = nu ∧ js = ks ∧ jv = kv) ∧ (fa.toInt = 0 → OMt mu nu 9 ∧ (∀ j, j ≠ (64 + (nu 9).toInt).toNat → js j = ks j ∧ jv j = kv j) ∧ js (64 + (nu 9).toInt).toNat = its ∧ jv (64 + (nu 9).toInt).toNat = v)
theorem PUt_no {fa its v : Int32} {nu ks kv : Nat → Int32} (h : fa.toInt ≠ 0) : PUt fa its v nu ks kv nu ks kv := ⟨fun _ => ⟨rfl, rfl, rfl⟩, fun q => absurd q h⟩
theorem PUt_y {fa its v a b : Int32} {nu ks kv mu js jv : Nat → Int32} (h0 : fa.toInt = 0) (e1 : upd ks a.toNatClampNeg its = js) (e2 : upd kv b.toNatClampNeg v = jv) (ha : a.toInt = 64 + (nu 9).toInt) (hb : b.toInt = 64 + (nu 9).toInt) (om : OMt mu nu 9) : PUt fa its v nu ks kv mu js jv := by
  have ea : a.toNatClampNeg = (64 + (nu 9).toInt).toNat := by show a.toInt.toNat = _; rw [ha]
  have eb : b.toNatClampNeg = (64 + (nu 9).toInt).toNat := by show b.toInt.toNat = _; rw [hb]
  rw [ea] at e1
  rw [eb] at e2
  refine ⟨fun q => absurd h0 q, fun _ => ⟨om, fun j hj => ?_, ?_, ?_⟩⟩
  · rw [← e1, ← e2]; unfold upd; rw [if_neg hj, if_neg hj]; exact ⟨rfl, rfl⟩
  · rw [← e1]; unfold upd; rw [if_pos rfl]
  · rw [← e2]; unfold upd; rw [if_pos rfl]
/-- what a reader of knots does: it lays them behind those laid before -/
def RDa (fa co : Int32) (nu ks kv : Nat → Int32) (fb cb : Int32) (mu js jv : Nat → Int32) : Prop := (nu 9).toInt ≤ (mu 9).toInt ∧ (∀ j, j ≠ 9 → mu j = nu j) ∧ (∀ j : Nat, (j : Int) < 64 + (nu 9).toInt → js j = ks j ∧ jv j = kv j) ∧ (fb.toInt = 0 → fa.toInt = 0 ∧ co.toInt ≤ cb.toInt)
def RDs (fa co op : Int32) (nu ks kv : Nat → Int32) (fb cb ob : Int32) (mu js jv : Nat → Int32) : Prop := RDa fa co nu ks kv fb cb mu js jv ∧ (fb.toInt = 0 → ob.toInt = op.toInt ∧ cb.toInt - (mu 9).toInt = co.toInt - (nu 9).toInt ∧ SEG js jv (64 + (nu 9).toInt).toNat (64 + (mu 9).toInt).toNat)
theorem SEG_leaf {ks kv : Nat → Int32} {a : Nat} (h : (ks a).toInt ≠ 2) (h2 : (ks a).toInt = 0 ∨ (0 ≤ (kv a).toInt ∧ (kv a).toInt ≤ 4)) : SEG ks kv a (a + 1) := by
  have e : a + 1 - a = 1 := by omega
  refine ⟨?_, fun n hn => ?_⟩
  · rw [e]
    show Dq ks kv a 0 + Kd ks kv (a + 0) = 1
    unfold Kd
    rw [Nat.add_zero, if_neg h]
    rfl
  · obtain rfl : n = 0 := by omega
    rw [Nat.add_zero]
    refine ⟨?_, Or.inr h2⟩
    unfold Nd
    rw [if_neg h]
    exact Int.le_refl 0
theorem Dq_add (ks kv : Nat → Int32) (a n : Nat) : ∀ k, Dq ks kv a (n + k) = Dq ks kv a n + Dq ks kv (a + n) k
  | 0 => by
    rw [Nat.add_zero]
    show Dq ks kv a n = Dq ks kv a n + 0
    omega
  | k + 1 => by
    show Dq ks kv a (n + k) + Kd ks kv (a + (n + k)) = Dq ks kv a n + (Dq ks kv (a + n) k + Kd ks kv (a + n + k))
    rw [Dq_add ks kv a n k, Nat.add_assoc a n k]
    omega
theorem Dq_eq {ks kv js jv : Nat → Int32} {a : Nat} : ∀ n, (∀ i, i < n → js (a + i) = ks (a + i) ∧ jv (a + i) = kv (a + i)) → Dq js jv a n = Dq ks kv a n
  | 0, _ => rfl
  | n + 1, h => by
    show Dq js jv a n + Kd js jv (a + n) = Dq ks kv a n + Kd ks kv (a + n)
    rw [Dq_eq n (fun i hi => h i (by omega))]
    unfold Kd
    rw [(h n (by omega)).1, (h n (by omega)).2]
theorem SEG_frame {ks kv js jv : Nat → Int32} {a b : Nat} (h : SEG ks kv a b) (he : ∀ j, a ≤ j → j < b → js j = ks j ∧ jv j = kv j) : SEG js jv a b := by
  refine ⟨?_, fun n hn => ?_⟩
  · rw [Dq_eq _ (fun i hi => he _ (by omega) (by omega))]
    exact h.1
  · have q := h.2 n hn
    have w := he (a + n) (by omega) (by omega)
    unfold Nd at q ⊢
    rw [Dq_eq n (fun i hi => he _ (by omega) (by omega)), w.1, w.2]
    exact q
theorem SEG_bin {ks kv : Nat → Int32} {a b c : Nat} (h1 : SEG ks kv a b) (h2 : SEG ks kv b c) (hab : a ≤ b) (hbc : b ≤ c) (hs : (ks c).toInt = 2) (hv : (kv c).toInt ≠ 260) : SEG ks kv a (c + 1) := by
  have d2 : Dq ks kv a (c - a) = 2 := by
    have e : c - a = (b - a) + (c - b) := by omega
    have e2 : a + (b - a) = b := by omega
    rw [e, Dq_add, e2, h1.1, h2.1]
    rfl
  have e3 : a + (c - a) = c := by omega
  refine ⟨?_, fun n hn => ?_⟩
  · have e : c + 1 - a = (c - a) + 1 := by omega
    rw [e]
    show Dq ks kv a (c - a) + Kd ks kv (a + (c - a)) = 1
    rw [d2, e3]
    unfold Kd
    rw [if_pos hs, if_neg hv]
    rfl
  · by_cases q1 : n < b - a
    · exact h1.2 n q1
    · by_cases q2 : n < c - a
      · have e : (b - a) + (n - (b - a)) = n := by omega
        have e2 : a + (b - a) = b := by omega
        have q := h2.2 (n - (b - a)) (by omega)
        have e4 : b + (n - (b - a)) = a + n := by omega
        rw [e4] at q
        have hd := Dq_add ks kv a (b - a) (n - (b - a))
        rw [e, e2, h1.1] at hd
        refine ⟨?_, q.2⟩
        have := q.1
        omega
      · have e : n = c - a := by omega
        rw [e, e3, d2]
        refine ⟨?_, Or.inl hs⟩
        unfold Nd
        rw [if_pos hs, if_neg hv]
        exact Int.le_refl 2
theorem SEG_not {ks kv : Nat → Int32} {a c : Nat} (h1 : SEG ks kv a c) (hac : a ≤ c) (hs : (ks c).toInt = 2) (hv : (kv c).toInt = 260) : SEG ks kv a (c + 1) := by
  have e3 : a + (c - a) = c := by omega
  refine ⟨?_, fun n hn => ?_⟩
  · have e : c + 1 - a = (c - a) + 1 := by omega
    rw [e]
    show Dq ks kv a (c - a) + Kd ks kv (a + (c - a)) = 1
    rw [h1.1, e3]
    unfold Kd
    rw [if_pos hs, if_pos hv]
    rfl
  · by_cases q1 : n < c - a
    · exact h1.2 n q1
    · have e : n = c - a := by omega
      rw [e, e3, h1.1]
      refine ⟨?_, Or.inl hs⟩
      unfold Nd
      rw [if_pos hs, if_pos hv]
      exact Int.le_refl 1
theorem RDa_r {fa co : Int32} {nu ks kv : Nat → Int32} : RDa fa co nu ks kv fa co nu ks kv := ⟨Int.le_refl _, fun _ _ => rfl, fun _ _ => ⟨rfl, rfl⟩, fun q => ⟨q, Int.le_refl _⟩⟩
theorem RDa_t {fa co fb cb fc cc : Int32} {n1 s1 v1 n2 s2 v2 n3 s3 v3 : Nat → Int32} (h : RDa fa co n1 s1 v1 fb cb n2 s2 v2) (g : RDa fb cb n2 s2 v2 fc cc n3 s3 v3) : RDa fa co n1 s1 v1 fc cc n3 s3 v3 :=
  ⟨Int.le_trans h.1 g.1, fun j hj => (g.2.1 j hj).trans (h.2.1 j hj), fun j hj => ⟨(g.2.2.1 j (by have := h.1; omega)).1.trans (h.2.2.1 j hj).1, (g.2.2.1 j (by have := h.1; omega)).2.trans (h.2.2.1 j hj).2⟩, fun q => ⟨(h.2.2.2 (g.2.2.2 q).1).1, Int.le_trans (h.2.2.2 (g.2.2.2 q).1).2 (g.2.2.2 q).2⟩⟩
theorem RDa_f {fa co fb : Int32} {nu ks kv : Nat → Int32} (h : FSt fb fa) : RDa fa co nu ks kv fb co nu ks kv := ⟨Int.le_refl _, fun _ _ => rfl, fun _ _ => ⟨rfl, rfl⟩, fun q => ⟨h q, Int.le_refl _⟩⟩
theorem RDa_k {fa co fb cb : Int32} {nu ks kv : Nat → Int32} (h : KNt fa co fb cb) : RDa fa co nu ks kv fb cb nu ks kv := ⟨Int.le_refl _, fun _ _ => rfl, fun _ _ => ⟨rfl, rfl⟩, fun q => ⟨(h q).1, by have := (h q).2; omega⟩⟩
theorem RDa_p {fa co its v : Int32} {nu ks kv mu js jv : Nat → Int32} (h : PUt fa its v nu ks kv mu js jv) : RDa fa co nu ks kv fa co mu js jv := by
  by_cases q : fa.toInt = 0
  · obtain ⟨om, he, -, -⟩ := h.2 q
    exact ⟨by have := om.1; omega, om.2, fun j hj => he j (by omega), fun z => ⟨z, Int.le_refl _⟩⟩
  · obtain ⟨r1, r2, r3⟩ := h.1 q
    subst r1 r2 r3
    exact RDa_r
theorem RDa_s {fa co op fb cb ob : Int32} {nu ks kv mu js jv : Nat → Int32} (h : RDs fa co op nu ks kv fb cb ob mu js jv) : RDa fa co nu ks kv fb cb mu js jv := h.1
theorem RDs_f {fa co op fb cb ob : Int32} {nu ks kv mu js jv : Nat → Int32} (h : RDs fa co op nu ks kv fb cb ob mu js jv) : FSt fb fa := fun q => (h.1.2.2.2 q).1
theorem RDs_n {fa co op fb cb ob : Int32} {nu ks kv : Nat → Int32} (h : fb.toInt ≠ 0) : RDs fa co op nu ks kv fb cb ob nu ks kv := ⟨⟨Int.le_refl _, fun _ _ => rfl, fun _ _ => ⟨rfl, rfl⟩, fun q => absurd q h⟩, fun q => absurd q h⟩
theorem RDs_bad {fa co op o1 fb cb ob fc cc oc : Int32} {nu ks kv mu js jv : Nat → Int32} (h : RDs fa co o1 nu ks kv fb cb ob mu js jv) (hf : fc.toInt ≠ 0) : RDs fa co op nu ks kv fc cc oc mu js jv := ⟨⟨h.1.1, h.1.2.1, h.1.2.2.1, fun q => absurd q hf⟩, fun q => absurd q hf⟩
theorem RDs_ok {fa co op o1 fb cb ob oc : Int32} {nu ks kv mu js jv : Nat → Int32} (h : RDs fa co o1 nu ks kv fb cb ob mu js jv) (h1 : o1.toInt = op.toInt + 1) (h2 : oc.toInt = ob.toInt - 1) : RDs fa co op nu ks kv fb cb oc mu js jv := ⟨h.1, fun q => ⟨by have := (h.2 q).1; omega, (h.2 q).2⟩⟩
theorem RDs_leaf {fa co op fb cb its v : Int32} {nu ks kv mu js jv : Nat → Int32} (hk : KNt fa co fb cb) (hp : PUt fb its v nu ks kv mu js jv) (hv : fb.toInt = 0 → its.toInt = 0 ∨ (its.toInt = 1 ∧ 0 ≤ v.toInt ∧ v.toInt ≤ 4)) (h0 : 0 ≤ (nu 9).toInt) : RDs fa co op nu ks kv fb cb op mu js jv := by
  refine ⟨RDa_t (RDa_k hk) (RDa_p hp), fun q => ?_⟩
  obtain ⟨om, he, hs, hw⟩ := hp.2 q
  have k2 := hk q
  have e1 : (64 + (mu 9).toInt).toNat = (64 + (nu 9).toInt).toNat + 1 := by rw [om.1]; omega
  refine ⟨rfl, by rw [om.1]; omega, ?_⟩
  rw [e1]
  have := hv q
  refine SEG_leaf (by rw [hs]; omega) ?_
  rw [hs, hw]
  omega
theorem RDs_bin {fa co op fb cb ob fc cc fd cd od v : Int32} {n1 s1 v1 n2 s2 v2 n3 s3 v3 n4 s4 v4 : Nat → Int32} (h1 : RDs fa co op n1 s1 v1 fb cb ob n2 s2 v2) (h2 : KNt fb cb fc cc) (h3 : RDs fc cc ob n2 s2 v2 fd cd od n3 s3 v3) (h4 : PUt fd 2 v n3 s3 v3 n4 s4 v4) (hv : v.toInt ≠ 260) (h0 : 0 ≤ (n1 9).toInt) : RDs fa co op n1 s1 v1 fd cd od n4 s4 v4 := by
  refine ⟨RDa_t h1.1 (RDa_t (RDa_k h2) (RDa_t h3.1 (RDa_p h4))), fun q => ?_⟩
  obtain ⟨om, he, hs, hw⟩ := h4.2 q
  obtain ⟨o3, d3, g3⟩ := h3.2 q
  have k2 := h2 (h3.1.2.2.2 q).1
  obtain ⟨o1, d1, g1⟩ := h1.2 k2.1
  have m1 := h1.1.1
  have m3 := h3.1.1
  have e1 : (64 + (n4 9).toInt).toNat = (64 + (n3 9).toInt).toNat + 1 := by rw [om.1]; omega
  refine ⟨by omega, by rw [om.1]; omega, ?_⟩
  rw [e1]
  refine SEG_bin (b := (64 + (n2 9).toInt).toNat) (SEG_frame g1 (fun j _ hj => ?_)) (SEG_frame g3 (fun j _ hj => ?_)) (by omega) (by omega) (by rw [hs]; rfl) (by rw [hw]; exact hv)
  · have a1 := h3.1.2.2.1 j (by omega)
    have a2 := he j (by omega)
    exact ⟨a2.1.trans a1.1, a2.2.trans a1.2⟩
  · exact he j (by omega)
theorem RDs_not {fa co op fc cc fd cd od : Int32} {n2 s2 v2 n3 s3 v3 n4 s4 v4 : Nat → Int32} (h2 : KNt fa co fc cc) (h3 : RDs fc cc op n2 s2 v2 fd cd od n3 s3 v3) (h4 : PUt fd 2 260 n3 s3 v3 n4 s4 v4) (h0 : 0 ≤ (n2 9).toInt) : RDs fa co op n2 s2 v2 fd cd od n4 s4 v4 := by
  refine ⟨RDa_t (RDa_k h2) (RDa_t h3.1 (RDa_p h4)), fun q => ?_⟩
  obtain ⟨om, he, hs, hw⟩ := h4.2 q
  obtain ⟨o3, d3, g3⟩ := h3.2 q
  have k2 := h2 (h3.1.2.2.2 q).1
  have m3 := h3.1.1
  have e1 : (64 + (n4 9).toInt).toNat = (64 + (n3 9).toInt).toNat + 1 := by rw [om.1]; omega
  refine ⟨o3, by rw [om.1]; omega, ?_⟩
  rw [e1]
  exact SEG_not (SEG_frame g3 (fun j _ hj => he j (by omega))) (by omega) (by rw [hs]; rfl) (by rw [hw]; rfl)
theorem Kst_r {fa co op fb cb ob : Int32} {nu ks kv mu js jv : Nat → Int32} {d : Int} (k : Kst fa co nu d) (h : RDs fa co op nu ks kv fb cb ob mu js jv) : Kst fb cb mu d := fun q => by
  have := k (h.1.2.2.2 q).1
  have := (h.2 q).2.1
  omega
theorem Kst_k {fa co fb cb : Int32} {nu : Nat → Int32} {d e : Int} (k : Kst fa co nu d) (h : KNt fa co fb cb) (he : e ≤ d + 1) : Kst fb cb nu e := fun q => by
  have := k (h q).1
  have := (h q).2
  omega
theorem Kst_f {fa co fb : Int32} {nu : Nat → Int32} {d : Int} (k : Kst fa co nu d) (h : FSt fb fa) : Kst fb co nu d := fun q => k (h q)
theorem Kst_no {fa co : Int32} {nu : Nat → Int32} {d : Int} (h : fa.toInt ≠ 0) : Kst fa co nu d := fun q => absurd q h
theorem Pot_r {fa co op fb cb ob : Int32} {nu ks kv mu js jv : Nat → Int32} {n : Nat} (k : Pot fa op co n) (h : RDs fa co op nu ks kv fb cb ob mu js jv) : Pot fb ob cb n := fun q => by
  have := k (h.1.2.2.2 q).1
  have := (h.1.2.2.2 q).2
  have := (h.2 q).1
  omega
theorem Pot_k {fa co op fb cb : Int32} {n : Nat} (k : Pot fa op co n) (h : KNt fa co fb cb) : Pot fb op cb n := fun q => by
  have := k (h q).1
  have := (h q).2
  omega
theorem Pot_k1 {fa co op fb cb : Int32} {n m : Nat} (k : Pot fa op co n) (h : KNt fa co fb cb) (hm : m + 1 = n) : Pot fb op cb m := fun q => by
  have := k (h q).1
  have := (h q).2
  omega
theorem Pot_o {fa co op o1 : Int32} {n m : Nat} (k : Pot fa op co n) (h : o1.toInt = op.toInt + 1) (hm : m + 1 = n) : Pot fa o1 co m := fun q => by
  have := k q
  omega
theorem Pot_m {fa co op : Int32} {n : Nat} (k : Pot fa op co n) (h0 : fa.toInt = 0) (ho : op.toInt ≤ 8) (hc : co.toInt ≤ 64) : ∃ m, m + 1 = n := ⟨n - 1, by have := k h0; omega⟩
theorem Pot_t {fa co op : Int32} (ho : 0 ≤ op.toInt) (hc : 0 ≤ co.toInt) : Pot fa op co 73 := fun _ => by omega
theorem KNt_w {fa fc co fb cb : Int32} (h : KNt fa co fb cb) (f : FSt fa fc) : KNt fc co fb cb := fun q => ⟨f (h q).1, (h q).2⟩
theorem KNt_f {fa co fb cb : Int32} (h : KNt fa co fb cb) : FSt fb fa := fun q => (h q).1
theorem RDa_fs {fa co fb cb : Int32} {nu ks kv mu js jv : Nat → Int32} (h : RDa fa co nu ks kv fb cb mu js jv) : FSt fb fa := fun q => (h.2.2.2 q).1
/-- the name is among so many, or it isn't -/
def FDt (f : Nat → Int32) (a n w r : Int32) : Prop := (r.toInt = -1 → ∀ k : Int32, 0 ≤ k.toInt → k.toInt < n.toInt → ∀ i : Int32, i.toInt = a.toInt + k.toInt → f i.toNatClampNeg ≠ w) ∧ (r.toInt ≠ -1 → ∃ k i : Int32, 0 ≤ k.toInt ∧ k.toInt < n.toInt ∧ i.toInt = a.toInt + k.toInt ∧ f i.toNatClampNeg = w)
def NFt (f : Nat → Int32) (a w j : Int32) : Prop := ∀ k : Int32, 0 ≤ k.toInt → k.toInt < j.toInt → ∀ i : Int32, i.toInt = a.toInt + k.toInt → f i.toNatClampNeg ≠ w
theorem FDt_2 {f : Nat → Int32} {a n w r q : Int32} (h : FDt f a n w r) (hr : r.toInt ≠ -1) (g : FDt f a n w q) : q.toInt ≠ -1 := fun z => by
  obtain ⟨k, i, h1, h2, h3, h4⟩ := h.2 hr
  exact g.1 z k h1 h2 i h3 h4
theorem NFt_0 {f : Nat → Int32} {a w j : Int32} (h : j.toInt ≤ 0) : NFt f a w j := fun k h0 h1 => absurd h1 (by omega)
theorem NFt_s {f : Nat → Int32} {a w j m i z : Int32} (h : NFt f a w j) (hz : z = f i.toNatClampNeg) (hi : i.toInt = a.toInt + j.toInt) (hne : z.toInt ≠ w.toInt) (hm : m.toInt = j.toInt + 1) : NFt f a w m := by
  intro k h0 h1 x hx
  by_cases c : k.toInt = j.toInt
  · have e : x = i := Int32.toInt_inj.mp (by omega)
    rw [e, ← hz]
    exact fun q => hne (by rw [q])
  · exact h k h0 (by omega) x hx
theorem FDt_n {f : Nat → Int32} {a n w j : Int32} (h : NFt f a w j) (hj : n.toInt ≤ j.toInt) : FDt f a n w (-1) := ⟨fun _ k h0 h1 => h k h0 (by omega), fun q => absurd (by decide) q⟩
theorem FDt_y {f : Nat → Int32} {a n w j i z : Int32} (hz : z = f i.toNatClampNeg) (hi : i.toInt = a.toInt + j.toInt) (he : z.toInt = w.toInt) (h0 : 0 ≤ j.toInt) (h1 : j.toInt < n.toInt) : FDt f a n w j := ⟨fun q => absurd h0 (by omega), fun _ => ⟨j, i, h0, h1, hi, by rw [← hz]; exact Int32.toInt_inj.mp he⟩⟩
/-- which of gains, rough, if were told -/
def ONc (o : Int32) : Prop := o = 0 ∨ o = 16 ∨ o = 32 ∨ o = 48 ∨ o = 64 ∨ o = 80 ∨ o = 96 ∨ o = 112
theorem ONc_s {o w a b c d : Int32} (h : ONc o) (hw : w.toInt = 4 ∨ w.toInt = 5 ∨ w.toInt = 6) (e1 : a = o >>> (w &&& 31)) (e2 : b = a &&& 1) (e3 : c = 1 <<< (w &&& 31)) (e4 : d = o ||| c) : ONc d ∧ (0 ≤ d.toInt ∧ d.toInt ≤ 112) ∧ (b.toInt = 1 ∨ o.toInt < d.toInt) := by
  have hw2 : w = 4 ∨ w = 5 ∨ w = 6 := by
    rcases hw with q | q | q
    · exact Or.inl (Int32.toInt_inj.mp q)
    · exact Or.inr (Or.inl (Int32.toInt_inj.mp q))
    · exact Or.inr (Or.inr (Int32.toInt_inj.mp q))
  rw [e4, e3, e2, e1]
  unfold ONc at h ⊢
  rcases hw2 with rfl | rfl | rfl <;> rcases h with rfl | rfl | rfl | rfl | rfl | rfl | rfl | rfl <;> decide
/-- a rule being told: its knots from f on, ahead of t -/
def RSg (fa f t : Int32) (nu ks kv : Nat → Int32) : Prop := fa.toInt = 0 → 0 ≤ f.toInt ∧ t.toInt ≤ (nu 9).toInt ∧ (f.toInt < t.toInt → SEG ks kv (64 + f.toInt).toNat (64 + t.toInt).toNat)
theorem RSg_no {fa f t : Int32} {nu ks kv : Nat → Int32} (h : fa.toInt ≠ 0) : RSg fa f t nu ks kv := fun q => absurd q h
theorem RSg_0 {fa f : Int32} {nu ks kv : Nat → Int32} (h0 : 0 ≤ f.toInt) (h : f.toInt = (nu 9).toInt) : RSg fa f f nu ks kv := fun _ => ⟨h0, by omega, fun q => absurd q (by omega)⟩
theorem RSg_f {fa fb f t : Int32} {nu ks kv : Nat → Int32} (h : RSg fa f t nu ks kv) (g : FSt fb fa) : RSg fb f t nu ks kv := fun q => h (g q)
theorem RSg_e {fa co op fb cb ob f t : Int32} {nu ks kv mu js jv : Nat → Int32} (h : RDs fa co op nu ks kv fb cb ob mu js jv) (hf : f.toInt = (nu 9).toInt) (ht : t.toInt = (mu 9).toInt) (h0 : 0 ≤ f.toInt) : RSg fb f t mu js jv := fun q => ⟨h0, by omega, fun _ => by
  have g := (h.2 q).2.2
  rw [← hf, ← ht] at g
  exact g⟩
