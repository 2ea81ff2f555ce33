
/-- a text, as both sides answer it, with its knots: Q where it is refused, P where it is taken -/
def TXq (fb : Nat → Int32) (n r fl pl : Int32) (Q : Prop) (P : DD → List (Int32 × Int32) → Prop) : Prop := ∃ (K PL W : Nat → Int32) (q : Nat → Nat) (e : Nat), TS (fI fb) n.toInt.toNat (fI K) (fI PL) (fI W) q e ∧ fl.toInt = ps_f (RT_ K W e).1 ∧ ((ps_f (RT_ K W e).1 ≠ 0 ∧ r.toInt = -1 ∧ pl = PL (ps_u (RT_ K W e).1) ∧ Q) ∨ (ps_f (RT_ K W e).1 = 0 ∧ r.toInt = (RT_ K W e).2 18 4 ∧ pl.toInt = -1 ∧ P (RT_ K W e).2 (ps_L (RT_ K W e).1)))
def KTx (L : List (Int32 × Int32)) (kn : Int32) (fk fn : Nat → Int32) : Prop := kn.toInt = (L.length : Int) ∧ AG L fk fn
theorem KTx_i {L : List (Int32 × Int32)} {kn : Int32} {fk fn : Nat → Int32} (h1 : kn.toInt = (L.length : Int)) (h2 : AG L fk fn) : KTx L kn fk fn := ⟨h1, h2⟩
theorem KTx_0 {fk fn : Nat → Int32} : KTx [] (0 : Int32) fk fn := ⟨by decide, fun i p h => by simp at h⟩
def AGz (L : List (Int32 × Int32)) (ks kv : Nat → Int32) : Prop := ∀ (i : Nat) (p : Int32 × Int32), L[i]? = some p → KM p.1.toInt p.2.toInt (ks i).toInt (kv i).toInt
def KTm (L : List (Int32 × Int32)) (nu ks kv : Nat → Int32) : Prop := L.length ≤ 64 ∧ (nu 4).toInt = (L.length : Int) ∧ AGz L ks kv
theorem KTm_0 {nu ks kv : Nat → Int32} (h : (nu 4).toInt = 0) : KTm [] nu ks kv := ⟨Nat.zero_le _, h, fun i p h => by simp at h⟩
theorem KTm_l {L : List (Int32 × Int32)} {nu ks kv nu1 ks1 kv1 : Nat → Int32} (h : KTm L nu ks kv) (u : EQl nu1 nu 5) (u1 : EQl ks1 ks 64) (u2 : EQl kv1 kv 64) : KTm L nu1 ks1 kv1 := by
  obtain ⟨h0, h1, h2⟩ := h
  refine ⟨h0, by rw [u 4 (by decide)]; exact h1, fun i p hp => ?_⟩
  have hi : i < L.length := (List.getElem?_eq_some_iff.mp hp).1
  rw [u1 i (by omega), u2 i (by omega)]
  exact h2 i p hp
theorem KTm_h {L : List (Int32 × Int32)} {nu ks kv nu1 ks1 kv1 : Nat → Int32} (h0 : L.length ≤ 64) (h1 : (nu 9).toInt = (L.length : Int)) (h2 : AGM L ks kv) (u : HFt nu1 nu 5) (u1 : HFt ks1 ks 64) (u2 : HFt kv1 kv 64) : KTm L nu1 ks1 kv1 := by
  refine ⟨h0, by rw [u.1 4 (by decide)]; exact h1, fun i p hp => ?_⟩
  have hi : i < L.length := (List.getElem?_eq_some_iff.mp hp).1
  rw [u1.1 i (by omega), u2.1 i (by omega)]
  exact h2 i p hp
