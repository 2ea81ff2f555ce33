
/-- a passing of a told row, as a number -/
def tF (k : Int32) (lo hi : Int64) : Int32 := if k.toInt < 8 then ((lo >>> ((8 * k).toInt64 &&& 63)) &&& 255).toInt32 else ((hi >>> ((8 * (k - 8)).toInt64 &&& 63)) &&& 255).toInt32
theorem tF_r (k : Int32) (lo hi : Int64) : 0 ≤ (tF k lo hi).toInt ∧ (tF k lo hi).toInt ≤ 255 := by
  have h : ∀ x : Int64, 0 ≤ (x &&& 255).toInt32.toInt ∧ (x &&& 255).toInt32.toInt ≤ 255 := by
    intro x
    have e : (x &&& 255).toInt32.toBitVec = (x.toBitVec &&& 255#64).signExtend 32 := rfl
    have e1 : (x &&& 255).toInt32.toInt = ((x.toBitVec &&& 255#64).signExtend 32).toInt := by show (x &&& 255).toInt32.toBitVec.toInt = _; rw [e]
    rw [e1, BitVec.signExtend_eq_setWidth_of_le _ (by decide)]
    have h2 : (x.toBitVec &&& 255#64).toNat ≤ 255 := by rw [BitVec.toNat_and]; exact Nat.and_le_right
    have h3 : ((x.toBitVec &&& 255#64).setWidth 32).toNat = (x.toBitVec &&& 255#64).toNat := by rw [BitVec.toNat_setWidth]; exact Nat.mod_eq_of_lt (by omega)
    rw [BitVec.toInt_eq_toNat_of_lt (by omega), h3]
    omega
  unfold tF
  split
  · exact h _
  · exact h _
/-- the first j told are people and clocks -/
def TPt (lo hi : Int64) (nu : Nat → Int32) (j : Int32) : Prop := ∀ k : Int32, 0 ≤ k.toInt → k.toInt < j.toInt → ∀ t : Int32, t = tF k lo hi → ((t &&& 15).toInt < (nu 1).toInt) ∧ (0 ≤ (t >>> (4 &&& 31)).toInt ∧ (t >>> (4 &&& 31)).toInt < (nu 0).toInt)
theorem TPt_0 {lo hi : Int64} {nu : Nat → Int32} {j : Int32} (h : j.toInt ≤ 0) : TPt lo hi nu j := fun k h0 h1 => absurd h1 (by omega)
theorem TPt_s {lo hi : Int64} {nu : Nat → Int32} {j m r1 r2 a b : Int32} (h : TPt lo hi nu j) (e1 : r1 = tF j lo hi) (e2 : r2 = tF j lo hi) (ea : a = r1 &&& 15) (eb : b = r2 >>> (4 &&& 31)) (ha : a.toInt < (nu 1).toInt) (hb : 0 ≤ b.toInt ∧ b.toInt < (nu 0).toInt) (hm : m.toInt = j.toInt + 1) : TPt lo hi nu m := by
  intro k h0 h1 t ht
  by_cases c : k.toInt = j.toInt
  · have e : k = j := Int32.toInt_inj.mp c
    rw [e] at ht
    rw [ht, ← e1]
    rw [ea] at ha
    refine ⟨ha, ?_⟩
    rw [e1, ← e2, ← eb]
    exact hb
  · exact h k h0 (by omega) t ht
theorem TPt_a {lo hi : Int64} {nu : Nat → Int32} {j k r a : Int32} (h : TPt lo hi nu j) (h0 : 0 ≤ k.toInt) (h1 : k.toInt < j.toInt) (e : r = tF k lo hi) (ea : a = r &&& 15) : a.toInt < (nu 1).toInt := by
  rw [ea]; exact (h k h0 h1 r e).1
theorem TPt_b {lo hi : Int64} {nu : Nat → Int32} {j k r b : Int32} (h : TPt lo hi nu j) (h0 : 0 ≤ k.toInt) (h1 : k.toInt < j.toInt) (e : r = tF k lo hi) (eb : b = r >>> (4 &&& 31)) : 0 ≤ b.toInt ∧ b.toInt < (nu 0).toInt := by
  rw [eb]; exact (h k h0 h1 r e).2
theorem tF_1 {k a : Int32} {lo hi x z : Int64} {r : Int32} (hk : k.toInt < 8) (ea : a = 8 * k) (ex : x = lo >>> (a.toInt64 &&& 63)) (ez : z = x &&& 255) (er : r = z.toInt32) : r = tF k lo hi := by
  unfold tF
  rw [if_pos hk, er, ez, ex, ea]
theorem tF_2 {k a b : Int32} {lo hi x z : Int64} {r : Int32} (hk : 8 ≤ k.toInt) (eb : b = k - 8) (ea : a = 8 * b) (ex : x = hi >>> (a.toInt64 &&& 63)) (ez : z = x &&& 255) (er : r = z.toInt32) : r = tF k lo hi := by
  unfold tF
  rw [if_neg (by omega), er, ez, ex, ea, eb]
