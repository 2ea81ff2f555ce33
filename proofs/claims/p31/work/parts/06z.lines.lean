
/-! THE READING OF A LINE, as pure functions. K kinds, W worths of the tokens, e the end's place. -/
def pl_num (K W : Nat → Int32) (e : Nat) (lo hi : Int) (S : PS) : PS :=
  if ps_f S ≠ 0 then S else if (K (ps_t S)).toInt ≠ 1 then pp_ref e 1 S else if (W (ps_t S)).toInt < lo ∨ hi < (W (ps_t S)).toInt then pp_ref e 2 S else pp_step S
def pv_num (W : Nat → Int32) (S : PS) : Int := (W (ps_t S)).toInt
def pl_sgn (K W : Nat → Int32) (e : Nat) (hi : Int) (S : PS) : PS := if ps_f S = 0 ∧ (K (ps_t S)).toInt = 8 then pl_num K W e 0 hi (pp_step S) else pl_num K W e 0 hi S
def pv_sgn (K W : Nat → Int32) (S : PS) : Int := if (K (ps_t S)).toInt = 8 then - pv_num W (pp_step S) else pv_num W S
/-- the first of n names that is w -/
def pf_find (nm : Nat → Int) (w : Int) : Nat → Int
  | 0 => -1
  | n + 1 => if pf_find nm w n ≠ -1 then pf_find nm w n else if nm n = w then (n : Int) else -1
def pl_new (K W : Nat → Int32) (e : Nat) (nm : Nat → Int) (n : Nat) (S : PS) : PS :=
  if ps_f S ≠ 0 then S else if (K (ps_t S)).toInt ≠ 2 then pp_ref e 1 S else if pf_find nm (pv_num W S) n ≠ -1 then pp_ref e 3 S else pp_step S
def pl_old (K W : Nat → Int32) (e : Nat) (nm : Nat → Int) (n : Nat) (S : PS) : PS :=
  if ps_f S ≠ 0 then S else if (K (ps_t S)).toInt ≠ 2 then pp_ref e 1 S else if pf_find nm (pv_num W S) n = -1 then pp_ref e 4 S else pp_step S
def pv_old (W : Nat → Int32) (nm : Nat → Int) (n : Nat) (S : PS) : Int := pf_find nm (pv_num W S) n
theorem pf_rng {nm : Nat → Int} {w : Int} : ∀ n, -1 ≤ pf_find nm w n ∧ pf_find nm w n < (n : Int) := by
  intro n
  induction n with
  | zero => simp [pf_find]
  | succ n ih => simp only [pf_find]; split <;> (try split) <;> omega
theorem pf_no {nm : Nat → Int} {w : Int} : ∀ n, (∀ j, j < n → nm j ≠ w) → pf_find nm w n = -1 := by
  intro n
  induction n with
  | zero => intro _; rfl
  | succ n ih =>
    intro h
    simp only [pf_find]
    rw [ih (fun j hj => h j (by omega)), if_neg (by omega), if_neg (h n (by omega))]
theorem pf_yes {nm : Nat → Int} {w : Int} {i : Nat} (h0 : ∀ j, j < i → nm j ≠ w) (h1 : nm i = w) : ∀ d, pf_find nm w (i + 1 + d) = (i : Int) := by
  intro d
  induction d with
  | zero => simp only [pf_find, Nat.add_zero]; rw [pf_no i h0, if_neg (by omega), if_pos h1]
  | succ d ih => rw [← Nat.add_assoc]; simp only [pf_find]; rw [ih, if_pos (by omega)]
theorem pf_congr {nm nm1 : Nat → Int} {w : Int} : ∀ n, (∀ j, j < n → nm j = nm1 j) → pf_find nm w n = pf_find nm1 w n := by
  intro n
  induction n with
  | zero => intro _; rfl
  | succ n ih =>
    intro h
    simp only [pf_find]
    rw [ih (fun j hj => h j (by omega)), h n (by omega)]
/-! what may stand behind a clock or a person: (state, gains told, rough told, if told, gain, rough, from, to) -/
abbrev MS := PS × (Bool × Bool × Bool) × Int × Int × Nat × Nat
def pm_more (K W : Nat → Int32) (e : Nat) (isP : Bool) : Nat → MS → MS
  | 0, M => M
  | n + 1, (S, (a, b, c), g, r, f, t) =>
    if ps_f S ≠ 0 then (S, (a, b, c), g, r, f, t) else
    if (K (ps_t S)).toInt = 24 then (if a then (pp_ref e 3 S, (a, b, c), g, r, f, t) else pm_more K W e isP n (pl_sgn K W e 600 (pp_step S), (true, b, c), pv_sgn K W (pp_step S), r, f, t)) else
    if (K (ps_t S)).toInt = 25 then (if b then (pp_ref e 3 S, (a, b, c), g, r, f, t) else pm_more K W e isP n (pl_num K W e 0 36000 (pp_step S), (a, true, c), g, pv_num W (pp_step S), f, t)) else
    if (K (ps_t S)).toInt = 26 ∧ isP = true then (if c then (pp_ref e 3 S, (a, b, c), g, r, f, t) else pm_more K W e isP n (pp_either K W e (pp_G K W e 8) (pp_step S), (a, b, true), g, r, (ps_L S).length, (ps_L (pp_either K W e (pp_G K W e 8) (pp_step S))).length)) else
    (S, (a, b, c), g, r, f, t)
/-! what is told: rows by number, see du -/
abbrev DD := Nat → Nat → Int
def du (D : DD) (r i : Nat) (v : Int) : DD := fun a b => if a = r ∧ b = i then v else D a b
theorem du_at {D : DD} {r i : Nat} {v : Int} : du D r i v r i = v := by unfold du; rw [if_pos ⟨rfl, rfl⟩]
theorem du_ne {D : DD} {r i a b : Nat} {v : Int} (h : a ≠ r ∨ b ≠ i) : du D r i v a b = D a b := by unfold du; rw [if_neg (fun z => by rcases h with h | h; exact h z.1; exact h z.2)]
/-! the class's readers of numbers and names -/
def NMx (K W PL : Nat → Int32) (e : Nat) (lo hi : Int) (a fl pl a1 fl1 pl1 r : Int32) : Prop :=
  ((K a.toNatClampNeg).toInt = 1 ∧ lo ≤ (W a.toNatClampNeg).toInt ∧ (W a.toNatClampNeg).toInt ≤ hi ∧ r = W a.toNatClampNeg ∧ fl1 = fl ∧ pl1 = pl ∧ STx e a a1) ∨
  ((K a.toNatClampNeg).toInt = 1 ∧ ((W a.toNatClampNeg).toInt < lo ∨ hi < (W a.toNatClampNeg).toInt) ∧ r.toInt = 0 ∧ RFx PL e 2 a fl pl a1 fl1 pl1) ∨
  ((K a.toNatClampNeg).toInt ≠ 1 ∧ r.toInt = 0 ∧ RFx PL e 1 a fl pl a1 fl1 pl1)
theorem pr_no {e : Nat} {k : Int} {S : PS} (h : ps_f S ≠ 0) : pp_ref e k S = S := by unfold pp_ref; rw [if_neg h]
theorem rx_num {K W PL : Nat → Int32} {e : Nat} {S : PS} {lo hi : Int} {a fl pl kn rk a1 fl1 pl1 r : Int32} {fk fn : Nat → Int32} (hK : (K e).toInt = 0) (h : RX PL e S a fl pl kn rk fk fn) (n : NMx K W PL e lo hi a fl pl a1 fl1 pl1 r) : RX PL e (pl_num K W e lo hi S) a1 fl1 pl1 kn rk fk fn ∧ (ps_f (pl_num K W e lo hi S) = 0 → r.toInt = pv_num W S) := by
  have hn := rx_n h
  rcases n with ⟨n1, n2, n3, n4, n5, n6, n7⟩ | ⟨n1, n2, n3, n4⟩ | ⟨n1, n2, n3⟩
  · have ho := rx_ok hK h (by omega)
    have hs := rx_step hK h (by omega) n7
    rw [hn] at n1 n2 n3 n4
    have e1 : pl_num K W e lo hi S = pp_step S := by unfold pl_num; rw [if_neg (fun z => z ho.1), if_neg (fun z => z n1), if_neg (by omega)]
    rw [e1, n5, n6]
    exact ⟨hs, fun _ => by rw [n4]; rfl⟩
  · have ho := rx_ok hK h (by omega)
    have hs := rx_ref (kn1 := kn) (rk1 := rk) (fk1 := fk) (fn1 := fn) h (by decide) n4
    rw [hn] at n1 n2
    have e1 : pl_num K W e lo hi S = pp_ref e 2 S := by unfold pl_num; rw [if_neg (fun z => z ho.1), if_neg (fun z => z n1), if_pos n2]
    rw [e1]
    exact ⟨hs, fun z => absurd z (pp_f_ref (by decide))⟩
  · have hs := rx_ref (kn1 := kn) (rk1 := rk) (fk1 := fk) (fn1 := fn) h (by decide) n3
    rw [hn] at n1
    have e1 : pl_num K W e lo hi S = pp_ref e 1 S := by
      unfold pl_num
      by_cases z : ps_f S = 0
      · rw [if_neg (fun y => y z), if_pos n1]
      · rw [if_pos z, pr_no z]
    rw [e1]
    exact ⟨hs, fun z => absurd z (pp_f_ref (by decide))⟩
def SNx (K W PL : Nat → Int32) (e : Nat) (hi : Int) (a fl pl a1 fl1 pl1 r : Int32) : Prop :=
  ((K a.toNatClampNeg).toInt = 8 ∧ ∃ b q : Int32, STx e a b ∧ NMx K W PL e 0 hi b fl pl a1 fl1 pl1 q ∧ r.toInt = - q.toInt) ∨
  ((K a.toNatClampNeg).toInt ≠ 8 ∧ NMx K W PL e 0 hi a fl pl a1 fl1 pl1 r)
theorem rx_sgn {K W PL : Nat → Int32} {e : Nat} {S : PS} {hi : Int} {a fl pl kn rk a1 fl1 pl1 r : Int32} {fk fn : Nat → Int32} (hK : (K e).toInt = 0) (h : RX PL e S a fl pl kn rk fk fn) (n : SNx K W PL e hi a fl pl a1 fl1 pl1 r) : RX PL e (pl_sgn K W e hi S) a1 fl1 pl1 kn rk fk fn ∧ (ps_f (pl_sgn K W e hi S) = 0 → r.toInt = pv_sgn K W S) := by
  have hn := rx_n h
  rcases n with ⟨n1, b, q, n2, n3, n4⟩ | ⟨n1, n2⟩
  · have ho := rx_ok hK h (by omega)
    have hs := rx_step hK h (by omega) n2
    have hm := rx_num hK hs n3
    rw [hn] at n1
    have e1 : pl_sgn K W e hi S = pl_num K W e 0 hi (pp_step S) := by unfold pl_sgn; rw [if_pos ⟨ho.1, n1⟩]
    rw [e1]
    refine ⟨hm.1, fun z => ?_⟩
    unfold pv_sgn
    rw [if_pos n1, n4, hm.2 z]
  · have hm := rx_num hK h n2
    rw [hn] at n1
    have e1 : pl_sgn K W e hi S = pl_num K W e 0 hi S := by unfold pl_sgn; rw [if_neg (fun z => n1 z.2)]
    rw [e1]
    refine ⟨hm.1, fun z => ?_⟩
    unfold pv_sgn
    rw [if_neg n1]
    exact hm.2 z
def nx (f : Nat → Int32) (v : Int32) (j : Nat) : Int := (f (v.toInt.toNat + j)).toInt
def FNx (f : Nat → Int32) (vf vw i : Int32) : Prop := 0 ≤ i.toInt ∧ ∀ j : Nat, (j : Int) < i.toInt → nx f vf j ≠ vw.toInt
theorem FNx_0 {f : Nat → Int32} {vf vw : Int32} : FNx f vf vw (0 : Int32) := ⟨by decide, fun j h => absurd h (by have := (by decide : (0 : Int32).toInt = 0); omega)⟩
theorem FNx_s {f : Nat → Int32} {vf vw i i1 y z : Int32} (h : FNx f vf vw i) (h0 : 0 ≤ vf.toInt) (hy : y.toInt = vf.toInt + i.toInt) (ez : z = f y.toNatClampNeg) (hn : z.toInt ≠ vw.toInt) (hi : i1.toInt = i.toInt + 1) : FNx f vf vw i1 := by
  have h1 := h.1
  refine ⟨by omega, fun j hj => ?_⟩
  by_cases q : (j : Int) < i.toInt
  · exact h.2 j q
  · unfold nx
    rw [show vf.toInt.toNat + j = y.toNatClampNeg by rw [tn_c]; omega, ← ez]; exact hn
theorem FNx_n {f : Nat → Int32} {vf vn vw i : Int32} (h : FNx f vf vw i) (hi : vn.toInt ≤ i.toInt) : (-1 : Int32).toInt = pf_find (nx f vf) vw.toInt vn.toInt.toNat := by
  have h1 := h.1
  rw [pf_no _ (fun j hj => h.2 j (by omega))]; decide
theorem FNx_y {f : Nat → Int32} {vf vn vw i y z : Int32} (h : FNx f vf vw i) (h0 : 0 ≤ vf.toInt) (hi : i.toInt < vn.toInt) (hy : y.toInt = vf.toInt + i.toInt) (ez : z = f y.toNatClampNeg) (hn : z.toInt = vw.toInt) : i.toInt = pf_find (nx f vf) vw.toInt vn.toInt.toNat := by
  have h1 := h.1
  have g := pf_yes (nm := nx f vf) (w := vw.toInt) (i := i.toInt.toNat) (fun j hj => h.2 j (by omega)) (by unfold nx; rw [show vf.toInt.toNat + i.toInt.toNat = y.toNatClampNeg by rw [tn_c]; omega, ← ez]; exact hn) (vn.toInt.toNat - (i.toInt.toNat + 1))
  rw [show i.toInt.toNat + 1 + (vn.toInt.toNat - (i.toInt.toNat + 1)) = vn.toInt.toNat by omega] at g
  rw [g]; omega
def OLx (K W PL : Nat → Int32) (e : Nat) (f : Nat → Int32) (vf vn a fl pl a1 fl1 pl1 r : Int32) : Prop :=
  ((K a.toNatClampNeg).toInt = 2 ∧ r.toInt = pf_find (nx f vf) (W a.toNatClampNeg).toInt vn.toInt.toNat ∧ r.toInt ≠ -1 ∧ fl1 = fl ∧ pl1 = pl ∧ STx e a a1) ∨
  ((K a.toNatClampNeg).toInt = 2 ∧ pf_find (nx f vf) (W a.toNatClampNeg).toInt vn.toInt.toNat = -1 ∧ RFx PL e 4 a fl pl a1 fl1 pl1) ∨
  ((K a.toNatClampNeg).toInt ≠ 2 ∧ RFx PL e 1 a fl pl a1 fl1 pl1)
theorem rx_old {K W PL : Nat → Int32} {e : Nat} {S : PS} {f : Nat → Int32} {nm : Nat → Int} {vf vn a fl pl kn rk a1 fl1 pl1 r : Int32} {fk fn : Nat → Int32} (hK : (K e).toInt = 0) (h : RX PL e S a fl pl kn rk fk fn) (hm : ps_f S = 0 → ∀ j : Nat, (j : Int) < vn.toInt → nx f vf j = nm j) (n : OLx K W PL e f vf vn a fl pl a1 fl1 pl1 r) : RX PL e (pl_old K W e nm vn.toInt.toNat S) a1 fl1 pl1 kn rk fk fn ∧ (ps_f (pl_old K W e nm vn.toInt.toNat S) = 0 → r.toInt = pv_old W nm vn.toInt.toNat S) := by
  have hn := rx_n h
  have hc : ps_f S = 0 → ∀ w, pf_find (nx f vf) w vn.toInt.toNat = pf_find nm w vn.toInt.toNat := fun z w => pf_congr _ (fun j hj => hm z j (by omega))
  rcases n with ⟨n1, n2, n3, n4, n5, n6⟩ | ⟨n1, n2, n3⟩ | ⟨n1, n2⟩
  · have ho := rx_ok hK h (by omega)
    have hs := rx_step hK h (by omega) n6
    rw [hn] at n1 n2
    rw [hc ho.1] at n2
    have e1 : pl_old K W e nm vn.toInt.toNat S = pp_step S := by unfold pl_old pv_num; rw [if_neg (fun z => z ho.1), if_neg (fun z => z n1), if_neg (fun z => n3 (n2.trans z))]
    rw [e1, n4, n5]
    exact ⟨hs, fun _ => n2⟩
  · have ho := rx_ok hK h (by omega)
    have hs := rx_ref (kn1 := kn) (rk1 := rk) (fk1 := fk) (fn1 := fn) h (by decide) n3
    rw [hn] at n1 n2
    rw [hc ho.1] at n2
    have e1 : pl_old K W e nm vn.toInt.toNat S = pp_ref e 4 S := by unfold pl_old pv_num; rw [if_neg (fun z => z ho.1), if_neg (fun z => z n1), if_pos n2]
    rw [e1]
    exact ⟨hs, fun z => absurd z (pp_f_ref (by decide))⟩
  · have hs := rx_ref (kn1 := kn) (rk1 := rk) (fk1 := fk) (fn1 := fn) h (by decide) n2
    rw [hn] at n1
    have e1 : pl_old K W e nm vn.toInt.toNat S = pp_ref e 1 S := by
      unfold pl_old
      by_cases z : ps_f S = 0
      · rw [if_neg (fun y => y z), if_pos n1]
      · rw [if_pos z, pr_no z]
    rw [e1]
    exact ⟨hs, fun z => absurd z (pp_f_ref (by decide))⟩
def NEx (K W PL : Nat → Int32) (e : Nat) (f f1 : Nat → Int32) (vf vn a fl pl a1 fl1 pl1 : Int32) : Prop :=
  ((K a.toNatClampNeg).toInt = 2 ∧ pf_find (nx f vf) (W a.toNatClampNeg).toInt vn.toInt.toNat = -1 ∧ (∃ y : Int32, y.toInt = vf.toInt + vn.toInt ∧ upd f y.toNatClampNeg (W a.toNatClampNeg) = f1) ∧ fl1 = fl ∧ pl1 = pl ∧ STx e a a1) ∨
  ((K a.toNatClampNeg).toInt = 2 ∧ pf_find (nx f vf) (W a.toNatClampNeg).toInt vn.toInt.toNat ≠ -1 ∧ RFx PL e 3 a fl pl a1 fl1 pl1) ∨
  ((K a.toNatClampNeg).toInt ≠ 2 ∧ RFx PL e 1 a fl pl a1 fl1 pl1)
/-- an element is set at a place that is told as a number -/
def UYx (f g : Nat → Int32) (a : Int) (x : Int32) : Prop := ∃ y : Int32, y.toInt = a ∧ upd f y.toNatClampNeg x = g
theorem UYx_i {f g : Nat → Int32} {a : Int} {x y : Int32} (h : y.toInt = a) (e : upd f y.toNatClampNeg x = g) : UYx f g a x := ⟨y, h, e⟩
theorem rx_new {K W PL : Nat → Int32} {e : Nat} {S : PS} {f f1 : Nat → Int32} {nm : Nat → Int} {vf vn a fl pl kn rk a1 fl1 pl1 : Int32} {fk fn : Nat → Int32} (hK : (K e).toInt = 0) (h : RX PL e S a fl pl kn rk fk fn) (hm : ps_f S = 0 → ∀ j : Nat, (j : Int) < vn.toInt → nx f vf j = nm j) (n : NEx K W PL e f f1 vf vn a fl pl a1 fl1 pl1) : RX PL e (pl_new K W e nm vn.toInt.toNat S) a1 fl1 pl1 kn rk fk fn ∧ (ps_f (pl_new K W e nm vn.toInt.toNat S) = 0 → UYx f f1 (vf.toInt + vn.toInt) (W (ps_t S))) := by
  have hn := rx_n h
  have hc : ps_f S = 0 → ∀ w, pf_find (nx f vf) w vn.toInt.toNat = pf_find nm w vn.toInt.toNat := fun z w => pf_congr _ (fun j hj => hm z j (by omega))
  rcases n with ⟨n1, n2, n3, n4, n5, n6⟩ | ⟨n1, n2, n3⟩ | ⟨n1, n2⟩
  · have ho := rx_ok hK h (by omega)
    have hs := rx_step hK h (by omega) n6
    rw [hn] at n1 n2 n3
    rw [hc ho.1] at n2
    have e1 : pl_new K W e nm vn.toInt.toNat S = pp_step S := by unfold pl_new pv_num; rw [if_neg (fun z => z ho.1), if_neg (fun z => z n1), if_neg (fun z => z n2)]
    rw [e1, n4, n5]
    exact ⟨hs, fun _ => n3⟩
  · have ho := rx_ok hK h (by omega)
    have hs := rx_ref (kn1 := kn) (rk1 := rk) (fk1 := fk) (fn1 := fn) h (by decide) n3
    rw [hn] at n1 n2
    rw [hc ho.1] at n2
    have e1 : pl_new K W e nm vn.toInt.toNat S = pp_ref e 3 S := by unfold pl_new pv_num; rw [if_neg (fun z => z ho.1), if_neg (fun z => z n1), if_pos n2]
    rw [e1]
    exact ⟨hs, fun z => absurd z (pp_f_ref (by decide))⟩
  · have hs := rx_ref (kn1 := kn) (rk1 := rk) (fk1 := fk) (fn1 := fn) h (by decide) n2
    rw [hn] at n1
    have e1 : pl_new K W e nm vn.toInt.toNat S = pp_ref e 1 S := by
      unfold pl_new
      by_cases z : ps_f S = 0
      · rw [if_neg (fun y => y z), if_pos n1]
      · rw [if_pos z, pr_no z]
    rw [e1]
    exact ⟨hs, fun z => absurd z (pp_f_ref (by decide))⟩
/-! THE READING OF A TEXT, as a pure function of its tokens. Rows of DD: 0 clockName 1 clockOff 2 clockGain 3 clockRough 4 personName 5 personOff 6 personGain 7 personRough 8 custom 9 customA 10 customB 11 ruleFrom 12 ruleTo 13 roundOf 14 roundAt 15 roundHour 16 gunAt 17 gunHour; 18: clocks, people, rounds, guns, lines -/
def pl_cus (K W : Nat → Int32) (e : Nat) (S : PS) : PS × Int × Int × Int :=
  if ps_f S ≠ 0 then (S, 0, 0, 0) else
  if (K (ps_t S)).toInt < 27 ∨ 31 < (K (ps_t S)).toInt then (pp_ref e 1 S, 0, 0, 0) else
  if (K (ps_t S)).toInt = 30 then (pl_num K W e (pv_num W (pp_step S)) 60 (pl_num K W e 1 60 (pp_step S)), 3, pv_num W (pp_step S), pv_num W (pl_num K W e 1 60 (pp_step S))) else
  if (K (ps_t S)).toInt = 31 then (pl_num K W e 1 5 (pp_step S), 4, pv_num W (pp_step S), 0) else
  (pp_step S, (K (ps_t S)).toInt - 27, 0, 0)
abbrev LZ := PS × DD
def pn_ (D : DD) (j : Nat) : Nat := (D 18 j).toNat
def m0 (S : PS) : MS := (S, (false, false, false), 0, 0, (ps_L S).length, (ps_L S).length)
def pl_clock (K W : Nat → Int32) (e : Nat) (A : LZ) : LZ :=
  let n := pn_ A.2 0
  if n = 5 then (pp_ref e 2 A.1, A.2) else
  let S1 := pp_step A.1
  let S2 := pl_new K W e (A.2 0) n S1
  let S3 := pl_sgn K W e 36000 S2
  let M := pm_more K W e false 4 (m0 S3)
  (M.1, du (du (du (du (du A.2 0 n (pv_num W S1)) 1 n (pv_sgn K W S2)) 2 n M.2.2.1) 3 n M.2.2.2.1) 18 0 (A.2 18 0 + 1))
def pl_person (K W : Nat → Int32) (e : Nat) (A : LZ) : LZ :=
  let n := pn_ A.2 1
  if n = 5 then (pp_ref e 2 A.1, A.2) else
  let S1 := pp_step A.1
  let S2 := pl_new K W e (A.2 4) n S1
  let S3 := pl_sgn K W e 36000 S2
  let C := pl_cus K W e S3
  let M := pm_more K W e true 4 (m0 C.1)
  (M.1, du (du (du (du (du (du (du (du (du (du A.2 4 n (pv_num W S1)) 5 n (pv_sgn K W S2)) 6 n M.2.2.1) 7 n M.2.2.2.1) 8 n C.2.1) 9 n C.2.2.1) 10 n C.2.2.2) 11 n M.2.2.2.2.1) 12 n M.2.2.2.2.2) 18 1 (A.2 18 1 + 1))
def pl_round (K W : Nat → Int32) (e : Nat) (A : LZ) : LZ :=
  let n := pn_ A.2 2
  if n = 12 then (pp_ref e 2 A.1, A.2) else
  let S1 := pp_step A.1
  let S2 := pl_old K W e (A.2 4) (pn_ A.2 1) S1
  let S3 := pl_old K W e (A.2 0) (pn_ A.2 0) S2
  let S4 := pl_num K W e 0 167 S3
  (S4, du (du (du (du A.2 13 n (pv_old W (A.2 4) (pn_ A.2 1) S1)) 14 n (pv_old W (A.2 0) (pn_ A.2 0) S2)) 15 n (pv_num W S3)) 18 2 (A.2 18 2 + 1))
def pl_gun (K W : Nat → Int32) (e : Nat) (A : LZ) : LZ :=
  let n := pn_ A.2 3
  if n = 3 then (pp_ref e 2 A.1, A.2) else
  let S1 := pp_step A.1
  let S2 := pl_old K W e (A.2 0) (pn_ A.2 0) S1
  let S3 := pl_num K W e 0 167 S2
  (S3, du (du (du A.2 16 n (pv_old W (A.2 0) (pn_ A.2 0) S1)) 17 n (pv_num W S2)) 18 3 (A.2 18 3 + 1))
def pl_kind (K W : Nat → Int32) (e : Nat) (A : LZ) : LZ :=
  if (K (ps_t A.1)).toInt = 20 then pl_clock K W e A else if (K (ps_t A.1)).toInt = 21 then pl_person K W e A else if (K (ps_t A.1)).toInt = 22 then pl_round K W e A else if (K (ps_t A.1)).toInt = 23 then pl_gun K W e A else (pp_ref e 1 A.1, A.2)
def pl_line (K W : Nat → Int32) (e : Nat) (A : LZ) : LZ :=
  (pp_expect K e 4 (pl_kind K W e A).1, du (pl_kind K W e A).2 18 4 ((pl_kind K W e A).2 18 4 + 1))
def pl_text (K W : Nat → Int32) (e : Nat) : Nat → LZ → LZ
  | 0, A => A
  | n + 1, A => if ps_f A.1 = 0 ∧ (K (ps_t A.1)).toInt ≠ 0 then pl_text K W e n (pl_line K W e A) else A
def ps0 : PS := (0, 0, [], 0, 0)
def dd0 : DD := fun _ _ => 0
/-! the class's readers of customs and of what may stand behind -/
theorem pl_num_f0 {K W : Nat → Int32} {e : Nat} {lo hi : Int} {S : PS} (h : ps_f (pl_num K W e lo hi S) = 0) : ps_f S = 0 := by
  by_cases z : ps_f S = 0
  · exact z
  · unfold pl_num at h; rw [if_pos z] at h; exact h
theorem pl_num_lo {K W : Nat → Int32} {e : Nat} {lo lo' hi : Int} {S : PS} (h : ps_f S = 0 → lo = lo') : pl_num K W e lo hi S = pl_num K W e lo' hi S := by
  by_cases z : ps_f S = 0
  · rw [h z]
  · unfold pl_num; rw [if_pos z, if_pos z]
theorem pl_cus_bad {K W : Nat → Int32} {e : Nat} {S : PS} (h : (K (ps_t S)).toInt < 27 ∨ 31 < (K (ps_t S)).toInt) : (pl_cus K W e S).1 = pp_ref e 1 S := by
  unfold pl_cus
  by_cases z : ps_f S = 0
  · rw [if_neg (fun y => y z), if_pos h]
  · rw [if_pos z, pr_no z]
theorem pl_cus_lo {K W : Nat → Int32} {e : Nat} {S : PS} (h0 : ps_f S = 0) (h1 : 27 ≤ (K (ps_t S)).toInt) (h2 : (K (ps_t S)).toInt ≤ 29) : pl_cus K W e S = (pp_step S, (K (ps_t S)).toInt - 27, 0, 0) := by
  unfold pl_cus
  rw [if_neg (fun y => y h0), if_neg (by omega), if_neg (by omega), if_neg (by omega)]
theorem pl_cus_30 {K W : Nat → Int32} {e : Nat} {S : PS} (h0 : ps_f S = 0) (h1 : (K (ps_t S)).toInt = 30) : pl_cus K W e S = (pl_num K W e (pv_num W (pp_step S)) 60 (pl_num K W e 1 60 (pp_step S)), 3, pv_num W (pp_step S), pv_num W (pl_num K W e 1 60 (pp_step S))) := by
  unfold pl_cus
  rw [if_neg (fun y => y h0), if_neg (by omega), if_pos h1]
theorem pl_cus_31 {K W : Nat → Int32} {e : Nat} {S : PS} (h0 : ps_f S = 0) (h1 : (K (ps_t S)).toInt = 31) : pl_cus K W e S = (pl_num K W e 1 5 (pp_step S), 4, pv_num W (pp_step S), 0) := by
  unfold pl_cus
  rw [if_neg (fun y => y h0), if_neg (by omega), if_neg (by omega), if_pos h1]
/-- one element of a row is another -/
def UPx (f g : Nat → Int32) (i : Nat) (v : Int) : Prop := (g i).toInt = v ∧ ∀ j, j ≠ i → g j = f j
theorem UPx_u {f g : Nat → Int32} {i x : Int32} {v : Int} (e : upd f i.toNatClampNeg x = g) (h : x.toInt = v) : UPx f g i.toNatClampNeg v := by
  subst e
  exact ⟨by rw [ud_at]; exact h, fun j hj => ud_ne hj⟩
theorem UPx_same {f : Nat → Int32} {i : Nat} {v : Int} (h : (f i).toInt = v) : UPx f f i v := ⟨h, fun _ _ => rfl⟩
theorem UPx_uu {f g h : Nat → Int32} {i : Nat} {v : Int} (a : ∀ j, j ≠ i → g j = f j) (b : UPx g h i v) : UPx f h i v := ⟨b.1, fun j hj => (b.2 j hj).trans (a j hj)⟩
/-- what was told behind so far, as bits -/
def sn_ (a b c : Bool) : Int32 := (if a then 1 else 0) + (if b then 2 else 0) + (if c then 4 else 0)
theorem sn_24 : ∀ a b c, ((sn_ a b c &&& (1 <<< (((24 : Int32) - 24) &&& 31))) = 0 ↔ a = false) ∧ (sn_ a b c ||| (1 <<< (((24 : Int32) - 24) &&& 31))) = sn_ true b c := by decide
theorem sn_25 : ∀ a b c, ((sn_ a b c &&& (1 <<< (((25 : Int32) - 24) &&& 31))) = 0 ↔ b = false) ∧ (sn_ a b c ||| (1 <<< (((25 : Int32) - 24) &&& 31))) = sn_ a true c := by decide
theorem sn_26 : ∀ a b c, ((sn_ a b c &&& (1 <<< (((26 : Int32) - 24) &&& 31))) = 0 ↔ c = false) ∧ (sn_ a b c ||| (1 <<< (((26 : Int32) - 24) &&& 31))) = sn_ a b true := by decide
theorem pm_exit {K W : Nat → Int32} {e : Nat} {P : Bool} {n : Nat} {S : PS} {a b c : Bool} {g r : Int} {f t : Nat} (h : ps_f S ≠ 0 ∨ ((K (ps_t S)).toInt ≠ 24 ∧ (K (ps_t S)).toInt ≠ 25 ∧ ((K (ps_t S)).toInt ≠ 26 ∨ P = false))) : pm_more K W e P n (S, (a, b, c), g, r, f, t) = (S, (a, b, c), g, r, f, t) := by
  cases n with
  | zero => rfl
  | succ n =>
    unfold pm_more
    by_cases z : ps_f S = 0
    · rcases h with h | ⟨h1, h2, h3⟩
      · exact absurd z h
      · rw [if_neg (fun y => y z), if_neg h1, if_neg h2, if_neg (fun y => by rcases h3 with h3 | h3; exact h3 y.1; rw [h3] at y; exact absurd y.2 (by decide))]
    · rw [if_pos z]
theorem pm_24 {K W : Nat → Int32} {e : Nat} {P : Bool} {n : Nat} {S : PS} {a b c : Bool} {g r : Int} {f t : Nat} (h0 : ps_f S = 0) (h : (K (ps_t S)).toInt = 24) (ha : a = false) : pm_more K W e P (n + 1) (S, (a, b, c), g, r, f, t) = pm_more K W e P n (pl_sgn K W e 600 (pp_step S), (true, b, c), pv_sgn K W (pp_step S), r, f, t) := by
  rw [pm_more, if_neg (fun y => y h0), if_pos h, ha, if_neg (by decide)]
theorem pm_25 {K W : Nat → Int32} {e : Nat} {P : Bool} {n : Nat} {S : PS} {a b c : Bool} {g r : Int} {f t : Nat} (h0 : ps_f S = 0) (h : (K (ps_t S)).toInt = 25) (ha : b = false) : pm_more K W e P (n + 1) (S, (a, b, c), g, r, f, t) = pm_more K W e P n (pl_num K W e 0 36000 (pp_step S), (a, true, c), g, pv_num W (pp_step S), f, t) := by
  rw [pm_more, if_neg (fun y => y h0), if_neg (by omega), if_pos h, ha, if_neg (by decide)]
theorem pm_26 {K W : Nat → Int32} {e : Nat} {P : Bool} {n : Nat} {S : PS} {a b c : Bool} {g r : Int} {f t : Nat} (h0 : ps_f S = 0) (h : (K (ps_t S)).toInt = 26) (hP : P = true) (ha : c = false) : pm_more K W e P (n + 1) (S, (a, b, c), g, r, f, t) = pm_more K W e P n (pp_either K W e (pp_G K W e 8) (pp_step S), (a, b, true), g, r, (ps_L S).length, (ps_L (pp_either K W e (pp_G K W e 8) (pp_step S))).length) := by
  rw [pm_more, if_neg (fun y => y h0), if_neg (by omega), if_neg (by omega), if_pos ⟨h, hP⟩, ha, if_neg (by decide)]
theorem pm_rep {K W : Nat → Int32} {e : Nat} {P : Bool} {n : Nat} {S : PS} {a b c : Bool} {g r : Int} {f t : Nat} (h0 : ps_f S = 0) (h : ((K (ps_t S)).toInt = 24 ∧ a = true) ∨ ((K (ps_t S)).toInt = 25 ∧ b = true) ∨ ((K (ps_t S)).toInt = 26 ∧ P = true ∧ c = true)) : pm_more K W e P (n + 1) (S, (a, b, c), g, r, f, t) = (pp_ref e 3 S, (a, b, c), g, r, f, t) := by
  rcases h with ⟨h, ha⟩ | ⟨h, ha⟩ | ⟨h, hP, ha⟩
  · rw [pm_more, if_neg (fun y => y h0), if_pos h, ha, if_pos rfl]
  · rw [pm_more, if_neg (fun y => y h0), if_neg (by omega), if_pos h, ha, if_pos rfl]
  · rw [pm_more, if_neg (fun y => y h0), if_neg (by omega), if_neg (by omega), if_pos ⟨h, hP⟩, ha, if_pos rfl]
/-- rows behind a clock or a person, as far as they are told -/
def MVx (S : PS) (fg gg fr gr ff gf fu gu : Nat → Int32) (s : Nat) (vp : Int32) (g r : Int) (f t : Nat) (c : Bool) : Prop := ps_f S = 0 →
  UPx fg gg s g ∧ UPx fr gr s r ∧ (∀ j, (vp.toInt < 0 ∨ j ≠ vp.toNatClampNeg) → gf j = ff j ∧ gu j = fu j) ∧
  (0 ≤ vp.toInt → (c = true ∧ (gf vp.toNatClampNeg).toInt = (f : Int) ∧ (gu vp.toNatClampNeg).toInt = (t : Int)) ∨ (c = false ∧ f = t ∧ (gf vp.toNatClampNeg).toInt = 0 ∧ (gu vp.toNatClampNeg).toInt = 0))
theorem mv_0 {S : PS} {fg fr ff fu : Nat → Int32} {s : Nat} {vp : Int32} {n : Nat} (hz : ps_f S = 0 → (fg s).toInt = 0 ∧ (fr s).toInt = 0 ∧ (0 ≤ vp.toInt → (ff vp.toNatClampNeg).toInt = 0 ∧ (fu vp.toNatClampNeg).toInt = 0)) : MVx S fg fg fr fr ff ff fu fu s vp 0 0 n n false := fun z =>
  ⟨UPx_same (hz z).1, UPx_same (hz z).2.1, fun _ _ => ⟨rfl, rfl⟩, fun h => Or.inr ⟨rfl, rfl, (hz z).2.2 h⟩⟩
theorem mv_24 {S S1 : PS} {fg gg g2 fr gr ff gf fu gu : Nat → Int32} {v vp x : Int32} {g r : Int} {f t : Nat} {c : Bool} (h : MVx S fg gg fr gr ff gf fu gu v.toNatClampNeg vp g r f t c) (h0 : ps_f S = 0) (e : upd gg v.toNatClampNeg x = g2) {y : Int} (hx : ps_f S1 = 0 → x.toInt = y) : MVx S1 fg g2 fr gr ff gf fu gu v.toNatClampNeg vp y r f t c := fun z =>
  ⟨UPx_uu (h h0).1.2 (UPx_u e (hx z)), (h h0).2⟩
theorem mv_25 {S S1 : PS} {fg gg fr gr g2 ff gf fu gu : Nat → Int32} {v vp x : Int32} {g r : Int} {f t : Nat} {c : Bool} (h : MVx S fg gg fr gr ff gf fu gu v.toNatClampNeg vp g r f t c) (h0 : ps_f S = 0) (e : upd gr v.toNatClampNeg x = g2) {y : Int} (hx : ps_f S1 = 0 → x.toInt = y) : MVx S1 fg gg fr g2 ff gf fu gu v.toNatClampNeg vp g y f t c := fun z =>
  ⟨(h h0).1, UPx_uu (h h0).2.1.2 (UPx_u e (hx z)), (h h0).2.2⟩
theorem mv_26 {S S1 : PS} {fg gg fr gr ff gf g2 fu gu g3 : Nat → Int32} {s : Nat} {vp x y : Int32} {g r : Int} {f t f1 t1 : Nat} {c : Bool} (h : MVx S fg gg fr gr ff gf fu gu s vp g r f t c) (h0 : ps_f S = 0) (e1 : upd gf vp.toNatClampNeg x = g2) (e2 : upd gu vp.toNatClampNeg y = g3) (hx : x.toInt = (f1 : Int)) (hy : ps_f S1 = 0 → y.toInt = (t1 : Int)) (hv : 0 ≤ vp.toInt) : MVx S1 fg gg fr gr ff g2 fu g3 s vp g r f1 t1 true := fun z => by
  obtain ⟨a1, a2, a3, a4⟩ := h h0
  subst e1 e2
  refine ⟨a1, a2, fun j hj => ?_, fun _ => Or.inl ⟨rfl, by rw [ud_at]; exact hx, by rw [ud_at]; exact hy z⟩⟩
  have hj2 : j ≠ vp.toNatClampNeg := by rcases hj with hj | hj; omega; exact hj
  rw [ud_ne hj2, ud_ne hj2]
  exact a3 j hj
/-! the class's lines -/
theorem gun_full {K W : Nat → Int32} {e : Nat} {S : PS} {D : DD} (h : pn_ D 3 = 3) : pl_gun K W e (S, D) = (pp_ref e 2 S, D) := by unfold pl_gun; simp only [h, if_true]
theorem gun_ok {K W : Nat → Int32} {e : Nat} {S : PS} {D : DD} (h : pn_ D 3 ≠ 3) : pl_gun K W e (S, D) = (pl_num K W e 0 167 (pl_old K W e (D 0) (pn_ D 0) (pp_step S)), du (du (du D 16 (pn_ D 3) (pv_old W (D 0) (pn_ D 0) (pp_step S))) 17 (pn_ D 3) (pv_num W (pl_old K W e (D 0) (pn_ D 0) (pp_step S)))) 18 3 (D 18 3 + 1)) := by unfold pl_gun; simp only [h, if_false]
theorem rnd_full {K W : Nat → Int32} {e : Nat} {S : PS} {D : DD} (h : pn_ D 2 = 12) : pl_round K W e (S, D) = (pp_ref e 2 S, D) := by unfold pl_round; simp only [h, if_true]
theorem rnd_ok {K W : Nat → Int32} {e : Nat} {S : PS} {D : DD} (h : pn_ D 2 ≠ 12) : pl_round K W e (S, D) = (pl_num K W e 0 167 (pl_old K W e (D 0) (pn_ D 0) (pl_old K W e (D 4) (pn_ D 1) (pp_step S))), du (du (du (du D 13 (pn_ D 2) (pv_old W (D 4) (pn_ D 1) (pp_step S))) 14 (pn_ D 2) (pv_old W (D 0) (pn_ D 0) (pl_old K W e (D 4) (pn_ D 1) (pp_step S)))) 15 (pn_ D 2) (pv_num W (pl_old K W e (D 0) (pn_ D 0) (pl_old K W e (D 4) (pn_ D 1) (pp_step S))))) 18 2 (D 18 2 + 1)) := by unfold pl_round; simp only [h, if_false]
theorem clk_full {K W : Nat → Int32} {e : Nat} {S : PS} {D : DD} (h : pn_ D 0 = 5) : pl_clock K W e (S, D) = (pp_ref e 2 S, D) := by unfold pl_clock; simp only [h, if_true]
theorem clk_ok {K W : Nat → Int32} {e : Nat} {S : PS} {D : DD} (h : pn_ D 0 ≠ 5) {S2 : PS} (h2 : S2 = pl_new K W e (D 0) (pn_ D 0) (pp_step S)) {M : MS} (hM : M = pm_more K W e false 4 (m0 (pl_sgn K W e 36000 S2))) : pl_clock K W e (S, D) = (M.1, du (du (du (du (du D 0 (pn_ D 0) (pv_num W (pp_step S))) 1 (pn_ D 0) (pv_sgn K W S2)) 2 (pn_ D 0) M.2.2.1) 3 (pn_ D 0) M.2.2.2.1) 18 0 (D 18 0 + 1)) := by subst h2 hM; unfold pl_clock; simp only [h, if_false]
theorem per_full {K W : Nat → Int32} {e : Nat} {S : PS} {D : DD} (h : pn_ D 1 = 5) : pl_person K W e (S, D) = (pp_ref e 2 S, D) := by unfold pl_person; simp only [h, if_true]
theorem per_ok {K W : Nat → Int32} {e : Nat} {S : PS} {D : DD} (h : pn_ D 1 ≠ 5) {S2 : PS} (h2 : S2 = pl_new K W e (D 4) (pn_ D 1) (pp_step S)) {C : PS × Int × Int × Int} (hC : C = pl_cus K W e (pl_sgn K W e 36000 S2)) {M : MS} (hM : M = pm_more K W e true 4 (m0 C.1)) : pl_person K W e (S, D) = (M.1, du (du (du (du (du (du (du (du (du (du D 4 (pn_ D 1) (pv_num W (pp_step S))) 5 (pn_ D 1) (pv_sgn K W S2)) 6 (pn_ D 1) M.2.2.1) 7 (pn_ D 1) M.2.2.2.1) 8 (pn_ D 1) C.2.1) 9 (pn_ D 1) C.2.2.1) 10 (pn_ D 1) C.2.2.2) 11 (pn_ D 1) M.2.2.2.2.1) 12 (pn_ D 1) M.2.2.2.2.2) 18 1 (D 18 1 + 1)) := by subst h2 hC hM; unfold pl_person; simp only [h, if_false]
theorem pl_old_f0 {K W : Nat → Int32} {e : Nat} {nm : Nat → Int} {n : Nat} {S : PS} (h : ps_f (pl_old K W e nm n S) = 0) : ps_f S = 0 := by
  by_cases z : ps_f S = 0
  · exact z
  · unfold pl_old at h; rw [if_pos z] at h; exact h
theorem pl_new_f0 {K W : Nat → Int32} {e : Nat} {nm : Nat → Int} {n : Nat} {S : PS} (h : ps_f (pl_new K W e nm n S) = 0) : ps_f S = 0 := by
  by_cases z : ps_f S = 0
  · exact z
  · unfold pl_new at h; rw [if_pos z] at h; exact h
theorem pl_sgn_f0 {K W : Nat → Int32} {e : Nat} {hi : Int} {S : PS} (h : ps_f (pl_sgn K W e hi S) = 0) : ps_f S = 0 := by
  by_cases z : ps_f S = 0
  · exact z
  · unfold pl_sgn at h; rw [if_neg (fun y => z y.1)] at h; exact pl_num_f0 h
theorem pl_cus_f0 {K W : Nat → Int32} {e : Nat} {S : PS} (h : ps_f (pl_cus K W e S).1 = 0) : ps_f S = 0 := by
  by_cases z : ps_f S = 0
  · exact z
  · unfold pl_cus at h; rw [if_pos z] at h; exact h
theorem pm_f0 {K W : Nat → Int32} {e : Nat} {P : Bool} {n : Nat} {M : MS} (h : ps_f (pm_more K W e P n M).1 = 0) : ps_f M.1 = 0 := by
  by_cases z : ps_f M.1 = 0
  · exact z
  · obtain ⟨S, ⟨a, b, c⟩, g, r, f, t⟩ := M
    rw [pm_exit (Or.inl z)] at h; exact h
theorem UPx_y {f g : Nat → Int32} {a v : Int} {x : Int32} {i : Nat} (h : UYx f g a x) (hx : x.toInt = v) (hi : a.toNat = i) : UPx f g i v := by
  obtain ⟨y, h1, h2⟩ := h
  have e : y.toNatClampNeg = i := by rw [tn_c, h1]; exact hi
  rw [e] at h2
  subst h2
  exact ⟨by rw [ud_at]; exact hx, fun j hj => ud_ne hj⟩
/-- a rule's knots as the class and as the reference has them -/
def RUx (a b f t : Int) : Prop := (a = f ∧ b = t) ∨ (a = 0 ∧ b = 0 ∧ f = t)
theorem ru_of {c : Bool} {a b : Int} {f t : Nat} (h : (c = true ∧ a = (f : Int) ∧ b = (t : Int)) ∨ (c = false ∧ f = t ∧ a = 0 ∧ b = 0)) : RUx a b (f : Int) (t : Int) := by
  rcases h with ⟨-, h1, h2⟩ | ⟨-, h1, h2, h3⟩
  · exact Or.inl ⟨h1, h2⟩
  · exact Or.inr ⟨h2, h3, by rw [h1]⟩
