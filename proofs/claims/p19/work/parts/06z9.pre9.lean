
/-! the tapes -/
/-- the class's byte and the reference's -/
def BTe (a b : Int) : Prop := (0 ≤ a ∧ b = a) ∨ (a < 0 ∧ b = a + 256)
def BTt (f g : Nat → Int32) (n : Int) : Prop := ∀ j : Nat, (j : Int) < n → BTe (f j).toInt (g j).toInt
theorem BTt_0 {f g : Nat → Int32} {n : Int} (h : n ≤ 0) : BTt f g n := fun j hj => absurd hj (by omega)
/-- byte k of five numbers -/
def fd_v (v0 v1 v2 v3 v4 : Int32) (k : Nat) : Int32 := if k < 4 then v0 else if k < 8 then v1 else if k < 12 then v2 else if k < 16 then v3 else v4
def fd_s (k : Nat) : Int32 := if k % 4 = 0 then 24 else if k % 4 = 1 then 16 else if k % 4 = 2 then 8 else 0
def FDX (f g : Nat → Int32) (b v0 v1 v2 v3 v4 : Int32) : Prop := (∀ j : Nat, (j : Int) < b.toInt → g j = f j) ∧ ∀ k, k < 20 → g (b.toInt.toNat + k) = vp_nar .byte (fd_v v0 v1 v2 v3 v4 k >>> (fd_s k &&& 31))
def FDM (f g : Nat → Int32) (b v0 v1 v2 v3 v4 : Int32) : Prop := (∀ j : Nat, (j : Int) < b.toInt → g j = f j) ∧ ∀ k, k < 20 → g (b.toInt.toNat + k) = (fd_v v0 v1 v2 v3 v4 k >>> (fd_s k &&& 31)) &&& 255
theorem bt_nar (x : Int32) : BTe (vp_nar .byte x).toInt (x &&& 255).toInt := by
  have e1 : (x &&& 255).toInt = (x.toBitVec &&& 255#32).toInt := rfl
  have e2 : (vp_nar .byte x).toInt = (x.toBitVec.setWidth 8).toInt := by
    rw [show (vp_nar .byte x).toInt = x.toInt8.toInt from (by show (x.toInt8.toInt32).toInt = _; exact Int8.toInt_toInt32 _)]
    show (x.toBitVec.signExtend 8).toInt = _
    rw [BitVec.signExtend_eq_setWidth_of_le _ (by decide)]
  have h2 : (x.toBitVec &&& 255#32).toNat = x.toBitVec.toNat % 256 := by
    rw [BitVec.toNat_and]
    exact Nat.and_two_pow_sub_one_eq_mod _ 8
  have h3 : (x.toBitVec.setWidth 8).toNat = x.toBitVec.toNat % 256 := by rw [BitVec.toNat_setWidth]
  have h4 : (x.toBitVec &&& 255#32).toInt = ((x.toBitVec.toNat % 256 : Nat) : Int) := by
    rw [BitVec.toInt_eq_toNat_of_lt (by rw [h2]; omega), h2]
  rw [e1, e2, h4, BitVec.toInt_eq_toNat_cond, h3]
  unfold BTe
  split <;> omega
theorem BTt_fd {f g f1 g1 : Nat → Int32} {b t v0 v1 v2 v3 v4 : Int32} (h : BTt f g b.toInt) (hb : b.toInt = t.toInt) (h0 : 0 ≤ b.toInt) (x : FDX f f1 b v0 v1 v2 v3 v4) (m : FDM g g1 t v0 v1 v2 v3 v4) : BTt f1 g1 (b.toInt + 20) := by
  intro j hj
  by_cases c : (j : Int) < b.toInt
  · rw [x.1 j c, m.1 j (by omega)]; exact h j c
  · obtain ⟨k, hk⟩ : ∃ k, k = j - b.toInt.toNat := ⟨_, rfl⟩
    have e1 : j = b.toInt.toNat + k := by omega
    have e2 : j = t.toInt.toNat + k := by omega
    rw [show f1 j = f1 (b.toInt.toNat + k) by rw [← e1], show g1 j = g1 (t.toInt.toNat + k) by rw [← e2], x.2 k (by omega), m.2 k (by omega)]
    exact bt_nar _
/-! the class's take: four bytes -/
def TKq (f g : Nat → Int32) (b c v s : Int32) : Prop := (∀ j : Nat, (j : Int) < b.toInt → g j = f j) ∧ ∀ k : Nat, (k : Int) < c.toInt - b.toInt → g (b.toInt.toNat + k) = vp_nar .byte (v >>> (fd_s k &&& 31))
theorem TKq_0 {f : Nat → Int32} {b v s : Int32} : TKq f f b b v s := ⟨fun _ _ => rfl, fun k hk => absurd hk (by omega)⟩
theorem fd_s_eq {s : Int32} {k : Nat} (h : s.toInt = 24 - 8 * (k : Int)) (hk : k < 4) : s = fd_s k := by
  apply Int32.toInt_inj.mp
  rw [h]
  match k, hk with
  | 0, _ => decide
  | 1, _ => decide
  | 2, _ => decide
  | 3, _ => decide
theorem nar_nar {y z : Int32} (ez : z = y.toInt8.toInt32) : vp_nar .byte z = vp_nar .byte y := by
  rw [vp_nar_byte, vp_nar_byte, ez]; simp
theorem TKq_s {f g h : Nat → Int32} {b c c1 v s s1 y z : Int32} (q : TKq f g b c v s) (ey : y = v >>> (s &&& 31)) (ez : z = y.toInt8.toInt32) (e : upd g c.toNatClampNeg (vp_nar .byte z) = h) (h0 : 0 ≤ b.toInt) (hbc : b.toInt ≤ c.toInt) (hs : s.toInt = 24 - 8 * (c.toInt - b.toInt)) (hc4 : c.toInt - b.toInt < 4) (hc : c1.toInt = c.toInt + 1) : TKq f h b c1 v s1 := by
  subst e
  refine ⟨fun j hj => ?_, fun k hk => ?_⟩
  · rw [ud_ne (by rw [tn_c]; omega)]; exact q.1 j hj
  · by_cases d : (k : Int) < c.toInt - b.toInt
    · rw [ud_ne (by rw [tn_c]; omega)]; exact q.2 k d
    · rw [show b.toInt.toNat + k = c.toNatClampNeg by rw [tn_c]; omega, ud_at, nar_nar ez, ey, fd_s_eq (s := s) (k := k) (by omega) (by omega)]
def TKe (f g : Nat → Int32) (b v : Int32) : Prop := (∀ j : Nat, (j : Int) < b.toInt → g j = f j) ∧ ∀ k : Nat, k < 4 → g (b.toInt.toNat + k) = vp_nar .byte (v >>> (fd_s k &&& 31))
theorem TKq_e {f g : Nat → Int32} {b c v s : Int32} (q : TKq f g b c v s) (h : 4 ≤ c.toInt - b.toInt) : TKe f g b v := ⟨q.1, fun k hk => q.2 k (by omega)⟩
theorem FDX_5 {f0 f1 f2 f3 f4 f5 : Nat → Int32} {b0 b1 b2 b3 b4 v0 v1 v2 v3 v4 : Int32} (h0 : TKe f0 f1 b0 v0) (h1 : TKe f1 f2 b1 v1) (h2 : TKe f2 f3 b2 v2) (h3 : TKe f3 f4 b3 v3) (h4 : TKe f4 f5 b4 v4) (e1 : b1.toInt = b0.toInt + 4) (e2 : b2.toInt = b1.toInt + 4) (e3 : b3.toInt = b2.toInt + 4) (e4 : b4.toInt = b3.toInt + 4) (hb : 0 ≤ b0.toInt) : FDX f0 f5 b0 v0 v1 v2 v3 v4 := by
  have s4 : ∀ k a, fd_s (a * 4 + k) = fd_s k := fun k a => by unfold fd_s; rw [Nat.mul_comm, Nat.mul_add_mod]
  refine ⟨fun j hj => ?_, fun k hk => ?_⟩
  · rw [h4.1 j (by omega), h3.1 j (by omega), h2.1 j (by omega), h1.1 j (by omega), h0.1 j hj]
  · by_cases c0 : k < 4
    · rw [h4.1 _ (by omega), h3.1 _ (by omega), h2.1 _ (by omega), h1.1 _ (by omega), h0.2 k c0]; unfold fd_v; rw [if_pos c0]
    · by_cases c1 : k < 8
      · obtain ⟨m, rfl⟩ : ∃ m, k = 1 * 4 + m := ⟨k - 4, by omega⟩
        rw [h4.1 _ (by omega), h3.1 _ (by omega), h2.1 _ (by omega), show b0.toInt.toNat + (1 * 4 + m) = b1.toInt.toNat + m by omega, h1.2 m (by omega), s4]; unfold fd_v; rw [if_neg c0, if_pos c1]
      · by_cases c2 : k < 12
        · obtain ⟨m, rfl⟩ : ∃ m, k = 2 * 4 + m := ⟨k - 8, by omega⟩
          rw [h4.1 _ (by omega), h3.1 _ (by omega), show b0.toInt.toNat + (2 * 4 + m) = b2.toInt.toNat + m by omega, h2.2 m (by omega), s4]; unfold fd_v; rw [if_neg c0, if_neg c1, if_pos c2]
        · by_cases c3 : k < 16
          · obtain ⟨m, rfl⟩ : ∃ m, k = 3 * 4 + m := ⟨k - 12, by omega⟩
            rw [h4.1 _ (by omega), show b0.toInt.toNat + (3 * 4 + m) = b3.toInt.toNat + m by omega, h3.2 m (by omega), s4]; unfold fd_v; rw [if_neg c0, if_neg c1, if_neg c2, if_pos c3]
          · obtain ⟨m, rfl⟩ : ∃ m, k = 4 * 4 + m := ⟨k - 16, by omega⟩
            rw [show b0.toInt.toNat + (4 * 4 + m) = b4.toInt.toNat + m by omega, h4.2 m (by omega), s4]; unfold fd_v; rw [if_neg c0, if_neg c1, if_neg c2, if_neg c3]
/-! the reference's feed -/
def FMq (f g : Nat → Int32) (b n v0 v1 v2 v3 v4 : Int32) : Prop := (∀ j : Nat, (j : Int) < b.toInt → g j = f j) ∧ ∀ k : Nat, (k : Int) < n.toInt → g (b.toInt.toNat + k) = (fd_v v0 v1 v2 v3 v4 k >>> (fd_s k &&& 31)) &&& 255
theorem FMq_0 {f : Nat → Int32} {b v0 v1 v2 v3 v4 : Int32} : FMq f f b (0 : Int32) v0 v1 v2 v3 v4 := ⟨fun _ _ => rfl, fun k hk => absurd hk (by have := (by decide : (0 : Int32).toInt = 0); omega)⟩
theorem FMq_s {f g h : Nat → Int32} {b n n1 y v0 v1 v2 v3 v4 v s a x : Int32} (q : FMq f g b n v0 v1 v2 v3 v4) (hv : v = fd_v v0 v1 v2 v3 v4 n.toInt.toNat) (hs : s.toInt = 24 - 8 * (n.toInt % 4)) (ea : a = v >>> (s &&& 31)) (ex : x = a &&& 255) (e : upd g y.toNatClampNeg x = h) (hy : y.toInt = b.toInt + n.toInt) (h0 : 0 ≤ b.toInt) (hn : 0 ≤ n.toInt) (hn1 : n1.toInt = n.toInt + 1) : FMq f h b n1 v0 v1 v2 v3 v4 := by
  subst e
  have e0 : s = fd_s n.toInt.toNat := by
    have h1 := fd_s_eq (s := s) (k := n.toInt.toNat % 4) (by omega) (by omega)
    rw [h1]; unfold fd_s; rw [Nat.mod_mod]
  refine ⟨fun j hj => ?_, fun k hk => ?_⟩
  · rw [ud_ne (by rw [tn_c]; omega)]; exact q.1 j hj
  · by_cases d : (k : Int) < n.toInt
    · rw [ud_ne (by rw [tn_c]; omega)]; exact q.2 k d
    · have ek : k = n.toInt.toNat := by omega
      rw [show b.toInt.toNat + k = y.toNatClampNeg by rw [tn_c]; omega, ud_at, ex, ea, hv, e0, ek]
theorem FMq_e {f g : Nat → Int32} {b n v0 v1 v2 v3 v4 : Int32} (q : FMq f g b n v0 v1 v2 v3 v4) (h : 20 ≤ n.toInt) : FDM f g b v0 v1 v2 v3 v4 := ⟨q.1, fun k hk => q.2 k (by omega)⟩
theorem fv_0 {v0 v1 v2 v3 v4 n : Int32} (h : n.toInt < 4) : v0 = fd_v v0 v1 v2 v3 v4 n.toInt.toNat := by unfold fd_v; rw [if_pos (by omega)]
theorem fv_1 {v0 v1 v2 v3 v4 n : Int32} (h : 4 ≤ n.toInt) (h1 : n.toInt < 8) : v1 = fd_v v0 v1 v2 v3 v4 n.toInt.toNat := by unfold fd_v; rw [if_neg (by omega), if_pos (by omega)]
theorem fv_2 {v0 v1 v2 v3 v4 n : Int32} (h : 8 ≤ n.toInt) (h1 : n.toInt < 12) : v2 = fd_v v0 v1 v2 v3 v4 n.toInt.toNat := by unfold fd_v; rw [if_neg (by omega), if_neg (by omega), if_pos (by omega)]
theorem fv_3 {v0 v1 v2 v3 v4 n : Int32} (h : 12 ≤ n.toInt) (h1 : n.toInt < 16) : v3 = fd_v v0 v1 v2 v3 v4 n.toInt.toNat := by unfold fd_v; rw [if_neg (by omega), if_neg (by omega), if_neg (by omega), if_pos (by omega)]
theorem fv_4 {v0 v1 v2 v3 v4 n : Int32} (h : 16 ≤ n.toInt) : v4 = fd_v v0 v1 v2 v3 v4 n.toInt.toNat := by unfold fd_v; rw [if_neg (by omega), if_neg (by omega), if_neg (by omega), if_neg (by omega)]
/-! tokens of the one tape are tokens of the other -/
theorem tk_dg_eq {f g : Nat → Int} {p b m : Nat} (h : ∀ j, p ≤ j → j < b → g j = f j) : tk_dg g p b m = tk_dg f p b m := by
  unfold tk_dg
  split
  · rw [h _ (by omega) (by assumption)]
  · rfl
theorem tk_V_eq2 {f g : Nat → Int} {p b : Nat} (h : ∀ j, p ≤ j → j < b → g j = f j) : tk_V g p b = tk_V f p b := by
  unfold tk_V; rw [tk_dg_eq h, tk_dg_eq h, tk_dg_eq h, tk_dg_eq h, tk_dg_eq h, tk_dg_eq h]
theorem tk_nv_eq {f g : Nat → Int} {p : Nat} : ∀ m, (∀ j, p ≤ j → j < p + m → g j = f j) → tk_nv g p m = tk_nv f p m := by
  intro m
  induction m with
  | zero => intro _; rfl
  | succ m ih => intro h; simp only [tk_nv]; rw [ih (fun j h1 h2 => h j h1 (by omega)), h (p + m) (by omega) (by omega)]
theorem bt_cls {a b : Int} (h : BTe a b) (ha : -128 ≤ a ∧ a ≤ 127) : (tk_small a ↔ tk_small b) ∧ (tk_digit a ↔ tk_digit b) ∧ (tk_blank a ↔ tk_blank b) ∧ (0 ≤ a → b = a) ∧ (a < 0 → 128 ≤ b) := by
  unfold BTe at h; unfold tk_small tk_digit tk_blank; omega
theorem run_bt {P : Int → Prop} {f g : Nat → Int} {n p b : Nat} (hP : ∀ j, j < n → (P (f j) ↔ P (g j))) (h : tk_run P f n p b) : tk_run P g n p b :=
  ⟨h.1, h.2.1, fun j h1 h2 => (hP j (by have := h.2.1; omega)).mp (h.2.2.1 j h1 h2), fun q z => h.2.2.2 q ((hP b q).mpr z)⟩
theorem sgn_bt {c c' d d' k : Int} {s : Nat} (hc : (0 ≤ c ∧ c' = c) ∨ (c < 0 ∧ 128 ≤ c')) (hd : d = d' ∨ (d < 0 ∧ 128 ≤ d')) (e : tk_sgn c d k s) : tk_sgn c' d' k s := by
  rcases hc with ⟨-, rfl⟩ | ⟨hc, hc'⟩
  · rcases e with ⟨e1, e2, e3, e4⟩ | ⟨e1, e2, e3, e4⟩ | ⟨e1, e2, e3, e4⟩ | ⟨e0, e⟩
    · exact Or.inl ⟨e1, by omega, e3, e4⟩
    · exact Or.inr (Or.inl ⟨e1, by omega, e3, e4⟩)
    · exact Or.inr (Or.inr (Or.inl ⟨e1, by omega, e3, e4⟩))
    · refine Or.inr (Or.inr (Or.inr ⟨e0, ?_⟩))
      rcases e with ⟨e1, e2, e3, e4⟩ | ⟨e1, e2, e3⟩ | e
      · exact Or.inl ⟨e1, by omega, by omega, e4⟩
      · exact Or.inr (Or.inl ⟨e1, by omega, e3⟩)
      · exact Or.inr (Or.inr e)
  · have e' : s = 1 ∧ k = 3 := by
      rcases e with ⟨e1, -⟩ | ⟨e1, -⟩ | ⟨e1, -⟩ | ⟨e0, e⟩
      · omega
      · omega
      · omega
      · rcases e with ⟨e1, -⟩ | ⟨e1, -⟩ | ⟨e1, -⟩ | ⟨e1, -⟩ | ⟨e1, -⟩ | ⟨e1, -⟩ | ⟨e1, -⟩ | ⟨e1, -⟩ | ⟨e1, -⟩ | ⟨e1, -⟩ | ⟨-, -, -, -, -, -, -, -, -, -, e1⟩
        · omega
        · omega
        · omega
        · omega
        · omega
        · omega
        · omega
        · omega
        · omega
        · omega
        · exact ⟨e0, e1⟩
    exact Or.inr (Or.inr (Or.inr ⟨e'.1, Or.inr (Or.inr (Or.inr (Or.inr (Or.inr (Or.inr (Or.inr (Or.inr (Or.inr (Or.inr (⟨by omega, by omega, by omega, by omega, by omega, by omega, by omega, by omega, by omega, by omega, e'.2⟩))))))))))⟩))
theorem tok_bt {f g : Nat → Int} {n a p b : Nat} {k w : Int} (hr : ∀ j, -128 ≤ f j ∧ f j ≤ 127) (hb : ∀ j, j < n → BTe (f j) (g j)) (h : TokAt f n a k p w b) : TokAt g n a k p w b := by
  have c := fun j (hj : j < n) => bt_cls (hb j hj) (hr j)
  obtain ⟨h1, h2, h3, h4, h5⟩ := h
  refine ⟨h1, h2, h3, fun j q1 q2 => (c j (by omega)).2.2.1.mp (h4 j q1 q2), ?_⟩
  rcases h5 with ⟨r, w1⟩ | ⟨r, k1, w1⟩ | ⟨n1, n2, n3, s, e1, e2⟩
  · refine Or.inl ⟨run_bt (fun j hj => (c j hj).1) r, ?_⟩
    have e : tk_V g p b = tk_V f p b := tk_V_eq2 (fun j q1 q2 => (c j (by omega)).2.2.2.1 (by have := r.2.2.1 j q1 q2; unfold tk_small at this; omega))
    unfold tk_word at w1 ⊢
    rw [e]; exact w1
  · refine Or.inr (Or.inl ⟨run_bt (fun j hj => (c j hj).2.1) r, k1, ?_⟩)
    rw [w1]
    have hp := r.1
    exact (tk_nv_eq _ (fun j q1 q2 => (c j (by omega)).2.2.2.1 (by have := r.2.2.1 j q1 (by omega); unfold tk_digit at this; omega))).symm
  · have cp := c p h2
    refine Or.inr (Or.inr ⟨fun z => n1 (cp.2.2.1.mpr z), fun z => n2 (cp.1.mpr z), fun z => n3 (cp.2.1.mpr z), s, e1, ?_⟩)
    have q0 : (0 ≤ f p ∧ g p = f p) ∨ (f p < 0 ∧ 128 ≤ g p) := by
      by_cases z : 0 ≤ f p
      · exact Or.inl ⟨z, cp.2.2.2.1 z⟩
      · exact Or.inr ⟨by omega, cp.2.2.2.2 (by omega)⟩
    have q1 : ∀ x y : Int, (x = y ∨ (x < 0 ∧ 128 ≤ y)) → tk_sgn (f p) x k s → tk_sgn (g p) y k s := fun x y hxy e => sgn_bt q0 hxy e
    by_cases c1 : p + 1 < n
    · rw [if_pos c1] at e2 ⊢
      have cc := c (p + 1) c1
      refine q1 _ _ ?_ e2
      by_cases z : 0 ≤ f (p + 1)
      · exact Or.inl (cc.2.2.2.1 z).symm
      · exact Or.inr ⟨by omega, cc.2.2.2.2 (by omega)⟩
    · rw [if_neg c1] at e2 ⊢
      exact q1 _ _ (Or.inl rfl) e2
theorem TS_bt {f g : Nat → Int} {n : Nat} {K PL W : Nat → Int} {q : Nat → Nat} {e : Nat} (hr : ∀ j, -128 ≤ f j ∧ f j ≤ 127) (hb : ∀ j, j < n → BTe (f j) (g j)) (h : TS f n K PL W q e) : TS g n K PL W q e := by
  obtain ⟨h1, h2, h3, h4, h5, h6, h7⟩ := h
  exact ⟨h1, h2, h3, fun i hi => ⟨tok_bt hr hb (h4 i hi).1, (h4 i hi).2⟩, h5, h6, fun j q1 q2 => (bt_cls (hb j q2) (hr j)).2.2.1.mp (h7 j q1 q2)⟩
