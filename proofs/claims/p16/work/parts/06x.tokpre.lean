
/-! THE TOKENS OF A TEXT, as a predicate over bytes f, length n: TokAt f n a k p w b: from a on, behind blanks, a token of kind k and worth w stands at p and ends ahead of b -/
def tk_small (z : Int) : Prop := 97 ≤ z ∧ z ≤ 122
def tk_digit (z : Int) : Prop := 48 ≤ z ∧ z ≤ 57
def tk_blank (z : Int) : Prop := z = 10 ∨ z = 32
/-- the m-th letter of the word that stands from p on up to b: 1 .. 26, 0 behind its last one -/
def tk_dg (f : Nat → Int) (p b m : Nat) : Int := if p + m < b then f (p + m) - 96 else 0
def tk_V (f : Nat → Int) (p b : Nat) : Int := tk_dg f p b 0 * 33554432 + tk_dg f p b 1 * 1048576 + tk_dg f p b 2 * 32768 + tk_dg f p b 3 * 1024 + tk_dg f p b 4 * 32 + tk_dg f p b 5
/-- the words of the language: six letters each, 0 behind the last one -/
def tk_W : List (List Int) := [[3,12,15,3,11,0],[16,5,18,19,15,14],[18,15,21,14,4,0],[7,21,14,0,0,0],[7,1,9,14,19,0],[18,15,21,7,8,0],[9,6,0,0,0,0],[19,5,20,19,0,0],[20,1,11,5,19,0],[8,1,12,6,0,0],[16,1,18,20,0,0],[13,9,4,4,12,5],[15,18,0,0,0,0],[1,14,4,0,0,0],[14,15,20,0,0,0],[1,8,5,1,4,0],[12,1,19,20,0,0],[16,1,19,19,5,4],[8,15,21,18,0,0],[4,1,25,0,0,0]]
def tk_wd (i m : Nat) : Int := (tk_W.getD i []).getD m 0
def tk_lang (i : Nat) : Int := tk_wd i 0 * 33554432 + tk_wd i 1 * 1048576 + tk_wd i 2 * 32768 + tk_wd i 3 * 1024 + tk_wd i 4 * 32 + tk_wd i 5
def tk_start (i : Nat) : Nat := [0,6,13,19,23,29,35,38,43,49,54,59,66,69,73,77,83,88,95,100,104].getD i 104
def tk_len (i : Nat) : Nat := [5,6,5,3,5,5,2,4,5,4,4,6,2,3,3,5,4,6,4,3].getD i 0
/-- a number, cut at 1000000 -/
def tk_nv (f : Nat → Int) (p : Nat) : Nat → Int
  | 0 => 0
  | m + 1 => min (10 * tk_nv f p m + f (p + m) - 48) 1000000
def tk_sgn (c d : Int) (k : Int) (s : Nat) : Prop :=
  (c = 60 ∧ d = 61 ∧ k = 12 ∧ s = 2) ∨ (c = 60 ∧ d = 62 ∧ k = 14 ∧ s = 2) ∨ (c = 62 ∧ d = 61 ∧ k = 15 ∧ s = 2) ∨
  (s = 1 ∧ ((c = 60 ∧ d ≠ 61 ∧ d ≠ 62 ∧ k = 11) ∨ (c = 62 ∧ d ≠ 61 ∧ k = 16) ∨ (c = 59 ∧ k = 4) ∨ (c = 40 ∧ k = 5) ∨ (c = 41 ∧ k = 6) ∨ (c = 43 ∧ k = 7) ∨ (c = 45 ∧ k = 8) ∨ (c = 42 ∧ k = 9) ∨ (c = 47 ∧ k = 10) ∨ (c = 61 ∧ k = 13) ∨
    (c ≠ 60 ∧ c ≠ 62 ∧ c ≠ 59 ∧ c ≠ 40 ∧ c ≠ 41 ∧ c ≠ 43 ∧ c ≠ 45 ∧ c ≠ 42 ∧ c ≠ 47 ∧ c ≠ 61 ∧ k = 3)))
def tk_word (f : Nat → Int) (p b : Nat) (k w : Int) : Prop :=
  (p + 6 < b ∧ k = 3) ∨ (b ≤ p + 6 ∧ w = tk_V f p b ∧ ((∃ i : Nat, i < 20 ∧ k = 20 + (i : Int) ∧ w = tk_lang i) ∨ (k = 2 ∧ ∀ i : Nat, i < 20 → w ≠ tk_lang i)))
/-- a row of signs of one sort, from p on as far as it goes -/
def tk_run (P : Int → Prop) (f : Nat → Int) (n p b : Nat) : Prop := p < b ∧ b ≤ n ∧ (∀ j, p ≤ j → j < b → P (f j)) ∧ (b < n → ¬ P (f b))
def TokAt (f : Nat → Int) (n a : Nat) (k : Int) (p : Nat) (w : Int) (b : Nat) : Prop :=
  a ≤ p ∧ p < n ∧ b ≤ n ∧ (∀ j, a ≤ j → j < p → tk_blank (f j)) ∧
  ((tk_run tk_small f n p b ∧ tk_word f p b k w) ∨ (tk_run tk_digit f n p b ∧ k = 1 ∧ w = tk_nv f p (b - p)) ∨
   (¬ tk_blank (f p) ∧ ¬ tk_small (f p) ∧ ¬ tk_digit (f p) ∧ ∃ s, b = p + s ∧ tk_sgn (f p) (if p + 1 < n then f (p + 1) else 0) k s))
/-- a row of tokens; e is the end's place among them -/
def TS (f : Nat → Int) (n : Nat) (K PL W : Nat → Int) (q : Nat → Nat) (e : Nat) : Prop :=
  q 0 = 0 ∧ q (e + 1) = n ∧ q e ≤ n ∧ (∀ i, i < e → TokAt f n (q i) (K i) (PL i).toNat (W i) (q (i + 1)) ∧ 0 ≤ PL i) ∧ K e = 0 ∧ PL e = (n : Int) ∧ (∀ j, q e ≤ j → j < n → tk_blank (f j))
/-! the reference's token of that kind -/
def TM (k w s v : Int) : Prop :=
  (k = 0 ∧ s = 4) ∨ (k = 1 ∧ s = 2 ∧ ((v = w ∧ 0 ≤ v ∧ v ≤ 99999) ∨ (99999 < v ∧ 99999 < w))) ∨ (k = 2 ∧ s = 1 ∧ v = w) ∨ (k = 3 ∧ s = 5) ∨ (20 ≤ k ∧ k ≤ 39 ∧ s = 0 ∧ v = k - 20) ∨
  (s = 3 ∧ ((k = 4 ∧ v = 59) ∨ (k = 5 ∧ v = 40) ∨ (k = 6 ∧ v = 41) ∨ (k = 7 ∧ v = 43) ∨ (k = 8 ∧ v = 45) ∨ (k = 9 ∧ v = 42) ∨ (k = 10 ∧ v = 47) ∨ (k = 11 ∧ v = 60) ∨ (k = 12 ∧ v = 256) ∨ (k = 13 ∧ v = 61) ∨ (k = 14 ∧ v = 257) ∨ (k = 15 ∧ v = 258) ∨ (k = 16 ∧ v = 62)))
theorem tm_word {k w s v : Int} (h : TM k w s v) (x : Int) (h0 : 0 ≤ x) (h1 : x ≤ 19) : (s = 0 ∧ v = x) ↔ k = 20 + x := by unfold TM at h; omega
theorem tm_number {k w s v : Int} (h : TM k w s v) : s = 2 ↔ k = 1 := by unfold TM at h; omega
theorem tm_name {k w s v : Int} (h : TM k w s v) : s = 1 ↔ k = 2 := by unfold TM at h; omega
theorem tm_end {k w s v : Int} (h : TM k w s v) : s = 4 ↔ k = 0 := by unfold TM at h; omega
theorem tm_num {k w s v : Int} (h : TM k w s v) (hk : k = 1) : (v = w ∧ 0 ≤ v ∧ v ≤ 99999) ∨ (99999 < v ∧ 99999 < w) := by unfold TM at h; omega
theorem tm_nam {k w s v : Int} (h : TM k w s v) (hk : k = 2) : v = w := by unfold TM at h; omega
theorem tm_line {k w s v : Int} (h : TM k w s v) : (s = 0 ∧ v ≤ 3) ↔ (20 ≤ k ∧ k ≤ 23) := by unfold TM at h; omega
theorem tm_custom {k w s v : Int} (h : TM k w s v) : (s = 0 ∧ 7 ≤ v ∧ v ≤ 11) ↔ (27 ≤ k ∧ k ≤ 31) := by unfold TM at h; omega
theorem tm_names {k w s v : Int} (h : TM k w s v) : (s = 0 ∧ 15 ≤ v) ↔ (35 ≤ k ∧ k ≤ 39) := by unfold TM at h; omega
theorem tm_cmp {k w s v : Int} (h : TM k w s v) : (s = 3 ∧ (v = 60 ∨ v = 62 ∨ v = 61 ∨ 256 ≤ v)) ↔ (11 ≤ k ∧ k ≤ 16) := by unfold TM at h; omega
theorem tm_semi {k w s v : Int} (h : TM k w s v) : (s = 3 ∧ v = 59) ↔ k = 4 := by unfold TM at h; omega
theorem tm_open {k w s v : Int} (h : TM k w s v) : (s = 3 ∧ v = 40) ↔ k = 5 := by unfold TM at h; omega
theorem tm_close {k w s v : Int} (h : TM k w s v) : (s = 3 ∧ v = 41) ↔ k = 6 := by unfold TM at h; omega
theorem tm_plus {k w s v : Int} (h : TM k w s v) : (s = 3 ∧ v = 43) ↔ k = 7 := by unfold TM at h; omega
theorem tm_minus {k w s v : Int} (h : TM k w s v) : (s = 3 ∧ v = 45) ↔ k = 8 := by unfold TM at h; omega
theorem tm_times {k w s v : Int} (h : TM k w s v) : (s = 3 ∧ v = 42) ↔ k = 9 := by unfold TM at h; omega
theorem tm_over {k w s v : Int} (h : TM k w s v) : (s = 3 ∧ v = 47) ↔ k = 10 := by unfold TM at h; omega
/-! words: packed letters and letters one by one say the same -/
theorem tk_wd_rng : ∀ i, i < 20 → ∀ m, m < 6 → 0 ≤ tk_wd i m ∧ tk_wd i m ≤ 26 := by decide
theorem tk_dg_rng {f : Nat → Int} {p b : Nat} (h : ∀ j, p ≤ j → j < b → tk_small (f j)) (m : Nat) : 0 ≤ tk_dg f p b m ∧ tk_dg f p b m ≤ 26 := by
  unfold tk_dg; split
  · rename_i q; have := h (p + m) (by omega) q; unfold tk_small at this; omega
  · omega
theorem tk_V_eq {f : Nat → Int} {p b i : Nat} (h : ∀ j, p ≤ j → j < b → tk_small (f j)) (hi : i < 20) : tk_V f p b = tk_lang i ↔ ∀ m, m < 6 → tk_dg f p b m = tk_wd i m := by
  have a0 := tk_dg_rng h 0; have a1 := tk_dg_rng h 1; have a2 := tk_dg_rng h 2; have a3 := tk_dg_rng h 3; have a4 := tk_dg_rng h 4; have a5 := tk_dg_rng h 5
  have b0 := tk_wd_rng i hi 0 (by decide); have b1 := tk_wd_rng i hi 1 (by decide); have b2 := tk_wd_rng i hi 2 (by decide); have b3 := tk_wd_rng i hi 3 (by decide); have b4 := tk_wd_rng i hi 4 (by decide); have b5 := tk_wd_rng i hi 5 (by decide)
  constructor
  · intro z m hm
    unfold tk_V tk_lang at z
    match m, hm with
    | 0, _ => omega
    | 1, _ => omega
    | 2, _ => omega
    | 3, _ => omega
    | 4, _ => omega
    | 5, _ => omega
  · intro z
    unfold tk_V tk_lang
    rw [z 0 (by decide), z 1 (by decide), z 2 (by decide), z 3 (by decide), z 4 (by decide), z 5 (by decide)]
/-- the i-th word stands from p on up to b -/
def tk_is (f : Nat → Int) (p b i : Nat) : Prop := b = p + tk_len i ∧ ∀ m, m < tk_len i → f (p + m) = tk_wd i m + 96
theorem tk_len_wd : ∀ i, i < 20 → tk_len i ≤ 6 ∧ 0 < tk_len i ∧ ∀ m, m < 6 → (m < tk_len i ↔ 0 < tk_wd i m) := by decide
theorem tk_is_iff {f : Nat → Int} {p b i : Nat} (h : ∀ j, p ≤ j → j < b → tk_small (f j)) (hp : p ≤ b) (hi : i < 20) : tk_is f p b i ↔ b ≤ p + 6 ∧ tk_V f p b = tk_lang i := by
  have hl := tk_len_wd i hi
  constructor
  · intro z
    refine ⟨by have := z.1; omega, (tk_V_eq h hi).mpr (fun m hm => ?_)⟩
    unfold tk_dg
    by_cases q : m < tk_len i
    · rw [if_pos (by have := z.1; omega), z.2 m q]; omega
    · rw [if_neg (by have := z.1; omega)]
      have h1 := hl.2.2 m hm
      have h2 := tk_wd_rng i hi m hm
      have h3 : ¬ 0 < tk_wd i m := fun y => q (h1.mpr y)
      omega
  · intro z
    have g := (tk_V_eq h hi).mp z.2
    have e : b = p + tk_len i := by
      have key : ∀ m, m < 6 → (p + m < b ↔ m < tk_len i) := by
        intro m hm
        have h1 := g m hm
        have h2 := hl.2.2 m hm
        unfold tk_dg at h1
        by_cases q : p + m < b
        · rw [if_pos q] at h1
          have h3 := h (p + m) (by omega) q
          unfold tk_small at h3
          exact ⟨fun _ => h2.mpr (by omega), fun _ => q⟩
        · rw [if_neg q] at h1
          exact ⟨fun y => absurd y q, fun y => by have := h2.mp y; omega⟩
      have z1 := z.1
      by_cases q : b - p < 6
      · have k1 := key (b - p) q
        by_cases q2 : tk_len i < 6
        · have k2 := key (tk_len i) q2
          have : ¬ (b - p < tk_len i) := fun y => by have := k1.mpr y; omega
          have : ¬ (p + tk_len i < b) := fun y => by have := k2.mp y; omega
          omega
        · have : b - p < tk_len i := by omega
          have := k1.mpr this
          omega
      · by_cases q2 : tk_len i < 6
        · have k2 := key (tk_len i) q2
          have : p + tk_len i < b := by omega
          have := k2.mp this
          omega
        · omega
    refine ⟨e, fun m hm => ?_⟩
    have h1 := g m (by omega)
    unfold tk_dg at h1
    rw [if_pos (by omega)] at h1
    omega
/-! numbers: the reference's own sum -/
def tk_rv (f : Nat → Int) (p : Nat) : Nat → Int
  | 0 => 0
  | m + 1 => if 99999 < tk_rv f p m then tk_rv f p m else 10 * tk_rv f p m + f (p + m) - 48
theorem tk_rv_nv {f : Nat → Int} {p : Nat} : ∀ m, (∀ j, j < m → tk_digit (f (p + j))) → (tk_rv f p m = tk_nv f p m ∧ 0 ≤ tk_rv f p m ∧ tk_rv f p m ≤ 999999) ∨ (99999 < tk_rv f p m ∧ tk_rv f p m ≤ 999999 ∧ 99999 < tk_nv f p m) := by
  intro m
  induction m with
  | zero => intro _; left; simp [tk_rv, tk_nv]
  | succ m ih =>
    intro h
    have h1 := ih (fun j hj => h j (by omega))
    have h2 := h m (by omega)
    unfold tk_digit at h2
    simp only [tk_rv, tk_nv]
    split <;> omega
/-! the class's tokens -/
def fI (f : Nat → Int32) (j : Nat) : Int := (f j).toInt
theorem nb_rng (x : Int32) : -128 ≤ (vp_nar .byte x).toInt ∧ (vp_nar .byte x).toInt ≤ 127 := by
  have h : (vp_nar .byte x).toInt = x.toInt8.toInt := by
    show (x.toInt8.toInt32).toInt = _
    exact Int8.toInt_toInt32 _
  have h1 := x.toInt8.toInt_lt
  have h2 := x.toInt8.le_toInt
  rw [h]
  omega
theorem an_255 {x z : Int32} (e : z = x &&& 255) (h : -128 ≤ x.toInt ∧ x.toInt ≤ 127) : (0 ≤ x.toInt ∧ z.toInt = x.toInt) ∨ (x.toInt < 0 ∧ z.toInt = x.toInt + 256) := by
  have key : ∀ n : Fin 256, (0 ≤ ((n.val : Int) - 128) ∧ ((Int32.ofInt ((n.val : Int) - 128)) &&& 255).toInt = (n.val : Int) - 128) ∨ (((n.val : Int) - 128) < 0 ∧ ((Int32.ofInt ((n.val : Int) - 128)) &&& 255).toInt = (n.val : Int) - 128 + 256) := by decide +kernel
  have k := key ⟨(x.toInt + 128).toNat, by omega⟩
  have e1 : (((x.toInt + 128).toNat : Nat) : Int) - 128 = x.toInt := by omega
  have e2 : Int32.ofInt x.toInt = x := Int32.ofInt_toInt x
  simp only [e1, e2] at k
  rw [e]
  exact k
/-- a letter behind those that are there: the m-th of six -/
def WLt (v0 v1 v2 r : Int32) : Prop := r = v0 ||| ((v2 - 97 + 1) <<< ((25 - 5 * v1) &&& 31))
theorem or_add {a b k : Nat} (hb : b < 2 ^ k) : (a * 2 ^ k) ||| b = a * 2 ^ k + b := by
  have h := Nat.shiftLeft_add_eq_or_of_lt hb a
  rw [Nat.shiftLeft_eq] at h
  exact h.symm
theorem oi_or (a b : Nat) : nI a ||| nI b = nI (a ||| b) := by
  apply Int32.toBitVec_inj.mp
  simp [nI]
theorem wl_step {v0 v1 v2 r sft : Int32} {k P Q A d : Nat} (h : WLt v0 v1 v2 r) (hsf : ((25 : Int32) - 5 * v1) &&& 31 = sft) (hk : (sft.toBitVec.smod 32).toNat = k) (hP : P = 2 ^ k) (hQ : Q = 2 ^ (k + 5)) (h2 : v2 = nI (96 + d)) (hd : d < 32) (h0 : v0 = nI (A * Q)) (hb : d * P < 4294967296) : r = nI (A * Q + d * P) := by
  unfold WLt at h
  have hd' : v2 - 97 + 1 = nI d := by
    have key : ∀ d : Fin 32, nI (96 + d.val) - 97 + 1 = nI d.val := by decide +kernel
    rw [h2]; exact key ⟨d, hd⟩
  have h3 : d * P < Q := by
    rw [hP, hQ, Nat.pow_add, Nat.mul_comm (2 ^ k)]
    exact Nat.mul_lt_mul_of_pos_right hd (Nat.two_pow_pos k)
  rw [h, hd', h0, hsf, pk_shlN sft k hk (by rw [← hP]; exact hb), oi_or, ← hP, hQ, or_add (by rw [← hQ]; exact h3)]
theorem wl_V0 {f : Nat → Int} {p : Nat} {v0 v1 v2 r : Int32} (hs : ∀ j, p ≤ j → j < p + 0 + 1 → tk_small (f j)) (h : WLt v0 v1 v2 r) (h1 : v1.toInt = 0) (h2 : v2.toInt = f (p + 0)) (h0 : v0.toInt = tk_V f p (p + 0)) : r.toInt = tk_V f p (p + 0 + 1) := by
  have a0 : 1 ≤ f (p + 0) - 96 ∧ f (p + 0) - 96 ≤ 26 := by have := hs (p + 0) (by omega) (by omega); unfold tk_small at this; omega
  have e1 : v1 = (0 : Int32) := Int32.toInt_inj.mp (by rw [h1]; decide)
  obtain ⟨d, hd⟩ : ∃ d : Nat, (d : Int) = f (p + 0) - 96 := ⟨(f (p + 0) - 96).toNat, by omega⟩
  obtain ⟨A, hA⟩ : ∃ A : Nat, (A : Int) = 0 := ⟨0, rfl⟩
  have dgm : ∀ i b, p + i < b → tk_dg f p b i = f (p + i) - 96 := fun i b h => by unfold tk_dg; rw [if_pos h]
  have dg0 : ∀ i b, b ≤ p + i → tk_dg f p b i = 0 := fun i b h => by unfold tk_dg; rw [if_neg (by omega)]
  have e2 : v2 = nI (96 + d) := by rw [ni_of (x := v2) (by omega), h2, show (f (p + 0)).toNat = 96 + d by omega]
  unfold tk_V at h0 ⊢
  rw [dg0 0 _ (by omega), dg0 1 _ (by omega), dg0 2 _ (by omega), dg0 3 _ (by omega), dg0 4 _ (by omega), dg0 5 _ (by omega)] at h0
  rw [dgm 0 _ (by omega), dg0 1 _ (by omega), dg0 2 _ (by omega), dg0 3 _ (by omega), dg0 4 _ (by omega), dg0 5 _ (by omega)]
  have e0 : v0 = nI (A * 1073741824) := by rw [ni_of (x := v0) (by omega), show v0.toInt.toNat = A * 1073741824 by omega]
  have e3 := wl_step (sft := 25) (k := 25) (P := 33554432) (Q := 1073741824) h (by rw [e1]; decide) (by decide) (by decide) (by decide) e2 (by omega) e0 (by omega)
  rw [e3, nI_toInt (by omega)]
  omega
theorem wl_V1 {f : Nat → Int} {p : Nat} {v0 v1 v2 r : Int32} (hs : ∀ j, p ≤ j → j < p + 1 + 1 → tk_small (f j)) (h : WLt v0 v1 v2 r) (h1 : v1.toInt = 1) (h2 : v2.toInt = f (p + 1)) (h0 : v0.toInt = tk_V f p (p + 1)) : r.toInt = tk_V f p (p + 1 + 1) := by
  have a0 : 1 ≤ f (p + 0) - 96 ∧ f (p + 0) - 96 ≤ 26 := by have := hs (p + 0) (by omega) (by omega); unfold tk_small at this; omega
  have a1 : 1 ≤ f (p + 1) - 96 ∧ f (p + 1) - 96 ≤ 26 := by have := hs (p + 1) (by omega) (by omega); unfold tk_small at this; omega
  have e1 : v1 = (1 : Int32) := Int32.toInt_inj.mp (by rw [h1]; decide)
  obtain ⟨d, hd⟩ : ∃ d : Nat, (d : Int) = f (p + 1) - 96 := ⟨(f (p + 1) - 96).toNat, by omega⟩
  obtain ⟨A, hA⟩ : ∃ A : Nat, (A : Int) = (f (p + 0) - 96) * 1 := ⟨((f (p + 0) - 96) * 1).toNat, by omega⟩
  have dgm : ∀ i b, p + i < b → tk_dg f p b i = f (p + i) - 96 := fun i b h => by unfold tk_dg; rw [if_pos h]
  have dg0 : ∀ i b, b ≤ p + i → tk_dg f p b i = 0 := fun i b h => by unfold tk_dg; rw [if_neg (by omega)]
  have e2 : v2 = nI (96 + d) := by rw [ni_of (x := v2) (by omega), h2, show (f (p + 1)).toNat = 96 + d by omega]
  unfold tk_V at h0 ⊢
  rw [dgm 0 _ (by omega), dg0 1 _ (by omega), dg0 2 _ (by omega), dg0 3 _ (by omega), dg0 4 _ (by omega), dg0 5 _ (by omega)] at h0
  rw [dgm 0 _ (by omega), dgm 1 _ (by omega), dg0 2 _ (by omega), dg0 3 _ (by omega), dg0 4 _ (by omega), dg0 5 _ (by omega)]
  have e0 : v0 = nI (A * 33554432) := by rw [ni_of (x := v0) (by omega), show v0.toInt.toNat = A * 33554432 by omega]
  have e3 := wl_step (sft := 20) (k := 20) (P := 1048576) (Q := 33554432) h (by rw [e1]; decide) (by decide) (by decide) (by decide) e2 (by omega) e0 (by omega)
  rw [e3, nI_toInt (by omega)]
  omega
theorem wl_V2 {f : Nat → Int} {p : Nat} {v0 v1 v2 r : Int32} (hs : ∀ j, p ≤ j → j < p + 2 + 1 → tk_small (f j)) (h : WLt v0 v1 v2 r) (h1 : v1.toInt = 2) (h2 : v2.toInt = f (p + 2)) (h0 : v0.toInt = tk_V f p (p + 2)) : r.toInt = tk_V f p (p + 2 + 1) := by
  have a0 : 1 ≤ f (p + 0) - 96 ∧ f (p + 0) - 96 ≤ 26 := by have := hs (p + 0) (by omega) (by omega); unfold tk_small at this; omega
  have a1 : 1 ≤ f (p + 1) - 96 ∧ f (p + 1) - 96 ≤ 26 := by have := hs (p + 1) (by omega) (by omega); unfold tk_small at this; omega
  have a2 : 1 ≤ f (p + 2) - 96 ∧ f (p + 2) - 96 ≤ 26 := by have := hs (p + 2) (by omega) (by omega); unfold tk_small at this; omega
  have e1 : v1 = (2 : Int32) := Int32.toInt_inj.mp (by rw [h1]; decide)
  obtain ⟨d, hd⟩ : ∃ d : Nat, (d : Int) = f (p + 2) - 96 := ⟨(f (p + 2) - 96).toNat, by omega⟩
  obtain ⟨A, hA⟩ : ∃ A : Nat, (A : Int) = (f (p + 0) - 96) * 32 + (f (p + 1) - 96) * 1 := ⟨((f (p + 0) - 96) * 32 + (f (p + 1) - 96) * 1).toNat, by omega⟩
  have dgm : ∀ i b, p + i < b → tk_dg f p b i = f (p + i) - 96 := fun i b h => by unfold tk_dg; rw [if_pos h]
  have dg0 : ∀ i b, b ≤ p + i → tk_dg f p b i = 0 := fun i b h => by unfold tk_dg; rw [if_neg (by omega)]
  have e2 : v2 = nI (96 + d) := by rw [ni_of (x := v2) (by omega), h2, show (f (p + 2)).toNat = 96 + d by omega]
  unfold tk_V at h0 ⊢
  rw [dgm 0 _ (by omega), dgm 1 _ (by omega), dg0 2 _ (by omega), dg0 3 _ (by omega), dg0 4 _ (by omega), dg0 5 _ (by omega)] at h0
  rw [dgm 0 _ (by omega), dgm 1 _ (by omega), dgm 2 _ (by omega), dg0 3 _ (by omega), dg0 4 _ (by omega), dg0 5 _ (by omega)]
  have e0 : v0 = nI (A * 1048576) := by rw [ni_of (x := v0) (by omega), show v0.toInt.toNat = A * 1048576 by omega]
  have e3 := wl_step (sft := 15) (k := 15) (P := 32768) (Q := 1048576) h (by rw [e1]; decide) (by decide) (by decide) (by decide) e2 (by omega) e0 (by omega)
  rw [e3, nI_toInt (by omega)]
  omega
theorem wl_V3 {f : Nat → Int} {p : Nat} {v0 v1 v2 r : Int32} (hs : ∀ j, p ≤ j → j < p + 3 + 1 → tk_small (f j)) (h : WLt v0 v1 v2 r) (h1 : v1.toInt = 3) (h2 : v2.toInt = f (p + 3)) (h0 : v0.toInt = tk_V f p (p + 3)) : r.toInt = tk_V f p (p + 3 + 1) := by
  have a0 : 1 ≤ f (p + 0) - 96 ∧ f (p + 0) - 96 ≤ 26 := by have := hs (p + 0) (by omega) (by omega); unfold tk_small at this; omega
  have a1 : 1 ≤ f (p + 1) - 96 ∧ f (p + 1) - 96 ≤ 26 := by have := hs (p + 1) (by omega) (by omega); unfold tk_small at this; omega
  have a2 : 1 ≤ f (p + 2) - 96 ∧ f (p + 2) - 96 ≤ 26 := by have := hs (p + 2) (by omega) (by omega); unfold tk_small at this; omega
  have a3 : 1 ≤ f (p + 3) - 96 ∧ f (p + 3) - 96 ≤ 26 := by have := hs (p + 3) (by omega) (by omega); unfold tk_small at this; omega
  have e1 : v1 = (3 : Int32) := Int32.toInt_inj.mp (by rw [h1]; decide)
  obtain ⟨d, hd⟩ : ∃ d : Nat, (d : Int) = f (p + 3) - 96 := ⟨(f (p + 3) - 96).toNat, by omega⟩
  obtain ⟨A, hA⟩ : ∃ A : Nat, (A : Int) = (f (p + 0) - 96) * 1024 + (f (p + 1) - 96) * 32 + (f (p + 2) - 96) * 1 := ⟨((f (p + 0) - 96) * 1024 + (f (p + 1) - 96) * 32 + (f (p + 2) - 96) * 1).toNat, by omega⟩
  have dgm : ∀ i b, p + i < b → tk_dg f p b i = f (p + i) - 96 := fun i b h => by unfold tk_dg; rw [if_pos h]
  have dg0 : ∀ i b, b ≤ p + i → tk_dg f p b i = 0 := fun i b h => by unfold tk_dg; rw [if_neg (by omega)]
  have e2 : v2 = nI (96 + d) := by rw [ni_of (x := v2) (by omega), h2, show (f (p + 3)).toNat = 96 + d by omega]
  unfold tk_V at h0 ⊢
  rw [dgm 0 _ (by omega), dgm 1 _ (by omega), dgm 2 _ (by omega), dg0 3 _ (by omega), dg0 4 _ (by omega), dg0 5 _ (by omega)] at h0
  rw [dgm 0 _ (by omega), dgm 1 _ (by omega), dgm 2 _ (by omega), dgm 3 _ (by omega), dg0 4 _ (by omega), dg0 5 _ (by omega)]
  have e0 : v0 = nI (A * 32768) := by rw [ni_of (x := v0) (by omega), show v0.toInt.toNat = A * 32768 by omega]
  have e3 := wl_step (sft := 10) (k := 10) (P := 1024) (Q := 32768) h (by rw [e1]; decide) (by decide) (by decide) (by decide) e2 (by omega) e0 (by omega)
  rw [e3, nI_toInt (by omega)]
  omega
theorem wl_V4 {f : Nat → Int} {p : Nat} {v0 v1 v2 r : Int32} (hs : ∀ j, p ≤ j → j < p + 4 + 1 → tk_small (f j)) (h : WLt v0 v1 v2 r) (h1 : v1.toInt = 4) (h2 : v2.toInt = f (p + 4)) (h0 : v0.toInt = tk_V f p (p + 4)) : r.toInt = tk_V f p (p + 4 + 1) := by
  have a0 : 1 ≤ f (p + 0) - 96 ∧ f (p + 0) - 96 ≤ 26 := by have := hs (p + 0) (by omega) (by omega); unfold tk_small at this; omega
  have a1 : 1 ≤ f (p + 1) - 96 ∧ f (p + 1) - 96 ≤ 26 := by have := hs (p + 1) (by omega) (by omega); unfold tk_small at this; omega
  have a2 : 1 ≤ f (p + 2) - 96 ∧ f (p + 2) - 96 ≤ 26 := by have := hs (p + 2) (by omega) (by omega); unfold tk_small at this; omega
  have a3 : 1 ≤ f (p + 3) - 96 ∧ f (p + 3) - 96 ≤ 26 := by have := hs (p + 3) (by omega) (by omega); unfold tk_small at this; omega
  have a4 : 1 ≤ f (p + 4) - 96 ∧ f (p + 4) - 96 ≤ 26 := by have := hs (p + 4) (by omega) (by omega); unfold tk_small at this; omega
  have e1 : v1 = (4 : Int32) := Int32.toInt_inj.mp (by rw [h1]; decide)
  obtain ⟨d, hd⟩ : ∃ d : Nat, (d : Int) = f (p + 4) - 96 := ⟨(f (p + 4) - 96).toNat, by omega⟩
  obtain ⟨A, hA⟩ : ∃ A : Nat, (A : Int) = (f (p + 0) - 96) * 32768 + (f (p + 1) - 96) * 1024 + (f (p + 2) - 96) * 32 + (f (p + 3) - 96) * 1 := ⟨((f (p + 0) - 96) * 32768 + (f (p + 1) - 96) * 1024 + (f (p + 2) - 96) * 32 + (f (p + 3) - 96) * 1).toNat, by omega⟩
  have dgm : ∀ i b, p + i < b → tk_dg f p b i = f (p + i) - 96 := fun i b h => by unfold tk_dg; rw [if_pos h]
  have dg0 : ∀ i b, b ≤ p + i → tk_dg f p b i = 0 := fun i b h => by unfold tk_dg; rw [if_neg (by omega)]
  have e2 : v2 = nI (96 + d) := by rw [ni_of (x := v2) (by omega), h2, show (f (p + 4)).toNat = 96 + d by omega]
  unfold tk_V at h0 ⊢
  rw [dgm 0 _ (by omega), dgm 1 _ (by omega), dgm 2 _ (by omega), dgm 3 _ (by omega), dg0 4 _ (by omega), dg0 5 _ (by omega)] at h0
  rw [dgm 0 _ (by omega), dgm 1 _ (by omega), dgm 2 _ (by omega), dgm 3 _ (by omega), dgm 4 _ (by omega), dg0 5 _ (by omega)]
  have e0 : v0 = nI (A * 1024) := by rw [ni_of (x := v0) (by omega), show v0.toInt.toNat = A * 1024 by omega]
  have e3 := wl_step (sft := 5) (k := 5) (P := 32) (Q := 1024) h (by rw [e1]; decide) (by decide) (by decide) (by decide) e2 (by omega) e0 (by omega)
  rw [e3, nI_toInt (by omega)]
  omega
theorem wl_V5 {f : Nat → Int} {p : Nat} {v0 v1 v2 r : Int32} (hs : ∀ j, p ≤ j → j < p + 5 + 1 → tk_small (f j)) (h : WLt v0 v1 v2 r) (h1 : v1.toInt = 5) (h2 : v2.toInt = f (p + 5)) (h0 : v0.toInt = tk_V f p (p + 5)) : r.toInt = tk_V f p (p + 5 + 1) := by
  have a0 : 1 ≤ f (p + 0) - 96 ∧ f (p + 0) - 96 ≤ 26 := by have := hs (p + 0) (by omega) (by omega); unfold tk_small at this; omega
  have a1 : 1 ≤ f (p + 1) - 96 ∧ f (p + 1) - 96 ≤ 26 := by have := hs (p + 1) (by omega) (by omega); unfold tk_small at this; omega
  have a2 : 1 ≤ f (p + 2) - 96 ∧ f (p + 2) - 96 ≤ 26 := by have := hs (p + 2) (by omega) (by omega); unfold tk_small at this; omega
  have a3 : 1 ≤ f (p + 3) - 96 ∧ f (p + 3) - 96 ≤ 26 := by have := hs (p + 3) (by omega) (by omega); unfold tk_small at this; omega
  have a4 : 1 ≤ f (p + 4) - 96 ∧ f (p + 4) - 96 ≤ 26 := by have := hs (p + 4) (by omega) (by omega); unfold tk_small at this; omega
  have a5 : 1 ≤ f (p + 5) - 96 ∧ f (p + 5) - 96 ≤ 26 := by have := hs (p + 5) (by omega) (by omega); unfold tk_small at this; omega
  have e1 : v1 = (5 : Int32) := Int32.toInt_inj.mp (by rw [h1]; decide)
  obtain ⟨d, hd⟩ : ∃ d : Nat, (d : Int) = f (p + 5) - 96 := ⟨(f (p + 5) - 96).toNat, by omega⟩
  obtain ⟨A, hA⟩ : ∃ A : Nat, (A : Int) = (f (p + 0) - 96) * 1048576 + (f (p + 1) - 96) * 32768 + (f (p + 2) - 96) * 1024 + (f (p + 3) - 96) * 32 + (f (p + 4) - 96) * 1 := ⟨((f (p + 0) - 96) * 1048576 + (f (p + 1) - 96) * 32768 + (f (p + 2) - 96) * 1024 + (f (p + 3) - 96) * 32 + (f (p + 4) - 96) * 1).toNat, by omega⟩
  have dgm : ∀ i b, p + i < b → tk_dg f p b i = f (p + i) - 96 := fun i b h => by unfold tk_dg; rw [if_pos h]
  have dg0 : ∀ i b, b ≤ p + i → tk_dg f p b i = 0 := fun i b h => by unfold tk_dg; rw [if_neg (by omega)]
  have e2 : v2 = nI (96 + d) := by rw [ni_of (x := v2) (by omega), h2, show (f (p + 5)).toNat = 96 + d by omega]
  unfold tk_V at h0 ⊢
  rw [dgm 0 _ (by omega), dgm 1 _ (by omega), dgm 2 _ (by omega), dgm 3 _ (by omega), dgm 4 _ (by omega), dg0 5 _ (by omega)] at h0
  rw [dgm 0 _ (by omega), dgm 1 _ (by omega), dgm 2 _ (by omega), dgm 3 _ (by omega), dgm 4 _ (by omega), dgm 5 _ (by omega)]
  have e0 : v0 = nI (A * 32) := by rw [ni_of (x := v0) (by omega), show v0.toInt.toNat = A * 32 by omega]
  have e3 := wl_step (sft := 0) (k := 0) (P := 1) (Q := 32) h (by rw [e1]; decide) (by decide) (by decide) (by decide) e2 (by omega) e0 (by omega)
  rw [e3, nI_toInt (by omega)]
  omega
/-- a letter more: what is packed -/
theorem wl_V {f : Nat → Int} {p m : Nat} {v0 v1 v2 r : Int32} (hs : ∀ j, p ≤ j → j < p + m + 1 → tk_small (f j)) (h : WLt v0 v1 v2 r) (h1 : v1.toInt = (m : Int)) (hm : m < 6) (h2 : v2.toInt = f (p + m)) (h0 : v0.toInt = tk_V f p (p + m)) : r.toInt = tk_V f p (p + m + 1) := by
  have : m = 0 ∨ m = 1 ∨ m = 2 ∨ m = 3 ∨ m = 4 ∨ m = 5 := by omega
  rcases this with rfl | rfl | rfl | rfl | rfl | rfl
  · exact wl_V0 hs h h1 h2 h0
  · exact wl_V1 hs h h1 h2 h0
  · exact wl_V2 hs h h1 h2 h0
  · exact wl_V3 hs h h1 h2 h0
  · exact wl_V4 hs h h1 h2 h0
  · exact wl_V5 hs h h1 h2 h0
def NWt (f : Nat → Int32) (v l : Int32) : Prop := ∀ j : Nat, j < l.toNatClampNeg → f j ≠ v
def WKt (f : Nat → Int32) (v r : Int32) : Prop := (∃ i : Nat, i < 20 ∧ r.toInt = 20 + (i : Int) ∧ f i = v) ∨ (r.toInt = 2 ∧ ∀ i, i < 20 → f i ≠ v)
def LGt (f : Nat → Int32) : Prop := ∀ i, i < 20 → (f i).toInt = tk_lang i
theorem tn_c (x : Int32) : x.toNatClampNeg = x.toInt.toNat := rfl
theorem NWt_0 {f : Nat → Int32} {v : Int32} : NWt f v (0 : Int32) := fun j h => absurd h (by rw [show (0 : Int32).toNatClampNeg = 0 by decide]; omega)
theorem NWt_s {f : Nat → Int32} {v l l1 z : Int32} (h : NWt f v l) (ez : z = f l.toNatClampNeg) (hn : z.toInt ≠ v.toInt) (hl : l1.toInt = l.toInt + 1) (h0 : 0 ≤ l.toInt) : NWt f v l1 := fun j hj => by
  rw [tn_c] at hj
  by_cases q : j < l.toNatClampNeg
  · exact h j q
  · rw [tn_c] at q
    have : j = l.toNatClampNeg := by rw [tn_c]; omega
    rw [this, ← ez]
    exact fun z => hn (by rw [z])
theorem WKt_y {f : Nat → Int32} {v l z r : Int32} (ez : z = f l.toNatClampNeg) (he : z.toInt = v.toInt) (hr : r.toInt = 20 + l.toInt) (h0 : 0 ≤ l.toInt) (h1 : l.toInt < 20) : WKt f v r :=
  Or.inl ⟨l.toNatClampNeg, by rw [tn_c]; omega, by rw [tn_c]; omega, by rw [← ez]; exact Int32.toInt_inj.mp he⟩
theorem WKt_n {f : Nat → Int32} {v l : Int32} (h : NWt f v l) (hl : 20 ≤ l.toInt) : WKt f v (2 : Int32) := Or.inr ⟨by decide, fun i hi => h i (by rw [tn_c]; omega)⟩
theorem ne_first {fb : Nat → Int32} {p a z : Int32} (ez : z = fb a.toNatClampNeg) (hn : z.toInt ≠ (fb p.toNatClampNeg).toInt) (h : p.toInt ≤ a.toInt) : p.toInt < a.toInt := by
  by_cases q : p.toInt = a.toInt
  · exact absurd (by rw [ez, Int32.toInt_inj.mp q]) hn
  · omega
def SKt (c k : Int) : Prop := (c = 60 ∧ k = 11) ∨ (c = 62 ∧ k = 16) ∨ (c = 59 ∧ k = 4) ∨ (c = 40 ∧ k = 5) ∨ (c = 41 ∧ k = 6) ∨ (c = 43 ∧ k = 7) ∨ (c = 45 ∧ k = 8) ∨ (c = 42 ∧ k = 9) ∨ (c = 47 ∧ k = 10) ∨ (c = 61 ∧ k = 13) ∨ (c ≠ 60 ∧ c ≠ 62 ∧ c ≠ 59 ∧ c ≠ 40 ∧ c ≠ 41 ∧ c ≠ 43 ∧ c ≠ 45 ∧ c ≠ 42 ∧ c ≠ 47 ∧ c ≠ 61 ∧ k = 3)
theorem sk_1 {c d k : Int} (h : SKt c k) (h1 : c ≠ 60 ∨ (d ≠ 61 ∧ d ≠ 62)) (h2 : c ≠ 62 ∨ d ≠ 61) : tk_sgn c d k 1 := by
  refine Or.inr (Or.inr (Or.inr ⟨rfl, ?_⟩))
  rcases h with ⟨a, b⟩ | ⟨a, b⟩ | ⟨a, b⟩ | ⟨a, b⟩ | ⟨a, b⟩ | ⟨a, b⟩ | ⟨a, b⟩ | ⟨a, b⟩ | ⟨a, b⟩ | ⟨a, b⟩ | h
  · rcases h1 with h1 | h1
    · exact absurd a h1
    · exact Or.inl ⟨a, h1.1, h1.2, b⟩
  · rcases h2 with h2 | h2
    · exact absurd a h2
    · exact Or.inr (Or.inl ⟨a, h2, b⟩)
  · exact Or.inr (Or.inr (Or.inl ⟨a, b⟩))
  · exact Or.inr (Or.inr (Or.inr (Or.inl ⟨a, b⟩)))
  · exact Or.inr (Or.inr (Or.inr (Or.inr (Or.inl ⟨a, b⟩))))
  · exact Or.inr (Or.inr (Or.inr (Or.inr (Or.inr (Or.inl ⟨a, b⟩)))))
  · exact Or.inr (Or.inr (Or.inr (Or.inr (Or.inr (Or.inr (Or.inl ⟨a, b⟩))))))
  · exact Or.inr (Or.inr (Or.inr (Or.inr (Or.inr (Or.inr (Or.inr (Or.inl ⟨a, b⟩)))))))
  · exact Or.inr (Or.inr (Or.inr (Or.inr (Or.inr (Or.inr (Or.inr (Or.inr (Or.inl ⟨a, b⟩))))))))
  · exact Or.inr (Or.inr (Or.inr (Or.inr (Or.inr (Or.inr (Or.inr (Or.inr (Or.inr (Or.inl ⟨a, b⟩)))))))))
  · exact Or.inr (Or.inr (Or.inr (Or.inr (Or.inr (Or.inr (Or.inr (Or.inr (Or.inr (Or.inr h)))))))))
/-- letters read from p on up to a, packed in x -/
def PKt (fb : Nat → Int32) (p a x : Int32) : Prop := (∀ j, p.toInt.toNat ≤ j → j < a.toInt.toNat → tk_small (fI fb j)) ∧ x.toInt = tk_V (fI fb) p.toInt.toNat (min a.toInt.toNat (p.toInt.toNat + 6))
theorem PKt_0 {fb : Nat → Int32} {p : Int32} (h : 0 ≤ p.toInt) : PKt fb p p (0 : Int32) := by
  refine ⟨fun j h1 h2 => absurd h1 (by omega), ?_⟩
  rw [show min p.toInt.toNat (p.toInt.toNat + 6) = p.toInt.toNat by omega]
  unfold tk_V tk_dg
  simp only [show ∀ i, (p.toInt.toNat + i < p.toInt.toNat) = False from fun i => by simp, if_false]
  decide
theorem sm_ext {fb : Nat → Int32} {p a a1 : Int32} {P : Int → Prop} (h : ∀ j, p.toInt.toNat ≤ j → j < a.toInt.toNat → P (fI fb j)) (h0 : 0 ≤ a.toInt) (ha : a1.toInt = a.toInt + 1) (hs : P (fI fb a.toNatClampNeg)) : ∀ j, p.toInt.toNat ≤ j → j < a1.toInt.toNat → P (fI fb j) := fun j h1 h2 => by
  by_cases q : j < a.toInt.toNat
  · exact h j h1 q
  · have : j = a.toNatClampNeg := by rw [tn_c]; omega
    rw [this]; exact hs
theorem PKt_skip {fb : Nat → Int32} {p a a1 x z : Int32} (h : PKt fb p a x) (ez : z = fb a.toNatClampNeg) (hz : 97 ≤ z.toInt ∧ z.toInt ≤ 122) (hp : 0 ≤ p.toInt) (h6 : p.toInt + 6 ≤ a.toInt) (ha : a1.toInt = a.toInt + 1) : PKt fb p a1 x := by
  refine ⟨sm_ext h.1 (by omega) ha (by show tk_small (fb a.toNatClampNeg).toInt; rw [← ez]; exact hz), ?_⟩
  rw [show min a1.toInt.toNat (p.toInt.toNat + 6) = min a.toInt.toNat (p.toInt.toNat + 6) by omega]
  exact h.2
theorem PKt_add {fb : Nat → Int32} {p a a1 x x1 i z : Int32} (h : PKt fb p a x) (ez : z = fb a.toNatClampNeg) (hz : 97 ≤ z.toInt ∧ z.toInt ≤ 122) (hw : WLt x i z x1) (hi : i.toInt = a.toInt - p.toInt) (hp : 0 ≤ p.toInt) (hpa : p.toInt ≤ a.toInt) (h6 : a.toInt - p.toInt < 6) (ha : a1.toInt = a.toInt + 1) : PKt fb p a1 x1 := by
  have hs := sm_ext (P := tk_small) h.1 (by omega) ha (by show tk_small (fb a.toNatClampNeg).toInt; rw [← ez]; exact hz)
  refine ⟨hs, ?_⟩
  have e0 : a.toInt.toNat = p.toInt.toNat + (a.toInt - p.toInt).toNat := by omega
  have e1 : min a1.toInt.toNat (p.toInt.toNat + 6) = p.toInt.toNat + (a.toInt - p.toInt).toNat + 1 := by omega
  have e2 : min a.toInt.toNat (p.toInt.toNat + 6) = p.toInt.toNat + (a.toInt - p.toInt).toNat := by omega
  have h2 := h.2
  rw [e2] at h2
  rw [e1]
  refine wl_V (fun j h1 h2 => hs j h1 (by omega)) hw (by omega) (by omega) ?_ h2
  rw [← e0, ez]; rfl
/-- digits read from p on up to a, summed in x -/
def NVt (fb : Nat → Int32) (p a x : Int32) : Prop := (∀ j, p.toInt.toNat ≤ j → j < a.toInt.toNat → tk_digit (fI fb j)) ∧ x.toInt = tk_nv (fI fb) p.toInt.toNat (a.toInt.toNat - p.toInt.toNat)
theorem NVt_0 {fb : Nat → Int32} {p : Int32} (h : 0 ≤ p.toInt) : NVt fb p p (0 : Int32) := by
  refine ⟨fun j h1 h2 => absurd h1 (by omega), ?_⟩
  rw [Nat.sub_self]; rfl
theorem NVt_s {fb : Nat → Int32} {p a a1 x x1 y z : Int32} (h : NVt fb p a x) (ez : z = fb a.toNatClampNeg) (hz : 48 ≤ z.toInt ∧ z.toInt ≤ 57) (hy : y.toInt = 10 * x.toInt + z.toInt - 48) (hm : (x1.toInt = y.toInt ∧ y.toInt ≤ 1000000) ∨ (x1.toInt = 1000000 ∧ 1000000 ≤ y.toInt)) (hp : 0 ≤ p.toInt) (hpa : p.toInt ≤ a.toInt) (ha : a1.toInt = a.toInt + 1) : NVt fb p a1 x1 := by
  refine ⟨sm_ext h.1 (by omega) ha (by show tk_digit (fb a.toNatClampNeg).toInt; rw [← ez]; exact hz), ?_⟩
  have e1 : a1.toInt.toNat - p.toInt.toNat = (a.toInt.toNat - p.toInt.toNat) + 1 := by omega
  have h2 := h.2
  have e3 : fI fb (p.toInt.toNat + (a.toInt.toNat - p.toInt.toNat)) = z.toInt := by
    rw [show p.toInt.toNat + (a.toInt.toNat - p.toInt.toNat) = a.toNatClampNeg by rw [tn_c]; omega, ez]; rfl
  rw [e1]
  show x1.toInt = min (10 * tk_nv (fI fb) p.toInt.toNat (a.toInt.toNat - p.toInt.toNat) + fI fb (p.toInt.toNat + (a.toInt.toNat - p.toInt.toNat)) - 48) 1000000
  rw [e3, ← h2]
  omega
theorem tk_nv_rng {f : Nat → Int} {p : Nat} : ∀ m, (∀ j, j < m → tk_digit (f (p + j))) → 0 ≤ tk_nv f p m ∧ tk_nv f p m ≤ 1000000 := by
  intro m
  induction m with
  | zero => intro _; simp [tk_nv]
  | succ m ih =>
    intro h
    have h1 := ih (fun j hj => h j (by omega))
    have h2 := h m (by omega)
    unfold tk_digit at h2
    simp only [tk_nv]
    omega
/-- one token more in the rows -/
def TWt (fb fk fp fw : Nat → Int32) (c vf vl : Int32) (fk1 fp1 fw1 : Nat → Int32) (c1 r : Int32) : Prop := ∃ k w : Int32, c1.toInt = c.toInt + 1 ∧ upd fk c.toNatClampNeg k = fk1 ∧ upd fp c.toNatClampNeg vf = fp1 ∧ upd fw c.toNatClampNeg w = fw1 ∧ vf.toInt < r.toInt ∧ r.toInt ≤ vl.toInt ∧ TokAt (fI fb) vl.toInt.toNat vf.toInt.toNat k.toInt vf.toInt.toNat w.toInt r.toInt.toNat
theorem tw_word {fb fl : Nat → Int32} {p l a x k : Int32} (h : PKt fb p a x) (hlg : LGt fl) (hp : 0 ≤ p.toInt) (hpa : p.toInt < a.toInt) (hal : a.toInt ≤ l.toInt) (he : l.toInt ≤ a.toInt ∨ ¬ tk_small (fI fb a.toNatClampNeg)) (hk : (6 < a.toInt - p.toInt ∧ k.toInt = 3) ∨ (a.toInt - p.toInt ≤ 6 ∧ WKt fl x k)) :
    TokAt (fI fb) l.toInt.toNat p.toInt.toNat k.toInt p.toInt.toNat x.toInt a.toInt.toNat := by
  refine ⟨Nat.le_refl _, by omega, by omega, fun j h1 h2 => absurd h1 (by omega), Or.inl ⟨⟨by omega, by omega, h.1, fun q => ?_⟩, ?_⟩⟩
  · rcases he with he | he
    · exact absurd q (by omega)
    · exact he
  · rcases hk with ⟨h1, h2⟩ | ⟨h1, h2⟩
    · exact Or.inl ⟨by omega, h2⟩
    · have h3 := h.2
      rw [show min a.toInt.toNat (p.toInt.toNat + 6) = a.toInt.toNat by omega] at h3
      refine Or.inr ⟨by omega, h3, ?_⟩
      rcases h2 with ⟨i, i1, i2, i3⟩ | ⟨i1, i2⟩
      · exact Or.inl ⟨i, i1, i2, by rw [← i3]; exact hlg i i1⟩
      · exact Or.inr ⟨i1, fun i hi q => i2 i hi (Int32.toInt_inj.mp (by rw [hlg i hi]; exact q.symm))⟩
theorem tw_num {fb : Nat → Int32} {p l a x : Int32} (h : NVt fb p a x) (hp : 0 ≤ p.toInt) (hpa : p.toInt < a.toInt) (hal : a.toInt ≤ l.toInt) (he : l.toInt ≤ a.toInt ∨ ¬ tk_digit (fI fb a.toNatClampNeg)) :
    TokAt (fI fb) l.toInt.toNat p.toInt.toNat (1 : Int32).toInt p.toInt.toNat x.toInt a.toInt.toNat := by
  refine ⟨Nat.le_refl _, by omega, by omega, fun j h1 h2 => absurd h1 (by omega), Or.inr (Or.inl ⟨⟨by omega, by omega, h.1, fun q => ?_⟩, by decide, h.2⟩)⟩
  rcases he with he | he
  · exact absurd q (by omega)
  · exact he
theorem tw_sign {fb : Nat → Int32} {p l r k y : Int32} {nx : Int} {s : Nat} (hp : 0 ≤ p.toInt) (hpl : p.toInt < l.toInt) (ey : y = fb p.toNatClampNeg) (hb : y.toInt ≠ 10 ∧ y.toInt ≠ 32) (hs : y.toInt < 97 ∨ 122 < y.toInt) (hd : y.toInt < 48 ∨ 57 < y.toInt) (hx : (p.toInt + 1 < l.toInt ∧ nx = fI fb (p.toInt.toNat + 1)) ∨ (l.toInt ≤ p.toInt + 1 ∧ nx = 0)) (hr : r.toInt = p.toInt + (s : Int)) (hg : tk_sgn y.toInt nx k.toInt s) :
    TokAt (fI fb) l.toInt.toNat p.toInt.toNat k.toInt p.toInt.toNat (0 : Int32).toInt r.toInt.toNat := by
  have e1 : fI fb p.toInt.toNat = y.toInt := by rw [ey]; rfl
  have e2 : (if p.toInt.toNat + 1 < l.toInt.toNat then fI fb (p.toInt.toNat + 1) else 0) = nx := by
    rcases hx with ⟨h1, h2⟩ | ⟨h1, h2⟩
    · rw [if_pos (by omega), h2]
    · rw [if_neg (by omega), h2]
  have hs2 : s = 1 ∨ (s = 2 ∧ nx ≠ 0) := by unfold tk_sgn at hg; omega
  refine ⟨Nat.le_refl _, by omega, ?_, fun j h1 h2 => absurd h1 (by omega), Or.inr (Or.inr ⟨?_, ?_, ?_, s, by omega, ?_⟩)⟩
  · rcases hs2 with h | ⟨h, h'⟩
    · omega
    · rcases hx with ⟨h1, h2⟩ | ⟨h1, h2⟩
      · omega
      · exact absurd h2 h'
  · rw [e1]; unfold tk_blank; omega
  · rw [e1]; unfold tk_small; omega
  · rw [e1]; unfold tk_digit; omega
  · rw [e1, e2]; exact hg
/-- the tokens up to at -/
def TSp (fb : Nat → Int32) (vl : Int32) (fk fp fw : Nat → Int32) (c at_ : Int32) : Prop := ∃ q : Nat → Nat, q 0 = 0 ∧ (∀ i, i < c.toInt.toNat → TokAt (fI fb) vl.toInt.toNat (q i) (fI fk i) (fI fp i).toNat (fI fw i) (q (i + 1)) ∧ 0 ≤ fI fp i) ∧ q c.toInt.toNat ≤ at_.toInt.toNat ∧ (∀ j, q c.toInt.toNat ≤ j → j < at_.toInt.toNat → tk_blank (fI fb j))
theorem TSp_0 {fb fk fp fw : Nat → Int32} {vl : Int32} : TSp fb vl fk fp fw (0 : Int32) (0 : Int32) := ⟨fun _ => 0, rfl, fun i h => absurd h (by rw [show (0 : Int32).toInt.toNat = 0 by decide]; omega), Nat.zero_le _, fun j _ h => absurd h (by rw [show (0 : Int32).toInt.toNat = 0 by decide]; omega)⟩
theorem TSp_b {fb fk fp fw : Nat → Int32} {vl c a a1 z : Int32} (h : TSp fb vl fk fp fw c a) (ez : z = fb a.toNatClampNeg) (hz : z.toInt = 10 ∨ z.toInt = 32) (h0 : 0 ≤ a.toInt) (ha : a1.toInt = a.toInt + 1) : TSp fb vl fk fp fw c a1 := by
  obtain ⟨q, q0, q1, q2, q3⟩ := h
  refine ⟨q, q0, q1, by omega, fun j h1 h2 => ?_⟩
  by_cases g : j < a.toInt.toNat
  · exact q3 j h1 g
  · have : j = a.toNatClampNeg := by rw [tn_c]; omega
    rw [this]
    show tk_blank (fb a.toNatClampNeg).toInt
    rw [← ez]; exact hz
theorem ud_at {f : Nat → Int32} {k : Nat} {x : Int32} : upd f k x k = x := by unfold upd; rw [if_pos rfl]
theorem ud_ne {f : Nat → Int32} {k j : Nat} {x : Int32} (h : j ≠ k) : upd f k x j = f j := by unfold upd; rw [if_neg h]
theorem TSp_n {fb fk fp fw fk1 fp1 fw1 : Nat → Int32} {vl c c1 a r : Int32} (h : TSp fb vl fk fp fw c a) (h0 : 0 ≤ c.toInt) (ha : 0 ≤ a.toInt) (t : TWt fb fk fp fw c a vl fk1 fp1 fw1 c1 r) : TSp fb vl fk1 fp1 fw1 c1 r := by
  obtain ⟨q, q0, q1, q2, q3⟩ := h
  obtain ⟨k, w, t0, rfl, rfl, rfl, t4, t5, t6⟩ := t
  have ec : c1.toInt.toNat = c.toInt.toNat + 1 := by omega
  refine ⟨fun i => if i ≤ c.toInt.toNat then q i else r.toInt.toNat, ?_, fun i hi => ?_, ?_, fun j h1 h2 => ?_⟩
  · show (if 0 ≤ c.toInt.toNat then q 0 else r.toInt.toNat) = 0
    rw [if_pos (Nat.zero_le _)]; exact q0
  · rw [ec] at hi
    show TokAt (fI fb) vl.toInt.toNat (if i ≤ c.toInt.toNat then q i else r.toInt.toNat) _ _ _ (if i + 1 ≤ c.toInt.toNat then q (i + 1) else r.toInt.toNat) ∧ _
    rw [if_pos (by omega)]
    by_cases g : i = c.toInt.toNat
    · rw [if_neg (by omega)]
      have e1 : fI (upd fk c.toNatClampNeg k) i = k.toInt := by unfold fI; rw [g]; exact congrArg _ ud_at
      have e2 : fI (upd fp c.toNatClampNeg a) i = a.toInt := by unfold fI; rw [g]; exact congrArg _ ud_at
      have e3 : fI (upd fw c.toNatClampNeg w) i = w.toInt := by unfold fI; rw [g]; exact congrArg _ ud_at
      rw [e1, e2, e3]
      obtain ⟨u1, u2, u3, u4, u5⟩ := t6
      refine ⟨⟨by rw [g]; exact q2, u2, u3, fun j h1 h2 => q3 j (by rw [← g]; exact h1) h2, u5⟩, ha⟩
    · rw [if_pos (by omega)]
      have e1 : fI (upd fk c.toNatClampNeg k) i = fI fk i := congrArg _ (ud_ne (by rw [tn_c]; omega))
      have e2 : fI (upd fp c.toNatClampNeg a) i = fI fp i := congrArg _ (ud_ne (by rw [tn_c]; omega))
      have e3 : fI (upd fw c.toNatClampNeg w) i = fI fw i := congrArg _ (ud_ne (by rw [tn_c]; omega))
      rw [e1, e2, e3]
      exact q1 i (by omega)
  · show (if c1.toInt.toNat ≤ c.toInt.toNat then _ else r.toInt.toNat) ≤ _
    rw [if_neg (by omega)]; exact Nat.le_refl _
  · have h3 : (if c1.toInt.toNat ≤ c.toInt.toNat then q c1.toInt.toNat else r.toInt.toNat) ≤ j := h1
    rw [if_neg (by omega)] at h3
    exact absurd h2 (by omega)
/-- all tokens of a text -/
def TSe (fb : Nat → Int32) (vl : Int32) (fk fp fw : Nat → Int32) (c : Int32) : Prop := 1 ≤ c.toInt ∧ ∃ q : Nat → Nat, TS (fI fb) vl.toInt.toNat (fI fk) (fI fp) (fI fw) q (c.toInt - 1).toNat
theorem TSp_e {fb fk fp fw fk1 fp1 fw1 : Nat → Int32} {vl c c1 a : Int32} (h : TSp fb vl fk fp fw c a) (h0 : 0 ≤ c.toInt) (hl : 0 ≤ vl.toInt) (ha : a.toInt = vl.toInt) (hc : c1.toInt = c.toInt + 1) (e1 : upd fk c.toNatClampNeg (0 : Int32) = fk1) (e2 : upd fp c.toNatClampNeg vl = fp1) (e3 : upd fw c.toNatClampNeg (0 : Int32) = fw1) : TSe fb vl fk1 fp1 fw1 c1 := by
  obtain ⟨q, q0, q1, q2, q3⟩ := h
  subst e1 e2 e3
  have ee : (c1.toInt - 1).toNat = c.toInt.toNat := by omega
  refine ⟨by omega, fun i => if i ≤ c.toInt.toNat then q i else vl.toInt.toNat, ?_⟩
  rw [ee]
  refine ⟨?_, ?_, ?_, fun i hi => ?_, ?_, ?_, fun j h1 h2 => ?_⟩
  · show (if 0 ≤ c.toInt.toNat then q 0 else vl.toInt.toNat) = 0
    rw [if_pos (Nat.zero_le _)]; exact q0
  · show (if c.toInt.toNat + 1 ≤ c.toInt.toNat then q (c.toInt.toNat + 1) else vl.toInt.toNat) = vl.toInt.toNat
    rw [if_neg (by omega)]
  · show (if c.toInt.toNat ≤ c.toInt.toNat then q c.toInt.toNat else vl.toInt.toNat) ≤ _
    rw [if_pos (Nat.le_refl _)]; omega
  · show TokAt (fI fb) vl.toInt.toNat (if i ≤ c.toInt.toNat then q i else vl.toInt.toNat) _ _ _ (if i + 1 ≤ c.toInt.toNat then q (i + 1) else vl.toInt.toNat) ∧ _
    rw [if_pos (by omega), if_pos (by omega)]
    have e1 : fI (upd fk c.toNatClampNeg 0) i = fI fk i := congrArg _ (ud_ne (by rw [tn_c]; omega))
    have e2 : fI (upd fp c.toNatClampNeg vl) i = fI fp i := congrArg _ (ud_ne (by rw [tn_c]; omega))
    have e3 : fI (upd fw c.toNatClampNeg 0) i = fI fw i := congrArg _ (ud_ne (by rw [tn_c]; omega))
    rw [e1, e2, e3]
    exact q1 i hi
  · show (upd fk c.toNatClampNeg (0 : Int32) c.toNatClampNeg).toInt = 0
    rw [ud_at]; decide
  · show (upd fp c.toNatClampNeg vl c.toNatClampNeg).toInt = _
    rw [ud_at]; omega
  · have h3 : (if c.toInt.toNat ≤ c.toInt.toNat then q c.toInt.toNat else vl.toInt.toNat) ≤ j := h1
    rw [if_pos (Nat.le_refl _)] at h3
    exact q3 j h3 (by omega)
