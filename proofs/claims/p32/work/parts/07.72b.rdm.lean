
/-! the reference's readers: where it stands. at, place, sort, value, fault, faultPlace, counted, number, knotSort, knotValue -/
def KM (k w its v : Int) : Prop := (k = 1 ∧ its = 0 ∧ v = w) ∨ (35 ≤ k ∧ k ≤ 39 ∧ its = 1 ∧ v = k - 35) ∨ (its = 2 ∧ ((k = 7 ∧ v = 43) ∨ (k = 8 ∧ v = 45) ∨ (k = 9 ∧ v = 42) ∨ (k = 10 ∧ v = 47) ∨ (k = 11 ∧ v = 60) ∨ (k = 12 ∧ v = 256) ∨ (k = 13 ∧ v = 61) ∨ (k = 14 ∧ v = 257) ∨ (k = 15 ∧ v = 258) ∨ (k = 16 ∧ v = 62) ∨ (k = 34 ∧ v = 260) ∨ (k = 33 ∧ v = 261) ∨ (k = 32 ∧ v = 262)))
def AGM (L : List (Int32 × Int32)) (ks kv : Nat → Int32) : Prop := ∀ (i : Nat) (p : Int32 × Int32), L[i]? = some p → KM p.1.toInt p.2.toInt (ks (64 + i)).toInt (kv (64 + i)).toInt
def RM (K PL W : Nat → Int32) (q : Nat → Nat) (e : Nat) (S : PS) (a pl so va fl fp co : Int32) (nu ks kv : Nat → Int32) : Prop :=
  PW e S ∧ fl.toInt = ps_f S ∧ (ps_f S ≠ 0 → fp = PL (ps_u S)) ∧ (ps_f S = 0 → fp.toInt = -1 ∧ a.toInt = (q (ps_t S + 1) : Int) ∧ pl = PL (ps_t S) ∧ TM (fI K (ps_t S)) (fI W (ps_t S)) so.toInt va.toInt ∧ co.toInt = (ps_c S : Int) ∧ (nu 9).toInt = ((ps_L S).length : Int) ∧ AGM (ps_L S) ks kv)
def WRm (k : Int) (pl fl fp fl1 fp1 : Int32) : Prop := (fl.toInt = 0 ∧ fl1.toInt = k ∧ fp1 = pl) ∨ (fl.toInt ≠ 0 ∧ fl1 = fl ∧ fp1 = fp)
def CTm (pl fl fp co fl1 fp1 co1 : Int32) : Prop := (fl.toInt = 0 ∧ co.toInt < 64 ∧ co1.toInt = co.toInt + 1 ∧ fl1 = fl ∧ fp1 = fp) ∨ ((fl.toInt ≠ 0 ∨ 64 ≤ co.toInt) ∧ WRm 2 pl fl fp fl1 fp1)
def pp_cnt (e : Nat) (S : PS) : PS := if ps_f S = 0 ∧ ps_c S < 64 then (ps_t S, ps_c S + 1, ps_L S, 0, ps_u S) else pp_ref e 2 S
theorem pp_ref_eq {e : Nat} {k : Int} {S : PS} (h : ps_f S = 0) : pp_ref e k S = (e, ps_c S, ps_L S, k, ps_t S) := by unfold pp_ref; rw [if_pos h]
theorem pp_step_eq {S : PS} (h : ps_f S = 0) : pp_step S = (ps_t S + 1, ps_c S, ps_L S, 0, ps_u S) := by unfold pp_step; rw [if_pos h]
theorem pp_step_no {S : PS} (h : ps_f S ≠ 0) : pp_step S = S := by unfold pp_step; rw [if_neg h]
theorem pp_cs {e : Nat} {S : PS} : pp_step (pp_cnt e S) = pp_knot e S := by
  unfold pp_cnt pp_knot
  by_cases c : ps_f S = 0 ∧ ps_c S < 64
  · rw [if_pos c, if_pos c]; rfl
  · rw [if_neg c, if_neg c]; exact pp_step_no (pp_f_ref (by decide))
theorem rm_f0 {K PL W : Nat → Int32} {q : Nat → Nat} {e : Nat} {S : PS} {a pl so va fl fp co : Int32} {nu ks kv : Nat → Int32} (h : RM K PL W q e S a pl so va fl fp co nu ks kv) : ps_f S = 0 ↔ fl.toInt = 0 := by rw [h.2.1]
theorem rm_tm {K PL W : Nat → Int32} {q : Nat → Nat} {e : Nat} {S : PS} {a pl so va fl fp co : Int32} {nu ks kv : Nat → Int32} (h : RM K PL W q e S a pl so va fl fp co nu ks kv) (h0 : fl.toInt = 0) : TM (fI K (ps_t S)) (fI W (ps_t S)) so.toInt va.toInt := (h.2.2.2 ((rm_f0 h).mpr h0)).2.2.2.1
theorem rm_tok {K PL W : Nat → Int32} {q : Nat → Nat} {e : Nat} {S : PS} {a pl so va fl fp co : Int32} {nu ks kv : Nat → Int32} (hK : fI K e = 0) (h : RM K PL W q e S a pl so va fl fp co nu ks kv) (h0 : fl.toInt = 0) (h4 : so.toInt ≠ 4) : ps_f S = 0 ∧ (ps_t S + 1 ≤ e ∧ a.toInt = (q (ps_t S + 1) : Int)) ∧ (K (ps_t S)).toInt ≠ 0 := by
  have z := (rm_f0 h).mpr h0
  have g := h.2.2.2 z
  have hn : fI K (ps_t S) ≠ 0 := fun y => h4 ((tm_end g.2.2.2.1).mpr y)
  have hp := (h.1.1 z).1
  have : ps_t S ≠ e := fun y => hn (by rw [y]; exact hK)
  exact ⟨z, ⟨by omega, g.2.1⟩, hn⟩
/-- fields that a fault makes free -/
theorem rm_any {K PL W : Nat → Int32} {q : Nat → Nat} {e : Nat} {S T : PS} {a pl so va fl fp co a1 pl1 so1 va1 co1 : Int32} {nu ks kv nu1 ks1 kv1 : Nat → Int32} (h : RM K PL W q e S a pl so va fl fp co nu ks kv) (h0 : fl.toInt ≠ 0) (hT : ps_f T = ps_f S) (hu : ps_u T = ps_u S) (ht : ps_t T = e) : RM K PL W q e T a1 pl1 so1 va1 fl fp co1 nu1 ks1 kv1 := by
  have z : ps_f S ≠ 0 := fun y => h0 ((rm_f0 h).mp y)
  refine ⟨⟨fun y => absurd (hT.symm.trans y) z, fun _ => ht⟩, by rw [hT]; exact h.2.1, fun _ => by rw [hu]; exact h.2.2.1 z, fun y => absurd (hT.symm.trans y) z⟩
theorem rm_same {K PL W : Nat → Int32} {q : Nat → Nat} {e : Nat} {S : PS} {a pl so va fl fp co a1 pl1 so1 va1 co1 : Int32} {nu ks kv nu1 ks1 kv1 : Nat → Int32} (h : RM K PL W q e S a pl so va fl fp co nu ks kv) (h0 : fl.toInt ≠ 0) : RM K PL W q e S a1 pl1 so1 va1 fl fp co1 nu1 ks1 kv1 := rm_any h h0 rfl rfl (h.1.2 (fun y => h0 ((rm_f0 h).mp y)))
theorem rm_ref {K PL W : Nat → Int32} {q : Nat → Nat} {e : Nat} {S : PS} {k : Int} {a pl so va fl fp co a1 pl1 so1 va1 fl1 fp1 co1 : Int32} {nu ks kv nu1 ks1 kv1 : Nat → Int32} (h : RM K PL W q e S a pl so va fl fp co nu ks kv) (hk : k ≠ 0) (r : WRm k pl fl fp fl1 fp1) : RM K PL W q e (pp_ref e k S) a1 pl1 so1 va1 fl1 fp1 co1 nu1 ks1 kv1 := by
  rcases r with ⟨r1, r2, r3⟩ | ⟨r1, r2, r3⟩
  · have z := (rm_f0 h).mpr r1
    rw [pp_ref_eq z]
    refine ⟨⟨fun y => absurd y hk, fun _ => rfl⟩, r2, fun _ => ?_, fun y => absurd y hk⟩
    rw [r3]; exact (h.2.2.2 z).2.2.1
  · have z : ps_f S ≠ 0 := fun y => r1 ((rm_f0 h).mp y)
    rw [pr_no z, r2, r3]
    exact rm_same h r1
theorem rm_step {K PL W : Nat → Int32} {q : Nat → Nat} {e : Nat} {S : PS} {a pl so va fl fp co a1 pl1 so1 va1 : Int32} {nu ks kv : Nat → Int32} (hK : fI K e = 0) (h : RM K PL W q e S a pl so va fl fp co nu ks kv) (h0 : fl.toInt = 0) (h4 : so.toInt ≠ 4) (ha : a1.toInt = (q (ps_t S + 1 + 1) : Int)) (hp : pl1.toInt = fI PL (ps_t S + 1)) (ht : TM (fI K (ps_t S + 1)) (fI W (ps_t S + 1)) so1.toInt va1.toInt) : RM K PL W q e (pp_step S) a1 pl1 so1 va1 fl fp co nu ks kv := by
  have g := rm_tok hK h h0 h4
  have hw := pw_step hK h.1 (fun _ => g.2.2)
  have g5 := h.2.2.2 g.1
  rw [pp_step_eq g.1] at hw ⊢
  exact ⟨hw, h0, fun y => absurd rfl y, fun _ => ⟨g5.1, ha, Int32.toInt_inj.mp hp, ht, g5.2.2.2.2⟩⟩
theorem rm_step_no {K PL W : Nat → Int32} {q : Nat → Nat} {e : Nat} {S : PS} {a pl so va fl fp co : Int32} {nu ks kv : Nat → Int32} (h : RM K PL W q e S a pl so va fl fp co nu ks kv) (h0 : fl.toInt ≠ 0) : RM K PL W q e (pp_step S) a pl so va fl fp co nu ks kv := by
  rw [pp_step_no (fun y => h0 ((rm_f0 h).mp y))]; exact h
theorem rm_cnt {K PL W : Nat → Int32} {q : Nat → Nat} {e : Nat} {S : PS} {a pl so va fl fp co fl1 fp1 co1 : Int32} {nu ks kv : Nat → Int32} (h : RM K PL W q e S a pl so va fl fp co nu ks kv) (r : CTm pl fl fp co fl1 fp1 co1) : RM K PL W q e (pp_cnt e S) a pl so va fl1 fp1 co1 nu ks kv := by
  rcases r with ⟨r1, r2, r3, r4, r5⟩ | ⟨r1, r2⟩
  · have z := (rm_f0 h).mpr r1
    have g := h.2.2.2 z
    have p := h.1.1 z
    have c : ps_f S = 0 ∧ ps_c S < 64 := ⟨z, by omega⟩
    unfold pp_cnt
    rw [if_pos c, r4, r5]
    refine ⟨⟨fun _ => ⟨p.1, by show ps_c S + 1 ≤ 64; omega, by show (ps_L S).length ≤ ps_c S + 1; omega⟩, fun y => absurd rfl y⟩, r1, fun y => absurd rfl y, fun _ => ⟨g.1, g.2.1, g.2.2.1, g.2.2.2.1, ?_, g.2.2.2.2.2⟩⟩
    show co1.toInt = ((ps_c S + 1 : Nat) : Int)
    omega
  · have c : ¬ (ps_f S = 0 ∧ ps_c S < 64) := fun y => by
      have g := h.2.2.2 y.1
      have := (rm_f0 h).mp y.1
      omega
    unfold pp_cnt
    rw [if_neg c]
    exact rm_ref h (by decide) r2
theorem rm_knot {K PL W : Nat → Int32} {q : Nat → Nat} {e : Nat} {S : PS} {a pl so va fl fp co : Int32} {nu ks kv : Nat → Int32} (h : RM K PL W q e (pp_step (pp_cnt e S)) a pl so va fl fp co nu ks kv) : RM K PL W q e (pp_knot e S) a pl so va fl fp co nu ks kv := by rw [← pp_cs]; exact h
theorem AGM_add {L : List (Int32 × Int32)} {ks kv js jv : Nat → Int32} {k w : Int32} (h : AGM L ks kv) (hj : ∀ j, j ≠ 64 + L.length → js j = ks j ∧ jv j = kv j) (hk : KM k.toInt w.toInt (js (64 + L.length)).toInt (jv (64 + L.length)).toInt) : AGM (L ++ [(k, w)]) js jv := by
  intro i p hp
  by_cases c : i = L.length
  · subst c
    rw [List.getElem?_append_right (Nat.le_refl _), Nat.sub_self] at hp
    cases hp
    exact hk
  · have hl : i < (L ++ [(k, w)]).length := (List.getElem?_eq_some_iff.mp hp).1
    rw [List.length_append] at hl
    have hl : i < L.length + 1 := hl
    rw [List.getElem?_append_left (by omega)] at hp
    have g := hj (64 + i) (by omega)
    rw [g.1, g.2]
    exact h i p hp
theorem rm_add {K PL W : Nat → Int32} {q : Nat → Nat} {e : Nat} {S : PS} {a pl so va fl fp co its v k w : Int32} {nu ks kv mu js jv : Nat → Int32} (h : RM K PL W q e S a pl so va fl fp co nu ks kv) (hl : ps_f S = 0 → (ps_L S).length + 1 ≤ ps_c S) (hk : ps_f S = 0 → KM k.toInt w.toInt its.toInt v.toInt) (p : PUt fl its v nu ks kv mu js jv) : RM K PL W q e (pp_add k w S) a pl so va fl fp co mu js jv := by
  by_cases z : ps_f S = 0
  · have h0 := (rm_f0 h).mp z
    have g := h.2.2.2 z
    have pw := h.1.1 z
    have hl := hl z
    obtain ⟨p1, p2, p3, p4⟩ := p.2 h0
    have e1 : (64 + (nu 9).toInt).toNat = 64 + (ps_L S).length := by have := g.2.2.2.2.2.1; omega
    rw [e1] at p2 p3 p4
    unfold pp_add
    rw [if_pos z]
    refine ⟨⟨fun _ => ⟨pw.1, pw.2.1, ?_⟩, fun y => absurd rfl y⟩, h0, fun y => absurd rfl y, fun _ => ⟨g.1, g.2.1, g.2.2.1, g.2.2.2.1, g.2.2.2.2.1, ?_, ?_⟩⟩
    · show (ps_L S ++ [(k, w)]).length ≤ ps_c S
      rw [List.length_append]; exact hl
    · show (mu 9).toInt = (((ps_L S ++ [(k, w)]).length : Nat) : Int)
      rw [List.length_append, p1.1, g.2.2.2.2.2.1]
      show _ = (((ps_L S).length + 1 : Nat) : Int)
      omega
    · exact AGM_add g.2.2.2.2.2.2 p2 (by rw [p3, p4]; exact hk z)
  · have h0 : fl.toInt ≠ 0 := fun y => z ((rm_f0 h).mpr y)
    rw [pp_add_no z]
    exact rm_same h h0
/-! signs and words of the token at hand -/
theorem rm_word {K PL W : Nat → Int32} {q : Nat → Nat} {e : Nat} {S : PS} {a pl so va fl fp co : Int32} {nu ks kv : Nat → Int32} (h : RM K PL W q e S a pl so va fl fp co nu ks kv) (x : Int) (hx : 0 ≤ x) (hx1 : x ≤ 19) : (fl.toInt = 0 ∧ so.toInt = 0 ∧ va.toInt = x) ↔ (ps_f S = 0 ∧ (K (ps_t S)).toInt = 20 + x) := by
  constructor
  · intro y; exact ⟨(rm_f0 h).mpr y.1, (tm_word (rm_tm h y.1) x hx hx1).mp y.2⟩
  · intro y; have z := (rm_f0 h).mp y.1; exact ⟨z, (tm_word (rm_tm h z) x hx hx1).mpr y.2⟩
def sg_ (k v : Int) : Prop := (k = 4 ∧ v = 59) ∨ (k = 5 ∧ v = 40) ∨ (k = 6 ∧ v = 41) ∨ (k = 7 ∧ v = 43) ∨ (k = 8 ∧ v = 45) ∨ (k = 9 ∧ v = 42) ∨ (k = 10 ∧ v = 47)
theorem rm_sign {K PL W : Nat → Int32} {q : Nat → Nat} {e : Nat} {S : PS} {a pl so va fl fp co : Int32} {nu ks kv : Nat → Int32} (h : RM K PL W q e S a pl so va fl fp co nu ks kv) (k v : Int) (hs : sg_ k v) : (fl.toInt = 0 ∧ so.toInt = 3 ∧ va.toInt = v) ↔ (ps_f S = 0 ∧ (K (ps_t S)).toInt = k) := by
  have key : ∀ {k0 w0 s0 v0 : Int}, TM k0 w0 s0 v0 → ((s0 = 3 ∧ v0 = v) ↔ k0 = k) := by
    intro k0 w0 s0 v0 g
    rcases hs with ⟨rfl, rfl⟩ | ⟨rfl, rfl⟩ | ⟨rfl, rfl⟩ | ⟨rfl, rfl⟩ | ⟨rfl, rfl⟩ | ⟨rfl, rfl⟩ | ⟨rfl, rfl⟩
    · exact tm_semi g
    · exact tm_open g
    · exact tm_close g
    · exact tm_plus g
    · exact tm_minus g
    · exact tm_times g
    · exact tm_over g
  constructor
  · intro y; exact ⟨(rm_f0 h).mpr y.1, (key (rm_tm h y.1)).mp y.2⟩
  · intro y; have z := (rm_f0 h).mp y.1; exact ⟨z, (key (rm_tm h z)).mpr y.2⟩
theorem rm_cmp {K PL W : Nat → Int32} {q : Nat → Nat} {e : Nat} {S : PS} {a pl so va fl fp co : Int32} {nu ks kv : Nat → Int32} (h : RM K PL W q e S a pl so va fl fp co nu ks kv) : (fl.toInt = 0 ∧ so.toInt = 3 ∧ (va.toInt = 60 ∨ va.toInt = 62 ∨ va.toInt = 61 ∨ 256 ≤ va.toInt)) ↔ (ps_f S = 0 ∧ 11 ≤ (K (ps_t S)).toInt ∧ (K (ps_t S)).toInt ≤ 16) := by
  constructor
  · intro y; exact ⟨(rm_f0 h).mpr y.1, (tm_cmp (rm_tm h y.1)).mp y.2⟩
  · intro y; have z := (rm_f0 h).mp y.1; exact ⟨z, (tm_cmp (rm_tm h z)).mpr y.2⟩
/-- the sign at hand as a knot -/
theorem tm_sg {k w s v : Int} (h : TM k w s v) (hs : s = 3) : (k = 4 ∧ v = 59) ∨ (k = 5 ∧ v = 40) ∨ (k = 6 ∧ v = 41) ∨ (k = 7 ∧ v = 43) ∨ (k = 8 ∧ v = 45) ∨ (k = 9 ∧ v = 42) ∨ (k = 10 ∧ v = 47) ∨ (k = 11 ∧ v = 60) ∨ (k = 12 ∧ v = 256) ∨ (k = 13 ∧ v = 61) ∨ (k = 14 ∧ v = 257) ∨ (k = 15 ∧ v = 258) ∨ (k = 16 ∧ v = 62) := by
  subst hs
  rcases h with ⟨-, h⟩ | ⟨-, h, -⟩ | ⟨-, h, -⟩ | ⟨-, h⟩ | ⟨-, -, h, -⟩ | ⟨-, h⟩
  · exact absurd h (by decide)
  · exact absurd h (by decide)
  · exact absurd h (by decide)
  · exact absurd h (by decide)
  · exact absurd h (by decide)
  · exact h
theorem km_sign {k w s v its : Int} {x : Int} (h : TM k w s v) (hs : s = 3) (hv : v = 43 ∨ v = 45 ∨ v = 42 ∨ v = 47 ∨ v = 60 ∨ v = 62 ∨ v = 61 ∨ 256 ≤ v) (hi : its = 2) : KM k x its v := by
  refine Or.inr (Or.inr ⟨hi, ?_⟩)
  rcases tm_sg h hs with ⟨h1, h2⟩ | ⟨h1, h2⟩ | ⟨h1, h2⟩ | ⟨h1, h2⟩ | ⟨h1, h2⟩ | ⟨h1, h2⟩ | ⟨h1, h2⟩ | ⟨h1, h2⟩ | ⟨h1, h2⟩ | ⟨h1, h2⟩ | ⟨h1, h2⟩ | ⟨h1, h2⟩ | ⟨h1, h2⟩ <;> subst h1 h2 <;> revert hv <;> decide
theorem km_or {k x its v : Int} (hk : k = 32) (hi : its = 2) (hv : v = 262) : KM k x its v := by
  subst hk hi hv; exact Or.inr (Or.inr ⟨rfl, by decide⟩)
theorem km_and {k x its v : Int} (hk : k = 33) (hi : its = 2) (hv : v = 261) : KM k x its v := by
  subst hk hi hv; exact Or.inr (Or.inr ⟨rfl, by decide⟩)
theorem km_not {k x its v : Int} (hk : k = 34) (hi : its = 2) (hv : v = 260) : KM k x its v := by
  subst hk hi hv; exact Or.inr (Or.inr ⟨rfl, by decide⟩)
/-! parts -/
theorem rm_leaf {K PL W : Nat → Int32} {q : Nat → Nat} {e : Nat} {G : PS → PS} {S : PS} {a pl so va fl fp co a1 pl1 so1 va1 fl1 fp1 co1 : Int32} {nu ks kv nu1 ks1 kv1 : Nat → Int32} (h : RM K PL W q e S a pl so va fl fp co nu ks kv) (h0 : fl.toInt = 0) (hc : ((K (ps_t S)).toInt = 1 ∧ (W (ps_t S)).toInt ≤ 99999) ∨ (35 ≤ (K (ps_t S)).toInt ∧ (K (ps_t S)).toInt ≤ 39)) (r : RM K PL W q e (pp_step (pp_add (K (ps_t S)) (W (ps_t S)) (pp_cnt e S))) a1 pl1 so1 va1 fl1 fp1 co1 nu1 ks1 kv1) : RM K PL W q e (pp_part K W e G S) a1 pl1 so1 va1 fl1 fp1 co1 nu1 ks1 kv1 := by
  have z := (rm_f0 h).mpr h0
  have e1 : pp_part K W e G S = pp_knot e (pp_add (K (ps_t S)) (W (ps_t S)) S) := by
    unfold pp_part
    rw [if_neg (fun y => y z), if_neg (by omega), if_pos (by omega)]
  rw [e1]
  by_cases c : ps_c S < 64
  · have e2 : pp_cnt e S = (ps_t S, ps_c S + 1, ps_L S, 0, ps_u S) := by unfold pp_cnt; rw [if_pos ⟨z, c⟩]
    have e3 : pp_step (pp_add (K (ps_t S)) (W (ps_t S)) (pp_cnt e S)) = pp_knot e (pp_add (K (ps_t S)) (W (ps_t S)) S) := by
      have e4 : pp_add (K (ps_t S)) (W (ps_t S)) S = (ps_t S, ps_c S, ps_L S ++ [(K (ps_t S), W (ps_t S))], 0, ps_u S) := by unfold pp_add; rw [if_pos z]
      have e5 : pp_add (K (ps_t S)) (W (ps_t S)) (ps_t S, ps_c S + 1, ps_L S, (0 : Int), ps_u S) = (ps_t S, ps_c S + 1, ps_L S ++ [(K (ps_t S), W (ps_t S))], 0, ps_u S) := by unfold pp_add; rw [if_pos rfl]
      rw [e2, e4, e5, pp_step_eq rfl]
      unfold pp_knot
      rw [if_pos ⟨rfl, c⟩]
    rw [← e3]; exact r
  · have e2 : pp_cnt e S = pp_ref e 2 S := by unfold pp_cnt; rw [if_neg (fun y => c y.2)]
    have n2 : ps_f (pp_ref e 2 S) ≠ 0 := pp_f_ref (by decide)
    rw [e2, pp_add_no n2, pp_step_no n2] at r
    have e3 : pp_knot e (pp_add (K (ps_t S)) (W (ps_t S)) S) = pp_ref e 2 (pp_add (K (ps_t S)) (W (ps_t S)) S) := by unfold pp_knot; rw [pp_add_c, if_neg (fun y => c y.2)]
    rw [e3]
    have h1 : fl1.toInt ≠ 0 := fun y => n2 ((rm_f0 r).mpr y)
    refine rm_any r h1 ?_ ?_ ?_
    · rw [pp_ref_eq z, pp_ref_eq (by rw [pp_add_f]; exact z)]
    · rw [pp_ref_eq z, pp_ref_eq (by rw [pp_add_f]; exact z)]; exact pp_add_t
    · rw [pp_ref_eq (by rw [pp_add_f]; exact z)]
theorem pt_no {K W : Nat → Int32} {e : Nat} {G : PS → PS} {S : PS} (h : ps_f S ≠ 0) : pp_part K W e G S = S := by unfold pp_part; rw [if_pos h]
theorem pt_big {K W : Nat → Int32} {e : Nat} {G : PS → PS} {S : PS} (h : ps_f S = 0) (h1 : (K (ps_t S)).toInt = 1) (h2 : 99999 < (W (ps_t S)).toInt) : pp_part K W e G S = pp_ref e 2 S := by unfold pp_part; rw [if_neg (fun y => y h), if_pos ⟨h1, h2⟩]
theorem pt_bad {K W : Nat → Int32} {e : Nat} {G : PS → PS} {S : PS} (h : ps_f S = 0) (h1 : (K (ps_t S)).toInt ≠ 1) (h2 : (K (ps_t S)).toInt < 35 ∨ 39 < (K (ps_t S)).toInt) (h3 : (K (ps_t S)).toInt ≠ 5) : pp_part K W e G S = pp_ref e 1 S := by unfold pp_part; rw [if_neg (fun y => y h), if_neg (fun y => h1 y.1), if_neg (by omega), if_neg h3]
theorem pt_full {K W : Nat → Int32} {e : Nat} {S : PS} (h : ps_f S = 0) (h1 : (K (ps_t S)).toInt = 5) {N : Nat} (hN : N = 0) : pp_part K W e (pp_G K W e N) S = pp_ref e 2 S := by subst hN; rw [pp_part_5 h h1]; rfl
theorem pt_open {K W : Nat → Int32} {e n N : Nat} {S : PS} (h : ps_f S = 0) (h1 : (K (ps_t S)).toInt = 5) (hN : N = n + 1) : pp_part K W e (pp_G K W e N) S = pp_expect K e 6 (pp_either K W e (pp_G K W e n) (pp_step S)) := by subst hN; rw [pp_part_5 h h1]; rfl
theorem ex_y {K : Nat → Int32} {e : Nat} {k : Int} {S : PS} (h : ps_f S = 0) (h1 : (K (ps_t S)).toInt = k) : pp_expect K e k S = pp_step S := by unfold pp_expect; rw [if_pos ⟨h, h1⟩]
theorem ex_n {K : Nat → Int32} {e : Nat} {k : Int} {S : PS} (h1 : ¬ (ps_f S = 0 ∧ (K (ps_t S)).toInt = k)) : pp_expect K e k S = pp_ref e 1 S := by unfold pp_expect; rw [if_neg h1]
/-! nots: how often it may go on doesn't matter -/
theorem pn_fuel {K : Nat → Int32} {e : Nat} {sub : PS → PS} (hK : (K e).toInt = 0) : ∀ n S, PW e S → (ps_f S = 0 → 66 ≤ n + ps_c S) → pp_not K e sub (n + 1) S = pp_not K e sub n S := by
  intro n
  induction n with
  | zero =>
    intro S h h1
    have : ps_f S ≠ 0 := fun z => by have := h1 z; have := (h.1 z).2.1; omega
    show (if ps_f S = 0 ∧ _ then _ else sub S) = sub S
    rw [if_neg (fun y => this y.1)]
  | succ n ih =>
    intro S h h1
    by_cases c : ps_f S = 0 ∧ (K (ps_t S)).toInt = 34
    · have a1 : pp_not K e sub (n + 1 + 1) S = pp_add 34 0 (pp_not K e sub (n + 1) (pp_knot e S)) := by rw [pp_not, if_pos c]
      have a2 : pp_not K e sub (n + 1) S = pp_add 34 0 (pp_not K e sub n (pp_knot e S)) := by rw [pp_not, if_pos c]
      rw [a1, a2, ih _ (pw_knot hK h (fun _ => by omega)) (fun y => by
        have g := pp_knot_ok y
        have e1 : ps_c (pp_knot e S) = ps_c S + 1 := by rw [g.2.2]
        have := h1 g.1
        omega)]
    · rw [pp_not, if_neg c, pp_not, if_neg c]
theorem pn_y {K W : Nat → Int32} {e : Nat} {G : PS → PS} {S : PS} (hK : (K e).toInt = 0) (h : PW e S) (h0 : ps_f S = 0) (h1 : (K (ps_t S)).toInt = 34) : pp_neg K W e G S = pp_add 34 0 (pp_neg K W e G (pp_knot e S)) := by
  unfold pp_neg
  rw [show pp_not K e (pp_cmp K W e G) 66 S = pp_add 34 0 (pp_not K e (pp_cmp K W e G) 65 (pp_knot e S)) by rw [pp_not, if_pos ⟨h0, h1⟩]]
  rw [pn_fuel hK 65 _ (pw_knot hK h (fun _ => by omega)) (fun y => by
    have g := pp_knot_ok y
    have e1 : ps_c (pp_knot e S) = ps_c S + 1 := by rw [g.2.2]
    omega)]
theorem pn_n {K W : Nat → Int32} {e : Nat} {G : PS → PS} {S : PS} (h1 : ¬ (ps_f S = 0 ∧ (K (ps_t S)).toInt = 34)) : pp_neg K W e G S = pp_cmp K W e G S := by
  unfold pp_neg
  rw [pp_not, if_neg h1]
theorem pc_y {K W : Nat → Int32} {e : Nat} {G : PS → PS} {S T : PS} (hT : pp_sum K W e G S = T) (h : ps_f T = 0 ∧ 11 ≤ (K (ps_t T)).toInt ∧ (K (ps_t T)).toInt ≤ 16) : pp_cmp K W e G S = pp_add (K (ps_t T)) 0 (pp_sum K W e G (pp_knot e T)) := by
  subst hT; unfold pp_cmp; exact pp_cmp2_y h.1 h.2.1 h.2.2
theorem pc_n {K W : Nat → Int32} {e : Nat} {G : PS → PS} {S T : PS} (hT : pp_sum K W e G S = T) (h : ¬ (ps_f T = 0 ∧ 11 ≤ (K (ps_t T)).toInt ∧ (K (ps_t T)).toInt ≤ 16)) : pp_cmp K W e G S = T := by
  subst hT; unfold pp_cmp pp_cmp2; rw [if_neg h]
/-- the room for one more '(' -/
def OPt (N : Nat) (fl op : Int32) : Prop := fl.toInt = 0 → (N : Int) + op.toInt = 8
theorem OPt_r {N : Nat} {fa co op fb cb ob : Int32} {nu ks kv mu js jv : Nat → Int32} (h : OPt N fa op) (r : RDs fa co op nu ks kv fb cb ob mu js jv) : OPt N fb ob := fun z => by
  have g := h (r.1.2.2.2 z).1
  have := (r.2 z).1
  omega
theorem OPt_k {N : Nat} {fa co op fb cb : Int32} (h : OPt N fa op) (k : KNt fa co fb cb) : OPt N fb op := fun z => h (k z).1
/-! numbers -/
theorem rm_num_ok {K PL W : Nat → Int32} {q : Nat → Nat} {e : Nat} {S : PS} {lo hi : Int} {a pl so va fl fp co : Int32} {nu ks kv : Nat → Int32} (h : RM K PL W q e S a pl so va fl fp co nu ks kv) (h0 : fl.toInt = 0) (h2 : so.toInt = 2) (hl : lo ≤ va.toInt) (hh : va.toInt ≤ hi) (h9 : hi ≤ 99999) : pl_num K W e lo hi S = pp_step S ∧ va.toInt = pv_num W S := by
  have z := (rm_f0 h).mpr h0
  have t := rm_tm h h0
  have k1 := (tm_number t).mp h2
  have n := tm_num t k1
  have n1 : va.toInt = (W (ps_t S)).toInt := by
    have : fI W (ps_t S) = (W (ps_t S)).toInt := rfl
    omega
  refine ⟨?_, n1⟩
  unfold pl_num
  rw [if_neg (fun y => y z), if_neg (fun y => y k1), if_neg (by omega)]
theorem rm_num_far {K PL W : Nat → Int32} {q : Nat → Nat} {e : Nat} {S : PS} {lo hi : Int} {a pl so va fl fp co : Int32} {nu ks kv : Nat → Int32} (h : RM K PL W q e S a pl so va fl fp co nu ks kv) (h0 : fl.toInt = 0) (h2 : so.toInt = 2) (hl : va.toInt < lo ∨ hi < va.toInt) (h9 : hi ≤ 99999) : pl_num K W e lo hi S = pp_ref e 2 S := by
  have z := (rm_f0 h).mpr h0
  have t := rm_tm h h0
  have k1 := (tm_number t).mp h2
  have n := tm_num t k1
  have n1 : fI W (ps_t S) = (W (ps_t S)).toInt := rfl
  unfold pl_num
  rw [if_neg (fun y => y z), if_neg (fun y => y k1), if_pos (by omega)]
theorem rm_num_bad {K PL W : Nat → Int32} {q : Nat → Nat} {e : Nat} {S : PS} {lo hi : Int} {a pl so va fl fp co : Int32} {nu ks kv : Nat → Int32} (h : RM K PL W q e S a pl so va fl fp co nu ks kv) (h0 : fl.toInt = 0) (h2 : so.toInt ≠ 2) : pl_num K W e lo hi S = pp_ref e 1 S := by
  have z := (rm_f0 h).mpr h0
  have k1 : (K (ps_t S)).toInt ≠ 1 := fun y => h2 ((tm_number (rm_tm h h0)).mpr y)
  unfold pl_num
  rw [if_neg (fun y => y z), if_pos k1]
theorem pl_num_no {K W : Nat → Int32} {e : Nat} {lo hi : Int} {S : PS} (h : ps_f S ≠ 0) : pl_num K W e lo hi S = S := by unfold pl_num; rw [if_pos h]
theorem sgn_y {K W : Nat → Int32} {e : Nat} {hi : Int} {S : PS} (h : ps_f S = 0 ∧ (K (ps_t S)).toInt = 8) : pl_sgn K W e hi S = pl_num K W e 0 hi (pp_step S) ∧ pv_sgn K W S = - pv_num W (pp_step S) := by
  unfold pl_sgn pv_sgn; rw [if_pos h, if_pos h.2]; exact ⟨rfl, rfl⟩
theorem sgn_n {K W : Nat → Int32} {e : Nat} {hi : Int} {S : PS} (h : ¬ (ps_f S = 0 ∧ (K (ps_t S)).toInt = 8)) : pl_sgn K W e hi S = pl_num K W e 0 hi S ∧ (ps_f (pl_num K W e 0 hi S) = 0 → pv_sgn K W S = pv_num W S) := by
  unfold pl_sgn pv_sgn; rw [if_neg h]
  exact ⟨rfl, fun z => by rw [if_neg (fun y => h ⟨pl_num_f0 z, y⟩)]⟩
/-! names -/
theorem pl_new_no {K W : Nat → Int32} {e : Nat} {nm : Nat → Int} {n : Nat} {S : PS} (h : ps_f S ≠ 0) : pl_new K W e nm n S = S := by unfold pl_new; rw [if_pos h]
theorem pl_old_no {K W : Nat → Int32} {e : Nat} {nm : Nat → Int} {n : Nat} {S : PS} (h : ps_f S ≠ 0) : pl_old K W e nm n S = S := by unfold pl_old; rw [if_pos h]
theorem rm_nm {K PL W : Nat → Int32} {q : Nat → Nat} {e : Nat} {S : PS} {a pl so va fl fp co r vn : Int32} {nu ks kv f : Nat → Int32} {nm : Nat → Int} (h : RM K PL W q e S a pl so va fl fp co nu ks kv) (h0 : fl.toInt = 0) (h1 : so.toInt = 1) (hm : ps_f S = 0 → ∀ j : Nat, (j : Int) < vn.toInt → nx f 5 j = nm j) (hr : r.toInt = pf_find (nx f 5) va.toInt vn.toInt.toNat) : (K (ps_t S)).toInt = 2 ∧ r.toInt = pf_find nm (pv_num W S) vn.toInt.toNat ∧ va.toInt = pv_num W S := by
  have z := (rm_f0 h).mpr h0
  have t := rm_tm h h0
  have k1 := (tm_name t).mp h1
  have n1 : va.toInt = pv_num W S := tm_nam t k1
  refine ⟨k1, ?_, n1⟩
  rw [hr, n1, pf_congr _ (fun j hj => hm z j (by omega))]
theorem rm_nm_bad {K PL W : Nat → Int32} {q : Nat → Nat} {e : Nat} {S : PS} {a pl so va fl fp co : Int32} {nu ks kv : Nat → Int32} (h : RM K PL W q e S a pl so va fl fp co nu ks kv) (h0 : fl.toInt = 0) (h1 : so.toInt ≠ 1) : (K (ps_t S)).toInt ≠ 2 := fun y => h1 ((tm_name (rm_tm h h0)).mpr y)
theorem new_bad {K W : Nat → Int32} {e : Nat} {nm : Nat → Int} {n : Nat} {S : PS} (h : ps_f S = 0) (h1 : (K (ps_t S)).toInt ≠ 2) : pl_new K W e nm n S = pp_ref e 1 S := by unfold pl_new; rw [if_neg (fun y => y h), if_pos h1]
theorem new_dup {K W : Nat → Int32} {e : Nat} {nm : Nat → Int} {n : Nat} {S : PS} (h : ps_f S = 0) (h1 : (K (ps_t S)).toInt = 2) (h2 : pf_find nm (pv_num W S) n ≠ -1) : pl_new K W e nm n S = pp_ref e 3 S := by unfold pl_new; rw [if_neg (fun y => y h), if_neg (fun y => y h1), if_pos h2]
theorem new_ok {K W : Nat → Int32} {e : Nat} {nm : Nat → Int} {n : Nat} {S : PS} (h : ps_f S = 0) (h1 : (K (ps_t S)).toInt = 2) (h2 : pf_find nm (pv_num W S) n = -1) : pl_new K W e nm n S = pp_step S := by unfold pl_new; rw [if_neg (fun y => y h), if_neg (fun y => y h1), if_neg (fun y => y h2)]
theorem old_bad {K W : Nat → Int32} {e : Nat} {nm : Nat → Int} {n : Nat} {S : PS} (h : ps_f S = 0) (h1 : (K (ps_t S)).toInt ≠ 2) : pl_old K W e nm n S = pp_ref e 1 S := by unfold pl_old; rw [if_neg (fun y => y h), if_pos h1]
theorem old_none {K W : Nat → Int32} {e : Nat} {nm : Nat → Int} {n : Nat} {S : PS} (h : ps_f S = 0) (h1 : (K (ps_t S)).toInt = 2) (h2 : pf_find nm (pv_num W S) n = -1) : pl_old K W e nm n S = pp_ref e 4 S := by unfold pl_old; rw [if_neg (fun y => y h), if_neg (fun y => y h1), if_pos h2]
theorem old_ok {K W : Nat → Int32} {e : Nat} {nm : Nat → Int} {n : Nat} {S : PS} (h : ps_f S = 0) (h1 : (K (ps_t S)).toInt = 2) (h2 : pf_find nm (pv_num W S) n ≠ -1) : pl_old K W e nm n S = pp_step S := by unfold pl_old; rw [if_neg (fun y => y h), if_neg (fun y => y h1), if_neg h2]
theorem rm_no2 {K PL W : Nat → Int32} {q : Nat → Nat} {e : Nat} {S : PS} {a pl so va fl fp co : Int32} {nu ks kv : Nat → Int32} (h : RM K PL W q e S a pl so va fl fp co nu ks kv) {k1 k2 v1 v2 : Int} (s1 : sg_ k1 v1) (s2 : sg_ k2 v2) (hk : k2 = k1 + 1) (n1 : ¬ (fl.toInt = 0 ∧ so.toInt = 3 ∧ va.toInt = v1)) (n2 : ¬ (fl.toInt = 0 ∧ so.toInt = 3 ∧ va.toInt = v2)) : ps_f S ≠ 0 ∨ (K (ps_t S)).toInt < k1 ∨ k2 < (K (ps_t S)).toInt := by
  by_cases z : ps_f S = 0
  · right
    have a1 : (K (ps_t S)).toInt ≠ k1 := fun y => n1 ((rm_sign h k1 v1 s1).mpr ⟨z, y⟩)
    have a2 : (K (ps_t S)).toInt ≠ k2 := fun y => n2 ((rm_sign h k2 v2 s2).mpr ⟨z, y⟩)
    omega
  · exact Or.inl z
theorem rm_no1 {K PL W : Nat → Int32} {q : Nat → Nat} {e : Nat} {S : PS} {a pl so va fl fp co : Int32} {nu ks kv : Nat → Int32} (h : RM K PL W q e S a pl so va fl fp co nu ks kv) {x : Int} (hx : 0 ≤ x) (hx1 : x ≤ 19) (n1 : ¬ (fl.toInt = 0 ∧ so.toInt = 0 ∧ va.toInt = x)) : ps_f S ≠ 0 ∨ (K (ps_t S)).toInt < 20 + x ∨ 20 + x < (K (ps_t S)).toInt := by
  by_cases z : ps_f S = 0
  · right
    have a1 : (K (ps_t S)).toInt ≠ 20 + x := fun y => n1 ((rm_word h x hx hx1).mpr ⟨z, y⟩)
    omega
  · exact Or.inl z
theorem cnt_ref {e : Nat} {k : Int} {S : PS} (hk : k ≠ 0) : pp_cnt e (pp_ref e k S) = pp_ref e k S := by
  unfold pp_cnt
  rw [if_neg (fun y => pp_f_ref hk y.1), pr_no (pp_f_ref hk)]
theorem cnt_len {e : Nat} {S : PS} (p : PW e S) (h0 : ps_f S = 0) : ps_f (pp_cnt e S) = 0 → (ps_L (pp_cnt e S)).length + 1 ≤ ps_c (pp_cnt e S) := by
  have z := p.1 h0
  unfold pp_cnt
  split
  · intro _
    show (ps_L S).length + 1 ≤ ps_c S + 1
    omega
  · exact fun y => absurd y (pp_f_ref (by decide))
theorem tm_wv {k w s v : Int} (h : TM k w s v) (hs : s = 0) : v = k - 20 := by
  subst hs
  rcases h with ⟨-, h⟩ | ⟨-, h, -⟩ | ⟨-, h, -⟩ | ⟨-, h⟩ | ⟨-, -, -, h⟩ | ⟨h, -⟩
  · exact absurd h (by decide)
  · exact absurd h (by decide)
  · exact absurd h (by decide)
  · exact absurd h (by decide)
  · exact h
  · exact absurd h (by decide)
