
/-! The reading of a text as a pure function: expressions. S = (token, knots counted, knots laid, fault, where the fault is). -/
abbrev PS := Nat × Nat × List (Int32 × Int32) × Int × Nat
abbrev ps_t (S : PS) : Nat := S.1
abbrev ps_c (S : PS) : Nat := S.2.1
abbrev ps_L (S : PS) : List (Int32 × Int32) := S.2.2.1
abbrev ps_f (S : PS) : Int := S.2.2.2.1
abbrev ps_u (S : PS) : Nat := S.2.2.2.2
def pp_ref (e : Nat) (k : Int) (S : PS) : PS := if ps_f S = 0 then (e, ps_c S, ps_L S, k, ps_t S) else S
def pp_step (S : PS) : PS := if ps_f S = 0 then (ps_t S + 1, ps_c S, ps_L S, 0, ps_u S) else S
def pp_add (k v : Int32) (S : PS) : PS := if ps_f S = 0 then (ps_t S, ps_c S, ps_L S ++ [(k, v)], 0, ps_u S) else S
def pp_knot (e : Nat) (S : PS) : PS := if ps_f S = 0 ∧ ps_c S < 64 then (ps_t S + 1, ps_c S + 1, ps_L S, 0, ps_u S) else pp_ref e 2 S
def pp_expect (K : Nat → Int32) (e : Nat) (k : Int) (S : PS) : PS := if ps_f S = 0 ∧ (K (ps_t S)).toInt = k then pp_step S else pp_ref e 1 S
def pp_part (K W : Nat → Int32) (e : Nat) (G : PS → PS) (S : PS) : PS :=
  if ps_f S ≠ 0 then S else
  if (K (ps_t S)).toInt = 1 ∧ 99999 < (W (ps_t S)).toInt then pp_ref e 2 S else
  if (K (ps_t S)).toInt = 1 ∨ (35 ≤ (K (ps_t S)).toInt ∧ (K (ps_t S)).toInt ≤ 39) then pp_knot e (pp_add (K (ps_t S)) (W (ps_t S)) S) else
  if (K (ps_t S)).toInt = 5 then G S else pp_ref e 1 S
def pp_loop (K : Nat → Int32) (e : Nat) (a b : Int) (sub : PS → PS) : Nat → PS → PS
  | 0, S => S
  | n + 1, S => if ps_f S = 0 ∧ a ≤ (K (ps_t S)).toInt ∧ (K (ps_t S)).toInt ≤ b then pp_loop K e a b sub n (pp_add (K (ps_t S)) 0 (sub (pp_knot e S))) else S
def pp_prod (K W : Nat → Int32) (e : Nat) (G : PS → PS) (S : PS) : PS := pp_loop K e 9 10 (pp_part K W e G) 65 (pp_part K W e G S)
def pp_sum (K W : Nat → Int32) (e : Nat) (G : PS → PS) (S : PS) : PS := pp_loop K e 7 8 (pp_prod K W e G) 65 (pp_prod K W e G S)
def pp_cmp2 (K : Nat → Int32) (e : Nat) (sub : PS → PS) (S : PS) : PS := if ps_f S = 0 ∧ 11 ≤ (K (ps_t S)).toInt ∧ (K (ps_t S)).toInt ≤ 16 then pp_add (K (ps_t S)) 0 (sub (pp_knot e S)) else S
def pp_cmp (K W : Nat → Int32) (e : Nat) (G : PS → PS) (S : PS) : PS := pp_cmp2 K e (pp_sum K W e G) (pp_sum K W e G S)
def pp_not (K : Nat → Int32) (e : Nat) (sub : PS → PS) : Nat → PS → PS
  | 0, S => sub S
  | n + 1, S => if ps_f S = 0 ∧ (K (ps_t S)).toInt = 34 then pp_add 34 0 (pp_not K e sub n (pp_knot e S)) else sub S
def pp_neg (K W : Nat → Int32) (e : Nat) (G : PS → PS) (S : PS) : PS := pp_not K e (pp_cmp K W e G) 66 S
def pp_both (K W : Nat → Int32) (e : Nat) (G : PS → PS) (S : PS) : PS := pp_loop K e 33 33 (pp_neg K W e G) 65 (pp_neg K W e G S)
def pp_either (K W : Nat → Int32) (e : Nat) (G : PS → PS) (S : PS) : PS := pp_loop K e 32 32 (pp_both K W e G) 65 (pp_both K W e G S)
def pp_G (K W : Nat → Int32) (e : Nat) : Nat → PS → PS
  | 0, S => pp_ref e 2 S
  | n + 1, S => pp_expect K e 6 (pp_either K W e (pp_G K W e n) (pp_step S))
/-! what every reader keeps -/
def PW (e : Nat) (S : PS) : Prop := (ps_f S = 0 → ps_t S ≤ e ∧ ps_c S ≤ 64 ∧ (ps_L S).length ≤ ps_c S) ∧ (ps_f S ≠ 0 → ps_t S = e)
def PO (e : Nat) (S T : PS) : Prop := PW e T ∧ (ps_f S ≠ 0 → T = S) ∧ (ps_f T = 0 → ps_f S = 0 ∧ ps_t S < ps_t T ∧ ps_c S < ps_c T ∧ (ps_L T).length + ps_c S = (ps_L S).length + ps_c T)
def PG (K : Nat → Int32) (e : Nat) (X : PS → PS) : Prop := ∀ S, PW e S → PO e S (X S)
theorem pw_ref {e : Nat} {k : Int} {S : PS} (hk : k ≠ 0) (h : PW e S) : PW e (pp_ref e k S) := by
  unfold pp_ref; split
  · exact ⟨fun z => absurd z hk, fun _ => rfl⟩
  · exact h
theorem po_ref {e : Nat} {k : Int} {S : PS} (hk : k ≠ 0) (h : PW e S) : PO e S (pp_ref e k S) := by
  refine ⟨pw_ref hk h, fun z => ?_, fun z => ?_⟩
  · unfold pp_ref; rw [if_neg z]
  · unfold pp_ref at z; split at z
    · exact absurd z hk
    · exact absurd z (by assumption)
theorem pp_f_ref {e : Nat} {k : Int} {S : PS} (hk : k ≠ 0) : ps_f (pp_ref e k S) ≠ 0 := by
  unfold pp_ref; split
  · exact hk
  · assumption
theorem pw_knot {K : Nat → Int32} {e : Nat} {S : PS} (hK : (K e).toInt = 0) (h : PW e S) (hn : ps_f S = 0 → (K (ps_t S)).toInt ≠ 0) : PW e (pp_knot e S) := by
  unfold pp_knot; split
  · rename_i q
    have h1 := h.1 q.1
    have h2 := hn q.1
    refine ⟨fun _ => ⟨?_, ?_, ?_⟩, fun z => absurd rfl z⟩
    · show ps_t S + 1 ≤ e
      have : ps_t S ≠ e := fun z => h2 (by rw [z]; exact hK)
      omega
    · show ps_c S + 1 ≤ 64
      have := q.2
      omega
    · show (ps_L S).length ≤ ps_c S + 1
      omega
  · exact pw_ref (by decide) h
theorem po_trans {e : Nat} {A B C : PS} (h : PO e A B) (g : PO e B C) : PO e A C := by
  refine ⟨g.1, fun z => ?_, fun z => ?_⟩
  · have h1 := h.2.1 z
    have h2 := g.2.1 (by rw [h1]; exact z)
    rw [h2, h1]
  · have g1 := g.2.2 z
    have h1 := h.2.2 g1.1
    exact ⟨h1.1, by omega, by omega, by omega⟩
theorem po_loop0 {e : Nat} {A B C : PS} (h : PO e A B) (g : PW e C ∧ (ps_f B ≠ 0 → C = B) ∧ (ps_f C = 0 → ps_f B = 0 ∧ ps_t B ≤ ps_t C ∧ ps_c B ≤ ps_c C ∧ (ps_L C).length + ps_c B = (ps_L B).length + ps_c C)) : PO e A C := by
  refine ⟨g.1, fun z => ?_, fun z => ?_⟩
  · have h1 := h.2.1 z
    have h2 := g.2.1 (by rw [h1]; exact z)
    rw [h2, h1]
  · have g1 := g.2.2 z
    have h1 := h.2.2 g1.1
    exact ⟨h1.1, by omega, by omega, by omega⟩
theorem pp_add_f {k v : Int32} {S : PS} : ps_f (pp_add k v S) = ps_f S := by
  unfold pp_add; split
  · rename_i q; exact q.symm
  · rfl
theorem pp_add_c {k v : Int32} {S : PS} : ps_c (pp_add k v S) = ps_c S := by
  unfold pp_add; split <;> rfl
theorem pp_add_t {k v : Int32} {S : PS} : ps_t (pp_add k v S) = ps_t S := by
  unfold pp_add; split <;> rfl
theorem pp_add_L {k v : Int32} {S : PS} (h : ps_f S = 0) : ps_L (pp_add k v S) = ps_L S ++ [(k, v)] := by
  unfold pp_add; rw [if_pos h]
theorem pp_add_Ll {k v : Int32} {S : PS} (h : ps_f S = 0) : (ps_L (pp_add k v S)).length = (ps_L S).length + 1 := by
  rw [pp_add_L h, List.length_append]; rfl
theorem pp_add_no {k v : Int32} {S : PS} (h : ps_f S ≠ 0) : pp_add k v S = S := by
  unfold pp_add; rw [if_neg h]
theorem pp_knot_no {e : Nat} {S : PS} (h : ps_f S ≠ 0) : pp_knot e S = S := by
  unfold pp_knot pp_ref; rw [if_neg (fun z => h z.1), if_neg h]
theorem pp_knot_ok {e : Nat} {S : PS} (h : ps_f (pp_knot e S) = 0) : ps_f S = 0 ∧ ps_c S < 64 ∧ pp_knot e S = (ps_t S + 1, ps_c S + 1, ps_L S, 0, ps_u S) := by
  unfold pp_knot at h ⊢
  by_cases q : ps_f S = 0 ∧ ps_c S < 64
  · rw [if_pos q]; exact ⟨q.1, q.2, rfl⟩
  · rw [if_neg q] at h; exact absurd h (pp_f_ref (by decide))
/-! a sign, then its second operand, then the sign is laid -/
theorem po_op {K : Nat → Int32} {e : Nat} {sub : PS → PS} {S : PS} {k v : Int32} (hK : (K e).toInt = 0) (hs : PG K e sub) (h : PW e S) (hn : ps_f S = 0 → (K (ps_t S)).toInt ≠ 0) : PO e S (pp_add k v (sub (pp_knot e S))) := by
  have h1 := pw_knot hK h hn
  have h2 := hs _ h1
  refine ⟨?_, fun z => ?_, fun z => ?_⟩
  · refine ⟨fun z => ?_, fun z => ?_⟩
    · rw [pp_add_f] at z
      have h3 := h2.2.2 z
      have h4 := pp_knot_ok h3.1
      have h5 := h2.1.1 z
      have h6 := h.1 h4.1
      have e1 : ps_c (pp_knot e S) = ps_c S + 1 := by rw [h4.2.2]
      have e2 : ps_L (pp_knot e S) = ps_L S := by rw [h4.2.2]
      rw [pp_add_t, pp_add_c, pp_add_Ll z]
      have h7 := h3.2.2.2
      rw [e1, e2] at h7
      exact ⟨h5.1, h5.2.1, by omega⟩
    · rw [pp_add_f] at z
      rw [pp_add_t]
      exact h2.1.2 z
  · have a1 : pp_knot e S = S := pp_knot_no z
    have a2 : sub (pp_knot e S) = S := by
      have := h2.2.1 (by rw [a1]; exact z)
      rw [this, a1]
    rw [a2, pp_add_no z]
  · rw [pp_add_f] at z
    have h3 := h2.2.2 z
    have h4 := pp_knot_ok h3.1
    have e0 : ps_t (pp_knot e S) = ps_t S + 1 := by rw [h4.2.2]
    have e1 : ps_c (pp_knot e S) = ps_c S + 1 := by rw [h4.2.2]
    have e2 : ps_L (pp_knot e S) = ps_L S := by rw [h4.2.2]
    have h7 := h3.2.2.2
    rw [e1, e2] at h7
    rw [pp_add_t, pp_add_c, pp_add_Ll z]
    have h8 := h3.2.1
    have h9 := h3.2.2.1
    rw [e0] at h8
    rw [e1] at h9
    exact ⟨h4.1, by omega, by omega, by omega⟩
theorem po_loop {K : Nat → Int32} {e : Nat} {a b : Int} {sub : PS → PS} (hK : (K e).toInt = 0) (hs : PG K e sub) (ha : 0 < a) : ∀ (n : Nat) (A B : PS), PO e A B → PO e A (pp_loop K e a b sub n B) := by
  intro n
  induction n with
  | zero => intro A B h; exact h
  | succ n ih =>
    intro A B h
    unfold pp_loop
    split
    · rename_i q
      exact ih _ _ (po_trans h (po_op hK hs h.1 (fun _ => by omega)))
    · exact h
theorem pg_part {K W : Nat → Int32} {e : Nat} {G : PS → PS} (hK : (K e).toInt = 0) (hG : ∀ S, PW e S → ps_f S = 0 → (K (ps_t S)).toInt = 5 → PO e S (G S)) : PG K e (pp_part K W e G) := by
  intro S h
  unfold pp_part
  by_cases h0 : ps_f S ≠ 0
  · rw [if_pos h0]
    exact ⟨h, fun _ => rfl, fun z => absurd z h0⟩
  · rw [if_neg h0]
    have h0 : ps_f S = 0 := Decidable.not_not.mp h0
    split
    · exact po_ref (by decide) h
    · split
      · rename_i q1 q
        have hn : (K (ps_t S)).toInt ≠ 0 := by omega
        have h1 := h.1 h0
        refine ⟨?_, fun z => absurd h0 z, fun z => ?_⟩
        · unfold pp_knot
          rw [pp_add_f, pp_add_c, pp_add_t]
          split
          · rename_i g
            refine ⟨fun _ => ⟨?_, ?_, ?_⟩, fun z => absurd rfl z⟩
            · show ps_t S + 1 ≤ e
              have : ps_t S ≠ e := fun z => hn (by rw [z]; exact hK)
              omega
            · show ps_c S + 1 ≤ 64
              have := g.2
              omega
            · show (ps_L (pp_add (K (ps_t S)) (W (ps_t S)) S)).length ≤ ps_c S + 1
              rw [pp_add_Ll h0]
              omega
          · unfold pp_ref
            rw [pp_add_f, if_pos h0]
            exact ⟨fun z => absurd z (show ¬ ((2 : Int) = 0) by decide), fun _ => rfl⟩
        · have h4 := pp_knot_ok z
          rw [pp_add_f, pp_add_c, pp_add_t, pp_add_L h0] at h4
          rw [h4.2.2]
          refine ⟨h0, ?_, ?_, ?_⟩
          · show ps_t S < ps_t S + 1
            omega
          · show ps_c S < ps_c S + 1
            omega
          · show (ps_L S ++ [(K (ps_t S), W (ps_t S))]).length + ps_c S = (ps_L S).length + (ps_c S + 1)
            rw [List.length_append]
            show (ps_L S).length + 1 + ps_c S = _
            omega
      · split
        · rename_i q
          exact hG S h h0 q
        · exact po_ref (by decide) h
theorem pg_prod {K W : Nat → Int32} {e : Nat} {G : PS → PS} (hK : (K e).toInt = 0) (hG : PG K e (pp_part K W e G)) : PG K e (pp_prod K W e G) := fun S h => po_loop hK hG (by decide) _ _ _ (hG S h)
theorem pg_sum {K W : Nat → Int32} {e : Nat} {G : PS → PS} (hK : (K e).toInt = 0) (hG : PG K e (pp_prod K W e G)) : PG K e (pp_sum K W e G) := fun S h => po_loop hK hG (by decide) _ _ _ (hG S h)
theorem pg_cmp {K W : Nat → Int32} {e : Nat} {G : PS → PS} (hK : (K e).toInt = 0) (hG : PG K e (pp_sum K W e G)) : PG K e (pp_cmp K W e G) := by
  intro S h
  have h1 := hG S h
  unfold pp_cmp pp_cmp2
  split
  · rename_i q
    exact po_trans h1 (po_op hK hG h1.1 (fun _ => by omega))
  · exact h1
theorem pg_not {K : Nat → Int32} {e : Nat} {sub : PS → PS} (hK : (K e).toInt = 0) (hs : PG K e sub) : ∀ n, PG K e (pp_not K e sub n) := by
  intro n
  induction n with
  | zero => exact hs
  | succ n ih =>
    intro S h
    unfold pp_not
    split
    · rename_i q
      exact po_op hK ih h (fun _ => by omega)
    · exact hs S h
theorem pg_neg {K W : Nat → Int32} {e : Nat} {G : PS → PS} (hK : (K e).toInt = 0) (hG : PG K e (pp_cmp K W e G)) : PG K e (pp_neg K W e G) := fun S h => pg_not hK hG 66 S h
theorem pg_both {K W : Nat → Int32} {e : Nat} {G : PS → PS} (hK : (K e).toInt = 0) (hG : PG K e (pp_neg K W e G)) : PG K e (pp_both K W e G) := fun S h => po_loop hK hG (by decide) _ _ _ (hG S h)
theorem pg_either {K W : Nat → Int32} {e : Nat} {G : PS → PS} (hK : (K e).toInt = 0) (hG : PG K e (pp_both K W e G)) : PG K e (pp_either K W e G) := fun S h => po_loop hK hG (by decide) _ _ _ (hG S h)
theorem pw_step {K : Nat → Int32} {e : Nat} {S : PS} (hK : (K e).toInt = 0) (h : PW e S) (hn : ps_f S = 0 → (K (ps_t S)).toInt ≠ 0) : PW e (pp_step S) := by
  unfold pp_step; split
  · rename_i q
    have h1 := h.1 q
    have h2 := hn q
    refine ⟨fun _ => ⟨?_, h1.2.1, h1.2.2⟩, fun z => absurd rfl z⟩
    show ps_t S + 1 ≤ e
    have : ps_t S ≠ e := fun z => h2 (by rw [z]; exact hK)
    omega
  · exact h
theorem po_G {K W : Nat → Int32} {e : Nat} (hK : (K e).toInt = 0) : ∀ n S, PW e S → ps_f S = 0 → (K (ps_t S)).toInt = 5 → PO e S (pp_G K W e n S) := by
  intro n
  induction n with
  | zero => intro S h _ _; exact po_ref (by decide) h
  | succ n ih =>
    intro S h h0 h5
    have a1 := pw_step hK h (fun _ => by omega)
    have g := pg_either hK (pg_both hK (pg_neg hK (pg_cmp hK (pg_sum hK (pg_prod hK (pg_part (W := W) hK ih))))))
    have a2 := g _ a1
    have e0 : pp_step S = (ps_t S + 1, ps_c S, ps_L S, 0, ps_u S) := by unfold pp_step; rw [if_pos h0]
    unfold pp_G pp_expect
    split
    · rename_i q
      have a3 := a2.2.2 q.1
      have a4 := pw_step hK a2.1 (fun _ => by omega)
      rw [e0] at a3 a4 ⊢
      refine ⟨a4, fun z => absurd h0 z, fun z => ⟨h0, ?_⟩⟩
      rw [e0] at q
      unfold pp_step
      rw [if_pos q.1]
      refine ⟨?_, a3.2.2.1, a3.2.2.2⟩
      have := a3.2.1
      show ps_t S < _ + 1
      show ps_t S < ps_t (pp_either K W e (pp_G K W e n) (ps_t S + 1, ps_c S, ps_L S, 0, ps_u S)) + 1
      have b : ps_t (ps_t S + 1, ps_c S, ps_L S, (0 : Int), ps_u S) = ps_t S + 1 := rfl
      rw [b] at this
      omega
    · refine ⟨pw_ref (by decide) a2.1, fun z => absurd h0 z, fun z => absurd z (pp_f_ref (by decide))⟩
theorem pg_E {K W : Nat → Int32} {e : Nat} (hK : (K e).toInt = 0) (n : Nat) : PG K e (pp_either K W e (pp_G K W e n)) := pg_either hK (pg_both hK (pg_neg hK (pg_cmp hK (pg_sum hK (pg_prod hK (pg_part (W := W) hK (po_G hK n)))))))
/-! loops of signs -/
def LJ (K : Nat → Int32) (e : Nat) (a b : Int) (sub : PS → PS) (R S : PS) (n : Nat) : Prop := PW e S ∧ pp_loop K e a b sub n S = R ∧ (ps_f S = 0 → 66 ≤ n + ps_c S)
theorem lj_start {K : Nat → Int32} {e : Nat} {a b : Int} {sub : PS → PS} {S : PS} (hs : PG K e sub) (h : PW e S) : LJ K e a b sub (pp_loop K e a b sub 65 (sub S)) (sub S) 65 := by
  have h1 := hs S h
  refine ⟨h1.1, rfl, fun z => ?_⟩
  have := h1.2.2 z
  omega
theorem lj_fit {K : Nat → Int32} {e : Nat} {S : PS} {k : Int} (hK : (K e).toInt = 0) (h : PW e S) (hk : (K (ps_t S)).toInt = k) (h0 : k ≠ 0) : ps_f S = 0 := by
  by_cases z : ps_f S = 0
  · exact z
  · have := h.2 z
    rw [this, hK] at hk
    exact absurd hk.symm h0
theorem lj_next {K : Nat → Int32} {e : Nat} {a b : Int} {sub : PS → PS} {R S : PS} {n : Nat} (hK : (K e).toInt = 0) (hs : PG K e sub) (h : LJ K e a b sub R S n) (h1 : a ≤ (K (ps_t S)).toInt) (h2 : (K (ps_t S)).toInt ≤ b) (ha : 0 < a) : ∃ m, n = m + 1 ∧ LJ K e a b sub R (pp_add (K (ps_t S)) 0 (sub (pp_knot e S))) m := by
  have h0 : ps_f S = 0 := lj_fit hK h.1 rfl (by omega)
  have h3 := h.2.2 h0
  have h4 := h.1.1 h0
  obtain ⟨m, rfl⟩ : ∃ m, n = m + 1 := ⟨n - 1, by omega⟩
  refine ⟨m, rfl, ?_⟩
  have g := po_op (k := K (ps_t S)) (v := 0) hK hs h.1 (fun _ => by omega)
  refine ⟨g.1, ?_, fun z => ?_⟩
  · have q := h.2.1
    unfold pp_loop at q
    rw [if_pos ⟨h0, h1, h2⟩] at q
    exact q
  · have := g.2.2 z
    omega
theorem lj_exit {K : Nat → Int32} {e : Nat} {a b : Int} {sub : PS → PS} {R S : PS} {n : Nat} (h : LJ K e a b sub R S n) (h1 : ps_f S ≠ 0 ∨ (K (ps_t S)).toInt < a ∨ b < (K (ps_t S)).toInt) : R = S := by
  have q := h.2.1
  cases n with
  | zero => exact q.symm
  | succ n =>
    unfold pp_loop at q
    rw [if_neg (fun z => by rcases h1 with h1 | h1 | h1 <;> omega)] at q
    exact q.symm
theorem lj_last {K : Nat → Int32} {e : Nat} {a b : Int} {sub : PS → PS} {R S : PS} {n : Nat} (h : LJ K e a b sub R S n) (h1 : n ≤ 1) : R = S := lj_exit h (Or.inl (fun z => by have := h.2.2 z; have := (h.1.1 z).2.1; omega))
theorem op_len {K : Nat → Int32} {e : Nat} {sub : PS → PS} {S : PS} (hK : (K e).toInt = 0) (hs : PG K e sub) (h : PW e S) (hn : (K (ps_t S)).toInt ≠ 0) (hf : ps_f (sub (pp_knot e S)) = 0) : (ps_L (sub (pp_knot e S))).length + 1 ≤ ps_c (sub (pp_knot e S)) := by
  have h1 := pw_knot hK h (fun _ => hn)
  have h2 := hs _ h1
  have h3 := h2.2.2 hf
  have h4 := pp_knot_ok h3.1
  have h6 := h.1 h4.1
  have e1 : ps_c (pp_knot e S) = ps_c S + 1 := by rw [h4.2.2]
  have e2 : ps_L (pp_knot e S) = ps_L S := by rw [h4.2.2]
  have h7 := h3.2.2.2
  rw [e1, e2] at h7
  omega
/-! the class's reader: where it stands -/
def AG (L : List (Int32 × Int32)) (fk fn : Nat → Int32) : Prop := ∀ (i : Nat) (p : Int32 × Int32), L[i]? = some p → fk i = p.1 ∧ fn i = p.2
def RX (PL : Nat → Int32) (e : Nat) (S : PS) (a fl pl kn rk : Int32) (fk fn : Nat → Int32) : Prop :=
  PW e S ∧ a.toInt = (ps_t S : Int) ∧ fl.toInt = ps_f S ∧ (ps_f S ≠ 0 → pl = PL (ps_u S)) ∧ (ps_f S = 0 → pl.toInt = -1 ∧ kn.toInt = (ps_c S : Int) ∧ rk.toInt = ((ps_L S).length : Int) ∧ AG (ps_L S) fk fn)
theorem rx_n {PL : Nat → Int32} {e : Nat} {S : PS} {a fl pl kn rk : Int32} {fk fn : Nat → Int32} (h : RX PL e S a fl pl kn rk fk fn) : a.toNatClampNeg = ps_t S := by
  have := h.2.1
  show a.toInt.toNat = _
  omega
def STx (e : Nat) (a a1 : Int32) : Prop := (a.toInt < (e : Int) ∧ a1.toInt = a.toInt + 1) ∨ ((e : Int) ≤ a.toInt ∧ a1.toInt = a.toInt)
def RFx (PL : Nat → Int32) (e : Nat) (k : Int) (a fl pl a1 fl1 pl1 : Int32) : Prop := a1.toInt = (e : Int) ∧ ((fl.toInt = 0 ∧ fl1.toInt = k ∧ pl1 = PL a.toNatClampNeg) ∨ (fl.toInt ≠ 0 ∧ fl1 = fl ∧ pl1 = pl))
def TKx (PL : Nat → Int32) (e : Nat) (a fl pl kn a1 fl1 pl1 kn1 : Int32) : Prop := (kn.toInt < 64 ∧ kn1.toInt = kn.toInt + 1 ∧ fl1 = fl ∧ pl1 = pl ∧ STx e a a1) ∨ (64 ≤ kn.toInt ∧ kn1 = kn ∧ RFx PL e 2 a fl pl a1 fl1 pl1)
def EXx (K PL : Nat → Int32) (e : Nat) (k : Int) (a fl pl a1 fl1 pl1 : Int32) : Prop := ((K a.toNatClampNeg).toInt = k ∧ fl1 = fl ∧ pl1 = pl ∧ STx e a a1) ∨ ((K a.toNatClampNeg).toInt ≠ k ∧ RFx PL e 1 a fl pl a1 fl1 pl1)
def ADx (vk vn rk : Int32) (fk fn : Nat → Int32) (rk1 : Int32) (fk1 fn1 : Nat → Int32) : Prop := (rk.toInt < 64 ∧ rk1.toInt = rk.toInt + 1 ∧ upd fk rk.toNatClampNeg vk = fk1 ∧ upd fn rk.toNatClampNeg vn = fn1) ∨ (64 ≤ rk.toInt ∧ rk1 = rk ∧ fk1 = fk ∧ fn1 = fn)
theorem rx_ref {PL : Nat → Int32} {e : Nat} {S : PS} {k : Int} {a fl pl kn rk a1 fl1 pl1 kn1 rk1 : Int32} {fk fn fk1 fn1 : Nat → Int32} (h : RX PL e S a fl pl kn rk fk fn) (hk : k ≠ 0) (r : RFx PL e k a fl pl a1 fl1 pl1) : RX PL e (pp_ref e k S) a1 fl1 pl1 kn1 rk1 fk1 fn1 := by
  have hn := rx_n h
  obtain ⟨h1, h2, h3, h4, h5⟩ := h
  refine ⟨pw_ref hk h1, ?_, ?_, fun _ => ?_, fun z => absurd z (pp_f_ref hk)⟩
  · by_cases z : ps_f S = 0
    · unfold pp_ref; rw [if_pos z]; exact r.1
    · unfold pp_ref; rw [if_neg z, h1.2 z]; exact r.1
  · by_cases z : ps_f S = 0
    · unfold pp_ref; rw [if_pos z]
      rcases r.2 with q | q
      · exact q.2.1
      · exact absurd (h3.trans z) q.1
    · unfold pp_ref; rw [if_neg z]
      rcases r.2 with q | q
      · exact absurd (h3.symm.trans q.1) z
      · rw [q.2.1]; exact h3
  · by_cases z : ps_f S = 0
    · unfold pp_ref; rw [if_pos z]
      rcases r.2 with q | q
      · rw [q.2.2, hn]
      · exact absurd (h3.trans z) q.1
    · unfold pp_ref; rw [if_neg z]
      rcases r.2 with q | q
      · exact absurd (h3.symm.trans q.1) z
      · rw [q.2.2]; exact h4 z
theorem rx_ok {K PL : Nat → Int32} {e : Nat} {S : PS} {a fl pl kn rk : Int32} {fk fn : Nat → Int32} (hK : (K e).toInt = 0) (h : RX PL e S a fl pl kn rk fk fn) (hn : (K a.toNatClampNeg).toInt ≠ 0) : ps_f S = 0 ∧ ps_t S < e := by
  rw [rx_n h] at hn
  have h0 : ps_f S = 0 := lj_fit hK h.1 rfl hn
  refine ⟨h0, ?_⟩
  have := (h.1.1 h0).1
  have : ps_t S ≠ e := fun z => hn (by rw [z]; exact hK)
  omega
theorem rx_step {K PL : Nat → Int32} {e : Nat} {S : PS} {a fl pl kn rk a1 : Int32} {fk fn : Nat → Int32} (hK : (K e).toInt = 0) (h : RX PL e S a fl pl kn rk fk fn) (hn : (K a.toNatClampNeg).toInt ≠ 0) (s : STx e a a1) : RX PL e (pp_step S) a1 fl pl kn rk fk fn := by
  have ho := rx_ok hK h hn
  rw [rx_n h] at hn
  have hp := pw_step hK h.1 (fun _ => hn)
  obtain ⟨h1, h2, h3, h4, h5⟩ := h
  refine ⟨hp, ?_, ?_, fun z => ?_, fun z => ?_⟩
  · unfold pp_step; rw [if_pos ho.1]
    show a1.toInt = ((ps_t S + 1 : Nat) : Int)
    rcases s with s | s <;> omega
  · unfold pp_step; rw [if_pos ho.1]
    exact h3.trans ho.1
  · unfold pp_step at z; rw [if_pos ho.1] at z
    exact absurd rfl z
  · unfold pp_step; rw [if_pos ho.1]
    exact h5 ho.1
theorem rx_knot {K PL : Nat → Int32} {e : Nat} {S : PS} {a fl pl kn rk a1 fl1 pl1 kn1 : Int32} {fk fn : Nat → Int32} (hK : (K e).toInt = 0) (h : RX PL e S a fl pl kn rk fk fn) (hn : (K a.toNatClampNeg).toInt ≠ 0) (s : TKx PL e a fl pl kn a1 fl1 pl1 kn1) : RX PL e (pp_knot e S) a1 fl1 pl1 kn1 rk fk fn := by
  have ho := rx_ok hK h hn
  have h5 := h.2.2.2.2 ho.1
  rcases s with ⟨s1, s2, rfl, rfl, s3⟩ | ⟨s1, s2, s3⟩
  · have hc : ps_f S = 0 ∧ ps_c S < 64 := ⟨ho.1, by omega⟩
    have h6 := h.1.1 ho.1
    have h2 := h.2.1
    unfold pp_knot
    rw [if_pos hc]
    refine ⟨⟨fun _ => ⟨?_, ?_, ?_⟩, fun z => absurd rfl z⟩, ?_, ?_, fun z => absurd rfl z, fun _ => ⟨h5.1, ?_, h5.2.2⟩⟩
    · show ps_t S + 1 ≤ e
      omega
    · show ps_c S + 1 ≤ 64
      omega
    · show (ps_L S).length ≤ ps_c S + 1
      omega
    · show a1.toInt = ((ps_t S + 1 : Nat) : Int)
      rcases s3 with s3 | s3 <;> omega
    · exact h.2.2.1.trans ho.1
    · show kn1.toInt = ((ps_c S + 1 : Nat) : Int)
      omega
  · unfold pp_knot
    rw [if_neg (fun z => by have := z.2; omega)]
    exact rx_ref h (by decide) s3
theorem rx_expect {K PL : Nat → Int32} {e : Nat} {S : PS} {k : Int} {a fl pl kn rk a1 fl1 pl1 : Int32} {fk fn : Nat → Int32} (hK : (K e).toInt = 0) (hk : k ≠ 0) (h : RX PL e S a fl pl kn rk fk fn) (s : EXx K PL e k a fl pl a1 fl1 pl1) : RX PL e (pp_expect K e k S) a1 fl1 pl1 kn rk fk fn := by
  rcases s with ⟨s1, rfl, rfl, s3⟩ | ⟨s1, s3⟩
  · have hn : (K a.toNatClampNeg).toInt ≠ 0 := by rw [s1]; exact hk
    have ho := rx_ok hK h hn
    have hr := rx_step hK h hn s3
    rw [rx_n h] at s1
    unfold pp_expect
    rw [if_pos ⟨ho.1, s1⟩]
    exact hr
  · have hr := rx_ref (kn1 := kn) (rk1 := rk) (fk1 := fk) (fn1 := fn) h (by decide) s3
    rw [rx_n h] at s1
    unfold pp_expect
    rw [if_neg (fun z => s1 z.2)]
    exact hr
theorem AG_add {L : List (Int32 × Int32)} {fk fn fk1 fn1 : Nat → Int32} {vk vn rk : Int32} (h : AG L fk fn) (hr : rk.toInt = (L.length : Int)) (e1 : upd fk rk.toNatClampNeg vk = fk1) (e2 : upd fn rk.toNatClampNeg vn = fn1) : AG (L ++ [(vk, vn)]) fk1 fn1 := by
  have hn : rk.toNatClampNeg = L.length := by show rk.toInt.toNat = _; omega
  rw [hn] at e1 e2
  subst e1 e2
  intro i p hp
  by_cases q : i = L.length
  · subst q
    rw [List.getElem?_append_right (Nat.le_refl _), Nat.sub_self] at hp
    cases hp
    exact ⟨by unfold upd; rw [if_pos rfl], by unfold upd; rw [if_pos rfl]⟩
  · have hl : i < (L ++ [(vk, vn)]).length := (List.getElem?_eq_some_iff.mp hp).1
    rw [List.length_append] at hl
    have hl : i < L.length + 1 := hl
    rw [List.getElem?_append_left (by omega)] at hp
    have := h i p hp
    refine ⟨?_, ?_⟩
    · unfold upd; rw [if_neg q]; exact this.1
    · unfold upd; rw [if_neg q]; exact this.2
theorem rx_add {PL : Nat → Int32} {e : Nat} {S : PS} {vk vn a fl pl kn rk rk1 : Int32} {fk fn fk1 fn1 : Nat → Int32} (h : RX PL e S a fl pl kn rk fk fn) (hl : ps_f S = 0 → (ps_L S).length + 1 ≤ ps_c S) (s : ADx vk vn rk fk fn rk1 fk1 fn1) : RX PL e (pp_add vk vn S) a fl pl kn rk1 fk1 fn1 := by
  obtain ⟨h1, h2, h3, h4, h5⟩ := h
  by_cases z : ps_f S = 0
  · have h6 := h1.1 z
    have h7 := hl z
    have h8 := h5 z
    rcases s with ⟨s1, s2, s3, s4⟩ | ⟨s1, s2, s3, s4⟩
    · unfold pp_add
      rw [if_pos z]
      refine ⟨⟨fun _ => ⟨h6.1, h6.2.1, ?_⟩, fun z => absurd rfl z⟩, h2, h3.trans z, fun z => absurd rfl z, fun _ => ⟨h8.1, h8.2.1, ?_, AG_add h8.2.2.2 h8.2.2.1 s3 s4⟩⟩
      · show (ps_L S ++ [(vk, vn)]).length ≤ ps_c S
        rw [List.length_append]
        exact h7
      · show rk1.toInt = (((ps_L S ++ [(vk, vn)]).length : Nat) : Int)
        rw [List.length_append]
        show rk1.toInt = (((ps_L S).length + 1 : Nat) : Int)
        have := h8.2.2.1
        omega
    · have := h8.2.2.1
      omega
  · rw [pp_add_no z]
    exact ⟨h1, h2, h3, h4, fun y => absurd y z⟩
/-! parts -/
theorem rx_k {K PL : Nat → Int32} {e : Nat} {S : PS} {a fl pl kn rk : Int32} {fk fn : Nat → Int32} (h : RX PL e S a fl pl kn rk fk fn) : K a.toNatClampNeg = K (ps_t S) := by rw [rx_n h]
theorem rx_part_big {K W PL : Nat → Int32} {e : Nat} {G : PS → PS} {S : PS} {a fl pl kn rk a1 fl1 pl1 : Int32} {fk fn : Nat → Int32} (hK : (K e).toInt = 0) (h : RX PL e S a fl pl kn rk fk fn) (h1 : (K a.toNatClampNeg).toInt = 1) (h2 : 99999 < (W a.toNatClampNeg).toInt) (r : RFx PL e 2 a fl pl a1 fl1 pl1) : RX PL e (pp_part K W e G S) a1 fl1 pl1 kn rk fk fn := by
  have ho := rx_ok hK h (by omega)
  have hr := rx_ref (kn1 := kn) (rk1 := rk) (fk1 := fk) (fn1 := fn) h (by decide) r
  rw [rx_n h] at h1 h2
  unfold pp_part
  rw [if_neg (fun z => z ho.1), if_pos ⟨h1, h2⟩]
  exact hr
theorem rx_part_leaf {K W PL : Nat → Int32} {e : Nat} {G : PS → PS} {S : PS} {vk vn a fl pl kn rk a1 fl1 pl1 kn1 rk1 : Int32} {fk fn fk1 fn1 : Nat → Int32} (hK : (K e).toInt = 0) (h : RX PL e S a fl pl kn rk fk fn) (h1 : ((K a.toNatClampNeg).toInt = 1 ∧ (W a.toNatClampNeg).toInt ≤ 99999) ∨ (35 ≤ (K a.toNatClampNeg).toInt ∧ (K a.toNatClampNeg).toInt ≤ 39)) (hv : vk = K a.toNatClampNeg) (hw : vn = W a.toNatClampNeg) (s : ADx vk vn rk fk fn rk1 fk1 fn1) (r : TKx PL e a fl pl kn a1 fl1 pl1 kn1) : RX PL e (pp_part K W e G S) a1 fl1 pl1 kn1 rk1 fk1 fn1 := by
  have ho := rx_ok hK h (by omega)
  have hn := rx_n h
  rw [hn] at h1 hv hw
  have h6 := h.1.1 ho.1
  have h8 := h.2.2.2.2 ho.1
  have h2 := h.2.1
  unfold pp_part
  rw [if_neg (fun z => z ho.1), if_neg (by omega), if_pos (by omega)]
  rcases r with ⟨r1, r2, rfl, rfl, r3⟩ | ⟨r1, r2, r3⟩
  · rcases s with ⟨s1, s2, s3, s4⟩ | ⟨s1, s2, s3, s4⟩
    · unfold pp_knot
      rw [pp_add_f, pp_add_c, if_pos ⟨ho.1, by omega⟩]
      subst hv hw
      refine ⟨⟨fun _ => ⟨?_, ?_, ?_⟩, fun z => absurd rfl z⟩, ?_, h.2.2.1.trans ho.1, fun z => absurd rfl z, fun _ => ⟨h8.1, ?_, ?_, ?_⟩⟩
      · show ps_t (pp_add _ _ S) + 1 ≤ e
        rw [pp_add_t]
        omega
      · show ps_c S + 1 ≤ 64
        omega
      · show (ps_L (pp_add _ _ S)).length ≤ ps_c S + 1
        rw [pp_add_Ll ho.1]
        omega
      · show a1.toInt = ((ps_t (pp_add _ _ S) + 1 : Nat) : Int)
        rw [pp_add_t]
        rcases r3 with r3 | r3 <;> omega
      · show kn1.toInt = ((ps_c S + 1 : Nat) : Int)
        omega
      · show rk1.toInt = (((ps_L (pp_add _ _ S)).length : Nat) : Int)
        rw [pp_add_Ll ho.1]
        have := h8.2.2.1
        omega
      · show AG (ps_L (pp_add _ _ S)) _ _
        rw [pp_add_L ho.1]
        exact AG_add h8.2.2.2 h8.2.2.1 s3 s4
    · have := h8.2.2.1
      omega
  · have hr := rx_ref (kn1 := kn1) (rk1 := rk1) (fk1 := fk1) (fn1 := fn1) h (by decide) r3
    unfold pp_knot
    rw [pp_add_f, pp_add_c, if_neg (fun z => by have := z.2; omega)]
    have e1 : pp_ref e 2 S = (e, ps_c S, ps_L S, 2, ps_t S) := by unfold pp_ref; rw [if_pos ho.1]
    have e2 : pp_ref e 2 (pp_add (K (ps_t S)) (W (ps_t S)) S) = (e, ps_c S, ps_L (pp_add (K (ps_t S)) (W (ps_t S)) S), 2, ps_t S) := by
      unfold pp_ref; rw [pp_add_f, if_pos ho.1, pp_add_c, pp_add_t]
    rw [e1] at hr
    rw [e2]
    obtain ⟨q1, q2, q3, q4, q5⟩ := hr
    exact ⟨⟨fun z => absurd z (show ¬ ((2 : Int) = 0) by decide), fun _ => rfl⟩, q2, q3, q4, fun z => absurd z (show ¬ ((2 : Int) = 0) by decide)⟩
theorem pp_part_5 {K W : Nat → Int32} {e : Nat} {G : PS → PS} {S : PS} (h0 : ps_f S = 0) (h5 : (K (ps_t S)).toInt = 5) : pp_part K W e G S = G S := by
  unfold pp_part
  rw [if_neg (fun z => z h0), if_neg (by omega), if_neg (by omega), if_pos h5]
theorem rx_part_full {K W PL : Nat → Int32} {e : Nat} {S : PS} {a fl pl kn rk a1 fl1 pl1 : Int32} {fk fn : Nat → Int32} (hK : (K e).toInt = 0) (h : RX PL e S a fl pl kn rk fk fn) (h1 : (K a.toNatClampNeg).toInt = 5) (r : RFx PL e 2 a fl pl a1 fl1 pl1) : RX PL e (pp_part K W e (pp_G K W e 0) S) a1 fl1 pl1 kn rk fk fn := by
  have ho := rx_ok hK h (by omega)
  have hr := rx_ref (kn1 := kn) (rk1 := rk) (fk1 := fk) (fn1 := fn) h (by decide) r
  rw [rx_n h] at h1
  rw [pp_part_5 ho.1 h1]
  exact hr
theorem rx_part_open {K W PL : Nat → Int32} {e n : Nat} {S : PS} {a fl pl kn rk a1 fl1 pl1 kn1 rk1 : Int32} {fk fn fk1 fn1 : Nat → Int32} (hK : (K e).toInt = 0) (h : RX PL e S a fl pl kn rk fk fn) (h1 : (K a.toNatClampNeg).toInt = 5) (r : RX PL e (pp_expect K e 6 (pp_either K W e (pp_G K W e n) (pp_step S))) a1 fl1 pl1 kn1 rk1 fk1 fn1) : RX PL e (pp_part K W e (pp_G K W e (n + 1)) S) a1 fl1 pl1 kn1 rk1 fk1 fn1 := by
  have ho := rx_ok hK h (by omega)
  rw [rx_n h] at h1
  rw [pp_part_5 ho.1 h1]
  exact r
theorem rx_part_bad {K W PL : Nat → Int32} {e : Nat} {G : PS → PS} {S : PS} {a fl pl kn rk a1 fl1 pl1 : Int32} {fk fn : Nat → Int32} (h : RX PL e S a fl pl kn rk fk fn) (h1 : (K a.toNatClampNeg).toInt ≠ 1) (h2 : (K a.toNatClampNeg).toInt < 35 ∨ 39 < (K a.toNatClampNeg).toInt) (h3 : (K a.toNatClampNeg).toInt ≠ 5) (r : RFx PL e 1 a fl pl a1 fl1 pl1) : RX PL e (pp_part K W e G S) a1 fl1 pl1 kn rk fk fn := by
  have hr := rx_ref (kn1 := kn) (rk1 := rk) (fk1 := fk) (fn1 := fn) h (by decide) r
  rw [rx_n h] at h1 h2 h3
  unfold pp_part
  by_cases z : ps_f S = 0
  · rw [if_neg (fun y => y z), if_neg (fun y => h1 y.1), if_neg (by omega), if_neg h3]
    exact hr
  · rw [if_pos z]
    have e1 : pp_ref e 1 S = S := by unfold pp_ref; rw [if_neg z]
    rw [e1] at hr
    exact hr
/-! nots -/
def pp_addN : Nat → PS → PS
  | 0, S => S
  | k + 1, S => pp_addN k (pp_add 34 0 S)
def LN (K : Nat → Int32) (e : Nat) (sub : PS → PS) (R S : PS) (k n : Nat) : Prop := PW e S ∧ pp_addN k (pp_not K e sub n S) = R ∧ (ps_f S = 0 → 66 ≤ n + ps_c S ∧ (ps_L S).length + k ≤ ps_c S)
theorem ln_start {K : Nat → Int32} {e : Nat} {sub : PS → PS} {S : PS} (h : PW e S) : LN K e sub (pp_not K e sub 66 S) S 0 66 := ⟨h, rfl, fun z => ⟨by omega, (h.1 z).2.2⟩⟩
theorem ln_next {K : Nat → Int32} {e : Nat} {sub : PS → PS} {R S : PS} {k n : Nat} (hK : (K e).toInt = 0) (h : LN K e sub R S k n) (h1 : (K (ps_t S)).toInt = 34) : ∃ m, n = m + 1 ∧ LN K e sub R (pp_knot e S) (k + 1) m := by
  have h0 : ps_f S = 0 := lj_fit hK h.1 h1 (by decide)
  have h3 := h.2.2 h0
  have h4 := h.1.1 h0
  obtain ⟨m, rfl⟩ : ∃ m, n = m + 1 := ⟨n - 1, by omega⟩
  refine ⟨m, rfl, pw_knot hK h.1 (fun _ => by omega), ?_, fun z => ?_⟩
  · have q := h.2.1
    unfold pp_not at q
    rw [if_pos ⟨h0, h1⟩] at q
    exact q
  · have h5 := pp_knot_ok z
    have e1 : ps_c (pp_knot e S) = ps_c S + 1 := by rw [h5.2.2]
    have e2 : ps_L (pp_knot e S) = ps_L S := by rw [h5.2.2]
    rw [e1, e2]
    omega
theorem ln_exit {K : Nat → Int32} {e : Nat} {sub : PS → PS} {R S : PS} {k n : Nat} (h : LN K e sub R S k n) (h1 : ps_f S ≠ 0 ∨ (K (ps_t S)).toInt ≠ 34) : pp_addN k (sub S) = R := by
  have q := h.2.1
  cases n with
  | zero => exact q
  | succ n =>
    unfold pp_not at q
    rw [if_neg (fun z => by rcases h1 with h1 | h1; exact h1 z.1; exact h1 z.2)] at q
    exact q
theorem ln_last {K : Nat → Int32} {e : Nat} {sub : PS → PS} {R S : PS} {k n : Nat} (h : LN K e sub R S k n) (h1 : n ≤ 1) : pp_addN k (sub S) = R := ln_exit h (Or.inl (fun z => by have := h.2.2 z; have := (h.1.1 z).2.1; omega))
def LA (e : Nat) (R S : PS) (k : Nat) : Prop := PW e S ∧ pp_addN k S = R ∧ (ps_f S = 0 → (ps_L S).length + k ≤ ps_c S)
theorem la_start {K : Nat → Int32} {e : Nat} {sub : PS → PS} {R S : PS} {k n : Nat} (hs : PG K e sub) (h : LN K e sub R S k n) (q : pp_addN k (sub S) = R) : LA e R (sub S) k := by
  have h1 := hs S h.1
  refine ⟨h1.1, q, fun z => ?_⟩
  have h2 := h1.2.2 z
  have h3 := h.2.2 h2.1
  omega
theorem la_next {e : Nat} {R S : PS} {k : Nat} (h : LA e R S (k + 1)) : LA e R (pp_add 34 0 S) k := by
  refine ⟨?_, h.2.1, fun z => ?_⟩
  · refine ⟨fun z => ?_, fun z => ?_⟩
    · rw [pp_add_f] at z
      have h1 := h.1.1 z
      have h2 := h.2.2 z
      rw [pp_add_t, pp_add_c, pp_add_Ll z]
      exact ⟨h1.1, h1.2.1, by omega⟩
    · rw [pp_add_f] at z
      rw [pp_add_t]
      exact h.1.2 z
  · rw [pp_add_f] at z
    have h2 := h.2.2 z
    rw [pp_add_c, pp_add_Ll z]
    omega
/-! each reader of an expression, with n more '(' that may be opened -/
theorem pgP {K W : Nat → Int32} {e : Nat} (hK : (K e).toInt = 0) (n : Nat) : PG K e (pp_part K W e (pp_G K W e n)) := pg_part hK (po_G hK n)
theorem pgM {K W : Nat → Int32} {e : Nat} (hK : (K e).toInt = 0) (n : Nat) : PG K e (pp_prod K W e (pp_G K W e n)) := pg_prod hK (pgP hK n)
theorem pgS {K W : Nat → Int32} {e : Nat} (hK : (K e).toInt = 0) (n : Nat) : PG K e (pp_sum K W e (pp_G K W e n)) := pg_sum hK (pgM hK n)
theorem pgC {K W : Nat → Int32} {e : Nat} (hK : (K e).toInt = 0) (n : Nat) : PG K e (pp_cmp K W e (pp_G K W e n)) := pg_cmp hK (pgS hK n)
theorem pgN {K W : Nat → Int32} {e : Nat} (hK : (K e).toInt = 0) (n : Nat) : PG K e (pp_neg K W e (pp_G K W e n)) := pg_neg hK (pgC hK n)
theorem pgB {K W : Nat → Int32} {e : Nat} (hK : (K e).toInt = 0) (n : Nat) : PG K e (pp_both K W e (pp_G K W e n)) := pg_both hK (pgN hK n)
/-- a sign's operand is read: there is room for the sign -/
theorem ol_op {K : Nat → Int32} {e : Nat} {X : PS → PS} {S : PS} (hK : (K e).toInt = 0) (hs : PG K e X) (h : PW e S) (hn : (K (ps_t S)).toInt ≠ 0) : ps_f (X (pp_knot e S)) = 0 → (ps_L (X (pp_knot e S))).length + 1 ≤ ps_c (X (pp_knot e S)) := fun hf => op_len hK hs h hn hf
theorem pp_cmp2_y {K : Nat → Int32} {e : Nat} {X : PS → PS} {S : PS} (h : ps_f S = 0) (h1 : 11 ≤ (K (ps_t S)).toInt) (h2 : (K (ps_t S)).toInt ≤ 16) : pp_cmp2 K e X S = pp_add (K (ps_t S)) 0 (X (pp_knot e S)) := by
  unfold pp_cmp2; rw [if_pos ⟨h, h1, h2⟩]
theorem pp_cmp2_n {K : Nat → Int32} {e : Nat} {X : PS → PS} {S : PS} (h : (K (ps_t S)).toInt < 11 ∨ 16 < (K (ps_t S)).toInt) : pp_cmp2 K e X S = S := by
  unfold pp_cmp2; rw [if_neg (fun z => by have := z.2.1; have := z.2.2; omega)]
theorem la_end {e : Nat} {R S : PS} {k : Nat} (h : LA e R S k) (hk : k = 0) : R = S := by
  have z := h.2.1
  subst hk
  exact z.symm
theorem la_room {e : Nat} {R S : PS} {k m : Nat} (h : LA e R S k) (hk : k = m + 1) : ps_f S = 0 → (ps_L S).length + 1 ≤ ps_c S := fun z => by have := h.2.2 z; omega
