
/-! a rule's knots begin no later than they end, and are told by then -/
theorem ls_ref {e : Nat} {k : Int} {S : PS} : ps_L (pp_ref e k S) = ps_L S := by unfold pp_ref; split <;> rfl
theorem ls_step {S : PS} : ps_L (pp_step S) = ps_L S := by unfold pp_step; split <;> rfl
theorem ls_num {K W : Nat → Int32} {e : Nat} {lo hi : Int} {S : PS} : ps_L (pl_num K W e lo hi S) = ps_L S := by
  unfold pl_num
  split
  · rfl
  · split
    · exact ls_ref
    · split
      · exact ls_ref
      · exact ls_step
theorem ls_sgn {K W : Nat → Int32} {e : Nat} {hi : Int} {S : PS} : ps_L (pl_sgn K W e hi S) = ps_L S := by
  unfold pl_sgn
  split
  · exact ls_num.trans ls_step
  · exact ls_num
theorem ls_new {K W : Nat → Int32} {e n : Nat} {nm : Nat → Int} {S : PS} : ps_L (pl_new K W e nm n S) = ps_L S := by
  unfold pl_new
  split
  · rfl
  · split
    · exact ls_ref
    · split
      · exact ls_ref
      · exact ls_step
theorem ls_old {K W : Nat → Int32} {e n : Nat} {nm : Nat → Int} {S : PS} : ps_L (pl_old K W e nm n S) = ps_L S := by
  unfold pl_old
  split
  · rfl
  · split
    · exact ls_ref
    · split
      · exact ls_ref
      · exact ls_step
theorem ls_cus {K W : Nat → Int32} {e : Nat} {S : PS} : ps_L (pl_cus K W e S).1 = ps_L S := by
  unfold pl_cus
  split
  · rfl
  · split
    · exact ls_ref
    · split
      · exact ls_num.trans (ls_num.trans ls_step)
      · split
        · exact ls_num.trans ls_step
        · exact ls_step
theorem pw_num {K W : Nat → Int32} {e : Nat} {lo hi : Int} {S : PS} (hK : (K e).toInt = 0) (h : PW e S) : PW e (pl_num K W e lo hi S) := by
  unfold pl_num
  split
  · exact h
  · split
    · exact pw_ref (by decide) h
    · split
      · exact pw_ref (by decide) h
      · rename_i c1 c2 c3
        exact pw_step hK h (fun _ => by omega)
theorem pw_sgn {K W : Nat → Int32} {e : Nat} {hi : Int} {S : PS} (hK : (K e).toInt = 0) (h : PW e S) : PW e (pl_sgn K W e hi S) := by
  unfold pl_sgn
  split
  · rename_i c
    exact pw_num hK (pw_step hK h (fun _ => by omega))
  · exact pw_num hK h
theorem pw_new {K W : Nat → Int32} {e n : Nat} {nm : Nat → Int} {S : PS} (hK : (K e).toInt = 0) (h : PW e S) : PW e (pl_new K W e nm n S) := by
  unfold pl_new
  split
  · exact h
  · split
    · exact pw_ref (by decide) h
    · split
      · exact pw_ref (by decide) h
      · rename_i c1 c2 c3
        exact pw_step hK h (fun _ => by omega)
theorem pw_old {K W : Nat → Int32} {e n : Nat} {nm : Nat → Int} {S : PS} (hK : (K e).toInt = 0) (h : PW e S) : PW e (pl_old K W e nm n S) := by
  unfold pl_old
  split
  · exact h
  · split
    · exact pw_ref (by decide) h
    · split
      · exact pw_ref (by decide) h
      · rename_i c1 c2 c3
        exact pw_step hK h (fun _ => by omega)
theorem pw_cus {K W : Nat → Int32} {e : Nat} {S : PS} (hK : (K e).toInt = 0) (h : PW e S) : PW e (pl_cus K W e S).1 := by
  unfold pl_cus
  split
  · exact h
  · split
    · exact pw_ref (by decide) h
    · rename_i c1 c2
      have hs : PW e (pp_step S) := pw_step hK h (fun _ => by omega)
      split
      · exact pw_num hK (pw_num hK hs)
      · split
        · exact pw_num hK hs
        · exact hs
def MTx (M N : MS) : Prop := (M.2.2.2.2.1 ≤ M.2.2.2.2.2 → N.2.2.2.2.1 ≤ N.2.2.2.2.2) ∧ (ps_L M.1).length ≤ (ps_L N.1).length ∧ (M.2.2.2.2.2 ≤ (ps_L M.1).length → N.2.2.2.2.2 ≤ (ps_L N.1).length)
theorem MTx_r {M : MS} : MTx M M := ⟨fun q => q, Nat.le_refl _, fun q => q⟩
theorem pw_more {K W : Nat → Int32} {e : Nat} {P : Bool} (hK : (K e).toInt = 0) : ∀ (n : Nat) (M : MS), PW e M.1 → PW e (pm_more K W e P n M).1 ∧ (ps_f (pm_more K W e P n M).1 = 0 → MTx M (pm_more K W e P n M))
  | 0, M, h => ⟨h, fun _ => MTx_r⟩
  | n + 1, (S, (a, b, c), g, r, f, t), h => by
    have h : PW e S := h
    simp only [pm_more]
    split
    · exact ⟨h, fun _ => MTx_r⟩
    · rename_i c0
      split
      · split
        · exact ⟨pw_ref (by decide) h, fun z => absurd z (pp_f_ref (by decide))⟩
        · rename_i c1 c2
          have ih := pw_more (W := W) (P := P) hK n (pl_sgn K W e 600 (pp_step S), (true, b, c), pv_sgn K W (pp_step S), r, f, t) (pw_sgn hK (pw_step hK h (fun _ => by omega)))
          refine ⟨ih.1, fun z => ?_⟩
          have q := ih.2 z
          have e1 : ps_L (pl_sgn K W e 600 (pp_step S)) = ps_L S := ls_sgn.trans ls_step
          unfold MTx at q ⊢
          simp only [e1] at q
          exact q
      · split
        · split
          · exact ⟨pw_ref (by decide) h, fun z => absurd z (pp_f_ref (by decide))⟩
          · rename_i c1 c2 c3
            have ih := pw_more (W := W) (P := P) hK n (pl_num K W e 0 36000 (pp_step S), (a, true, c), g, pv_num W (pp_step S), f, t) (pw_num hK (pw_step hK h (fun _ => by omega)))
            refine ⟨ih.1, fun z => ?_⟩
            have q := ih.2 z
            have e1 : ps_L (pl_num K W e 0 36000 (pp_step S)) = ps_L S := ls_num.trans ls_step
            unfold MTx at q ⊢
            simp only [e1] at q
            exact q
        · split
          · split
            · exact ⟨pw_ref (by decide) h, fun z => absurd z (pp_f_ref (by decide))⟩
            · rename_i c1 c2 c3 c4
              have hs : PW e (pp_step S) := pw_step hK h (fun _ => by omega)
              have ho := pg_E (W := W) hK 8 (pp_step S) hs
              have ih := pw_more (W := W) (P := P) hK n (pp_either K W e (pp_G K W e 8) (pp_step S), (a, b, true), g, r, (ps_L S).length, (ps_L (pp_either K W e (pp_G K W e 8) (pp_step S))).length) ho.1
              refine ⟨ih.1, fun z => ?_⟩
              have z1 : ps_f (pp_either K W e (pp_G K W e 8) (pp_step S)) = 0 := pm_f0 z
              have h3 := ho.2.2 z1
              rw [ls_step] at h3
              have h4 : (ps_L S).length ≤ (ps_L (pp_either K W e (pp_G K W e 8) (pp_step S))).length := by omega
              obtain ⟨q1, q2, q3⟩ := ih.2 z
              exact ⟨fun _ => q1 h4, Nat.le_trans h4 q2, fun _ => q3 (Nat.le_refl _)⟩
          · exact ⟨h, fun _ => MTx_r⟩
def WDr (D : DD) (n : Nat) : Prop := ∀ j : Nat, D 11 j ≤ D 12 j ∧ D 12 j ≤ (n : Int)
theorem WDr_0 : WDr dd0 0 := fun _ => ⟨Int.le_refl _, Int.le_refl _⟩
theorem wr_up {D : DD} {m n : Nat} (h : WDr D m) (q : m ≤ n) : WDr D n := fun j => ⟨(h j).1, Int.le_trans (h j).2 (Int.ofNat_le.mpr q)⟩
theorem wr_du {D : DD} {m r i : Nat} {v : Int} (h : WDr D m) (h1 : r ≠ 11) (h2 : r ≠ 12) : WDr (du D r i v) m := fun j => by
  rw [du_ne (Or.inl (fun q => h1 q.symm)), du_ne (Or.inl (fun q => h2 q.symm))]
  exact h j
theorem wr_p {D : DD} {m n : Nat} {a b : Nat} (h : WDr D m) (hab : a ≤ b) (hb : b ≤ m) : WDr (du (du D 11 n (a : Int)) 12 n (b : Int)) m := fun j => by
  by_cases q : j = n
  · subst q
    rw [du_ne (Or.inl (by decide)), du_at, du_at]
    exact ⟨Int.ofNat_le.mpr hab, Int.ofNat_le.mpr hb⟩
  · rw [du_ne (Or.inl (by decide)), du_ne (Or.inr q), du_ne (Or.inr q), du_ne (Or.inl (by decide))]
    exact h j
theorem wr_kind {K W : Nat → Int32} {e : Nat} {S : PS} {D : DD} (hK : (K e).toInt = 0) (p : PW e S) (h : WDr D (ps_L S).length) : PW e (pl_kind K W e (S, D)).1 ∧ (ps_f (pl_kind K W e (S, D)).1 = 0 → WDr (pl_kind K W e (S, D)).2 (ps_L (pl_kind K W e (S, D)).1).length) := by
  by_cases c20 : (K (ps_t S)).toInt = 20
  · have hs : PW e (pp_step S) := pw_step hK p (fun _ => by omega)
    rw [lk_20 c20]
    by_cases c : pn_ D 0 = 5
    · rw [clk_full c]; exact ⟨pw_ref (by decide) p, fun z => absurd z (pp_f_ref (by decide))⟩
    · rw [clk_ok c rfl rfl]
      have hm := pw_more (W := W) (P := false) hK 4 (m0 (pl_sgn K W e 36000 (pl_new K W e (D 0) (pn_ D 0) (pp_step S)))) (pw_sgn hK (pw_new hK hs))
      refine ⟨hm.1, fun z => ?_⟩
      have q := (hm.2 z).2.1
      have e1 : ps_L (m0 (pl_sgn K W e 36000 (pl_new K W e (D 0) (pn_ D 0) (pp_step S)))).1 = ps_L S := (ls_sgn.trans ls_new).trans ls_step
      rw [e1] at q
      exact wr_du (wr_du (wr_du (wr_du (wr_du (wr_up h q) (by decide) (by decide)) (by decide) (by decide)) (by decide) (by decide)) (by decide) (by decide)) (by decide) (by decide)
  · by_cases c21 : (K (ps_t S)).toInt = 21
    · have hs : PW e (pp_step S) := pw_step hK p (fun _ => by omega)
      rw [lk_21 c21]
      by_cases c : pn_ D 1 = 5
      · rw [per_full c]; exact ⟨pw_ref (by decide) p, fun z => absurd z (pp_f_ref (by decide))⟩
      · rw [per_ok c rfl rfl rfl]
        have hm := pw_more (W := W) (P := true) hK 4 (m0 (pl_cus K W e (pl_sgn K W e 36000 (pl_new K W e (D 4) (pn_ D 1) (pp_step S)))).1) (pw_cus hK (pw_sgn hK (pw_new hK hs)))
        refine ⟨hm.1, fun z => ?_⟩
        obtain ⟨q1, q2, q3⟩ := hm.2 z
        have e1 : ps_L (m0 (pl_cus K W e (pl_sgn K W e 36000 (pl_new K W e (D 4) (pn_ D 1) (pp_step S)))).1).1 = ps_L S := ((ls_cus.trans ls_sgn).trans ls_new).trans ls_step
        have q4 := q2
        rw [e1] at q4
        exact wr_du (wr_p (wr_du (wr_du (wr_du (wr_du (wr_du (wr_du (wr_du (wr_up h q4) (by decide) (by decide)) (by decide) (by decide)) (by decide) (by decide)) (by decide) (by decide)) (by decide) (by decide)) (by decide) (by decide)) (by decide) (by decide)) (q1 (Nat.le_refl _)) (q3 (Nat.le_refl _))) (by decide) (by decide)
    · by_cases c22 : (K (ps_t S)).toInt = 22
      · have hs : PW e (pp_step S) := pw_step hK p (fun _ => by omega)
        rw [lk_22 c22]
        by_cases c : pn_ D 2 = 12
        · rw [rnd_full c]; exact ⟨pw_ref (by decide) p, fun z => absurd z (pp_f_ref (by decide))⟩
        · rw [rnd_ok c]
          refine ⟨pw_num hK (pw_old hK (pw_old hK hs)), fun _ => ?_⟩
          have e1 : ps_L (pl_num K W e 0 167 (pl_old K W e (D 0) (pn_ D 0) (pl_old K W e (D 4) (pn_ D 1) (pp_step S)))) = ps_L S := ((ls_num.trans ls_old).trans ls_old).trans ls_step
          show WDr _ (ps_L (pl_num K W e 0 167 (pl_old K W e (D 0) (pn_ D 0) (pl_old K W e (D 4) (pn_ D 1) (pp_step S))))).length
          rw [e1]
          exact wr_du (wr_du (wr_du (wr_du h (by decide) (by decide)) (by decide) (by decide)) (by decide) (by decide)) (by decide) (by decide)
      · by_cases c23 : (K (ps_t S)).toInt = 23
        · have hs : PW e (pp_step S) := pw_step hK p (fun _ => by omega)
          rw [lk_23 c23]
          by_cases c : pn_ D 3 = 3
          · rw [gun_full c]; exact ⟨pw_ref (by decide) p, fun z => absurd z (pp_f_ref (by decide))⟩
          · rw [gun_ok c]
            refine ⟨pw_num hK (pw_old hK hs), fun _ => ?_⟩
            have e1 : ps_L (pl_num K W e 0 167 (pl_old K W e (D 0) (pn_ D 0) (pp_step S))) = ps_L S := (ls_num.trans ls_old).trans ls_step
            show WDr _ (ps_L (pl_num K W e 0 167 (pl_old K W e (D 0) (pn_ D 0) (pp_step S)))).length
            rw [e1]
            exact wr_du (wr_du (wr_du h (by decide) (by decide)) (by decide) (by decide)) (by decide) (by decide)
        · rw [lk_no (by omega)]; exact ⟨pw_ref (by decide) p, fun z => absurd z (pp_f_ref (by decide))⟩
theorem wr_line {K W : Nat → Int32} {e : Nat} {S : PS} {D : DD} (hK : (K e).toInt = 0) (p : PW e S) (h : WDr D (ps_L S).length) : PW e (pl_line K W e (S, D)).1 ∧ (ps_f (pl_line K W e (S, D)).1 = 0 → WDr (pl_line K W e (S, D)).2 (ps_L (pl_line K W e (S, D)).1).length) := by
  have k := wr_kind (W := W) hK p h
  have e2 : ps_L (pp_expect K e 4 (pl_kind K W e (S, D)).1) = ps_L (pl_kind K W e (S, D)).1 := by
    unfold pp_expect
    split
    · exact ls_step
    · exact ls_ref
  refine ⟨?_, fun z j => ?_⟩
  · rw [pl_line_1]
    unfold pp_expect
    split
    · rename_i c
      exact pw_step hK k.1 (fun _ => by omega)
    · exact pw_ref (by decide) k.1
  · rw [pl_line_1] at z
    have := k.2 (ex_f0 z) j
    rw [pl_line_2, pl_line_1, e2, dl_ne (n := 0) (by decide), dl_ne (n := 0) (by decide)]
    exact this
theorem tx_f0 {K W : Nat → Int32} {e : Nat} : ∀ (n : Nat) (A : LZ), ps_f (pl_text K W e n A).1 = 0 → ps_f A.1 = 0
  | 0, _, h => h
  | n + 1, A, h => by
    unfold pl_text at h
    split at h
    · rename_i c
      exact c.1
    · exact h
theorem wr_text {K W : Nat → Int32} {e : Nat} (hK : (K e).toInt = 0) : ∀ (n : Nat) (S : PS) (D : DD), PW e S → WDr D (ps_L S).length → ps_f (pl_text K W e n (S, D)).1 = 0 → WDr (pl_text K W e n (S, D)).2 (ps_L (pl_text K W e n (S, D)).1).length
  | 0, _, _, _, h, _ => h
  | n + 1, S, D, p, h, z => by
    unfold pl_text at z ⊢
    split at z
    · rename_i c
      rw [if_pos c]
      have k := wr_line (W := W) hK p h
      have z1 : ps_f (pl_line K W e (S, D)).1 = 0 := tx_f0 n _ z
      exact wr_text hK n _ _ k.1 (k.2 z1) z
    · rename_i c
      rw [if_neg c]
      exact h
theorem wr_rt {K W : Nat → Int32} {e : Nat} (hK : (K e).toInt = 0) (z : ps_f (RT_ K W e).1 = 0) : WDr (RT_ K W e).2 (ps_L (RT_ K W e).1).length := wr_text hK 701 ps0 dd0 ⟨fun _ => ⟨Nat.zero_le _, Nat.zero_le _, Nat.zero_le _⟩, fun z => absurd rfl z⟩ WDr_0 z
