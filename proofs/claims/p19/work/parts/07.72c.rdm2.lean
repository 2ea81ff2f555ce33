
/-! rows of what is told -/
def RR (n : Int) (f : Nat → Int32) (o : Nat) (D : DD) (r : Nat) : Prop := ∀ j : Nat, (j : Int) < n → (f (o + j)).toInt = D r j
theorem RR_0 {n : Int} {f : Nat → Int32} {o r : Nat} {D : DD} (h : n ≤ 0) : RR n f o D r := fun j hj => absurd hj (by omega)
theorem RR_up {n n1 : Int} {f g : Nat → Int32} {o i k r : Nat} {D D1 : DD} {v : Int} (h : RR n f o D r) (u : UPx f g i v) (hi : i = o + k) (hk : (k : Int) = n) (hn : n1 = n + 1) (e : ∀ j, D1 r j = if j = k then v else D r j) : RR n1 g o D1 r := by
  intro j hj
  rw [e j]
  by_cases c : j = k
  · rw [if_pos c, c, ← hi]; exact u.1
  · rw [if_neg c, u.2 (o + j) (by omega)]; exact h j (by omega)
theorem RR_eq {n n1 : Int} {f : Nat → Int32} {o r : Nat} {D D1 : DD} (h : RR n f o D r) (hn : n1 = n) (e : ∀ j, D1 r j = D r j) : RR n1 f o D1 r := by
  intro j hj
  rw [e j]; exact h j (by omega)
theorem RR_fr {n : Int} {f g : Nat → Int32} {o r : Nat} {D : DD} (h : RR n f o D r) (e : ∀ j : Nat, (j : Int) < n → g (o + j) = f (o + j)) : RR n g o D r := by
  intro j hj
  rw [e j hj]; exact h j hj
/-- the counts of D -/
def WD (D : DD) : Prop := (0 ≤ D 18 0 ∧ D 18 0 ≤ 5) ∧ (0 ≤ D 18 1 ∧ D 18 1 ≤ 5) ∧ (0 ≤ D 18 2 ∧ D 18 2 ≤ 12) ∧ (0 ≤ D 18 3 ∧ D 18 3 ≤ 3) ∧ D 18 4 = D 18 0 + D 18 1 + D 18 2 + D 18 3
theorem WD_0 : WD dd0 := by unfold WD dd0; decide
theorem wd_pn {D : DD} (h : WD D) (j : Nat) (hj : j ≤ 3) : ((pn_ D j : Nat) : Int) = D 18 j := by
  unfold WD at h; unfold pn_
  match j, hj with
  | 0, _ => omega
  | 1, _ => omega
  | 2, _ => omega
  | 3, _ => omega
def MDc (D : DD) (cn co cg cr : Nat → Int32) (a : Nat) : Prop := RR (D 18 0) cn a D 0 ∧ RR (D 18 0) co a D 1 ∧ RR (D 18 0) cg a D 2 ∧ RR (D 18 0) cr a D 3
def MDp (D : DD) (pn po pg pr cu ca cb rf rt : Nat → Int32) (a : Nat) : Prop := RR (D 18 1) pn a D 4 ∧ RR (D 18 1) po a D 5 ∧ RR (D 18 1) pg a D 6 ∧ RR (D 18 1) pr a D 7 ∧ RR (D 18 1) cu a D 8 ∧ RR (D 18 1) ca a D 9 ∧ RR (D 18 1) cb a D 10 ∧ RR (D 18 1) rf a D 11 ∧ RR (D 18 1) rt a D 12
def MDr (D : DD) (ro ra rh : Nat → Int32) (b : Nat) : Prop := RR (D 18 2) ro b D 13 ∧ RR (D 18 2) ra b D 14 ∧ RR (D 18 2) rh b D 15
def MDg (D : DD) (ga gh : Nat → Int32) (c : Nat) : Prop := RR (D 18 3) ga c D 16 ∧ RR (D 18 3) gh c D 17
def MDn (D : DD) (nu : Nat → Int32) (a : Nat) : Prop := (nu a).toInt = D 18 0 ∧ (nu (a + 1)).toInt = D 18 1 ∧ (nu (a + 2)).toInt = D 18 2 ∧ (nu (a + 3)).toInt = D 18 3
def MDm (D : DD) (nu cn co cg cr pn po pg pr cu ca cb rf rt ro ra rh ga gh : Nat → Int32) : Prop := WD D ∧ MDn D nu 5 ∧ MDc D cn co cg cr 5 ∧ MDp D pn po pg pr cu ca cb rf rt 5 ∧ MDr D ro ra rh 12 ∧ MDg D ga gh 3
theorem MDm_0 {nu cn co cg cr pn po pg pr cu ca cb rf rt ro ra rh ga gh : Nat → Int32} (h : ∀ j, j < 5 → (nu (5 + j)).toInt = 0) : MDm dd0 nu cn co cg cr pn po pg pr cu ca cb rf rt ro ra rh ga gh := by
  have z : ∀ a b, dd0 a b = 0 := fun _ _ => rfl
  have r : ∀ (f : Nat → Int32) (o c r : Nat), RR (dd0 18 c) f o dd0 r := fun f o c r => RR_0 (by rw [z]; omega)
  exact ⟨WD_0, ⟨h 0 (by decide), h 1 (by decide), h 2 (by decide), h 3 (by decide)⟩, ⟨r _ _ _ _, r _ _ _ _, r _ _ _ _, r _ _ _ _⟩, ⟨r _ _ _ _, r _ _ _ _, r _ _ _ _, r _ _ _ _, r _ _ _ _, r _ _ _ _, r _ _ _ _, r _ _ _ _, r _ _ _ _⟩, ⟨r _ _ _ _, r _ _ _ _, r _ _ _ _⟩, ⟨r _ _ _ _, r _ _ _ _⟩⟩
/-! a line more, as D has it -/
def dl_clock (D : DD) (n : Nat) (v0 v1 v2 v3 : Int) : DD := du (du (du (du (du D 0 n v0) 1 n v1) 2 n v2) 3 n v3) 18 0 (D 18 0 + 1)
def dl_person (D : DD) (n : Nat) (v4 v5 v6 v7 v8 v9 v10 v11 v12 : Int) : DD := du (du (du (du (du (du (du (du (du (du D 4 n v4) 5 n v5) 6 n v6) 7 n v7) 8 n v8) 9 n v9) 10 n v10) 11 n v11) 12 n v12) 18 1 (D 18 1 + 1)
def dl_round (D : DD) (n : Nat) (v13 v14 v15 : Int) : DD := du (du (du (du D 13 n v13) 14 n v14) 15 n v15) 18 2 (D 18 2 + 1)
def dl_gun (D : DD) (n : Nat) (v16 v17 : Int) : DD := du (du (du D 16 n v16) 17 n v17) 18 3 (D 18 3 + 1)
def dl_line (D : DD) : DD := du D 18 4 (D 18 4 + 1)
theorem wd_clock {D : DD} {n : Nat} {v0 v1 v2 v3 : Int} (h : WD D) (hn : D 18 0 ≠ 5) : WD (dl_line (dl_clock D n v0 v1 v2 v3)) := by
  unfold WD at h ⊢; simp [dl_line, dl_clock, du]; omega
theorem wd_person {D : DD} {n : Nat} {v4 v5 v6 v7 v8 v9 v10 v11 v12 : Int} (h : WD D) (hn : D 18 1 ≠ 5) : WD (dl_line (dl_person D n v4 v5 v6 v7 v8 v9 v10 v11 v12)) := by
  unfold WD at h ⊢; simp [dl_line, dl_person, du]; omega
theorem wd_round {D : DD} {n : Nat} {v13 v14 v15 : Int} (h : WD D) (hn : D 18 2 ≠ 12) : WD (dl_line (dl_round D n v13 v14 v15)) := by
  unfold WD at h ⊢; simp [dl_line, dl_round, du]; omega
theorem wd_gun {D : DD} {n : Nat} {v16 v17 : Int} (h : WD D) (hn : D 18 3 ≠ 3) : WD (dl_line (dl_gun D n v16 v17)) := by
  unfold WD at h ⊢; simp [dl_line, dl_gun, du]; omega
theorem MDc_eq {D D1 : DD} {cn co cg cr : Nat → Int32} {a : Nat} (h : MDc D cn co cg cr a) (e0 : D1 18 0 = D 18 0) (e : ∀ r, r ≤ 3 → ∀ j, D1 r j = D r j) : MDc D1 cn co cg cr a := ⟨RR_eq h.1 e0 (e 0 (by decide)), RR_eq h.2.1 e0 (e 1 (by decide)), RR_eq h.2.2.1 e0 (e 2 (by decide)), RR_eq h.2.2.2 e0 (e 3 (by decide))⟩
theorem MDp_eq {D D1 : DD} {pn po pg pr cu ca cb rf rt : Nat → Int32} {a : Nat} (h : MDp D pn po pg pr cu ca cb rf rt a) (e0 : D1 18 1 = D 18 1) (e : ∀ r, 4 ≤ r → r ≤ 12 → ∀ j, D1 r j = D r j) : MDp D1 pn po pg pr cu ca cb rf rt a := ⟨RR_eq h.1 e0 (e 4 (by decide) (by decide)), RR_eq h.2.1 e0 (e 5 (by decide) (by decide)), RR_eq h.2.2.1 e0 (e 6 (by decide) (by decide)), RR_eq h.2.2.2.1 e0 (e 7 (by decide) (by decide)), RR_eq h.2.2.2.2.1 e0 (e 8 (by decide) (by decide)), RR_eq h.2.2.2.2.2.1 e0 (e 9 (by decide) (by decide)), RR_eq h.2.2.2.2.2.2.1 e0 (e 10 (by decide) (by decide)), RR_eq h.2.2.2.2.2.2.2.1 e0 (e 11 (by decide) (by decide)), RR_eq h.2.2.2.2.2.2.2.2 e0 (e 12 (by decide) (by decide))⟩
theorem MDr_eq {D D1 : DD} {ro ra rh : Nat → Int32} {b : Nat} (h : MDr D ro ra rh b) (e0 : D1 18 2 = D 18 2) (e : ∀ r, 13 ≤ r → r ≤ 15 → ∀ j, D1 r j = D r j) : MDr D1 ro ra rh b := ⟨RR_eq h.1 e0 (e 13 (by decide) (by decide)), RR_eq h.2.1 e0 (e 14 (by decide) (by decide)), RR_eq h.2.2 e0 (e 15 (by decide) (by decide))⟩
theorem MDg_eq {D D1 : DD} {ga gh : Nat → Int32} {c : Nat} (h : MDg D ga gh c) (e0 : D1 18 3 = D 18 3) (e : ∀ r, 16 ≤ r → r ≤ 17 → ∀ j, D1 r j = D r j) : MDg D1 ga gh c := ⟨RR_eq h.1 e0 (e 16 (by decide) (by decide)), RR_eq h.2 e0 (e 17 (by decide) (by decide))⟩
theorem dl_ne {D : DD} {n : Nat} {r : Nat} (hr : r ≠ 18) : ∀ j, dl_line D r j = D r j := fun j => by unfold dl_line; exact du_ne (Or.inl hr)
theorem dc_ne {D : DD} {n r : Nat} {v0 v1 v2 v3 : Int} (hr : 4 ≤ r ∧ r ≤ 17) : ∀ j, dl_line (dl_clock D n v0 v1 v2 v3) r j = D r j := fun j => by
  unfold dl_line dl_clock
  rw [du_ne (Or.inl (by omega)), du_ne (Or.inl (by omega)), du_ne (Or.inl (by omega)), du_ne (Or.inl (by omega)), du_ne (Or.inl (by omega)), du_ne (Or.inl (by omega))]
theorem dp_ne {D : DD} {n r : Nat} {v4 v5 v6 v7 v8 v9 v10 v11 v12 : Int} (hr : r ≤ 3 ∨ (13 ≤ r ∧ r ≤ 17)) : ∀ j, dl_line (dl_person D n v4 v5 v6 v7 v8 v9 v10 v11 v12) r j = D r j := fun j => by
  unfold dl_line dl_person
  rw [du_ne (Or.inl (by omega)), du_ne (Or.inl (by omega)), du_ne (Or.inl (by omega)), du_ne (Or.inl (by omega)), du_ne (Or.inl (by omega)), du_ne (Or.inl (by omega)), du_ne (Or.inl (by omega)), du_ne (Or.inl (by omega)), du_ne (Or.inl (by omega)), du_ne (Or.inl (by omega)), du_ne (Or.inl (by omega))]
theorem dr_ne {D : DD} {n r : Nat} {v13 v14 v15 : Int} (hr : r ≤ 12 ∨ (16 ≤ r ∧ r ≤ 17)) : ∀ j, dl_line (dl_round D n v13 v14 v15) r j = D r j := fun j => by
  unfold dl_line dl_round
  rw [du_ne (Or.inl (by omega)), du_ne (Or.inl (by omega)), du_ne (Or.inl (by omega)), du_ne (Or.inl (by omega)), du_ne (Or.inl (by omega))]
theorem dg_ne {D : DD} {n r : Nat} {v16 v17 : Int} (hr : r ≤ 15) : ∀ j, dl_line (dl_gun D n v16 v17) r j = D r j := fun j => by
  unfold dl_line dl_gun
  rw [du_ne (Or.inl (by omega)), du_ne (Or.inl (by omega)), du_ne (Or.inl (by omega)), du_ne (Or.inl (by omega))]
theorem md_clock {D : DD} {n i : Nat} {v0 v1 v2 v3 : Int} {nu mu cn co cg cr pn po pg pr cu ca cb rf rt ro ra rh ga gh cn1 co1 cg1 cr1 : Nat → Int32} (h : MDm D nu cn co cg cr pn po pg pr cu ca cb rf rt ro ra rh ga gh) (hn : D 18 0 ≠ 5) (hk : (n : Int) = D 18 0) (hi : i = 5 + n) (om : OMt mu nu 5) (u0 : UPx cn cn1 i v0) (u1 : UPx co co1 i v1) (u2 : UPx cg cg1 i v2) (u3 : UPx cr cr1 i v3) : MDm (dl_line (dl_clock D n v0 v1 v2 v3)) mu cn1 co1 cg1 cr1 pn po pg pr cu ca cb rf rt ro ra rh ga gh := by
  obtain ⟨h0, h1, h2, h3, h4, h5⟩ := h
  have e0 : dl_line (dl_clock D n v0 v1 v2 v3) 18 0 = D 18 0 + 1 := by simp [dl_line, dl_clock, du]
  have e1 : dl_line (dl_clock D n v0 v1 v2 v3) 18 1 = D 18 1 := by simp [dl_line, dl_clock, du]
  have e2 : dl_line (dl_clock D n v0 v1 v2 v3) 18 2 = D 18 2 := by simp [dl_line, dl_clock, du]
  have e3 : dl_line (dl_clock D n v0 v1 v2 v3) 18 3 = D 18 3 := by simp [dl_line, dl_clock, du]
  refine ⟨wd_clock h0 hn, ⟨by rw [om.1, h1.1, e0], by rw [om.2 6 (by decide), e1]; exact h1.2.1, by rw [om.2 7 (by decide), e2]; exact h1.2.2.1, by rw [om.2 8 (by decide), e3]; exact h1.2.2.2⟩, ?_, MDp_eq h3 e1 (fun r a b => dc_ne (by omega)), MDr_eq h4 e2 (fun r a b => dc_ne (by omega)), MDg_eq h5 e3 (fun r a b => dc_ne (by omega))⟩
  exact ⟨RR_up h2.1 u0 hi hk e0 (fun j => by simp [dl_line, dl_clock, du]), RR_up h2.2.1 u1 hi hk e0 (fun j => by simp [dl_line, dl_clock, du]), RR_up h2.2.2.1 u2 hi hk e0 (fun j => by simp [dl_line, dl_clock, du]), RR_up h2.2.2.2 u3 hi hk e0 (fun j => by simp [dl_line, dl_clock, du])⟩
theorem md_person {D : DD} {n i : Nat} {v4 v5 v6 v7 v8 v9 v10 v11 v12 : Int} {nu mu cn co cg cr pn po pg pr cu ca cb rf rt ro ra rh ga gh pn1 po1 pg1 pr1 cu1 ca1 cb1 rf1 rt1 : Nat → Int32} (h : MDm D nu cn co cg cr pn po pg pr cu ca cb rf rt ro ra rh ga gh) (hn : D 18 1 ≠ 5) (hk : (n : Int) = D 18 1) (hi : i = 5 + n) (om : (mu 6).toInt = (nu 6).toInt + 1 ∧ ∀ j, j ≠ 6 → j ≠ 9 → mu j = nu j) (u4 : UPx pn pn1 i v4) (u5 : UPx po po1 i v5) (u6 : UPx pg pg1 i v6) (u7 : UPx pr pr1 i v7) (u8 : UPx cu cu1 i v8) (u9 : UPx ca ca1 i v9) (u10 : UPx cb cb1 i v10) (u11 : UPx rf rf1 i v11) (u12 : UPx rt rt1 i v12) : MDm (dl_line (dl_person D n v4 v5 v6 v7 v8 v9 v10 v11 v12)) mu cn co cg cr pn1 po1 pg1 pr1 cu1 ca1 cb1 rf1 rt1 ro ra rh ga gh := by
  obtain ⟨h0, h1, h2, h3, h4, h5⟩ := h
  have e0 : dl_line (dl_person D n v4 v5 v6 v7 v8 v9 v10 v11 v12) 18 0 = D 18 0 := by simp [dl_line, dl_person, du]
  have e1 : dl_line (dl_person D n v4 v5 v6 v7 v8 v9 v10 v11 v12) 18 1 = D 18 1 + 1 := by simp [dl_line, dl_person, du]
  have e2 : dl_line (dl_person D n v4 v5 v6 v7 v8 v9 v10 v11 v12) 18 2 = D 18 2 := by simp [dl_line, dl_person, du]
  have e3 : dl_line (dl_person D n v4 v5 v6 v7 v8 v9 v10 v11 v12) 18 3 = D 18 3 := by simp [dl_line, dl_person, du]
  refine ⟨wd_person h0 hn, ⟨by rw [om.2 5 (by decide) (by decide), e0]; exact h1.1, by rw [show (5 + 1 : Nat) = 6 from rfl, om.1, e1]; have := h1.2.1; rw [show (5 + 1 : Nat) = 6 from rfl] at this; omega, by rw [om.2 7 (by decide) (by decide), e2]; exact h1.2.2.1, by rw [om.2 8 (by decide) (by decide), e3]; exact h1.2.2.2⟩, MDc_eq h2 e0 (fun r a => dp_ne (by omega)), ?_, MDr_eq h4 e2 (fun r a b => dp_ne (by omega)), MDg_eq h5 e3 (fun r a b => dp_ne (by omega))⟩
  obtain ⟨a4, a5, a6, a7, a8, a9, a10, a11, a12⟩ := h3
  exact ⟨RR_up a4 u4 hi hk e1 (fun j => by simp [dl_line, dl_person, du]), RR_up a5 u5 hi hk e1 (fun j => by simp [dl_line, dl_person, du]), RR_up a6 u6 hi hk e1 (fun j => by simp [dl_line, dl_person, du]), RR_up a7 u7 hi hk e1 (fun j => by simp [dl_line, dl_person, du]), RR_up a8 u8 hi hk e1 (fun j => by simp [dl_line, dl_person, du]), RR_up a9 u9 hi hk e1 (fun j => by simp [dl_line, dl_person, du]), RR_up a10 u10 hi hk e1 (fun j => by simp [dl_line, dl_person, du]), RR_up a11 u11 hi hk e1 (fun j => by simp [dl_line, dl_person, du]), RR_up a12 u12 hi hk e1 (fun j => by simp [dl_line, dl_person, du])⟩
theorem md_round {D : DD} {n i : Nat} {v13 v14 v15 : Int} {nu mu cn co cg cr pn po pg pr cu ca cb rf rt ro ra rh ga gh ro1 ra1 rh1 : Nat → Int32} (h : MDm D nu cn co cg cr pn po pg pr cu ca cb rf rt ro ra rh ga gh) (hn : D 18 2 ≠ 12) (hk : (n : Int) = D 18 2) (hi : i = 12 + n) (om : OMt mu nu 7) (u0 : UPx ro ro1 i v13) (u1 : UPx ra ra1 i v14) (u2 : UPx rh rh1 i v15) : MDm (dl_line (dl_round D n v13 v14 v15)) mu cn co cg cr pn po pg pr cu ca cb rf rt ro1 ra1 rh1 ga gh := by
  obtain ⟨h0, h1, h2, h3, h4, h5⟩ := h
  have e0 : dl_line (dl_round D n v13 v14 v15) 18 0 = D 18 0 := by simp [dl_line, dl_round, du]
  have e1 : dl_line (dl_round D n v13 v14 v15) 18 1 = D 18 1 := by simp [dl_line, dl_round, du]
  have e2 : dl_line (dl_round D n v13 v14 v15) 18 2 = D 18 2 + 1 := by simp [dl_line, dl_round, du]
  have e3 : dl_line (dl_round D n v13 v14 v15) 18 3 = D 18 3 := by simp [dl_line, dl_round, du]
  refine ⟨wd_round h0 hn, ⟨by rw [om.2 5 (by decide), e0]; exact h1.1, by rw [om.2 6 (by decide), e1]; exact h1.2.1, by rw [show (5 + 2 : Nat) = 7 from rfl, om.1, e2]; have := h1.2.2.1; rw [show (5 + 2 : Nat) = 7 from rfl] at this; omega, by rw [om.2 8 (by decide), e3]; exact h1.2.2.2⟩, MDc_eq h2 e0 (fun r a => dr_ne (by omega)), MDp_eq h3 e1 (fun r a b => dr_ne (by omega)), ?_, MDg_eq h5 e3 (fun r a b => dr_ne (by omega))⟩
  exact ⟨RR_up h4.1 u0 hi hk e2 (fun j => by simp [dl_line, dl_round, du]), RR_up h4.2.1 u1 hi hk e2 (fun j => by simp [dl_line, dl_round, du]), RR_up h4.2.2 u2 hi hk e2 (fun j => by simp [dl_line, dl_round, du])⟩
theorem md_gun {D : DD} {n i : Nat} {v16 v17 : Int} {nu mu cn co cg cr pn po pg pr cu ca cb rf rt ro ra rh ga gh ga1 gh1 : Nat → Int32} (h : MDm D nu cn co cg cr pn po pg pr cu ca cb rf rt ro ra rh ga gh) (hn : D 18 3 ≠ 3) (hk : (n : Int) = D 18 3) (hi : i = 3 + n) (om : OMt mu nu 8) (u0 : UPx ga ga1 i v16) (u1 : UPx gh gh1 i v17) : MDm (dl_line (dl_gun D n v16 v17)) mu cn co cg cr pn po pg pr cu ca cb rf rt ro ra rh ga1 gh1 := by
  obtain ⟨h0, h1, h2, h3, h4, h5⟩ := h
  have e0 : dl_line (dl_gun D n v16 v17) 18 0 = D 18 0 := by simp [dl_line, dl_gun, du]
  have e1 : dl_line (dl_gun D n v16 v17) 18 1 = D 18 1 := by simp [dl_line, dl_gun, du]
  have e2 : dl_line (dl_gun D n v16 v17) 18 2 = D 18 2 := by simp [dl_line, dl_gun, du]
  have e3 : dl_line (dl_gun D n v16 v17) 18 3 = D 18 3 + 1 := by simp [dl_line, dl_gun, du]
  refine ⟨wd_gun h0 hn, ⟨by rw [om.2 5 (by decide), e0]; exact h1.1, by rw [om.2 6 (by decide), e1]; exact h1.2.1, by rw [om.2 7 (by decide), e2]; exact h1.2.2.1, by rw [show (5 + 3 : Nat) = 8 from rfl, om.1, e3]; have := h1.2.2.2; rw [show (5 + 3 : Nat) = 8 from rfl] at this; omega⟩, MDc_eq h2 e0 (fun r a => dg_ne (by omega)), MDp_eq h3 e1 (fun r a b => dg_ne (by omega)), MDr_eq h4 e2 (fun r a b => dg_ne (by omega)), ?_⟩
  exact ⟨RR_up h5.1 u0 hi hk e3 (fun j => by simp [dl_line, dl_gun, du]), RR_up h5.2 u1 hi hk e3 (fun j => by simp [dl_line, dl_gun, du])⟩
/-! what stands behind a clock or a person, as the reference has it -/
def on_ (a b c : Bool) : Int32 := (if a then 16 else 0) + (if b then 32 else 0) + (if c then 64 else 0)
def cb_ (a b c : Bool) : Nat := (if a then 1 else 0) + (if b then 1 else 0) + (if c then 1 else 0)
theorem on_4 : ∀ a b c, ((on_ a b c >>> ((4 : Int32) &&& 31)) &&& 1) = (if a then 1 else 0) ∧ (on_ a b c ||| (1 <<< ((4 : Int32) &&& 31))) = on_ true b c := by decide
theorem on_5 : ∀ a b c, ((on_ a b c >>> ((5 : Int32) &&& 31)) &&& 1) = (if b then 1 else 0) ∧ (on_ a b c ||| (1 <<< ((5 : Int32) &&& 31))) = on_ a true c := by decide
theorem on_6 : ∀ a b c, ((on_ a b c >>> ((6 : Int32) &&& 31)) &&& 1) = (if c then 1 else 0) ∧ (on_ a b c ||| (1 <<< ((6 : Int32) &&& 31))) = on_ a b true := by decide
theorem cb_3 : ∀ a b c, cb_ a b c ≤ 3 := by decide
theorem cb_t : ∀ a b c, (a = false → cb_ true b c = cb_ a b c + 1) ∧ (b = false → cb_ a true c = cb_ a b c + 1) ∧ (c = false → cb_ a b true = cb_ a b c + 1) := by decide
def MLx (S : PS) (g r : Int) (f t : Nat) (x4 x5 x6 x7 : Int32) : Prop := ps_f S = 0 → x4.toInt = g ∧ x5.toInt = r ∧ x6.toInt = (f : Int) ∧ x7.toInt = (t : Int)
def CNx (S : PS) (n : Nat) (a b c : Bool) : Prop := ps_f S = 0 → n + cb_ a b c = 4
theorem pl_sgn_no {K W : Nat → Int32} {e : Nat} {hi : Int} {S : PS} (h : ps_f S ≠ 0) : pl_sgn K W e hi S = S := by unfold pl_sgn; rw [if_neg (fun y => h y.1), pl_num_no h]
theorem pe_no {K W : Nat → Int32} {e n : Nat} {S : PS} (hK : (K e).toInt = 0) (hp : PW e S) (h : ps_f S ≠ 0) : pp_either K W e (pp_G K W e n) S = S := (pg_E hK n S hp).2.1 h
theorem pm_no {K W : Nat → Int32} {e : Nat} {P : Bool} {n : Nat} {M : MS} (h : ps_f M.1 ≠ 0) : pm_more K W e P n M = M := by
  obtain ⟨S, ⟨a, b, c⟩, g, r, f, t⟩ := M
  exact pm_exit (Or.inl h)
theorem pm_rep2 {K W : Nat → Int32} {e : Nat} {P : Bool} {m : Nat} {S : PS} {a b c : Bool} {g r : Int} {f t : Nat} {R : MS} (hp : pm_more K W e P (m + 1) (S, (a, b, c), g, r, f, t) = R) (h0 : ps_f S = 0) (h : ((K (ps_t S)).toInt = 24 ∧ a = true) ∨ ((K (ps_t S)).toInt = 25 ∧ b = true) ∨ ((K (ps_t S)).toInt = 26 ∧ P = true ∧ c = true)) : pm_more K W e P m (pp_ref e 3 S, (a, b, c), g, r, f, t) = R := by
  rw [← hp, pm_rep h0 h, pm_no (pp_f_ref (by decide))]
/-! customs -/
theorem cus_no {K W : Nat → Int32} {e : Nat} {S : PS} (h : ps_f S ≠ 0) : pl_cus K W e S = (S, 0, 0, 0) := by unfold pl_cus; rw [if_pos h]
theorem rm_cus {K PL W : Nat → Int32} {q : Nat → Nat} {e : Nat} {S : PS} {a pl so va fl fp co : Int32} {nu ks kv : Nat → Int32} (h : RM K PL W q e S a pl so va fl fp co nu ks kv) (h0 : fl.toInt = 0) : (so.toInt = 0 ∧ 7 ≤ va.toInt ∧ va.toInt ≤ 11 → va.toInt = (K (ps_t S)).toInt - 20) ∧ ((so.toInt = 0 ∧ 7 ≤ va.toInt ∧ va.toInt ≤ 11) ↔ (27 ≤ (K (ps_t S)).toInt ∧ (K (ps_t S)).toInt ≤ 31)) := by
  have t := rm_tm h h0
  refine ⟨fun y => ?_, tm_custom t⟩
  have e1 : fI K (ps_t S) = (K (ps_t S)).toInt := rfl
  unfold TM at t; omega
/-! the text as a whole -/
def MP (e : Nat) (S T : PS) : Prop := PW e S → PW e T ∧ (ps_f T = 0 → ps_f S = 0 ∧ ps_t S ≤ ps_t T)
theorem mp_t {e : Nat} {A B C : PS} (h : MP e A B) (g : MP e B C) : MP e A C := fun p => by
  have h1 := h p
  have g1 := g h1.1
  exact ⟨g1.1, fun z => by have a := g1.2 z; have b := h1.2 a.1; exact ⟨b.1, by omega⟩⟩
theorem mp_r {e : Nat} {S : PS} : MP e S S := fun p => ⟨p, fun z => ⟨z, Nat.le_refl _⟩⟩
theorem mp_ref {e : Nat} {k : Int} {S : PS} (hk : k ≠ 0) : MP e S (pp_ref e k S) := fun p => ⟨pw_ref hk p, fun z => absurd z (pp_f_ref hk)⟩
theorem mp_step {K : Nat → Int32} {e : Nat} {S : PS} (hK : (K e).toInt = 0) (hn : ps_f S = 0 → (K (ps_t S)).toInt ≠ 0) : MP e S (pp_step S) := fun p => ⟨pw_step hK p hn, fun z => by
  by_cases c : ps_f S = 0
  · rw [pp_step_eq c]; exact ⟨c, Nat.le_succ _⟩
  · rw [pp_step_no c] at z; exact absurd z c⟩
theorem mp_num {K W : Nat → Int32} {e : Nat} {lo hi : Int} {S : PS} (hK : (K e).toInt = 0) : MP e S (pl_num K W e lo hi S) := by
  unfold pl_num
  split
  · exact mp_r
  · split
    · exact mp_ref (by decide)
    · split
      · exact mp_ref (by decide)
      · rename_i c _
        exact mp_step hK (fun _ => by omega)
theorem mp_sgn {K W : Nat → Int32} {e : Nat} {hi : Int} {S : PS} (hK : (K e).toInt = 0) : MP e S (pl_sgn K W e hi S) := by
  unfold pl_sgn
  split
  · rename_i c
    exact mp_t (mp_step hK (fun _ => by have := c.2; omega)) (mp_num hK)
  · exact mp_num hK
theorem mp_new {K W : Nat → Int32} {e n : Nat} {nm : Nat → Int} {S : PS} (hK : (K e).toInt = 0) : MP e S (pl_new K W e nm n S) := by
  unfold pl_new
  split
  · exact mp_r
  · split
    · exact mp_ref (by decide)
    · split
      · exact mp_ref (by decide)
      · exact mp_step hK (fun _ => by omega)
theorem mp_old {K W : Nat → Int32} {e n : Nat} {nm : Nat → Int} {S : PS} (hK : (K e).toInt = 0) : MP e S (pl_old K W e nm n S) := by
  unfold pl_old
  split
  · exact mp_r
  · split
    · exact mp_ref (by decide)
    · split
      · exact mp_ref (by decide)
      · exact mp_step hK (fun _ => by omega)
theorem mp_cus {K W : Nat → Int32} {e : Nat} {S : PS} (hK : (K e).toInt = 0) : MP e S (pl_cus K W e S).1 := by
  unfold pl_cus
  split
  · exact mp_r
  · split
    · exact mp_ref (by decide)
    · have s1 : MP e S (pp_step S) := mp_step hK (fun _ => by omega)
      split
      · exact mp_t s1 (mp_t (mp_num hK) (mp_num hK))
      · split
        · exact mp_t s1 (mp_num hK)
        · exact s1
theorem mp_either {K W : Nat → Int32} {e n : Nat} {S : PS} (hK : (K e).toInt = 0) : MP e S (pp_either K W e (pp_G K W e n) S) := fun p => by
  have g := pg_E (W := W) hK n S p
  exact ⟨g.1, fun z => by have := g.2.2 z; exact ⟨this.1, by omega⟩⟩
theorem mp_more {K W : Nat → Int32} {e : Nat} {P : Bool} (hK : (K e).toInt = 0) : ∀ n (M : MS), MP e M.1 (pm_more K W e P n M).1 := by
  intro n
  induction n with
  | zero => intro M; exact mp_r
  | succ n ih =>
    intro M
    obtain ⟨S, ⟨a, b, c⟩, g, r, f, t⟩ := M
    show MP e S (pm_more K W e P (n + 1) (S, (a, b, c), g, r, f, t)).1
    unfold pm_more
    split
    · exact mp_r
    · split
      · split
        · exact mp_ref (by decide)
        · have s1 : MP e S (pp_step S) := mp_step hK (fun _ => by omega)
          have i1 : MP e (pl_sgn K W e 600 (pp_step S)) _ := ih (pl_sgn K W e 600 (pp_step S), (true, b, c), pv_sgn K W (pp_step S), r, f, t)
          exact mp_t s1 (mp_t (mp_sgn hK) i1)
      · split
        · split
          · exact mp_ref (by decide)
          · have s1 : MP e S (pp_step S) := mp_step hK (fun _ => by omega)
            have i1 : MP e (pl_num K W e 0 36000 (pp_step S)) _ := ih (pl_num K W e 0 36000 (pp_step S), (a, true, c), g, pv_num W (pp_step S), f, t)
            exact mp_t s1 (mp_t (mp_num hK) i1)
        · split
          · rename_i c26
            split
            · exact mp_ref (by decide)
            · have s1 : MP e S (pp_step S) := mp_step hK (fun _ => by have := c26.1; omega)
              have i1 : MP e (pp_either K W e (pp_G K W e 8) (pp_step S)) _ := ih (pp_either K W e (pp_G K W e 8) (pp_step S), (a, b, true), g, r, (ps_L S).length, (ps_L (pp_either K W e (pp_G K W e 8) (pp_step S))).length)
              exact mp_t s1 (mp_t (mp_either hK) i1)
          · exact mp_r
theorem mp_kind {K W : Nat → Int32} {e : Nat} {A : LZ} (hK : (K e).toInt = 0) : MP e A.1 (pl_kind K W e A).1 := by
  unfold pl_kind
  split
  · unfold pl_clock
    simp only
    split
    · exact mp_ref (by decide)
    · exact mp_t (mp_step hK (fun _ => by omega)) (mp_t (mp_new hK) (mp_t (mp_sgn hK) (mp_more hK 4 (m0 _))))
  · split
    · unfold pl_person
      simp only
      split
      · exact mp_ref (by decide)
      · exact mp_t (mp_step hK (fun _ => by omega)) (mp_t (mp_new hK) (mp_t (mp_sgn hK) (mp_t (mp_cus hK) (mp_more hK 4 (m0 _)))))
    · split
      · unfold pl_round
        simp only
        split
        · exact mp_ref (by decide)
        · exact mp_t (mp_step hK (fun _ => by omega)) (mp_t (mp_old hK) (mp_t (mp_old hK) (mp_num hK)))
      · split
        · unfold pl_gun
          simp only
          split
          · exact mp_ref (by decide)
          · exact mp_t (mp_step hK (fun _ => by omega)) (mp_t (mp_old hK) (mp_num hK))
        · exact mp_ref (by decide)
theorem ln_adv {K W : Nat → Int32} {e : Nat} {A : LZ} (hK : (K e).toInt = 0) (p : PW e A.1) (z : ps_f (pl_line K W e A).1 = 0) : ps_f A.1 = 0 ∧ ps_t A.1 + 1 ≤ ps_t (pl_line K W e A).1 := by
  have g := mp_kind (W := W) hK p
  unfold pl_line pp_expect at z ⊢
  by_cases c : ps_f (pl_kind K W e A).1 = 0 ∧ (K (ps_t (pl_kind K W e A).1)).toInt = 4
  · simp only [if_pos c]
    have g1 := g.2 c.1
    rw [pp_step_eq c.1]
    exact ⟨g1.1, by show ps_t A.1 + 1 ≤ ps_t (pl_kind K W e A).1 + 1; omega⟩
  · simp only [if_neg c] at z
    exact absurd z (pp_f_ref (by decide))
theorem tx_exit {K W : Nat → Int32} {e n : Nat} {A : LZ} (h : ps_f A.1 ≠ 0 ∨ (K (ps_t A.1)).toInt = 0) : pl_text K W e n A = A := by
  cases n with
  | zero => rfl
  | succ n => unfold pl_text; rw [if_neg (fun y => by rcases h with h | h; exact h y.1; exact y.2 h)]
theorem tx_next {K W : Nat → Int32} {e n : Nat} {A : LZ} (h0 : ps_f A.1 = 0) (h : (K (ps_t A.1)).toInt ≠ 0) : pl_text K W e (n + 1) A = pl_text K W e n (pl_line K W e A) := by
  rw [pl_text, if_pos ⟨h0, h⟩]
theorem ts_e {f : Nat → Int} {n : Nat} {K PL W : Nat → Int} {q : Nat → Nat} {e : Nat} (h : TS f n K PL W q e) : e ≤ n := by
  have key : ∀ i, i ≤ e → i ≤ q i := by
    intro i
    induction i with
    | zero => intro _; omega
    | succ i ih =>
      intro hi
      have h1 := ih (by omega)
      obtain ⟨g1, g2, g3, g4, g5⟩ := (ts_tok h (t := i) (by omega)).1
      have : (PL i).toNat < q (i + 1) := by
        rcases g5 with ⟨g, -⟩ | ⟨g, -⟩ | ⟨-, -, -, s, gs, gg⟩
        · exact g.1
        · exact g.1
        · have : 1 ≤ s := by unfold tk_sgn at gg; omega
          omega
      omega
  have := key e (Nat.le_refl _)
  have := h.2.2.1
  omega
/-- how often a text may still go on -/
def TFx (n : Nat) (S : PS) : Prop := ps_f S = 0 → 701 ≤ n + ps_t S
theorem tf_next {K W : Nat → Int32} {e n m : Nat} {S : PS} {D : DD} (hK : (K e).toInt = 0) (p : PW e S) (h : TFx n S) (hm : n = m + 1) : TFx m (pl_line K W e (S, D)).1 := fun z => by
  have g := ln_adv (W := W) hK p z
  have g1 := h g.1
  have g2 := g.2
  rw [show ps_t (S, D).1 = ps_t S from rfl] at g2
  omega
theorem tf_pos {K : Nat → Int32} {e n : Nat} {S : PS} (hK : (K e).toInt = 0) (he : e ≤ 700) (p : PW e S) (h : TFx n S) (h0 : ps_f S = 0) (hn : (K (ps_t S)).toInt ≠ 0) : ∃ m, n = m + 1 := by
  have a := (p.1 h0).1
  have b := h h0
  have : ps_t S ≠ e := fun y => hn (by rw [y]; exact hK)
  exact ⟨n - 1, by omega⟩
theorem rm_line {K PL W : Nat → Int32} {q : Nat → Nat} {e : Nat} {S : PS} {a pl so va fl fp co : Int32} {nu ks kv : Nat → Int32} (h : RM K PL W q e S a pl so va fl fp co nu ks kv) (h0 : fl.toInt = 0) : (so.toInt = 0 ∧ va.toInt ≤ 3) ↔ (20 ≤ (K (ps_t S)).toInt ∧ (K (ps_t S)).toInt ≤ 23) := tm_line (rm_tm h h0)
theorem rm_nu {K PL W : Nat → Int32} {q : Nat → Nat} {e : Nat} {S : PS} {a pl so va fl fp co : Int32} {nu mu ks kv : Nat → Int32} (h : RM K PL W q e S a pl so va fl fp co nu ks kv) (e9 : mu 9 = nu 9) : RM K PL W q e S a pl so va fl fp co mu ks kv := ⟨h.1, h.2.1, h.2.2.1, fun z => by have g := h.2.2.2 z; exact ⟨g.1, g.2.1, g.2.2.1, g.2.2.2.1, g.2.2.2.2.1, by rw [e9]; exact g.2.2.2.2.2.1, g.2.2.2.2.2.2⟩⟩
theorem ln_f {K W : Nat → Int32} {e : Nat} {A : LZ} (h : ps_f (pl_kind K W e A).1 ≠ 0) : (pl_line K W e A).1 = (pl_kind K W e A).1 := by
  show pp_expect K e 4 (pl_kind K W e A).1 = _
  rw [ex_n (fun z => h z.1), pr_no h]
theorem ln_y {K W : Nat → Int32} {e : Nat} {A : LZ} (h : ps_f (pl_kind K W e A).1 = 0 ∧ (K (ps_t (pl_kind K W e A).1)).toInt = 4) : (pl_line K W e A).1 = pp_step (pl_kind K W e A).1 := by
  show pp_expect K e 4 (pl_kind K W e A).1 = _
  rw [ex_y h.1 h.2]
theorem ln_n {K W : Nat → Int32} {e : Nat} {A : LZ} (h : ¬ (ps_f (pl_kind K W e A).1 = 0 ∧ (K (ps_t (pl_kind K W e A).1)).toInt = 4)) : (pl_line K W e A).1 = pp_ref e 1 (pl_kind K W e A).1 := by
  show pp_expect K e 4 (pl_kind K W e A).1 = _
  rw [ex_n h]
theorem on_t {x : Int32} {a : Bool} (h : x = if a = true then 1 else 0) (hn : x.toInt = 1) : a = true := by
  cases a with
  | true => rfl
  | false => rw [h] at hn; exact absurd hn (by decide)
theorem on_f {x : Int32} {a : Bool} (h : x = if a = true then 1 else 0) (hn : x.toInt ≠ 1) : a = false := by
  cases a with
  | false => rfl
  | true => rw [h] at hn; exact absurd (by decide) hn
