
/-! rows filled -/
def FLt (g : Nat → Int32) (v : Int32) (n : Nat) : Prop := ∀ j, j < n → g j = v
def FIt (g : Nat → Int32) (v i : Int32) : Prop := ∀ j : Nat, (j : Int) < i.toInt → g j = v
theorem FIt_0 {g : Nat → Int32} {v : Int32} : FIt g v (0 : Int32) := fun j h => absurd h (by have := (by decide : (0 : Int32).toInt = 0); omega)
theorem FIt_s {f g : Nat → Int32} {v i m : Int32} (h : FIt f v i) (e : upd f i.toNatClampNeg v = g) (h0 : 0 ≤ i.toInt) (hm : m.toInt = i.toInt + 1) : FIt g v m := by
  subst e
  intro j hj
  by_cases c : j = i.toNatClampNeg
  · rw [c, ud_at]
  · rw [ud_ne c]; exact h j (by rw [tn_c] at c; omega)
theorem FIt_e {g : Nat → Int32} {v i : Int32} {n : Nat} (h : FIt g v i) (hi : (n : Int) ≤ i.toInt) : FLt g v n := fun j hj => h j (by omega)
theorem FLt_z {g : Nat → Int32} {n j : Nat} (h : FLt g (0 : Int32) n) (hj : j < n) : (g j).toInt = 0 := by rw [h j hj]; decide
/-! what the class has told -/
def MDq (D : DD) (name first gain rough cu pa wh : Nat → Int32) : Prop := RR (D 18 1) name 5 D 4 ∧ RR (D 18 1) first 5 D 5 ∧ RR (D 18 1) gain 5 D 6 ∧ RR (D 18 1) rough 5 D 7 ∧ RR (D 18 1) cu 0 D 8 ∧ RR (D 18 1) pa 0 D 9 ∧ RR (D 18 1) wh 0 D 10
def TZc (D : DD) (gain rough : Nat → Int32) : Prop := ∀ j : Nat, D 18 0 ≤ (j : Int) → j < 5 → (gain j).toInt = 0 ∧ (rough j).toInt = 0
def TZp (D : DD) (gain rough pa wh fr un : Nat → Int32) : Prop := ∀ j : Nat, D 18 1 ≤ (j : Int) → j < 5 → (gain (5 + j)).toInt = 0 ∧ (rough (5 + j)).toInt = 0 ∧ (pa j).toInt = 0 ∧ (wh j).toInt = 0 ∧ (fr j).toInt = 0 ∧ (un j).toInt = 0
def TRu (D : DD) (fr un : Nat → Int32) : Prop := ∀ j : Nat, (j : Int) < D 18 1 → RUx (fr j).toInt (un j).toInt (D 11 j) (D 12 j)
def TDc (D : DD) (cl pe ro gu li : Int32) (name first gain rough cu pa wh rp rc rh gc gh fr un : Nat → Int32) : Prop :=
  WD D ∧ (cl.toInt = D 18 0 ∧ pe.toInt = D 18 1 ∧ ro.toInt = D 18 2 ∧ gu.toInt = D 18 3 ∧ li.toInt = D 18 4) ∧ MDc D name first gain rough 0 ∧ MDq D name first gain rough cu pa wh ∧ TRu D fr un ∧ MDr D rp rc rh 0 ∧ MDg D gc gh 0 ∧ TZc D gain rough ∧ TZp D gain rough pa wh fr un
theorem TDc_0 {name first gain rough cu pa wh rp rc rh gc gh fr un : Nat → Int32} (h1 : FLt gain (0 : Int32) 10) (h2 : FLt rough (0 : Int32) 10) (h3 : FLt pa (0 : Int32) 5) (h4 : FLt wh (0 : Int32) 5) (h5 : FLt fr (0 : Int32) 5) (h6 : FLt un (0 : Int32) 5) : TDc dd0 (0 : Int32) (0 : Int32) (0 : Int32) (0 : Int32) (0 : Int32) name first gain rough cu pa wh rp rc rh gc gh fr un := by
  have z : ∀ a b, dd0 a b = 0 := fun _ _ => rfl
  have r : ∀ (f : Nat → Int32) (o c r : Nat), RR (dd0 18 c) f o dd0 r := fun f o c r => RR_0 (by rw [z]; omega)
  refine ⟨WD_0, by rw [z, z, z, z, z]; decide, ⟨r _ _ _ _, r _ _ _ _, r _ _ _ _, r _ _ _ _⟩, ⟨r _ _ _ _, r _ _ _ _, r _ _ _ _, r _ _ _ _, r _ _ _ _, r _ _ _ _, r _ _ _ _⟩, fun j hj => absurd hj (by rw [z]; omega), ⟨r _ _ _ _, r _ _ _ _, r _ _ _ _⟩, ⟨r _ _ _ _, r _ _ _ _⟩, fun j _ hj => ⟨FLt_z h1 (by omega), FLt_z h2 (by omega)⟩, fun j _ hj => ⟨FLt_z h1 (by omega), FLt_z h2 (by omega), FLt_z h3 hj, FLt_z h4 hj, FLt_z h5 hj, FLt_z h6 hj⟩⟩
theorem nx_0 {f : Nat → Int32} {j : Nat} : nx f (0 : Int32) j = (f (0 + j)).toInt := by unfold nx; rw [show (0 : Int32).toInt.toNat = 0 by decide]
theorem nx_5 {f : Nat → Int32} {j : Nat} : nx f (5 : Int32) j = (f (5 + j)).toInt := by unfold nx; rw [show (5 : Int32).toInt.toNat = 5 by decide]
theorem li_up {z l : Int32} (e : z = l + 1) (h : 0 ≤ l.toInt ∧ l.toInt ≤ 1000) : z.toInt = l.toInt + 1 := ti_add e rfl (by decide) (by omega) (by omega)
theorem ex_f0 {K : Nat → Int32} {e : Nat} {k : Int} {S : PS} (h : ps_f (pp_expect K e k S) = 0) : ps_f S = 0 := by
  unfold pp_expect at h
  split at h
  · rename_i c; exact c.1
  · exact absurd h (pp_f_ref (by decide))
theorem UPx_fr {f g : Nat → Int32} {i : Nat} {v : Int} (u : UPx f g i v) {j : Nat} (h : j ≠ i) : g j = f j := u.2 j h
theorem td_clock {D : DD} {n : Nat} {v0 v1 v2 v3 : Int} {cl pe ro gu li cl1 li1 : Int32} {name first gain rough cu pa wh rp rc rh gc gh fr un name1 first1 gain1 rough1 fr1 un1 : Nat → Int32} (h : TDc D cl pe ro gu li name first gain rough cu pa wh rp rc rh gc gh fr un) (hn : D 18 0 ≠ 5) (hk : (n : Int) = D 18 0) (hc : cl1.toInt = cl.toInt + 1) (hl : li1.toInt = li.toInt + 1) (u0 : UPx name name1 n v0) (u1 : UPx first first1 n v1) (u2 : UPx gain gain1 n v2) (u3 : UPx rough rough1 n v3) (hr : ∀ j, fr1 j = fr j ∧ un1 j = un j) : TDc (dl_line (dl_clock D n v0 v1 v2 v3)) cl1 pe ro gu li1 name1 first1 gain1 rough1 cu pa wh rp rc rh gc gh fr1 un1 := by
  obtain ⟨h0, ⟨a0, a1, a2, a3, a4⟩, h2, h3, h4, h5, h6, h7, h8⟩ := h
  have e0 : dl_line (dl_clock D n v0 v1 v2 v3) 18 0 = D 18 0 + 1 := by simp [dl_line, dl_clock, du]
  have e1 : dl_line (dl_clock D n v0 v1 v2 v3) 18 1 = D 18 1 := by simp [dl_line, dl_clock, du]
  have e2 : dl_line (dl_clock D n v0 v1 v2 v3) 18 2 = D 18 2 := by simp [dl_line, dl_clock, du]
  have e3 : dl_line (dl_clock D n v0 v1 v2 v3) 18 3 = D 18 3 := by simp [dl_line, dl_clock, du]
  have e4 : dl_line (dl_clock D n v0 v1 v2 v3) 18 4 = D 18 4 + 1 := by simp [dl_line, dl_clock, du]
  have hn5 : n < 5 := by unfold WD at h0; omega
  obtain ⟨b4, b5, b6, b7, b8, b9, b10⟩ := h3
  refine ⟨wd_clock h0 hn, ⟨by omega, by omega, by omega, by omega, by omega⟩, ?_, ?_, ?_, MDr_eq h5 e2 (fun r a b => dc_ne (by omega)), MDg_eq h6 e3 (fun r a b => dc_ne (by omega)), ?_, ?_⟩
  · exact ⟨RR_up h2.1 u0 (by omega) hk e0 (fun j => by simp [dl_line, dl_clock, du]), RR_up h2.2.1 u1 (by omega) hk e0 (fun j => by simp [dl_line, dl_clock, du]), RR_up h2.2.2.1 u2 (by omega) hk e0 (fun j => by simp [dl_line, dl_clock, du]), RR_up h2.2.2.2 u3 (by omega) hk e0 (fun j => by simp [dl_line, dl_clock, du])⟩
  · exact ⟨RR_eq (RR_fr b4 (fun j _ => u0.2 _ (by omega))) e1 (dc_ne (by decide)), RR_eq (RR_fr b5 (fun j _ => u1.2 _ (by omega))) e1 (dc_ne (by decide)), RR_eq (RR_fr b6 (fun j _ => u2.2 _ (by omega))) e1 (dc_ne (by decide)), RR_eq (RR_fr b7 (fun j _ => u3.2 _ (by omega))) e1 (dc_ne (by decide)), RR_eq b8 e1 (dc_ne (by decide)), RR_eq b9 e1 (dc_ne (by decide)), RR_eq b10 e1 (dc_ne (by decide))⟩
  · intro j hj
    rw [(hr j).1, (hr j).2, dc_ne (r := 11) (by decide), dc_ne (r := 12) (by decide)]
    exact h4 j (by omega)
  · intro j hj1 hj2
    rw [u2.2 j (by omega), u3.2 j (by omega)]
    exact h7 j (by omega) hj2
  · intro j hj1 hj2
    rw [u2.2 (5 + j) (by omega), u3.2 (5 + j) (by omega), (hr j).1, (hr j).2]
    exact h8 j (by omega) hj2
theorem td_person {D : DD} {n : Nat} {v4 v5 v6 v7 v8 v9 v10 v11 v12 : Int} {cl pe ro gu li pe1 li1 : Int32} {name first gain rough cu pa wh rp rc rh gc gh fr un name1 first1 gain1 rough1 cu1 pa1 wh1 fr1 un1 : Nat → Int32} (h : TDc D cl pe ro gu li name first gain rough cu pa wh rp rc rh gc gh fr un) (hn : D 18 1 ≠ 5) (hk : (n : Int) = D 18 1) (hc : pe1.toInt = pe.toInt + 1) (hl : li1.toInt = li.toInt + 1) (u4 : UPx name name1 (5 + n) v4) (u5 : UPx first first1 (5 + n) v5) (u6 : UPx gain gain1 (5 + n) v6) (u7 : UPx rough rough1 (5 + n) v7) (u8 : UPx cu cu1 n v8) (u9 : UPx pa pa1 n v9) (u10 : UPx wh wh1 n v10) (hr : ∀ j, j ≠ n → fr1 j = fr j ∧ un1 j = un j) (hru : RUx (fr1 n).toInt (un1 n).toInt v11 v12) : TDc (dl_line (dl_person D n v4 v5 v6 v7 v8 v9 v10 v11 v12)) cl pe1 ro gu li1 name1 first1 gain1 rough1 cu1 pa1 wh1 rp rc rh gc gh fr1 un1 := by
  obtain ⟨h0, ⟨a0, a1, a2, a3, a4⟩, h2, h3, h4, h5, h6, h7, h8⟩ := h
  have e0 : dl_line (dl_person D n v4 v5 v6 v7 v8 v9 v10 v11 v12) 18 0 = D 18 0 := by simp [dl_line, dl_person, du]
  have e1 : dl_line (dl_person D n v4 v5 v6 v7 v8 v9 v10 v11 v12) 18 1 = D 18 1 + 1 := by simp [dl_line, dl_person, du]
  have e2 : dl_line (dl_person D n v4 v5 v6 v7 v8 v9 v10 v11 v12) 18 2 = D 18 2 := by simp [dl_line, dl_person, du]
  have e3 : dl_line (dl_person D n v4 v5 v6 v7 v8 v9 v10 v11 v12) 18 3 = D 18 3 := by simp [dl_line, dl_person, du]
  have e4 : dl_line (dl_person D n v4 v5 v6 v7 v8 v9 v10 v11 v12) 18 4 = D 18 4 + 1 := by simp [dl_line, dl_person, du]
  have e11 : ∀ j, dl_line (dl_person D n v4 v5 v6 v7 v8 v9 v10 v11 v12) 11 j = if j = n then v11 else D 11 j := fun j => by simp [dl_line, dl_person, du]
  have e12 : ∀ j, dl_line (dl_person D n v4 v5 v6 v7 v8 v9 v10 v11 v12) 12 j = if j = n then v12 else D 12 j := fun j => by simp [dl_line, dl_person, du]
  have hc0 : D 18 0 ≤ 5 := h0.1.2
  obtain ⟨b4, b5, b6, b7, b8, b9, b10⟩ := h3
  obtain ⟨c0, c1, c2, c3⟩ := h2
  refine ⟨wd_person h0 hn, ⟨by omega, by omega, by omega, by omega, by omega⟩, ?_, ?_, ?_, MDr_eq h5 e2 (fun r a b => dp_ne (by omega)), MDg_eq h6 e3 (fun r a b => dp_ne (by omega)), ?_, ?_⟩
  · exact ⟨RR_eq (RR_fr c0 (fun j _ => u4.2 _ (by omega))) e0 (dp_ne (by decide)), RR_eq (RR_fr c1 (fun j _ => u5.2 _ (by omega))) e0 (dp_ne (by decide)), RR_eq (RR_fr c2 (fun j _ => u6.2 _ (by omega))) e0 (dp_ne (by decide)), RR_eq (RR_fr c3 (fun j _ => u7.2 _ (by omega))) e0 (dp_ne (by decide))⟩
  · exact ⟨RR_up b4 u4 rfl hk e1 (fun j => by simp [dl_line, dl_person, du]), RR_up b5 u5 rfl hk e1 (fun j => by simp [dl_line, dl_person, du]), RR_up b6 u6 rfl hk e1 (fun j => by simp [dl_line, dl_person, du]), RR_up b7 u7 rfl hk e1 (fun j => by simp [dl_line, dl_person, du]), RR_up b8 u8 (by omega) hk e1 (fun j => by simp [dl_line, dl_person, du]), RR_up b9 u9 (by omega) hk e1 (fun j => by simp [dl_line, dl_person, du]), RR_up b10 u10 (by omega) hk e1 (fun j => by simp [dl_line, dl_person, du])⟩
  · intro j hj
    rw [e11, e12]
    by_cases c : j = n
    · rw [if_pos c, if_pos c, c]; exact hru
    · rw [if_neg c, if_neg c, (hr j c).1, (hr j c).2]; exact h4 j (by omega)
  · intro j hj1 hj2
    rw [u6.2 j (by omega), u7.2 j (by omega)]
    exact h7 j (by omega) hj2
  · intro j hj1 hj2
    rw [u6.2 (5 + j) (by omega), u7.2 (5 + j) (by omega), u9.2 j (by omega), u10.2 j (by omega), (hr j (by omega)).1, (hr j (by omega)).2]
    exact h8 j (by omega) hj2
theorem td_round {D : DD} {n : Nat} {v13 v14 v15 : Int} {cl pe ro gu li ro1 li1 : Int32} {name first gain rough cu pa wh rp rc rh gc gh fr un rp1 rc1 rh1 : Nat → Int32} (h : TDc D cl pe ro gu li name first gain rough cu pa wh rp rc rh gc gh fr un) (hn : D 18 2 ≠ 12) (hk : (n : Int) = D 18 2) (hc : ro1.toInt = ro.toInt + 1) (hl : li1.toInt = li.toInt + 1) (u0 : UPx rp rp1 n v13) (u1 : UPx rc rc1 n v14) (u2 : UPx rh rh1 n v15) : TDc (dl_line (dl_round D n v13 v14 v15)) cl pe ro1 gu li1 name first gain rough cu pa wh rp1 rc1 rh1 gc gh fr un := by
  obtain ⟨h0, ⟨a0, a1, a2, a3, a4⟩, h2, h3, h4, h5, h6, h7, h8⟩ := h
  have e0 : dl_line (dl_round D n v13 v14 v15) 18 0 = D 18 0 := by simp [dl_line, dl_round, du]
  have e1 : dl_line (dl_round D n v13 v14 v15) 18 1 = D 18 1 := by simp [dl_line, dl_round, du]
  have e2 : dl_line (dl_round D n v13 v14 v15) 18 2 = D 18 2 + 1 := by simp [dl_line, dl_round, du]
  have e3 : dl_line (dl_round D n v13 v14 v15) 18 3 = D 18 3 := by simp [dl_line, dl_round, du]
  have e4 : dl_line (dl_round D n v13 v14 v15) 18 4 = D 18 4 + 1 := by simp [dl_line, dl_round, du]
  obtain ⟨b4, b5, b6, b7, b8, b9, b10⟩ := h3
  refine ⟨wd_round h0 hn, ⟨by omega, by omega, by omega, by omega, by omega⟩, MDc_eq h2 e0 (fun r a => dr_ne (by omega)), ⟨RR_eq b4 e1 (dr_ne (by decide)), RR_eq b5 e1 (dr_ne (by decide)), RR_eq b6 e1 (dr_ne (by decide)), RR_eq b7 e1 (dr_ne (by decide)), RR_eq b8 e1 (dr_ne (by decide)), RR_eq b9 e1 (dr_ne (by decide)), RR_eq b10 e1 (dr_ne (by decide))⟩, ?_, ?_, MDg_eq h6 e3 (fun r a b => dr_ne (by omega)), fun j hj => h7 j (by omega), fun j hj => h8 j (by omega)⟩
  · intro j hj
    rw [dr_ne (r := 11) (by decide), dr_ne (r := 12) (by decide)]; exact h4 j (by omega)
  · exact ⟨RR_up h5.1 u0 (by omega) hk e2 (fun j => by simp [dl_line, dl_round, du]), RR_up h5.2.1 u1 (by omega) hk e2 (fun j => by simp [dl_line, dl_round, du]), RR_up h5.2.2 u2 (by omega) hk e2 (fun j => by simp [dl_line, dl_round, du])⟩
theorem td_gun {D : DD} {n : Nat} {v16 v17 : Int} {cl pe ro gu li gu1 li1 : Int32} {name first gain rough cu pa wh rp rc rh gc gh fr un gc1 gh1 : Nat → Int32} (h : TDc D cl pe ro gu li name first gain rough cu pa wh rp rc rh gc gh fr un) (hn : D 18 3 ≠ 3) (hk : (n : Int) = D 18 3) (hc : gu1.toInt = gu.toInt + 1) (hl : li1.toInt = li.toInt + 1) (u0 : UPx gc gc1 n v16) (u1 : UPx gh gh1 n v17) : TDc (dl_line (dl_gun D n v16 v17)) cl pe ro gu1 li1 name first gain rough cu pa wh rp rc rh gc1 gh1 fr un := by
  obtain ⟨h0, ⟨a0, a1, a2, a3, a4⟩, h2, h3, h4, h5, h6, h7, h8⟩ := h
  have e0 : dl_line (dl_gun D n v16 v17) 18 0 = D 18 0 := by simp [dl_line, dl_gun, du]
  have e1 : dl_line (dl_gun D n v16 v17) 18 1 = D 18 1 := by simp [dl_line, dl_gun, du]
  have e2 : dl_line (dl_gun D n v16 v17) 18 2 = D 18 2 := by simp [dl_line, dl_gun, du]
  have e3 : dl_line (dl_gun D n v16 v17) 18 3 = D 18 3 + 1 := by simp [dl_line, dl_gun, du]
  have e4 : dl_line (dl_gun D n v16 v17) 18 4 = D 18 4 + 1 := by simp [dl_line, dl_gun, du]
  obtain ⟨b4, b5, b6, b7, b8, b9, b10⟩ := h3
  refine ⟨wd_gun h0 hn, ⟨by omega, by omega, by omega, by omega, by omega⟩, MDc_eq h2 e0 (fun r a => dg_ne (by omega)), ⟨RR_eq b4 e1 (dg_ne (by decide)), RR_eq b5 e1 (dg_ne (by decide)), RR_eq b6 e1 (dg_ne (by decide)), RR_eq b7 e1 (dg_ne (by decide)), RR_eq b8 e1 (dg_ne (by decide)), RR_eq b9 e1 (dg_ne (by decide)), RR_eq b10 e1 (dg_ne (by decide))⟩, ?_, MDr_eq h5 e2 (fun r a b => dg_ne (by omega)), ?_, fun j hj => h7 j (by omega), fun j hj => h8 j (by omega)⟩
  · intro j hj
    rw [dg_ne (r := 11) (by decide), dg_ne (r := 12) (by decide)]; exact h4 j (by omega)
  · exact ⟨RR_up h6.1 u0 (by omega) hk e3 (fun j => by simp [dl_line, dl_gun, du]), RR_up h6.2 u1 (by omega) hk e3 (fun j => by simp [dl_line, dl_gun, du])⟩
/-! the lines, what they make of D -/
theorem lk_20 {K W : Nat → Int32} {e : Nat} {S : PS} {D : DD} (h : (K (ps_t S)).toInt = 20) : pl_kind K W e (S, D) = pl_clock K W e (S, D) := by unfold pl_kind; rw [if_pos h]
theorem lk_21 {K W : Nat → Int32} {e : Nat} {S : PS} {D : DD} (h : (K (ps_t S)).toInt = 21) : pl_kind K W e (S, D) = pl_person K W e (S, D) := by
  have : (K (ps_t (S, D).1)).toInt = 21 := h
  unfold pl_kind; rw [if_neg (by omega), if_pos this]
theorem lk_22 {K W : Nat → Int32} {e : Nat} {S : PS} {D : DD} (h : (K (ps_t S)).toInt = 22) : pl_kind K W e (S, D) = pl_round K W e (S, D) := by
  have : (K (ps_t (S, D).1)).toInt = 22 := h
  unfold pl_kind; rw [if_neg (by omega), if_neg (by omega), if_pos this]
theorem lk_23 {K W : Nat → Int32} {e : Nat} {S : PS} {D : DD} (h : (K (ps_t S)).toInt = 23) : pl_kind K W e (S, D) = pl_gun K W e (S, D) := by
  have : (K (ps_t (S, D).1)).toInt = 23 := h
  unfold pl_kind; rw [if_neg (by omega), if_neg (by omega), if_neg (by omega), if_pos this]
theorem lk_no {K W : Nat → Int32} {e : Nat} {S : PS} {D : DD} (h : (K (ps_t S)).toInt < 20 ∨ 23 < (K (ps_t S)).toInt) : pl_kind K W e (S, D) = (pp_ref e 1 S, D) := by
  have : (K (ps_t (S, D).1)).toInt < 20 ∨ 23 < (K (ps_t (S, D).1)).toInt := h
  unfold pl_kind; rw [if_neg (by omega), if_neg (by omega), if_neg (by omega), if_neg (by omega)]
theorem pl_line_1 {K W : Nat → Int32} {e : Nat} {A : LZ} : (pl_line K W e A).1 = pp_expect K e 4 (pl_kind K W e A).1 := rfl
theorem pl_line_2 {K W : Nat → Int32} {e : Nat} {A : LZ} : (pl_line K W e A).2 = dl_line (pl_kind K W e A).2 := rfl
/-- a full row refuses: then a fault stands -/
theorem cl_dl {K W : Nat → Int32} {e : Nat} {S : PS} {D : DD} (h0 : WD D) (z : ps_f (pl_clock K W e (S, D)).1 = 0) : D 18 0 ≠ 5 ∧ ∀ n : Nat, (n : Int) = D 18 0 → (pl_clock K W e (S, D)).2 = dl_clock D n ((pl_clock K W e (S, D)).2 0 n) ((pl_clock K W e (S, D)).2 1 n) ((pl_clock K W e (S, D)).2 2 n) ((pl_clock K W e (S, D)).2 3 n) := by
  have hp := wd_pn h0 0 (by decide)
  by_cases c : pn_ D 0 = 5
  · rw [clk_full c] at z; exact absurd z (pp_f_ref (by decide))
  · refine ⟨by omega, fun n hn => ?_⟩
    rw [clk_ok c rfl rfl, show pn_ D 0 = n by omega]
    simp [dl_clock, du]
theorem pe_dl {K W : Nat → Int32} {e : Nat} {S : PS} {D : DD} (h0 : WD D) (z : ps_f (pl_person K W e (S, D)).1 = 0) : D 18 1 ≠ 5 ∧ ∀ n : Nat, (n : Int) = D 18 1 → (pl_person K W e (S, D)).2 = dl_person D n ((pl_person K W e (S, D)).2 4 n) ((pl_person K W e (S, D)).2 5 n) ((pl_person K W e (S, D)).2 6 n) ((pl_person K W e (S, D)).2 7 n) ((pl_person K W e (S, D)).2 8 n) ((pl_person K W e (S, D)).2 9 n) ((pl_person K W e (S, D)).2 10 n) ((pl_person K W e (S, D)).2 11 n) ((pl_person K W e (S, D)).2 12 n) := by
  have hp := wd_pn h0 1 (by decide)
  by_cases c : pn_ D 1 = 5
  · rw [per_full c] at z; exact absurd z (pp_f_ref (by decide))
  · refine ⟨by omega, fun n hn => ?_⟩
    rw [per_ok c rfl rfl rfl, show pn_ D 1 = n by omega]
    simp [dl_person, du]
theorem ro_dl {K W : Nat → Int32} {e : Nat} {S : PS} {D : DD} (h0 : WD D) (z : ps_f (pl_round K W e (S, D)).1 = 0) : D 18 2 ≠ 12 ∧ ∀ n : Nat, (n : Int) = D 18 2 → (pl_round K W e (S, D)).2 = dl_round D n ((pl_round K W e (S, D)).2 13 n) ((pl_round K W e (S, D)).2 14 n) ((pl_round K W e (S, D)).2 15 n) := by
  have hp := wd_pn h0 2 (by decide)
  by_cases c : pn_ D 2 = 12
  · rw [rnd_full c] at z; exact absurd z (pp_f_ref (by decide))
  · refine ⟨by omega, fun n hn => ?_⟩
    rw [rnd_ok c, show pn_ D 2 = n by omega]
    simp [dl_round, du]
theorem gu_dl {K W : Nat → Int32} {e : Nat} {S : PS} {D : DD} (h0 : WD D) (z : ps_f (pl_gun K W e (S, D)).1 = 0) : D 18 3 ≠ 3 ∧ ∀ n : Nat, (n : Int) = D 18 3 → (pl_gun K W e (S, D)).2 = dl_gun D n ((pl_gun K W e (S, D)).2 16 n) ((pl_gun K W e (S, D)).2 17 n) := by
  have hp := wd_pn h0 3 (by decide)
  by_cases c : pn_ D 3 = 3
  · rw [gun_full c] at z; exact absurd z (pp_f_ref (by decide))
  · refine ⟨by omega, fun n hn => ?_⟩
    rw [gun_ok c, show pn_ D 3 = n by omega]
    simp [dl_gun, du]
/-! a text, as both sides answer it -/
abbrev RT_ (K W : Nat → Int32) (e : Nat) : LZ := pl_text K W e 701 (ps0, dd0)
def TXo (fb : Nat → Int32) (n r fl pl : Int32) (P : DD → Prop) : Prop := ∃ (K PL W : Nat → Int32) (q : Nat → Nat) (e : Nat), TS (fI fb) n.toInt.toNat (fI K) (fI PL) (fI W) q e ∧ fl.toInt = ps_f (RT_ K W e).1 ∧ ((ps_f (RT_ K W e).1 ≠ 0 ∧ r.toInt = -1 ∧ pl = PL (ps_u (RT_ K W e).1)) ∨ (ps_f (RT_ K W e).1 = 0 ∧ r.toInt = (RT_ K W e).2 18 4 ∧ pl.toInt = -1 ∧ P (RT_ K W e).2))
/-! what the reference has told -/
def MDz (D : DD) (nu cn co cg cr pn po pg pr cu ca cb rf rt ro ra rh ga gh : Nat → Int32) : Prop := WD D ∧ MDn D nu 0 ∧ MDc D cn co cg cr 0 ∧ MDp D pn po pg pr cu ca cb rf rt 0 ∧ MDr D ro ra rh 0 ∧ MDg D ga gh 0
