
theorem RR_h {c : Int} {f g : Nat → Int32} {n r : Nat} {D : DD} (h : RR c f n D r) (u : HFt g f n) (hc : c ≤ (n : Int)) : RR c g 0 D r := fun j hj => by rw [Nat.zero_add, u.1 j (by omega)]; exact h j hj
theorem RR_l {c : Int} {f g : Nat → Int32} {n r : Nat} {D : DD} (h : RR c f 0 D r) (u : EQl g f n) (hc : c ≤ (n : Int)) : RR c g 0 D r := fun j hj => by rw [u (0 + j) (by omega)]; exact h j hj
theorem MDz_h {D : DD} {nu cn co cg cr pn po pg pr cu ca cb rf rt ro ra rh ga gh nu1 cn1 co1 cg1 cr1 pn1 po1 pg1 pr1 cu1 ca1 cb1 rf1 rt1 ro1 ra1 rh1 ga1 gh1 : Nat → Int32} (h : MDm D nu cn co cg cr pn po pg pr cu ca cb rf rt ro ra rh ga gh) (u0 : HFt nu1 nu 5) (u1 : HFt cn1 cn 5) (u2 : HFt co1 co 5) (u3 : HFt cg1 cg 5) (u4 : HFt cr1 cr 5) (u5 : HFt pn1 pn 5) (u6 : HFt po1 po 5) (u7 : HFt pg1 pg 5) (u8 : HFt pr1 pr 5) (u9 : HFt cu1 cu 5) (u10 : HFt ca1 ca 5) (u11 : HFt cb1 cb 5) (u12 : HFt rf1 rf 5) (u13 : HFt rt1 rt 5) (u14 : HFt ro1 ro 12) (u15 : HFt ra1 ra 12) (u16 : HFt rh1 rh 12) (u17 : HFt ga1 ga 3) (u18 : HFt gh1 gh 3) : MDz D nu1 cn1 co1 cg1 cr1 pn1 po1 pg1 pr1 cu1 ca1 cb1 rf1 rt1 ro1 ra1 rh1 ga1 gh1 := by
  obtain ⟨h0, ⟨n0, n1, n2, n3⟩, ⟨c0, c1, c2, c3⟩, ⟨p4, p5, p6, p7, p8, p9, p10, p11, p12⟩, ⟨r0, r1, r2⟩, g0, g1⟩ := h
  have w := h0
  unfold WD at w
  refine ⟨h0, ⟨?_, ?_, ?_, ?_⟩, ⟨RR_h c0 u1 (by omega), RR_h c1 u2 (by omega), RR_h c2 u3 (by omega), RR_h c3 u4 (by omega)⟩, ⟨RR_h p4 u5 (by omega), RR_h p5 u6 (by omega), RR_h p6 u7 (by omega), RR_h p7 u8 (by omega), RR_h p8 u9 (by omega), RR_h p9 u10 (by omega), RR_h p10 u11 (by omega), RR_h p11 u12 (by omega), RR_h p12 u13 (by omega)⟩, ⟨RR_h r0 u14 (by omega), RR_h r1 u15 (by omega), RR_h r2 u16 (by omega)⟩, RR_h g0 u17 (by omega), RR_h g1 u18 (by omega)⟩
  · rw [u0.1 0 (by decide)]; exact n0
  · rw [u0.1 (0 + 1) (by decide)]; exact n1
  · rw [u0.1 (0 + 2) (by decide)]; exact n2
  · rw [u0.1 (0 + 3) (by decide)]; exact n3
theorem MDz_l {D : DD} {nu cn co cg cr pn po pg pr cu ca cb rf rt ro ra rh ga gh nu1 cn1 co1 cg1 cr1 pn1 po1 pg1 pr1 cu1 ca1 cb1 rf1 rt1 ro1 ra1 rh1 ga1 gh1 : Nat → Int32} (h : MDz D nu cn co cg cr pn po pg pr cu ca cb rf rt ro ra rh ga gh) (u0 : EQl nu1 nu 5) (u1 : EQl cn1 cn 5) (u2 : EQl co1 co 5) (u3 : EQl cg1 cg 5) (u4 : EQl cr1 cr 5) (u5 : EQl pn1 pn 5) (u6 : EQl po1 po 5) (u7 : EQl pg1 pg 5) (u8 : EQl pr1 pr 5) (u9 : EQl cu1 cu 5) (u10 : EQl ca1 ca 5) (u11 : EQl cb1 cb 5) (u12 : EQl rf1 rf 5) (u13 : EQl rt1 rt 5) (u14 : EQl ro1 ro 12) (u15 : EQl ra1 ra 12) (u16 : EQl rh1 rh 12) (u17 : EQl ga1 ga 3) (u18 : EQl gh1 gh 3) : MDz D nu1 cn1 co1 cg1 cr1 pn1 po1 pg1 pr1 cu1 ca1 cb1 rf1 rt1 ro1 ra1 rh1 ga1 gh1 := by
  obtain ⟨h0, ⟨n0, n1, n2, n3⟩, ⟨c0, c1, c2, c3⟩, ⟨p4, p5, p6, p7, p8, p9, p10, p11, p12⟩, ⟨r0, r1, r2⟩, g0, g1⟩ := h
  have w := h0
  unfold WD at w
  refine ⟨h0, ⟨?_, ?_, ?_, ?_⟩, ⟨RR_l c0 u1 (by omega), RR_l c1 u2 (by omega), RR_l c2 u3 (by omega), RR_l c3 u4 (by omega)⟩, ⟨RR_l p4 u5 (by omega), RR_l p5 u6 (by omega), RR_l p6 u7 (by omega), RR_l p7 u8 (by omega), RR_l p8 u9 (by omega), RR_l p9 u10 (by omega), RR_l p10 u11 (by omega), RR_l p11 u12 (by omega), RR_l p12 u13 (by omega)⟩, ⟨RR_l r0 u14 (by omega), RR_l r1 u15 (by omega), RR_l r2 u16 (by omega)⟩, RR_l g0 u17 (by omega), RR_l g1 u18 (by omega)⟩
  · rw [u0 0 (by decide)]; exact n0
  · rw [u0 (0 + 1) (by decide)]; exact n1
  · rw [u0 (0 + 2) (by decide)]; exact n2
  · rw [u0 (0 + 3) (by decide)]; exact n3
theorem rm_0 {K PL W : Nat → Int32} {q : Nat → Nat} {e : Nat} {a pl so va : Int32} {nu ks kv : Nat → Int32} (ha : a.toInt = (q (0 + 1) : Int)) (hp : pl.toInt = fI PL 0) (ht : TM (fI K 0) (fI W 0) so.toInt va.toInt) (h9 : (nu 9).toInt = 0) : RM K PL W q e ps0 a pl so va (0 : Int32) (-1 : Int32) (0 : Int32) nu ks kv :=
  ⟨⟨fun _ => ⟨Nat.zero_le _, Nat.zero_le _, Nat.zero_le _⟩, fun z => absurd rfl z⟩, by decide, fun z => absurd rfl z, fun _ => ⟨by decide, ha, Int32.toInt_inj.mp hp, ht, by decide, h9, fun i p hp => by simp [ps0, ps_L] at hp⟩⟩
