
/-- so many lines, so many tokens at least -/
def IFx (i : Int32) (S : PS) : Prop := ps_f S = 0 → i.toInt ≤ (ps_t S : Int)
theorem IFx_s {K W : Nat → Int32} {e : Nat} {S : PS} {D : DD} {i m : Int32} (hKz : (K e).toInt = 0) (p : PW e S) (h : IFx i S) (hm : m.toInt = i.toInt + 1) : IFx m (pl_line K W e (S, D)).1 := fun z => by
  have g := ln_adv (W := W) hKz p z
  have g1 := h g.1
  have g2 : ps_t S + 1 ≤ ps_t (pl_line K W e (S, D)).1 := g.2
  omega
