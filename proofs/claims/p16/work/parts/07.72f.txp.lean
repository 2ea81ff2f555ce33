
/-- a text, as both sides answer it: Q where it is refused, P where it is taken -/
def TXp (fb : Nat → Int32) (n r fl pl : Int32) (Q : Prop) (P : DD → Prop) : Prop := ∃ (K PL W : Nat → Int32) (q : Nat → Nat) (e : Nat), TS (fI fb) n.toInt.toNat (fI K) (fI PL) (fI W) q e ∧ fl.toInt = ps_f (RT_ K W e).1 ∧ ((ps_f (RT_ K W e).1 ≠ 0 ∧ r.toInt = -1 ∧ pl = PL (ps_u (RT_ K W e).1) ∧ Q) ∨ (ps_f (RT_ K W e).1 = 0 ∧ r.toInt = (RT_ K W e).2 18 4 ∧ pl.toInt = -1 ∧ P (RT_ K W e).2))
