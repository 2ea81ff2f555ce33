
theorem UPx_k {f g : Nat → Int32} {k x : Int32} {v : Int} (u : UPk g f k x) (h : x.toInt = v) : UPx f g k.toNatClampNeg v := ⟨by rw [u.1]; exact h, u.2⟩
