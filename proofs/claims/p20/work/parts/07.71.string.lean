
/-- the bytes of the words of the language -/
def sB : Nat → Int32 := fun j => ([99, 108, 111, 99, 107, 32, 112, 101, 114, 115, 111, 110, 32, 114, 111, 117, 110, 100, 32, 103, 117, 110, 32, 103, 97, 105, 110, 115, 32, 114, 111, 117, 103, 104, 32, 105, 102, 32, 115, 101, 116, 115, 32, 116, 97, 107, 101, 115, 32, 104, 97, 108, 102, 32, 112, 97, 114, 116, 32, 109, 105, 100, 100, 108, 101, 32, 111, 114, 32, 97, 110, 100, 32, 110, 111, 116, 32, 97, 104, 101, 97, 100, 32, 108, 97, 115, 116, 32, 112, 97, 115, 115, 101, 100, 32, 104, 111, 117, 114, 32, 100, 97, 121, 32] : List Int32).getD j 0
/-- the class's text constant, and two statics of the JDK, as old cells that nobody writes -/
def st_S (aK aV : Nat) (A : Nat → Prop) (U : State) (H : Heap) : Prop := va_O "java/lang/String" aK A U H ∧ va_OF "java/lang/String" "coder" "B" (.int 0) aK A U H ∧ va_OF "java/lang/String" "value" "[B" (.ref aV) aK A U H ∧ va_T .byte aV 104 (fun j => .int (sB j)) A U H ∧ va_Z "java/lang/String" "COMPACT_STRINGS" "Z" (.int 1) A U H ∧ va_Zq "jdk/internal/util/Preconditions" "SIOOBE_FORMATTER" "Ljava/util/function/BiFunction;" A U H
theorem st_S.moved {aK aV : Nat} {A : Nat → Prop} {u U : State} {H : Heap} (hvm : u.vm.Alike U.vm) (h : st_S aK aV A u H) : st_S aK aV A U H := ⟨va_O.moved hvm h.1, va_OF.moved hvm h.2.1, va_OF.moved hvm h.2.2.1, va_T.moved hvm h.2.2.2.1, va_Z.moved hvm h.2.2.2.2.1, va_Zq.moved hvm h.2.2.2.2.2⟩
theorem st_S.kept {aK aV : Nat} {A : Nat → Prop} {U : State} {H H1 : Heap} (h : st_S aK aV A U H) (hq : ∀ a : Nat, a < H.size → ¬ A a → H1[a]? = H[a]?) : st_S aK aV A U H1 := ⟨va_O.kept h.1 hq, va_OF.kept h.2.1 hq, va_OF.kept h.2.2.1 hq, va_T.kept h.2.2.2.1 hq, va_Z.kept h.2.2.2.2.1 hq, va_Zq.kept h.2.2.2.2.2 hq⟩
theorem st_S.narrow {aK aV : Nat} {A B : Nat → Prop} {U : State} {H : Heap} (h : st_S aK aV A U H) (hAB : ∀ q, B q → A q) : st_S aK aV B U H := ⟨va_O.narrow h.1 hAB, va_OF.narrow h.2.1 hAB, va_OF.narrow h.2.2.1 hAB, va_T.narrow h.2.2.2.1 hAB, va_Z.narrow h.2.2.2.2.1 hAB, va_Zq.narrow h.2.2.2.2.2 hAB⟩
theorem sB_c : ∀ j, j < 104 → ((sB j &&& 255).toUInt32 % 65536).toInt32 = sB j := by decide +kernel
theorem sB_v {a b c i : Int32} (h0 : 0 ≤ i.toInt) (h1 : i.toInt ≤ 103) (e1 : a = sB i.toNatClampNeg) (e2 : b = a &&& 255) (e3 : c = (b.toUInt32 % 65536).toInt32) : c.toInt = (sB i.toNatClampNeg).toInt := by
  rw [e3, e2, e1, sB_c _ (by show i.toInt.toNat < 104; omega)]
theorem sB_n {i r : Int32} (h : r.toInt = (sB i.toNatClampNeg).toInt) (hr : r.toInt ≠ 32) : i.toInt ≠ 103 := fun q => hr (by
  have e : i.toNatClampNeg = 103 := by show i.toInt.toNat = 103; omega
  rw [h, e]
  decide)
def spc : Nat → Nat
  | 0 => 0
  | k + 1 => spc k + (if (sB k).toInt = 32 then 1 else 0)
theorem spc_le : ∀ k, k < 104 → spc k ≤ 19 := by decide +kernel
/-- n words lie ahead of place k -/
def SPt (n k : Int32) : Prop := n.toInt = (spc k.toInt.toNat : Int)
theorem SPt_0 : SPt 0 0 := by unfold SPt; decide
theorem SPt_n {n k m r : Int32} (h : SPt n k) (hr : r.toInt = (sB k.toNatClampNeg).toInt) (h2 : r.toInt ≠ 32) (h0 : 0 ≤ k.toInt) (hm : m.toInt = k.toInt + 1) : SPt n m := by
  have e : m.toInt.toNat = k.toInt.toNat + 1 := by omega
  unfold SPt at h ⊢
  rw [e]
  show n.toInt = ((spc k.toInt.toNat + (if (sB k.toInt.toNat).toInt = 32 then 1 else 0) : Nat) : Int)
  have hr : r.toInt = (sB k.toInt.toNat).toInt := hr
  rw [if_neg (by rw [← hr]; exact h2)]
  exact h
theorem SPt_s {n k m r q : Int32} (h : SPt n k) (hr : r.toInt = (sB k.toNatClampNeg).toInt) (h2 : r.toInt = 32) (h0 : 0 ≤ k.toInt) (hm : m.toInt = k.toInt + 1) (hq : q.toInt = n.toInt + 1) : SPt q m := by
  have e : m.toInt.toNat = k.toInt.toNat + 1 := by omega
  unfold SPt at h ⊢
  rw [e]
  show q.toInt = ((spc k.toInt.toNat + (if (sB k.toInt.toNat).toInt = 32 then 1 else 0) : Nat) : Int)
  have hr : r.toInt = (sB k.toInt.toNat).toInt := hr
  rw [if_pos (by rw [← hr]; exact h2)]
  omega
theorem SPt_b {n k : Int32} (h : SPt n k) (h1 : k.toInt ≤ 103) : 0 ≤ n.toInt ∧ n.toInt ≤ 19 := by
  have := spc_le k.toInt.toNat (by omega)
  unfold SPt at h
  omega
