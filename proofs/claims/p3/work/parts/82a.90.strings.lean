theorem dX7_spelled_0 : decode cX7_spelled 0 = .ok (.iconst 0, 1) := by decide +kernel
theorem dX7_spelled_1 : decode cX7_spelled 1 = .ok (.istore_n 3, 1) := by decide +kernel
theorem dX7_spelled_2 : decode cX7_spelled 2 = .ok (.iload_n 1, 1) := by decide +kernel
theorem dX7_spelled_3 : decode cX7_spelled 3 = .ok (.istore 4, 2) := by decide +kernel
theorem dX7_spelled_5 : decode cX7_spelled 5 = .ok (.iload 4, 2) := by decide +kernel
theorem dX7_spelled_7 : decode cX7_spelled 7 = .ok (.iload_n 2, 1) := by decide +kernel
theorem dX7_spelled_8 : decode cX7_spelled 8 = .ok (.if_icmp .ge 24, 3) := by decide +kernel
theorem dX7_spelled_32 : decode cX7_spelled 32 = .ok (.iload_n 3, 1) := by decide +kernel
theorem dX7_spelled_33 : decode cX7_spelled 33 = .ok (.ireturn, 1) := by decide +kernel
theorem dX7_spelled_11 : decode cX7_spelled 11 = .ok (.iload_n 3, 1) := by decide +kernel
theorem dX7_spelled_12 : decode cX7_spelled 12 = .ok (.iload 4, 2) := by decide +kernel
theorem dX7_spelled_14 : decode cX7_spelled 14 = .ok (.iload_n 1, 1) := by decide +kernel
theorem dX7_spelled_15 : decode cX7_spelled 15 = .ok (.isub, 1) := by decide +kernel
theorem dX7_spelled_16 : decode cX7_spelled 16 = .ok (.aload_n 0, 1) := by decide +kernel
theorem dX7_spelled_17 : decode cX7_spelled 17 = .ok (.iload 4, 2) := by decide +kernel
theorem dX7_spelled_19 : decode cX7_spelled 19 = .ok (.invokevirtual 32, 3) := by decide +kernel
theorem dX7_spelled_22 : decode cX7_spelled 22 = .ok (.invokestatic 40, 3) := by decide +kernel
theorem dX7_spelled_25 : decode cX7_spelled 25 = .ok (.istore_n 3, 1) := by decide +kernel
theorem dX7_spelled_26 : decode cX7_spelled 26 = .ok (.iinc 4 1, 3) := by decide +kernel
theorem dX7_spelled_29 : decode cX7_spelled 29 = .ok (.goto (-24), 3) := by decide +kernel
abbrev q_J3_checkIndexN_n (dC : Nat → ClassId) (dI : Nat → Nat → Nat) (A : Nat → Prop) (vi : Nat) : Array Value → State → Outcome → State → Prop := va_Qi (fun (r : Int32) (_ : Unit) => True) (fun (_ : Unit) (t : State) => va_P (dC, dI) vwCl [] t.heap ∧ va_D A []) A
set_option maxHeartbeats 4000000 in
set_option maxRecDepth 100000 in
theorem c_J3_checkIndexN_n (l : Launch) (dC : Nat → ClassId) (dI : Nat → Nat → Nat) (sz : Nat) (vi : Nat) (hv : vi < 104) : Met l yJ3_checkIndex_8e157 (pw_w yJ3_checkIndex_8e157 cJ3_checkIndex_8e157 3 (some .int)) ({ frames := 0, cells := 0, slots := 0, locals := 0 }) (va_Pc [.int (nI (vi)), .int 104, .null] (fun U => U.heap.size = sz ∧ va_P (dC, dI) vwCl [] U.heap ∧ va_K (dC, dI) vwCl [] U ∧ va_D (fun _ => True) [])) (q_J3_checkIndexN_n dC dI (va_A [] sz) vi) 0 0 (va_A [] sz) := sorry
abbrev q_J3_checkIndexR_n (dC : Nat → ClassId) (dI : Nat → Nat → Nat) (A : Nat → Prop) (fm : Nat) (vi : Nat) : Array Value → State → Outcome → State → Prop := va_Qi (fun (r : Int32) (_ : Unit) => True) (fun (_ : Unit) (t : State) => va_P (dC, dI) vwCl [] t.heap ∧ va_D A []) A
set_option maxHeartbeats 4000000 in
set_option maxRecDepth 100000 in
theorem c_J3_checkIndexR_n (l : Launch) (dC : Nat → ClassId) (dI : Nat → Nat → Nat) (sz : Nat) (fm : Nat) (vi : Nat) (hv : vi < 104) : Met l yJ3_checkIndex_8e157 (pw_w yJ3_checkIndex_8e157 cJ3_checkIndex_8e157 3 (some .int)) ({ frames := 0, cells := 0, slots := 0, locals := 0 }) (va_Pc [.int (nI (vi)), .int 104, .ref fm] (fun U => U.heap.size = sz ∧ va_P (dC, dI) vwCl [] U.heap ∧ va_K (dC, dI) vwCl [] U ∧ va_D (fun _ => True) [])) (q_J3_checkIndexR_n dC dI (va_A [] sz) fm vi) 0 0 (va_A [] sz) := sorry
abbrev q_J0_checkIndex_n (dC : Nat → ClassId) (dI : Nat → Nat → Nat) (A : Nat → Prop) (vi : Nat) (sK : Nat) (sV : Nat) : Array Value → State → Outcome → State → Prop := va_Qv (fun _ : Unit => True) (fun (_ : Unit) (t : State) => va_P (dC, dI) vwCl [] t.heap ∧ va_D A []) A
set_option maxHeartbeats 4000000 in
set_option maxRecDepth 100000 in
theorem c_J0_checkIndex_n (l : Launch) (dC : Nat → ClassId) (dI : Nat → Nat → Nat) (sz : Nat) (vi : Nat) (sK : Nat) (sV : Nat) (hv : vi < 104) : Met l yJ0_checkIndex_df160 (pw_w yJ0_checkIndex_df160 cJ0_checkIndex_df160 2 none) ({ frames := 1, cells := 0, slots := 0, locals := 22 }) (va_Pc [.int (nI (vi)), .int 104] (fun U => U.heap.size = sz ∧ va_P (dC, dI) vwCl [] U.heap ∧ va_K (dC, dI) vwCl [] U ∧ va_D (fun _ => True) [] ∧ (st_S sK sV (va_A [] sz) U U.heap))) (q_J0_checkIndex_n dC dI (va_A [] sz) vi sK sV) 0 0 (va_A [] sz) := sorry
abbrev q_J1_charAt_n (dC : Nat → ClassId) (dI : Nat → Nat → Nat) (A : Nat → Prop) (sV : Nat) (vi : Nat) (sK : Nat) : Array Value → State → Outcome → State → Prop := va_Qi (fun (r : Int32) (_ : Unit) => narrow .char (.int r) = .int r) (fun (_ : Unit) (t : State) => va_P (dC, dI) vwCl [] t.heap ∧ va_D A []) A
set_option maxHeartbeats 4000000 in
set_option maxRecDepth 100000 in
theorem c_J1_charAt_n (l : Launch) (dC : Nat → ClassId) (dI : Nat → Nat → Nat) (sz : Nat) (sV : Nat) (vi : Nat) (sK : Nat) (hv : vi < 104) : Met l yJ1_charAt_3b067 (pw_w yJ1_charAt_3b067 cJ1_charAt_3b067 2 (some .char)) ({ frames := 2, cells := 0, slots := 0, locals := 43 }) (va_Pc [.ref sV, .int (nI (vi))] (fun U => U.heap.size = sz ∧ va_P (dC, dI) vwCl [] U.heap ∧ va_K (dC, dI) vwCl [] U ∧ va_D (fun _ => True) [] ∧ (st_S sK sV (va_A [] sz) U U.heap))) (q_J1_charAt_n dC dI (va_A [] sz) sV vi sK) 0 0 (va_A [] sz) := sorry
abbrev q_J0_isLatin1_n (dC : Nat → ClassId) (dI : Nat → Nat → Nat) (A : Nat → Prop) (sK : Nat) (sV : Nat) : Array Value → State → Outcome → State → Prop := va_Qi (fun (r : Int32) (_ : Unit) => r = 1) (fun (_ : Unit) (t : State) => va_P (dC, dI) vwCl [] t.heap ∧ va_D A []) A
set_option maxHeartbeats 4000000 in
set_option maxRecDepth 100000 in
theorem c_J0_isLatin1_n (l : Launch) (dC : Nat → ClassId) (dI : Nat → Nat → Nat) (sz : Nat) (sK : Nat) (sV : Nat)  : Met l yJ0_isLatin1_aae02 (pw_w yJ0_isLatin1_aae02 cJ0_isLatin1_aae02 1 (some .boolean)) ({ frames := 0, cells := 0, slots := 0, locals := 0 }) (va_Pc [.ref sK] (fun U => U.heap.size = sz ∧ va_P (dC, dI) vwCl [] U.heap ∧ va_K (dC, dI) vwCl [] U ∧ va_D (fun _ => True) [] ∧ (st_S sK sV (va_A [] sz) U U.heap))) (q_J0_isLatin1_n dC dI (va_A [] sz) sK sV) 0 0 (va_A [] sz) := sorry
abbrev q_J0_charAt_n (dC : Nat → ClassId) (dI : Nat → Nat → Nat) (A : Nat → Prop) (sK : Nat) (vi : Nat) (sV : Nat) : Array Value → State → Outcome → State → Prop := va_Qi (fun (r : Int32) (_ : Unit) => narrow .char (.int r) = .int r) (fun (_ : Unit) (t : State) => va_P (dC, dI) vwCl [] t.heap ∧ va_D A []) A
set_option maxHeartbeats 4000000 in
set_option maxRecDepth 100000 in
theorem c_J0_charAt_n (l : Launch) (dC : Nat → ClassId) (dI : Nat → Nat → Nat) (sz : Nat) (sK : Nat) (vi : Nat) (sV : Nat) (hv : vi < 104) : Met l yJ0_charAt_5068e (pw_w yJ0_charAt_5068e cJ0_charAt_5068e 2 (some .char)) ({ frames := 3, cells := 0, slots := 0, locals := 64 }) (va_Pc [.ref sK, .int (nI (vi))] (fun U => U.heap.size = sz ∧ va_P (dC, dI) vwCl [] U.heap ∧ va_K (dC, dI) vwCl [] U ∧ va_D (fun _ => True) [] ∧ (st_S sK sV (va_A [] sz) U U.heap))) (q_J0_charAt_n dC dI (va_A [] sz) sK vi sV) 0 0 (va_A [] sz) := sorry
abbrev q_J0_coder_n (dC : Nat → ClassId) (dI : Nat → Nat → Nat) (A : Nat → Prop) (sK : Nat) (sV : Nat) : Array Value → State → Outcome → State → Prop := va_Qi (fun (r : Int32) (_ : Unit) => r = 0) (fun (_ : Unit) (t : State) => va_P (dC, dI) vwCl [] t.heap ∧ va_D A []) A
set_option maxHeartbeats 4000000 in
set_option maxRecDepth 100000 in
theorem c_J0_coder_n (l : Launch) (dC : Nat → ClassId) (dI : Nat → Nat → Nat) (sz : Nat) (sK : Nat) (sV : Nat)  : Met l yJ0_coder_7d493 (pw_w yJ0_coder_7d493 cJ0_coder_7d493 1 (some .byte)) ({ frames := 0, cells := 0, slots := 0, locals := 0 }) (va_Pc [.ref sK] (fun U => U.heap.size = sz ∧ va_P (dC, dI) vwCl [] U.heap ∧ va_K (dC, dI) vwCl [] U ∧ va_D (fun _ => True) [] ∧ (st_S sK sV (va_A [] sz) U U.heap))) (q_J0_coder_n dC dI (va_A [] sz) sK sV) 0 0 (va_A [] sz) := sorry
abbrev q_J0_length_n (dC : Nat → ClassId) (dI : Nat → Nat → Nat) (A : Nat → Prop) (sK : Nat) (sV : Nat) : Array Value → State → Outcome → State → Prop := va_Qi (fun (r : Int32) (_ : Unit) => r = 104) (fun (_ : Unit) (t : State) => va_P (dC, dI) vwCl [] t.heap ∧ va_D A []) A
set_option maxHeartbeats 4000000 in
set_option maxRecDepth 100000 in
theorem c_J0_length_n (l : Launch) (dC : Nat → ClassId) (dI : Nat → Nat → Nat) (sz : Nat) (sK : Nat) (sV : Nat)  : Met l yJ0_length_8abf5 (pw_w yJ0_length_8abf5 cJ0_length_8abf5 1 (some .int)) ({ frames := 1, cells := 0, slots := 0, locals := 20 }) (va_Pc [.ref sK] (fun U => U.heap.size = sz ∧ va_P (dC, dI) vwCl [] U.heap ∧ va_K (dC, dI) vwCl [] U ∧ va_D (fun _ => True) [] ∧ (st_S sK sV (va_A [] sz) U U.heap))) (q_J0_length_n dC dI (va_A [] sz) sK sV) 0 0 (va_A [] sz) := sorry
abbrev q_X7_withLetter_n (dC : Nat → ClassId) (dI : Nat → Nat → Nat) (A : Nat → Prop) (v0 : Int32) (v1 : Int32) (v2 : Int32) : Array Value → State → Outcome → State → Prop := va_Qi (fun (r : Int32) (_ : Unit) => True) (fun (_ : Unit) (t : State) => va_P (dC, dI) vwCl [] t.heap ∧ va_D A []) A
set_option maxHeartbeats 4000000 in
set_option maxRecDepth 100000 in
theorem c_X7_withLetter_n (l : Launch) (dC : Nat → ClassId) (dI : Nat → Nat → Nat) (sz : Nat) (v0 : Int32) (v1 : Int32) (v2 : Int32)  : Met l yX7_withLetter (pw_w yX7_withLetter cX7_withLetter 3 (some .int)) ({ frames := 0, cells := 0, slots := 0, locals := 0 }) (va_Pc [.int v0, .int v1, .int v2] (fun U => U.heap.size = sz ∧ va_P (dC, dI) vwCl [] U.heap ∧ va_K (dC, dI) vwCl [] U ∧ va_D (fun _ => True) [])) (q_X7_withLetter_n dC dI (va_A [] sz) v0 v1 v2) 0 0 (va_A [] sz) := sorry
abbrev q_X7_spelled_n (dC : Nat → ClassId) (dI : Nat → Nat → Nat) (A : Nat → Prop) (sK : Nat) (va : Nat) (vb : Nat) (sV : Nat) : Array Value → State → Outcome → State → Prop := va_Qi (fun (r : Int32) (_ : Unit) => True) (fun (_ : Unit) (t : State) => va_P (dC, dI) vwCl [] t.heap ∧ va_D A []) A
set_option maxHeartbeats 4000000 in
set_option maxRecDepth 100000 in
theorem c_X7_spelled_n (l : Launch) (dC : Nat → ClassId) (dI : Nat → Nat → Nat) (sz : Nat) (sK : Nat) (va : Nat) (vb : Nat) (sV : Nat) (hv : va ≤ vb ∧ vb ≤ 104) : Met l yX7_spelled (pw_w yX7_spelled cX7_spelled 5 (some .int)) ({ frames := 4, cells := 0, slots := 0, locals := 85 }) (va_Pc [.ref sK, .int (nI (va)), .int (nI (vb))] (fun U => U.heap.size = sz ∧ va_P (dC, dI) vwCl [] U.heap ∧ va_K (dC, dI) vwCl [] U ∧ va_D (fun _ => True) [] ∧ (st_S sK sV (va_A [] sz) U U.heap))) (q_X7_spelled_n dC dI (va_A [] sz) sK va vb sV) 0 0 (va_A [] sz) := sorry
