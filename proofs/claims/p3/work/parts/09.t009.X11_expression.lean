theorem dX11_expression_0 : decode cX11_expression 0 = .ok (.aload_n 0, 1) := by decide +kernel
theorem dX11_expression_1 : decode cX11_expression 1 = .ok (.invokevirtual 260, 3) := by decide +kernel
theorem dX11_expression_4 : decode cX11_expression 4 = .ok (.aload_n 0, 1) := by decide +kernel
theorem dX11_expression_5 : decode cX11_expression 5 = .ok (.bipush 12, 2) := by decide +kernel
theorem dX11_expression_7 : decode cX11_expression 7 = .ok (.invokevirtual 248, 3) := by decide +kernel
theorem dX11_expression_13 : decode cX11_expression 13 = .ok (.aload_n 0, 1) := by decide +kernel
theorem dX11_expression_14 : decode cX11_expression 14 = .ok (.invokevirtual 263, 3) := by decide +kernel
theorem dX11_expression_17 : decode cX11_expression 17 = .ok (.aload_n 0, 1) := by decide +kernel
theorem dX11_expression_18 : decode cX11_expression 18 = .ok (.invokevirtual 251, 3) := by decide +kernel
theorem dX11_expression_21 : decode cX11_expression 21 = .ok (.aload_n 0, 1) := by decide +kernel
theorem dX11_expression_22 : decode cX11_expression 22 = .ok (.invokevirtual 260, 3) := by decide +kernel
theorem dX11_expression_25 : decode cX11_expression 25 = .ok (.aload_n 0, 1) := by decide +kernel
theorem dX11_expression_26 : decode cX11_expression 26 = .ok (.iconst 2, 1) := by decide +kernel
theorem dX11_expression_27 : decode cX11_expression 27 = .ok (.sipush 262, 3) := by decide +kernel
theorem dX11_expression_30 : decode cX11_expression 30 = .ok (.invokevirtual 266, 3) := by decide +kernel
theorem dX11_expression_33 : decode cX11_expression 33 = .ok (.goto (-29), 3) := by decide +kernel
theorem dX11_expression_36 : decode cX11_expression 36 = .ok (.return_, 1) := by decide +kernel
theorem dX11_expression_10 : decode cX11_expression 10 = .ok (.ifCond .eq 26, 3) := by decide +kernel

set_option maxHeartbeats 4000000 in
set_option maxRecDepth 100000 in
theorem c_X11_expression (l : Launch) (n : Nat) (ihE : ∀ m, m + 1 = n → Ok_X11_expression l m) (ihN : ∀ m, m + 1 = n → Ok_X11_negation l m) : Ok_X11_expression l n := sorry
