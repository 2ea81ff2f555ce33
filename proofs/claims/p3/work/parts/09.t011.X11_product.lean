theorem dX11_product_0 : decode cX11_product 0 = .ok (.aload_n 0, 1) := by decide +kernel
theorem dX11_product_1 : decode cX11_product 1 = .ok (.invokevirtual 279, 3) := by decide +kernel
theorem dX11_product_4 : decode cX11_product 4 = .ok (.aload_n 0, 1) := by decide +kernel
theorem dX11_product_5 : decode cX11_product 5 = .ok (.bipush 42, 2) := by decide +kernel
theorem dX11_product_7 : decode cX11_product 7 = .ok (.invokevirtual 209, 3) := by decide +kernel
theorem dX11_product_22 : decode cX11_product 22 = .ok (.aload_n 0, 1) := by decide +kernel
theorem dX11_product_23 : decode cX11_product 23 = .ok (.getfield 172, 3) := by decide +kernel
theorem dX11_product_26 : decode cX11_product 26 = .ok (.istore_n 1, 1) := by decide +kernel
theorem dX11_product_27 : decode cX11_product 27 = .ok (.aload_n 0, 1) := by decide +kernel
theorem dX11_product_28 : decode cX11_product 28 = .ok (.invokevirtual 263, 3) := by decide +kernel
theorem dX11_product_31 : decode cX11_product 31 = .ok (.aload_n 0, 1) := by decide +kernel
theorem dX11_product_32 : decode cX11_product 32 = .ok (.invokevirtual 251, 3) := by decide +kernel
theorem dX11_product_35 : decode cX11_product 35 = .ok (.aload_n 0, 1) := by decide +kernel
theorem dX11_product_36 : decode cX11_product 36 = .ok (.invokevirtual 279, 3) := by decide +kernel
theorem dX11_product_39 : decode cX11_product 39 = .ok (.aload_n 0, 1) := by decide +kernel
theorem dX11_product_40 : decode cX11_product 40 = .ok (.iconst 2, 1) := by decide +kernel
theorem dX11_product_41 : decode cX11_product 41 = .ok (.iload_n 1, 1) := by decide +kernel
theorem dX11_product_42 : decode cX11_product 42 = .ok (.invokevirtual 266, 3) := by decide +kernel
theorem dX11_product_45 : decode cX11_product 45 = .ok (.goto (-41), 3) := by decide +kernel
theorem dX11_product_13 : decode cX11_product 13 = .ok (.aload_n 0, 1) := by decide +kernel
theorem dX11_product_14 : decode cX11_product 14 = .ok (.bipush 47, 2) := by decide +kernel
theorem dX11_product_16 : decode cX11_product 16 = .ok (.invokevirtual 209, 3) := by decide +kernel
theorem dX11_product_48 : decode cX11_product 48 = .ok (.return_, 1) := by decide +kernel
theorem dX11_product_10 : decode cX11_product 10 = .ok (.ifCond .ne 12, 3) := by decide +kernel
theorem dX11_product_19 : decode cX11_product 19 = .ok (.ifCond .eq 29, 3) := by decide +kernel

set_option maxHeartbeats 4000000 in
set_option maxRecDepth 100000 in
theorem c_X11_product (l : Launch) (n : Nat) (ihE : ∀ m, m + 1 = n → Ok_X11_expression l m) (ihN : ∀ m, m + 1 = n → Ok_X11_negation l m) : Ok_X11_product l n := sorry
