theorem dX11_negation_0 : decode cX11_negation 0 = .ok (.aload_n 0, 1) := by decide +kernel
theorem dX11_negation_1 : decode cX11_negation 1 = .ok (.bipush 14, 2) := by decide +kernel
theorem dX11_negation_3 : decode cX11_negation 3 = .ok (.invokevirtual 248, 3) := by decide +kernel
theorem dX11_negation_6 : decode cX11_negation 6 = .ok (.ifCond .eq 24, 3) := by decide +kernel
theorem dX11_negation_9 : decode cX11_negation 9 = .ok (.aload_n 0, 1) := by decide +kernel
theorem dX11_negation_10 : decode cX11_negation 10 = .ok (.invokevirtual 263, 3) := by decide +kernel
theorem dX11_negation_13 : decode cX11_negation 13 = .ok (.aload_n 0, 1) := by decide +kernel
theorem dX11_negation_14 : decode cX11_negation 14 = .ok (.invokevirtual 251, 3) := by decide +kernel
theorem dX11_negation_17 : decode cX11_negation 17 = .ok (.aload_n 0, 1) := by decide +kernel
theorem dX11_negation_18 : decode cX11_negation 18 = .ok (.invokevirtual 270, 3) := by decide +kernel
theorem dX11_negation_21 : decode cX11_negation 21 = .ok (.aload_n 0, 1) := by decide +kernel
theorem dX11_negation_22 : decode cX11_negation 22 = .ok (.iconst 2, 1) := by decide +kernel
theorem dX11_negation_23 : decode cX11_negation 23 = .ok (.sipush 260, 3) := by decide +kernel
theorem dX11_negation_26 : decode cX11_negation 26 = .ok (.invokevirtual 266, 3) := by decide +kernel
theorem dX11_negation_29 : decode cX11_negation 29 = .ok (.return_, 1) := by decide +kernel
theorem dX11_negation_30 : decode cX11_negation 30 = .ok (.aload_n 0, 1) := by decide +kernel
theorem dX11_negation_31 : decode cX11_negation 31 = .ok (.invokevirtual 273, 3) := by decide +kernel
theorem dX11_negation_34 : decode cX11_negation 34 = .ok (.aload_n 0, 1) := by decide +kernel
theorem dX11_negation_35 : decode cX11_negation 35 = .ok (.getfield 197, 3) := by decide +kernel
theorem dX11_negation_38 : decode cX11_negation 38 = .ok (.ifCond .ne 48, 3) := by decide +kernel
theorem dX11_negation_86 : decode cX11_negation 86 = .ok (.return_, 1) := by decide +kernel
theorem dX11_negation_41 : decode cX11_negation 41 = .ok (.aload_n 0, 1) := by decide +kernel
theorem dX11_negation_42 : decode cX11_negation 42 = .ok (.getfield 162, 3) := by decide +kernel
theorem dX11_negation_45 : decode cX11_negation 45 = .ok (.iconst 3, 1) := by decide +kernel
theorem dX11_negation_46 : decode cX11_negation 46 = .ok (.if_icmp .ne 40, 3) := by decide +kernel
theorem dX11_negation_49 : decode cX11_negation 49 = .ok (.aload_n 0, 1) := by decide +kernel
theorem dX11_negation_50 : decode cX11_negation 50 = .ok (.getfield 172, 3) := by decide +kernel
theorem dX11_negation_53 : decode cX11_negation 53 = .ok (.bipush 60, 2) := by decide +kernel
theorem dX11_negation_55 : decode cX11_negation 55 = .ok (.if_icmp .eq 32, 3) := by decide +kernel
theorem dX11_negation_87 : decode cX11_negation 87 = .ok (.aload_n 0, 1) := by decide +kernel
theorem dX11_negation_88 : decode cX11_negation 88 = .ok (.getfield 172, 3) := by decide +kernel
theorem dX11_negation_91 : decode cX11_negation 91 = .ok (.istore_n 1, 1) := by decide +kernel
theorem dX11_negation_92 : decode cX11_negation 92 = .ok (.aload_n 0, 1) := by decide +kernel
theorem dX11_negation_93 : decode cX11_negation 93 = .ok (.invokevirtual 263, 3) := by decide +kernel
theorem dX11_negation_96 : decode cX11_negation 96 = .ok (.aload_n 0, 1) := by decide +kernel
theorem dX11_negation_97 : decode cX11_negation 97 = .ok (.invokevirtual 251, 3) := by decide +kernel
theorem dX11_negation_100 : decode cX11_negation 100 = .ok (.aload_n 0, 1) := by decide +kernel
theorem dX11_negation_101 : decode cX11_negation 101 = .ok (.invokevirtual 273, 3) := by decide +kernel
theorem dX11_negation_104 : decode cX11_negation 104 = .ok (.aload_n 0, 1) := by decide +kernel
theorem dX11_negation_105 : decode cX11_negation 105 = .ok (.iconst 2, 1) := by decide +kernel
theorem dX11_negation_106 : decode cX11_negation 106 = .ok (.iload_n 1, 1) := by decide +kernel
theorem dX11_negation_107 : decode cX11_negation 107 = .ok (.invokevirtual 266, 3) := by decide +kernel
theorem dX11_negation_110 : decode cX11_negation 110 = .ok (.return_, 1) := by decide +kernel
theorem dX11_negation_58 : decode cX11_negation 58 = .ok (.aload_n 0, 1) := by decide +kernel
theorem dX11_negation_59 : decode cX11_negation 59 = .ok (.getfield 172, 3) := by decide +kernel
theorem dX11_negation_62 : decode cX11_negation 62 = .ok (.bipush 62, 2) := by decide +kernel
theorem dX11_negation_64 : decode cX11_negation 64 = .ok (.if_icmp .eq 23, 3) := by decide +kernel
theorem dX11_negation_67 : decode cX11_negation 67 = .ok (.aload_n 0, 1) := by decide +kernel
theorem dX11_negation_68 : decode cX11_negation 68 = .ok (.getfield 172, 3) := by decide +kernel
theorem dX11_negation_71 : decode cX11_negation 71 = .ok (.bipush 61, 2) := by decide +kernel
theorem dX11_negation_73 : decode cX11_negation 73 = .ok (.if_icmp .eq 14, 3) := by decide +kernel
theorem dX11_negation_76 : decode cX11_negation 76 = .ok (.aload_n 0, 1) := by decide +kernel
theorem dX11_negation_77 : decode cX11_negation 77 = .ok (.getfield 172, 3) := by decide +kernel
theorem dX11_negation_80 : decode cX11_negation 80 = .ok (.sipush 256, 3) := by decide +kernel
theorem dX11_negation_83 : decode cX11_negation 83 = .ok (.if_icmp .ge 4, 3) := by decide +kernel

set_option maxHeartbeats 4000000 in
set_option maxRecDepth 100000 in
theorem c_X11_negation (l : Launch) (n : Nat) (ihE : ∀ m, m + 1 = n → Ok_X11_expression l m) (ihN : ∀ m, m + 1 = n → Ok_X11_negation l m) : Ok_X11_negation l n := sorry
