theorem dX11_primary_0 : decode cX11_primary 0 = .ok (.aload_n 0, 1) := by decide +kernel
theorem dX11_primary_1 : decode cX11_primary 1 = .ok (.getfield 197, 3) := by decide +kernel
theorem dX11_primary_4 : decode cX11_primary 4 = .ok (.ifCond .eq 4, 3) := by decide +kernel
theorem dX11_primary_8 : decode cX11_primary 8 = .ok (.aload_n 0, 1) := by decide +kernel
theorem dX11_primary_9 : decode cX11_primary 9 = .ok (.bipush 40, 2) := by decide +kernel
theorem dX11_primary_11 : decode cX11_primary 11 = .ok (.invokevirtual 209, 3) := by decide +kernel
theorem dX11_primary_14 : decode cX11_primary 14 = .ok (.ifCond .eq 87, 3) := by decide +kernel
theorem dX11_primary_17 : decode cX11_primary 17 = .ok (.aload_n 0, 1) := by decide +kernel
theorem dX11_primary_18 : decode cX11_primary 18 = .ok (.getfield 282, 3) := by decide +kernel
theorem dX11_primary_21 : decode cX11_primary 21 = .ok (.bipush 8, 2) := by decide +kernel
theorem dX11_primary_23 : decode cX11_primary 23 = .ok (.if_icmp .ne 8, 3) := by decide +kernel
theorem dX11_primary_31 : decode cX11_primary 31 = .ok (.aload_n 0, 1) := by decide +kernel
theorem dX11_primary_32 : decode cX11_primary 32 = .ok (.getfield 197, 3) := by decide +kernel
theorem dX11_primary_35 : decode cX11_primary 35 = .ok (.ifCond .eq 4, 3) := by decide +kernel
theorem dX11_primary_39 : decode cX11_primary 39 = .ok (.aload_n 0, 1) := by decide +kernel
theorem dX11_primary_40 : decode cX11_primary 40 = .ok (.dup, 1) := by decide +kernel
theorem dX11_primary_41 : decode cX11_primary 41 = .ok (.getfield 282, 3) := by decide +kernel
theorem dX11_primary_44 : decode cX11_primary 44 = .ok (.iconst 1, 1) := by decide +kernel
theorem dX11_primary_45 : decode cX11_primary 45 = .ok (.iadd, 1) := by decide +kernel
theorem dX11_primary_46 : decode cX11_primary 46 = .ok (.putfield 282, 3) := by decide +kernel
theorem dX11_primary_49 : decode cX11_primary 49 = .ok (.aload_n 0, 1) := by decide +kernel
theorem dX11_primary_50 : decode cX11_primary 50 = .ok (.invokevirtual 203, 3) := by decide +kernel
theorem dX11_primary_53 : decode cX11_primary 53 = .ok (.aload_n 0, 1) := by decide +kernel
theorem dX11_primary_54 : decode cX11_primary 54 = .ok (.invokevirtual 254, 3) := by decide +kernel
theorem dX11_primary_57 : decode cX11_primary 57 = .ok (.aload_n 0, 1) := by decide +kernel
theorem dX11_primary_58 : decode cX11_primary 58 = .ok (.getfield 197, 3) := by decide +kernel
theorem dX11_primary_61 : decode cX11_primary 61 = .ok (.ifCond .ne 17, 3) := by decide +kernel
theorem dX11_primary_78 : decode cX11_primary 78 = .ok (.aload_n 0, 1) := by decide +kernel
theorem dX11_primary_79 : decode cX11_primary 79 = .ok (.getfield 197, 3) := by decide +kernel
theorem dX11_primary_82 : decode cX11_primary 82 = .ok (.ifCond .eq 4, 3) := by decide +kernel
theorem dX11_primary_85 : decode cX11_primary 85 = .ok (.return_, 1) := by decide +kernel
theorem dX11_primary_64 : decode cX11_primary 64 = .ok (.aload_n 0, 1) := by decide +kernel
theorem dX11_primary_65 : decode cX11_primary 65 = .ok (.bipush 41, 2) := by decide +kernel
theorem dX11_primary_67 : decode cX11_primary 67 = .ok (.invokevirtual 209, 3) := by decide +kernel
theorem dX11_primary_70 : decode cX11_primary 70 = .ok (.ifCond .ne 8, 3) := by decide +kernel
theorem dX11_primary_86 : decode cX11_primary 86 = .ok (.aload_n 0, 1) := by decide +kernel
theorem dX11_primary_87 : decode cX11_primary 87 = .ok (.dup, 1) := by decide +kernel
theorem dX11_primary_88 : decode cX11_primary 88 = .ok (.getfield 282, 3) := by decide +kernel
theorem dX11_primary_91 : decode cX11_primary 91 = .ok (.iconst 1, 1) := by decide +kernel
theorem dX11_primary_92 : decode cX11_primary 92 = .ok (.isub, 1) := by decide +kernel
theorem dX11_primary_93 : decode cX11_primary 93 = .ok (.putfield 282, 3) := by decide +kernel
theorem dX11_primary_96 : decode cX11_primary 96 = .ok (.aload_n 0, 1) := by decide +kernel
theorem dX11_primary_97 : decode cX11_primary 97 = .ok (.invokevirtual 203, 3) := by decide +kernel
theorem dX11_primary_100 : decode cX11_primary 100 = .ok (.return_, 1) := by decide +kernel
theorem dX11_primary_73 : decode cX11_primary 73 = .ok (.aload_n 0, 1) := by decide +kernel
theorem dX11_primary_74 : decode cX11_primary 74 = .ok (.iconst 1, 1) := by decide +kernel
theorem dX11_primary_75 : decode cX11_primary 75 = .ok (.invokevirtual 206, 3) := by decide +kernel
theorem dX11_primary_26 : decode cX11_primary 26 = .ok (.aload_n 0, 1) := by decide +kernel
theorem dX11_primary_27 : decode cX11_primary 27 = .ok (.iconst 2, 1) := by decide +kernel
theorem dX11_primary_28 : decode cX11_primary 28 = .ok (.invokevirtual 206, 3) := by decide +kernel
theorem dX11_primary_38 : decode cX11_primary 38 = .ok (.return_, 1) := by decide +kernel
theorem dX11_primary_101 : decode cX11_primary 101 = .ok (.aload_n 0, 1) := by decide +kernel
theorem dX11_primary_102 : decode cX11_primary 102 = .ok (.getfield 162, 3) := by decide +kernel
theorem dX11_primary_105 : decode cX11_primary 105 = .ok (.iconst 2, 1) := by decide +kernel
theorem dX11_primary_106 : decode cX11_primary 106 = .ok (.if_icmp .ne 7, 3) := by decide +kernel
theorem dX11_primary_113 : decode cX11_primary 113 = .ok (.iconst 0, 1) := by decide +kernel
theorem dX11_primary_114 : decode cX11_primary 114 = .ok (.istore_n 1, 1) := by decide +kernel
theorem dX11_primary_115 : decode cX11_primary 115 = .ok (.iload_n 1, 1) := by decide +kernel
theorem dX11_primary_116 : decode cX11_primary 116 = .ok (.ifCond .eq 20, 3) := by decide +kernel
theorem dX11_primary_136 : decode cX11_primary 136 = .ok (.iload_n 1, 1) := by decide +kernel
theorem dX11_primary_137 : decode cX11_primary 137 = .ok (.ifCond .ne 24, 3) := by decide +kernel
theorem dX11_primary_140 : decode cX11_primary 140 = .ok (.aload_n 0, 1) := by decide +kernel
theorem dX11_primary_141 : decode cX11_primary 141 = .ok (.getfield 162, 3) := by decide +kernel
theorem dX11_primary_144 : decode cX11_primary 144 = .ok (.ifCond .ne 12, 3) := by decide +kernel
theorem dX11_primary_156 : decode cX11_primary 156 = .ok (.aload_n 0, 1) := by decide +kernel
theorem dX11_primary_157 : decode cX11_primary 157 = .ok (.iconst 1, 1) := by decide +kernel
theorem dX11_primary_158 : decode cX11_primary 158 = .ok (.invokevirtual 206, 3) := by decide +kernel
theorem dX11_primary_161 : decode cX11_primary 161 = .ok (.aload_n 0, 1) := by decide +kernel
theorem dX11_primary_162 : decode cX11_primary 162 = .ok (.invokevirtual 263, 3) := by decide +kernel
theorem dX11_primary_165 : decode cX11_primary 165 = .ok (.aload_n 0, 1) := by decide +kernel
theorem dX11_primary_166 : decode cX11_primary 166 = .ok (.iload_n 1, 1) := by decide +kernel
theorem dX11_primary_167 : decode cX11_primary 167 = .ok (.ifCond .eq 7, 3) := by decide +kernel
theorem dX11_primary_174 : decode cX11_primary 174 = .ok (.iconst 1, 1) := by decide +kernel
theorem dX11_primary_175 : decode cX11_primary 175 = .ok (.iload_n 1, 1) := by decide +kernel
theorem dX11_primary_176 : decode cX11_primary 176 = .ok (.ifCond .eq 10, 3) := by decide +kernel
theorem dX11_primary_186 : decode cX11_primary 186 = .ok (.aload_n 0, 1) := by decide +kernel
theorem dX11_primary_187 : decode cX11_primary 187 = .ok (.getfield 172, 3) := by decide +kernel
theorem dX11_primary_190 : decode cX11_primary 190 = .ok (.bipush 15, 2) := by decide +kernel
theorem dX11_primary_192 : decode cX11_primary 192 = .ok (.isub, 1) := by decide +kernel
theorem dX11_primary_193 : decode cX11_primary 193 = .ok (.invokevirtual 266, 3) := by decide +kernel
theorem dX11_primary_196 : decode cX11_primary 196 = .ok (.aload_n 0, 1) := by decide +kernel
theorem dX11_primary_197 : decode cX11_primary 197 = .ok (.invokevirtual 251, 3) := by decide +kernel
theorem dX11_primary_200 : decode cX11_primary 200 = .ok (.return_, 1) := by decide +kernel
theorem dX11_primary_147 : decode cX11_primary 147 = .ok (.aload_n 0, 1) := by decide +kernel
theorem dX11_primary_148 : decode cX11_primary 148 = .ok (.getfield 172, 3) := by decide +kernel
theorem dX11_primary_151 : decode cX11_primary 151 = .ok (.bipush 15, 2) := by decide +kernel
theorem dX11_primary_153 : decode cX11_primary 153 = .ok (.if_icmp .ge 8, 3) := by decide +kernel
theorem dX11_primary_109 : decode cX11_primary 109 = .ok (.iconst 1, 1) := by decide +kernel
theorem dX11_primary_110 : decode cX11_primary 110 = .ok (.goto 4, 3) := by decide +kernel
theorem dX11_primary_119 : decode cX11_primary 119 = .ok (.aload_n 0, 1) := by decide +kernel
theorem dX11_primary_120 : decode cX11_primary 120 = .ok (.getfield 172, 3) := by decide +kernel
theorem dX11_primary_123 : decode cX11_primary 123 = .ok (.ldc 181, 2) := by decide +kernel
theorem dX11_primary_125 : decode cX11_primary 125 = .ok (.if_icmp .le 11, 3) := by decide +kernel
theorem dX11_primary_170 : decode cX11_primary 170 = .ok (.iconst 0, 1) := by decide +kernel
theorem dX11_primary_171 : decode cX11_primary 171 = .ok (.goto 4, 3) := by decide +kernel
theorem dX11_primary_179 : decode cX11_primary 179 = .ok (.aload_n 0, 1) := by decide +kernel
theorem dX11_primary_180 : decode cX11_primary 180 = .ok (.getfield 172, 3) := by decide +kernel
theorem dX11_primary_183 : decode cX11_primary 183 = .ok (.goto 10, 3) := by decide +kernel
theorem dX11_primary_128 : decode cX11_primary 128 = .ok (.aload_n 0, 1) := by decide +kernel
theorem dX11_primary_129 : decode cX11_primary 129 = .ok (.iconst 2, 1) := by decide +kernel
theorem dX11_primary_130 : decode cX11_primary 130 = .ok (.invokevirtual 206, 3) := by decide +kernel
theorem dX11_primary_133 : decode cX11_primary 133 = .ok (.goto 28, 3) := by decide +kernel
theorem dX11_primary_7 : decode cX11_primary 7 = .ok (.return_, 1) := by decide +kernel

set_option maxHeartbeats 4000000 in
set_option maxRecDepth 100000 in
theorem c_X11_primary (l : Launch) (n : Nat) (ihE : ∀ m, m + 1 = n → Ok_X11_expression l m) (ihN : ∀ m, m + 1 = n → Ok_X11_negation l m) : Ok_X11_primary l n := sorry
