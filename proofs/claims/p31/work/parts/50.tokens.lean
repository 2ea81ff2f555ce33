theorem dX7_isLetter_0 : decode cX7_isLetter 0 = .ok (.iload_n 0, 1) := by decide +kernel
theorem dX7_isLetter_1 : decode cX7_isLetter 1 = .ok (.bipush 97, 2) := by decide +kernel
theorem dX7_isLetter_16 : decode cX7_isLetter 16 = .ok (.iconst 0, 1) := by decide +kernel
theorem dX7_isLetter_17 : decode cX7_isLetter 17 = .ok (.ireturn, 1) := by decide +kernel
theorem dX7_isLetter_6 : decode cX7_isLetter 6 = .ok (.iload_n 0, 1) := by decide +kernel
theorem dX7_isLetter_7 : decode cX7_isLetter 7 = .ok (.bipush 122, 2) := by decide +kernel
theorem dX7_isLetter_12 : decode cX7_isLetter 12 = .ok (.iconst 1, 1) := by decide +kernel
theorem dX7_isLetter_13 : decode cX7_isLetter 13 = .ok (.goto 4, 3) := by decide +kernel
theorem dX7_isLetter_3 : decode cX7_isLetter 3 = .ok (.if_icmp .lt 13, 3) := by decide +kernel
theorem dX7_isLetter_9 : decode cX7_isLetter 9 = .ok (.if_icmp .gt 7, 3) := by decide +kernel
theorem dX7_isDigit_0 : decode cX7_isDigit 0 = .ok (.iload_n 0, 1) := by decide +kernel
theorem dX7_isDigit_1 : decode cX7_isDigit 1 = .ok (.bipush 48, 2) := by decide +kernel
theorem dX7_isDigit_16 : decode cX7_isDigit 16 = .ok (.iconst 0, 1) := by decide +kernel
theorem dX7_isDigit_17 : decode cX7_isDigit 17 = .ok (.ireturn, 1) := by decide +kernel
theorem dX7_isDigit_6 : decode cX7_isDigit 6 = .ok (.iload_n 0, 1) := by decide +kernel
theorem dX7_isDigit_7 : decode cX7_isDigit 7 = .ok (.bipush 57, 2) := by decide +kernel
theorem dX7_isDigit_12 : decode cX7_isDigit 12 = .ok (.iconst 1, 1) := by decide +kernel
theorem dX7_isDigit_13 : decode cX7_isDigit 13 = .ok (.goto 4, 3) := by decide +kernel
theorem dX7_isDigit_3 : decode cX7_isDigit 3 = .ok (.if_icmp .lt 13, 3) := by decide +kernel
theorem dX7_isDigit_9 : decode cX7_isDigit 9 = .ok (.if_icmp .gt 7, 3) := by decide +kernel
theorem dX7_withLetter_0 : decode cX7_withLetter 0 = .ok (.iload_n 0, 1) := by decide +kernel
theorem dX7_withLetter_1 : decode cX7_withLetter 1 = .ok (.iload_n 2, 1) := by decide +kernel
theorem dX7_withLetter_2 : decode cX7_withLetter 2 = .ok (.bipush 97, 2) := by decide +kernel
theorem dX7_withLetter_5 : decode cX7_withLetter 5 = .ok (.iconst 1, 1) := by decide +kernel
theorem dX7_withLetter_7 : decode cX7_withLetter 7 = .ok (.bipush 25, 2) := by decide +kernel
theorem dX7_withLetter_9 : decode cX7_withLetter 9 = .ok (.iconst 5, 1) := by decide +kernel
theorem dX7_withLetter_10 : decode cX7_withLetter 10 = .ok (.iload_n 1, 1) := by decide +kernel
theorem dX7_withLetter_15 : decode cX7_withLetter 15 = .ok (.ireturn, 1) := by decide +kernel
theorem dX7_withLetter_4 : decode cX7_withLetter 4 = .ok (.isub, 1) := by decide +kernel
theorem dX7_withLetter_6 : decode cX7_withLetter 6 = .ok (.iadd, 1) := by decide +kernel
theorem dX7_withLetter_11 : decode cX7_withLetter 11 = .ok (.imul, 1) := by decide +kernel
theorem dX7_withLetter_12 : decode cX7_withLetter 12 = .ok (.isub, 1) := by decide +kernel
theorem dX7_withLetter_13 : decode cX7_withLetter 13 = .ok (.ishl, 1) := by decide +kernel
theorem dX7_withLetter_14 : decode cX7_withLetter 14 = .ok (.ior, 1) := by decide +kernel
theorem dX7_add_0 : decode cX7_add 0 = .ok (.aload_n 0, 1) := by decide +kernel
theorem dX7_add_1 : decode cX7_add 1 = .ok (.getfield 44, 3) := by decide +kernel
theorem dX7_add_4 : decode cX7_add 4 = .ok (.sipush 700, 3) := by decide +kernel
theorem dX7_add_10 : decode cX7_add 10 = .ok (.aload_n 0, 1) := by decide +kernel
theorem dX7_add_11 : decode cX7_add 11 = .ok (.getfield 9, 3) := by decide +kernel
theorem dX7_add_14 : decode cX7_add 14 = .ok (.aload_n 0, 1) := by decide +kernel
theorem dX7_add_15 : decode cX7_add 15 = .ok (.getfield 44, 3) := by decide +kernel
theorem dX7_add_18 : decode cX7_add 18 = .ok (.iload_n 1, 1) := by decide +kernel
theorem dX7_add_20 : decode cX7_add 20 = .ok (.aload_n 0, 1) := by decide +kernel
theorem dX7_add_21 : decode cX7_add 21 = .ok (.getfield 15, 3) := by decide +kernel
theorem dX7_add_24 : decode cX7_add 24 = .ok (.aload_n 0, 1) := by decide +kernel
theorem dX7_add_25 : decode cX7_add 25 = .ok (.getfield 44, 3) := by decide +kernel
theorem dX7_add_28 : decode cX7_add 28 = .ok (.iload_n 2, 1) := by decide +kernel
theorem dX7_add_30 : decode cX7_add 30 = .ok (.aload_n 0, 1) := by decide +kernel
theorem dX7_add_31 : decode cX7_add 31 = .ok (.getfield 18, 3) := by decide +kernel
theorem dX7_add_34 : decode cX7_add 34 = .ok (.aload_n 0, 1) := by decide +kernel
theorem dX7_add_35 : decode cX7_add 35 = .ok (.getfield 44, 3) := by decide +kernel
theorem dX7_add_38 : decode cX7_add 38 = .ok (.iload_n 3, 1) := by decide +kernel
theorem dX7_add_40 : decode cX7_add 40 = .ok (.aload_n 0, 1) := by decide +kernel
theorem dX7_add_41 : decode cX7_add 41 = .ok (.dup, 1) := by decide +kernel
theorem dX7_add_42 : decode cX7_add 42 = .ok (.getfield 44, 3) := by decide +kernel
theorem dX7_add_45 : decode cX7_add 45 = .ok (.iconst 1, 1) := by decide +kernel
theorem dX7_add_47 : decode cX7_add 47 = .ok (.putfield 44, 3) := by decide +kernel
theorem dX7_add_50 : decode cX7_add 50 = .ok (.return_, 1) := by decide +kernel
theorem dX7_add_7 : decode cX7_add 7 = .ok (.if_icmp .gt 43, 3) := by decide +kernel
theorem dX7_add_19 : decode cX7_add 19 = .ok (.iastore, 1) := by decide +kernel
theorem dX7_add_29 : decode cX7_add 29 = .ok (.iastore, 1) := by decide +kernel
theorem dX7_add_39 : decode cX7_add 39 = .ok (.iastore, 1) := by decide +kernel
theorem dX7_add_46 : decode cX7_add 46 = .ok (.iadd, 1) := by decide +kernel
theorem dX7_wordKind_0 : decode cX7_wordKind 0 = .ok (.iconst 0, 1) := by decide +kernel
theorem dX7_wordKind_1 : decode cX7_wordKind 1 = .ok (.istore_n 2, 1) := by decide +kernel
theorem dX7_wordKind_2 : decode cX7_wordKind 2 = .ok (.iload_n 2, 1) := by decide +kernel
theorem dX7_wordKind_3 : decode cX7_wordKind 3 = .ok (.bipush 20, 2) := by decide +kernel
theorem dX7_wordKind_8 : decode cX7_wordKind 8 = .ok (.aload_n 0, 1) := by decide +kernel
theorem dX7_wordKind_9 : decode cX7_wordKind 9 = .ok (.getfield 21, 3) := by decide +kernel
theorem dX7_wordKind_12 : decode cX7_wordKind 12 = .ok (.iload_n 2, 1) := by decide +kernel
theorem dX7_wordKind_14 : decode cX7_wordKind 14 = .ok (.iload_n 1, 1) := by decide +kernel
theorem dX7_wordKind_26 : decode cX7_wordKind 26 = .ok (.goto (-24), 3) := by decide +kernel
theorem dX7_wordKind_18 : decode cX7_wordKind 18 = .ok (.bipush 20, 2) := by decide +kernel
theorem dX7_wordKind_20 : decode cX7_wordKind 20 = .ok (.iload_n 2, 1) := by decide +kernel
theorem dX7_wordKind_22 : decode cX7_wordKind 22 = .ok (.ireturn, 1) := by decide +kernel
theorem dX7_wordKind_29 : decode cX7_wordKind 29 = .ok (.iconst 2, 1) := by decide +kernel
theorem dX7_wordKind_30 : decode cX7_wordKind 30 = .ok (.ireturn, 1) := by decide +kernel
theorem dX7_wordKind_5 : decode cX7_wordKind 5 = .ok (.if_icmp .ge 24, 3) := by decide +kernel
theorem dX7_wordKind_13 : decode cX7_wordKind 13 = .ok (.iaload, 1) := by decide +kernel
theorem dX7_wordKind_15 : decode cX7_wordKind 15 = .ok (.if_icmp .ne 8, 3) := by decide +kernel
theorem dX7_wordKind_23 : decode cX7_wordKind 23 = .ok (.iinc 2 1, 3) := by decide +kernel
theorem dX7_wordKind_21 : decode cX7_wordKind 21 = .ok (.iadd, 1) := by decide +kernel
theorem dX7_signKind_0 : decode cX7_signKind 0 = .ok (.iload_n 0, 1) := by decide +kernel
theorem dX7_signKind_1 : decode cX7_signKind 1 = .ok (.tableswitch 135 40 62 #[109, 111, 120, 114, 135, 117, 135, 123, 135, 135, 135, 135, 135, 135, 135, 135, 135, 135, 135, 107, 126, 129, 132], 107) := by decide +kernel
theorem dX7_signKind_110 : decode cX7_signKind 110 = .ok (.iconst 5, 1) := by decide +kernel
theorem dX7_signKind_111 : decode cX7_signKind 111 = .ok (.ireturn, 1) := by decide +kernel
theorem dX7_signKind_112 : decode cX7_signKind 112 = .ok (.bipush 6, 2) := by decide +kernel
theorem dX7_signKind_114 : decode cX7_signKind 114 = .ok (.ireturn, 1) := by decide +kernel
theorem dX7_signKind_121 : decode cX7_signKind 121 = .ok (.bipush 9, 2) := by decide +kernel
theorem dX7_signKind_123 : decode cX7_signKind 123 = .ok (.ireturn, 1) := by decide +kernel
theorem dX7_signKind_115 : decode cX7_signKind 115 = .ok (.bipush 7, 2) := by decide +kernel
theorem dX7_signKind_117 : decode cX7_signKind 117 = .ok (.ireturn, 1) := by decide +kernel
theorem dX7_signKind_136 : decode cX7_signKind 136 = .ok (.iconst 3, 1) := by decide +kernel
theorem dX7_signKind_137 : decode cX7_signKind 137 = .ok (.ireturn, 1) := by decide +kernel
theorem dX7_signKind_118 : decode cX7_signKind 118 = .ok (.bipush 8, 2) := by decide +kernel
theorem dX7_signKind_120 : decode cX7_signKind 120 = .ok (.ireturn, 1) := by decide +kernel
theorem dX7_signKind_124 : decode cX7_signKind 124 = .ok (.bipush 10, 2) := by decide +kernel
theorem dX7_signKind_126 : decode cX7_signKind 126 = .ok (.ireturn, 1) := by decide +kernel
theorem dX7_signKind_108 : decode cX7_signKind 108 = .ok (.iconst 4, 1) := by decide +kernel
theorem dX7_signKind_109 : decode cX7_signKind 109 = .ok (.ireturn, 1) := by decide +kernel
theorem dX7_signKind_127 : decode cX7_signKind 127 = .ok (.bipush 11, 2) := by decide +kernel
theorem dX7_signKind_129 : decode cX7_signKind 129 = .ok (.ireturn, 1) := by decide +kernel
theorem dX7_signKind_130 : decode cX7_signKind 130 = .ok (.bipush 13, 2) := by decide +kernel
theorem dX7_signKind_132 : decode cX7_signKind 132 = .ok (.ireturn, 1) := by decide +kernel
theorem dX7_signKind_133 : decode cX7_signKind 133 = .ok (.bipush 16, 2) := by decide +kernel
theorem dX7_signKind_135 : decode cX7_signKind 135 = .ok (.ireturn, 1) := by decide +kernel
theorem dX7_takeWord_0 : decode cX7_takeWord 0 = .ok (.iconst 0, 1) := by decide +kernel
theorem dX7_takeWord_1 : decode cX7_takeWord 1 = .ok (.istore 4, 2) := by decide +kernel
theorem dX7_takeWord_3 : decode cX7_takeWord 3 = .ok (.iload_n 2, 1) := by decide +kernel
theorem dX7_takeWord_4 : decode cX7_takeWord 4 = .ok (.istore 5, 2) := by decide +kernel
theorem dX7_takeWord_6 : decode cX7_takeWord 6 = .ok (.iload 5, 2) := by decide +kernel
theorem dX7_takeWord_8 : decode cX7_takeWord 8 = .ok (.iload_n 3, 1) := by decide +kernel
theorem dX7_takeWord_52 : decode cX7_takeWord 52 = .ok (.aload_n 0, 1) := by decide +kernel
theorem dX7_takeWord_53 : decode cX7_takeWord 53 = .ok (.iload 5, 2) := by decide +kernel
theorem dX7_takeWord_55 : decode cX7_takeWord 55 = .ok (.iload_n 2, 1) := by decide +kernel
theorem dX7_takeWord_57 : decode cX7_takeWord 57 = .ok (.bipush 6, 2) := by decide +kernel
theorem dX7_takeWord_66 : decode cX7_takeWord 66 = .ok (.aload_n 0, 1) := by decide +kernel
theorem dX7_takeWord_67 : decode cX7_takeWord 67 = .ok (.iload 4, 2) := by decide +kernel
theorem dX7_takeWord_69 : decode cX7_takeWord 69 = .ok (.invokevirtual 69, 3) := by decide +kernel
theorem dX7_takeWord_72 : decode cX7_takeWord 72 = .ok (.iload_n 2, 1) := by decide +kernel
theorem dX7_takeWord_73 : decode cX7_takeWord 73 = .ok (.iload 4, 2) := by decide +kernel
theorem dX7_takeWord_75 : decode cX7_takeWord 75 = .ok (.invokevirtual 65, 3) := by decide +kernel
theorem dX7_takeWord_78 : decode cX7_takeWord 78 = .ok (.iload 5, 2) := by decide +kernel
theorem dX7_takeWord_80 : decode cX7_takeWord 80 = .ok (.ireturn, 1) := by decide +kernel
theorem dX7_takeWord_62 : decode cX7_takeWord 62 = .ok (.iconst 3, 1) := by decide +kernel
theorem dX7_takeWord_63 : decode cX7_takeWord 63 = .ok (.goto 9, 3) := by decide +kernel
theorem dX7_takeWord_12 : decode cX7_takeWord 12 = .ok (.aload_n 1, 1) := by decide +kernel
theorem dX7_takeWord_13 : decode cX7_takeWord 13 = .ok (.iload 5, 2) := by decide +kernel
theorem dX7_takeWord_16 : decode cX7_takeWord 16 = .ok (.invokestatic 48, 3) := by decide +kernel
theorem dX7_takeWord_22 : decode cX7_takeWord 22 = .ok (.iload 5, 2) := by decide +kernel
theorem dX7_takeWord_24 : decode cX7_takeWord 24 = .ok (.iload_n 2, 1) := by decide +kernel
theorem dX7_takeWord_26 : decode cX7_takeWord 26 = .ok (.bipush 6, 2) := by decide +kernel
theorem dX7_takeWord_49 : decode cX7_takeWord 49 = .ok (.goto (-43), 3) := by decide +kernel
theorem dX7_takeWord_31 : decode cX7_takeWord 31 = .ok (.iload 4, 2) := by decide +kernel
theorem dX7_takeWord_33 : decode cX7_takeWord 33 = .ok (.iload 5, 2) := by decide +kernel
theorem dX7_takeWord_35 : decode cX7_takeWord 35 = .ok (.iload_n 2, 1) := by decide +kernel
theorem dX7_takeWord_37 : decode cX7_takeWord 37 = .ok (.aload_n 1, 1) := by decide +kernel
theorem dX7_takeWord_38 : decode cX7_takeWord 38 = .ok (.iload 5, 2) := by decide +kernel
theorem dX7_takeWord_41 : decode cX7_takeWord 41 = .ok (.invokestatic 40, 3) := by decide +kernel
theorem dX7_takeWord_44 : decode cX7_takeWord 44 = .ok (.istore 4, 2) := by decide +kernel
theorem dX7_takeWord_9 : decode cX7_takeWord 9 = .ok (.if_icmp .ge 43, 3) := by decide +kernel
theorem dX7_takeWord_56 : decode cX7_takeWord 56 = .ok (.isub, 1) := by decide +kernel
theorem dX7_takeWord_59 : decode cX7_takeWord 59 = .ok (.if_icmp .le 7, 3) := by decide +kernel
theorem dX7_takeWord_15 : decode cX7_takeWord 15 = .ok (.baload, 1) := by decide +kernel
theorem dX7_takeWord_19 : decode cX7_takeWord 19 = .ok (.ifCond .eq 33, 3) := by decide +kernel
theorem dX7_takeWord_25 : decode cX7_takeWord 25 = .ok (.isub, 1) := by decide +kernel
theorem dX7_takeWord_28 : decode cX7_takeWord 28 = .ok (.if_icmp .ge 18, 3) := by decide +kernel
theorem dX7_takeWord_46 : decode cX7_takeWord 46 = .ok (.iinc 5 1, 3) := by decide +kernel
theorem dX7_takeWord_36 : decode cX7_takeWord 36 = .ok (.isub, 1) := by decide +kernel
theorem dX7_takeWord_40 : decode cX7_takeWord 40 = .ok (.baload, 1) := by decide +kernel
theorem dX7_takeNumber_0 : decode cX7_takeNumber 0 = .ok (.iconst 0, 1) := by decide +kernel
theorem dX7_takeNumber_1 : decode cX7_takeNumber 1 = .ok (.istore 4, 2) := by decide +kernel
theorem dX7_takeNumber_3 : decode cX7_takeNumber 3 = .ok (.iload_n 2, 1) := by decide +kernel
theorem dX7_takeNumber_4 : decode cX7_takeNumber 4 = .ok (.istore 5, 2) := by decide +kernel
theorem dX7_takeNumber_6 : decode cX7_takeNumber 6 = .ok (.iload 5, 2) := by decide +kernel
theorem dX7_takeNumber_8 : decode cX7_takeNumber 8 = .ok (.iload_n 3, 1) := by decide +kernel
theorem dX7_takeNumber_48 : decode cX7_takeNumber 48 = .ok (.aload_n 0, 1) := by decide +kernel
theorem dX7_takeNumber_49 : decode cX7_takeNumber 49 = .ok (.iconst 1, 1) := by decide +kernel
theorem dX7_takeNumber_50 : decode cX7_takeNumber 50 = .ok (.iload_n 2, 1) := by decide +kernel
theorem dX7_takeNumber_51 : decode cX7_takeNumber 51 = .ok (.iload 4, 2) := by decide +kernel
theorem dX7_takeNumber_53 : decode cX7_takeNumber 53 = .ok (.invokevirtual 65, 3) := by decide +kernel
theorem dX7_takeNumber_56 : decode cX7_takeNumber 56 = .ok (.iload 5, 2) := by decide +kernel
theorem dX7_takeNumber_58 : decode cX7_takeNumber 58 = .ok (.ireturn, 1) := by decide +kernel
theorem dX7_takeNumber_12 : decode cX7_takeNumber 12 = .ok (.aload_n 1, 1) := by decide +kernel
theorem dX7_takeNumber_13 : decode cX7_takeNumber 13 = .ok (.iload 5, 2) := by decide +kernel
theorem dX7_takeNumber_16 : decode cX7_takeNumber 16 = .ok (.invokestatic 56, 3) := by decide +kernel
theorem dX7_takeNumber_22 : decode cX7_takeNumber 22 = .ok (.bipush 10, 2) := by decide +kernel
theorem dX7_takeNumber_24 : decode cX7_takeNumber 24 = .ok (.iload 4, 2) := by decide +kernel
theorem dX7_takeNumber_27 : decode cX7_takeNumber 27 = .ok (.aload_n 1, 1) := by decide +kernel
theorem dX7_takeNumber_28 : decode cX7_takeNumber 28 = .ok (.iload 5, 2) := by decide +kernel
theorem dX7_takeNumber_32 : decode cX7_takeNumber 32 = .ok (.bipush 48, 2) := by decide +kernel
theorem dX7_takeNumber_35 : decode cX7_takeNumber 35 = .ok (.ldc 73, 2) := by decide +kernel
theorem dX7_takeNumber_37 : decode cX7_takeNumber 37 = .ok (.invokestatic 74, 3) := by decide +kernel
theorem dX7_takeNumber_40 : decode cX7_takeNumber 40 = .ok (.istore 4, 2) := by decide +kernel
theorem dX7_takeNumber_45 : decode cX7_takeNumber 45 = .ok (.goto (-39), 3) := by decide +kernel
theorem dX7_takeNumber_9 : decode cX7_takeNumber 9 = .ok (.if_icmp .ge 39, 3) := by decide +kernel
theorem dX7_takeNumber_15 : decode cX7_takeNumber 15 = .ok (.baload, 1) := by decide +kernel
theorem dX7_takeNumber_19 : decode cX7_takeNumber 19 = .ok (.ifCond .eq 29, 3) := by decide +kernel
theorem dX7_takeNumber_26 : decode cX7_takeNumber 26 = .ok (.imul, 1) := by decide +kernel
theorem dX7_takeNumber_30 : decode cX7_takeNumber 30 = .ok (.baload, 1) := by decide +kernel
theorem dX7_takeNumber_31 : decode cX7_takeNumber 31 = .ok (.iadd, 1) := by decide +kernel
theorem dX7_takeNumber_34 : decode cX7_takeNumber 34 = .ok (.isub, 1) := by decide +kernel
theorem dX7_takeNumber_42 : decode cX7_takeNumber 42 = .ok (.iinc 5 1, 3) := by decide +kernel
theorem dX7_takeSign_0 : decode cX7_takeSign 0 = .ok (.iload_n 2, 1) := by decide +kernel
theorem dX7_takeSign_1 : decode cX7_takeSign 1 = .ok (.iconst 1, 1) := by decide +kernel
theorem dX7_takeSign_3 : decode cX7_takeSign 3 = .ok (.iload_n 3, 1) := by decide +kernel
theorem dX7_takeSign_15 : decode cX7_takeSign 15 = .ok (.iconst 0, 1) := by decide +kernel
theorem dX7_takeSign_16 : decode cX7_takeSign 16 = .ok (.istore 4, 2) := by decide +kernel
theorem dX7_takeSign_18 : decode cX7_takeSign 18 = .ok (.aload_n 1, 1) := by decide +kernel
theorem dX7_takeSign_19 : decode cX7_takeSign 19 = .ok (.iload_n 2, 1) := by decide +kernel
theorem dX7_takeSign_21 : decode cX7_takeSign 21 = .ok (.istore 5, 2) := by decide +kernel
theorem dX7_takeSign_23 : decode cX7_takeSign 23 = .ok (.iload 5, 2) := by decide +kernel
theorem dX7_takeSign_25 : decode cX7_takeSign 25 = .ok (.invokestatic 80, 3) := by decide +kernel
theorem dX7_takeSign_28 : decode cX7_takeSign 28 = .ok (.istore 6, 2) := by decide +kernel
theorem dX7_takeSign_30 : decode cX7_takeSign 30 = .ok (.iconst 1, 1) := by decide +kernel
theorem dX7_takeSign_31 : decode cX7_takeSign 31 = .ok (.istore 7, 2) := by decide +kernel
theorem dX7_takeSign_33 : decode cX7_takeSign 33 = .ok (.iload 5, 2) := by decide +kernel
theorem dX7_takeSign_35 : decode cX7_takeSign 35 = .ok (.bipush 60, 2) := by decide +kernel
theorem dX7_takeSign_57 : decode cX7_takeSign 57 = .ok (.iload 5, 2) := by decide +kernel
theorem dX7_takeSign_59 : decode cX7_takeSign 59 = .ok (.bipush 60, 2) := by decide +kernel
theorem dX7_takeSign_81 : decode cX7_takeSign 81 = .ok (.iload 5, 2) := by decide +kernel
theorem dX7_takeSign_83 : decode cX7_takeSign 83 = .ok (.bipush 62, 2) := by decide +kernel
theorem dX7_takeSign_102 : decode cX7_takeSign 102 = .ok (.aload_n 0, 1) := by decide +kernel
theorem dX7_takeSign_103 : decode cX7_takeSign 103 = .ok (.iload 6, 2) := by decide +kernel
theorem dX7_takeSign_105 : decode cX7_takeSign 105 = .ok (.iload_n 2, 1) := by decide +kernel
theorem dX7_takeSign_106 : decode cX7_takeSign 106 = .ok (.iconst 0, 1) := by decide +kernel
theorem dX7_takeSign_107 : decode cX7_takeSign 107 = .ok (.invokevirtual 65, 3) := by decide +kernel
theorem dX7_takeSign_110 : decode cX7_takeSign 110 = .ok (.iload_n 2, 1) := by decide +kernel
theorem dX7_takeSign_111 : decode cX7_takeSign 111 = .ok (.iload 7, 2) := by decide +kernel
theorem dX7_takeSign_114 : decode cX7_takeSign 114 = .ok (.ireturn, 1) := by decide +kernel
theorem dX7_takeSign_88 : decode cX7_takeSign 88 = .ok (.iload 4, 2) := by decide +kernel
theorem dX7_takeSign_90 : decode cX7_takeSign 90 = .ok (.bipush 61, 2) := by decide +kernel
theorem dX7_takeSign_40 : decode cX7_takeSign 40 = .ok (.iload 4, 2) := by decide +kernel
theorem dX7_takeSign_42 : decode cX7_takeSign 42 = .ok (.bipush 61, 2) := by decide +kernel
theorem dX7_takeSign_64 : decode cX7_takeSign 64 = .ok (.iload 4, 2) := by decide +kernel
theorem dX7_takeSign_66 : decode cX7_takeSign 66 = .ok (.bipush 62, 2) := by decide +kernel
theorem dX7_takeSign_7 : decode cX7_takeSign 7 = .ok (.aload_n 1, 1) := by decide +kernel
theorem dX7_takeSign_8 : decode cX7_takeSign 8 = .ok (.iload_n 2, 1) := by decide +kernel
theorem dX7_takeSign_9 : decode cX7_takeSign 9 = .ok (.iconst 1, 1) := by decide +kernel
theorem dX7_takeSign_12 : decode cX7_takeSign 12 = .ok (.goto 4, 3) := by decide +kernel
theorem dX7_takeSign_95 : decode cX7_takeSign 95 = .ok (.bipush 15, 2) := by decide +kernel
theorem dX7_takeSign_97 : decode cX7_takeSign 97 = .ok (.istore 6, 2) := by decide +kernel
theorem dX7_takeSign_99 : decode cX7_takeSign 99 = .ok (.iconst 2, 1) := by decide +kernel
theorem dX7_takeSign_100 : decode cX7_takeSign 100 = .ok (.istore 7, 2) := by decide +kernel
theorem dX7_takeSign_71 : decode cX7_takeSign 71 = .ok (.bipush 14, 2) := by decide +kernel
theorem dX7_takeSign_73 : decode cX7_takeSign 73 = .ok (.istore 6, 2) := by decide +kernel
theorem dX7_takeSign_75 : decode cX7_takeSign 75 = .ok (.iconst 2, 1) := by decide +kernel
theorem dX7_takeSign_76 : decode cX7_takeSign 76 = .ok (.istore 7, 2) := by decide +kernel
theorem dX7_takeSign_78 : decode cX7_takeSign 78 = .ok (.goto 24, 3) := by decide +kernel
theorem dX7_takeSign_47 : decode cX7_takeSign 47 = .ok (.bipush 12, 2) := by decide +kernel
theorem dX7_takeSign_49 : decode cX7_takeSign 49 = .ok (.istore 6, 2) := by decide +kernel
theorem dX7_takeSign_51 : decode cX7_takeSign 51 = .ok (.iconst 2, 1) := by decide +kernel
theorem dX7_takeSign_52 : decode cX7_takeSign 52 = .ok (.istore 7, 2) := by decide +kernel
theorem dX7_takeSign_54 : decode cX7_takeSign 54 = .ok (.goto 48, 3) := by decide +kernel
theorem dX7_takeSign_2 : decode cX7_takeSign 2 = .ok (.iadd, 1) := by decide +kernel
theorem dX7_takeSign_4 : decode cX7_takeSign 4 = .ok (.if_icmp .ge 11, 3) := by decide +kernel
theorem dX7_takeSign_20 : decode cX7_takeSign 20 = .ok (.baload, 1) := by decide +kernel
theorem dX7_takeSign_37 : decode cX7_takeSign 37 = .ok (.if_icmp .ne 20, 3) := by decide +kernel
theorem dX7_takeSign_61 : decode cX7_takeSign 61 = .ok (.if_icmp .ne 20, 3) := by decide +kernel
theorem dX7_takeSign_85 : decode cX7_takeSign 85 = .ok (.if_icmp .ne 17, 3) := by decide +kernel
theorem dX7_takeSign_113 : decode cX7_takeSign 113 = .ok (.iadd, 1) := by decide +kernel
theorem dX7_takeSign_92 : decode cX7_takeSign 92 = .ok (.if_icmp .ne 10, 3) := by decide +kernel
theorem dX7_takeSign_44 : decode cX7_takeSign 44 = .ok (.if_icmp .ne 13, 3) := by decide +kernel
theorem dX7_takeSign_68 : decode cX7_takeSign 68 = .ok (.if_icmp .ne 13, 3) := by decide +kernel
theorem dX7_takeSign_10 : decode cX7_takeSign 10 = .ok (.iadd, 1) := by decide +kernel
theorem dX7_takeSign_11 : decode cX7_takeSign 11 = .ok (.baload, 1) := by decide +kernel
theorem dX7_split_0 : decode cX7_split 0 = .ok (.aload_n 0, 1) := by decide +kernel
theorem dX7_split_1 : decode cX7_split 1 = .ok (.iconst 0, 1) := by decide +kernel
theorem dX7_split_2 : decode cX7_split 2 = .ok (.putfield 44, 3) := by decide +kernel
theorem dX7_split_5 : decode cX7_split 5 = .ok (.iconst 0, 1) := by decide +kernel
theorem dX7_split_6 : decode cX7_split 6 = .ok (.istore_n 3, 1) := by decide +kernel
theorem dX7_split_7 : decode cX7_split 7 = .ok (.iconst 0, 1) := by decide +kernel
theorem dX7_split_8 : decode cX7_split 8 = .ok (.istore 4, 2) := by decide +kernel
theorem dX7_split_10 : decode cX7_split 10 = .ok (.iload 4, 2) := by decide +kernel
theorem dX7_split_12 : decode cX7_split 12 = .ok (.sipush 700, 3) := by decide +kernel
theorem dX7_split_18 : decode cX7_split 18 = .ok (.iload_n 3, 1) := by decide +kernel
theorem dX7_split_19 : decode cX7_split 19 = .ok (.iload_n 2, 1) := by decide +kernel
theorem dX7_split_104 : decode cX7_split 104 = .ok (.aload_n 0, 1) := by decide +kernel
theorem dX7_split_105 : decode cX7_split 105 = .ok (.iconst 0, 1) := by decide +kernel
theorem dX7_split_106 : decode cX7_split 106 = .ok (.iload_n 2, 1) := by decide +kernel
theorem dX7_split_107 : decode cX7_split 107 = .ok (.iconst 0, 1) := by decide +kernel
theorem dX7_split_108 : decode cX7_split 108 = .ok (.invokevirtual 65, 3) := by decide +kernel
theorem dX7_split_111 : decode cX7_split 111 = .ok (.return_, 1) := by decide +kernel
theorem dX7_split_23 : decode cX7_split 23 = .ok (.aload_n 1, 1) := by decide +kernel
theorem dX7_split_24 : decode cX7_split 24 = .ok (.iload_n 3, 1) := by decide +kernel
theorem dX7_split_26 : decode cX7_split 26 = .ok (.sipush 255, 3) := by decide +kernel
theorem dX7_split_30 : decode cX7_split 30 = .ok (.istore 5, 2) := by decide +kernel
theorem dX7_split_32 : decode cX7_split 32 = .ok (.iload 5, 2) := by decide +kernel
theorem dX7_split_34 : decode cX7_split 34 = .ok (.bipush 10, 2) := by decide +kernel
theorem dX7_split_49 : decode cX7_split 49 = .ok (.goto 49, 3) := by decide +kernel
theorem dX7_split_101 : decode cX7_split 101 = .ok (.goto (-91), 3) := by decide +kernel
theorem dX7_split_39 : decode cX7_split 39 = .ok (.iload 5, 2) := by decide +kernel
theorem dX7_split_41 : decode cX7_split 41 = .ok (.bipush 32, 2) := by decide +kernel
theorem dX7_split_52 : decode cX7_split 52 = .ok (.iload 5, 2) := by decide +kernel
theorem dX7_split_54 : decode cX7_split 54 = .ok (.invokestatic 48, 3) := by decide +kernel
theorem dX7_split_60 : decode cX7_split 60 = .ok (.aload_n 0, 1) := by decide +kernel
theorem dX7_split_61 : decode cX7_split 61 = .ok (.aload_n 1, 1) := by decide +kernel
theorem dX7_split_62 : decode cX7_split 62 = .ok (.iload_n 3, 1) := by decide +kernel
theorem dX7_split_63 : decode cX7_split 63 = .ok (.iload_n 2, 1) := by decide +kernel
theorem dX7_split_64 : decode cX7_split 64 = .ok (.invokevirtual 52, 3) := by decide +kernel
theorem dX7_split_67 : decode cX7_split 67 = .ok (.istore_n 3, 1) := by decide +kernel
theorem dX7_split_68 : decode cX7_split 68 = .ok (.goto 30, 3) := by decide +kernel
theorem dX7_split_71 : decode cX7_split 71 = .ok (.iload 5, 2) := by decide +kernel
theorem dX7_split_73 : decode cX7_split 73 = .ok (.invokestatic 56, 3) := by decide +kernel
theorem dX7_split_79 : decode cX7_split 79 = .ok (.aload_n 0, 1) := by decide +kernel
theorem dX7_split_80 : decode cX7_split 80 = .ok (.aload_n 1, 1) := by decide +kernel
theorem dX7_split_81 : decode cX7_split 81 = .ok (.iload_n 3, 1) := by decide +kernel
theorem dX7_split_82 : decode cX7_split 82 = .ok (.iload_n 2, 1) := by decide +kernel
theorem dX7_split_83 : decode cX7_split 83 = .ok (.invokevirtual 59, 3) := by decide +kernel
theorem dX7_split_86 : decode cX7_split 86 = .ok (.istore_n 3, 1) := by decide +kernel
theorem dX7_split_87 : decode cX7_split 87 = .ok (.goto 11, 3) := by decide +kernel
theorem dX7_split_90 : decode cX7_split 90 = .ok (.aload_n 0, 1) := by decide +kernel
theorem dX7_split_91 : decode cX7_split 91 = .ok (.aload_n 1, 1) := by decide +kernel
theorem dX7_split_92 : decode cX7_split 92 = .ok (.iload_n 3, 1) := by decide +kernel
theorem dX7_split_93 : decode cX7_split 93 = .ok (.iload_n 2, 1) := by decide +kernel
theorem dX7_split_94 : decode cX7_split 94 = .ok (.invokevirtual 62, 3) := by decide +kernel
theorem dX7_split_97 : decode cX7_split 97 = .ok (.istore_n 3, 1) := by decide +kernel
theorem dX7_split_15 : decode cX7_split 15 = .ok (.if_icmp .ge 89, 3) := by decide +kernel
theorem dX7_split_20 : decode cX7_split 20 = .ok (.if_icmp .ge 84, 3) := by decide +kernel
theorem dX7_split_25 : decode cX7_split 25 = .ok (.baload, 1) := by decide +kernel
theorem dX7_split_29 : decode cX7_split 29 = .ok (.iand, 1) := by decide +kernel
theorem dX7_split_36 : decode cX7_split 36 = .ok (.if_icmp .eq 10, 3) := by decide +kernel
theorem dX7_split_46 : decode cX7_split 46 = .ok (.iinc 3 1, 3) := by decide +kernel
theorem dX7_split_98 : decode cX7_split 98 = .ok (.iinc 4 1, 3) := by decide +kernel
theorem dX7_split_43 : decode cX7_split 43 = .ok (.if_icmp .ne 9, 3) := by decide +kernel
theorem dX7_split_57 : decode cX7_split 57 = .ok (.ifCond .eq 14, 3) := by decide +kernel
theorem dX7_split_76 : decode cX7_split 76 = .ok (.ifCond .eq 14, 3) := by decide +kernel
abbrev q_X7_isLetter (dC : Nat → ClassId) (dI : Nat → Nat → Nat) (A : Nat → Prop) (v0 : Int32) : Array Value → State → Outcome → State → Prop := va_Qi (fun (r : Int32) (_ : Unit) => (r = 1 ∧ (97 ≤ v0.toInt ∧ v0.toInt ≤ 122)) ∨ (r = 0 ∧ (v0.toInt < 97 ∨ 122 < v0.toInt))) (fun (_ : Unit) (t : State) => va_P (dC, dI) vwCl [] t.heap ∧ va_D A []) A
set_option maxHeartbeats 4000000 in
set_option maxRecDepth 100000 in
theorem c_X7_isLetter (l : Launch) (dC : Nat → ClassId) (dI : Nat → Nat → Nat) (sz : Nat) (v0 : Int32)  : Met l yX7_isLetter (pw_w yX7_isLetter cX7_isLetter 1 (some .boolean)) ({ frames := 0, cells := 0, slots := 0, locals := 0 }) (va_Pc [.int v0] (fun U => U.heap.size = sz ∧ va_P (dC, dI) vwCl [] U.heap ∧ va_K (dC, dI) vwCl [] U ∧ va_D (fun _ => True) [])) (q_X7_isLetter dC dI (va_A [] sz) v0) 0 0 (va_A [] sz) := by
  refine Met.ofW (cc := cX7_isLetter) (maxL := 1) (ret := (some .boolean)) (by decide) rfl ?_
  intro p e s m args below meth c s₁ B hml hv
  obtain ⟨rfl, hsz, hP, hK, hD0⟩ := hv
  have hx := B.exec
  have hb := B.bytes
  have hr := B.returns
  have hts := atoms_spec (ws := (pw_w yX7_isLetter cX7_isLetter 1 (some .boolean))) B.pre
  have hT : ∀ w ∈ pw_T, w.before _ s = true := fun w h => hts w (List.mem_cons_of_mem _ h)
  have hown : s.vm.findClass RX7 = some m.cls := findClass_of_methodNamed B.named
  have hlocks := B.notSynchronized
  subst hsz
  have hD := hD0.self (sz := s.heap.size)
  generalize hAe : va_A [] s.heap.size = A at hD ⊢
  have hA : ∀ q : Nat, s.heap.size ≤ q → A q := fun q h => by rw [← hAe]; exact Or.inr h
  have hS : va_S A s.heap s.heap [] := va_S.rf
  have hP : va_P (dC, dI) vwCl [] s.heap := hP
  have hl := lv_entry ([.int v0]) (n := 1) (Nat.le_of_ble_eq_true rfl)
  rw [lg_entry_eq]
  generalize (lg_sl ([.int v0]) ++ List.replicate (1 - (lg_sl ([.int v0])).length) Slot.unset).toArray = ls at hl ⊢
  have hl : lv_has ls 1 [(0, .int v0)] := hl
  refine lv_iload_n hx hb dX7_isLetter_0 rfl (lv_at hl 0 rfl) ?_
  refine lv_bipush (v := 97) hx hb dX7_isLetter_1 (by decide) ?_
  refine lv_icmp_lt (tgt := 16) hx hb dX7_isLetter_3 (by decide) (fun c_1 => ?_) (fun c_1 => ?_)
  · have kc_1 := il_lt c_1
    have := (by decide : (97 : Int32).toInt = 97)
    refine lv_iconst (v := 0) hx hb dX7_isLetter_16 (by decide) ?_
    have hP9 := hP.sub (ws' := []) [] rfl
    have hD9 := hD.sub (ws' := []) [] (by decide) rfl
    have := (by decide : (0 : Int32).toInt = 0)
    exact W.zret (v := 0) hx hb hr (by decide) (fun t ht hW => ⟨⟨0, (), rfl, (by first | exact Or.inl ⟨rfl, by first | omega | trivial⟩ | exact Or.inl ⟨Int32.toInt_inj.mp (by omega), by first | omega | trivial⟩ | exact Or.inr (⟨rfl, by first | omega | trivial⟩) | exact Or.inr (⟨Int32.toInt_inj.mp (by omega), by first | omega | trivial⟩)), by rw [ht]; exact hP9, hD9⟩, hS.F ht⟩) hS.2.2 dX7_isLetter_17
  · have kc_1 := il_nlt c_1
    have := (by decide : (97 : Int32).toInt = 97)
    refine lv_iload_n hx hb dX7_isLetter_6 rfl (lv_at hl 0 rfl) ?_
    refine lv_bipush (v := 122) hx hb dX7_isLetter_7 (by decide) ?_
    refine lv_icmp_gt (tgt := 16) hx hb dX7_isLetter_9 (by decide) (fun c_2 => ?_) (fun c_2 => ?_)
    · have kc_2 := il_lt c_2
      have := (by decide : (122 : Int32).toInt = 122)
      refine lv_iconst (v := 0) hx hb dX7_isLetter_16 (by decide) ?_
      have hP9 := hP.sub (ws' := []) [] rfl
      have hD9 := hD.sub (ws' := []) [] (by decide) rfl
      have := (by decide : (0 : Int32).toInt = 0)
      exact W.zret (v := 0) hx hb hr (by decide) (fun t ht hW => ⟨⟨0, (), rfl, (by first | exact Or.inl ⟨rfl, by first | omega | trivial⟩ | exact Or.inl ⟨Int32.toInt_inj.mp (by omega), by first | omega | trivial⟩ | exact Or.inr (⟨rfl, by first | omega | trivial⟩) | exact Or.inr (⟨Int32.toInt_inj.mp (by omega), by first | omega | trivial⟩)), by rw [ht]; exact hP9, hD9⟩, hS.F ht⟩) hS.2.2 dX7_isLetter_17
    · have kc_2 := il_nlt c_2
      have := (by decide : (122 : Int32).toInt = 122)
      refine lv_iconst (v := 1) hx hb dX7_isLetter_12 (by decide) ?_
      refine lv_goto (tgt := 17) hx hb dX7_isLetter_13 (by decide) ?_
      have hP9 := hP.sub (ws' := []) [] rfl
      have hD9 := hD.sub (ws' := []) [] (by decide) rfl
      have := (by decide : (1 : Int32).toInt = 1)
      exact W.zret (v := 1) hx hb hr (by decide) (fun t ht hW => ⟨⟨1, (), rfl, (by first | exact Or.inl ⟨rfl, by first | omega | trivial⟩ | exact Or.inl ⟨Int32.toInt_inj.mp (by omega), by first | omega | trivial⟩ | exact Or.inr (⟨rfl, by first | omega | trivial⟩) | exact Or.inr (⟨Int32.toInt_inj.mp (by omega), by first | omega | trivial⟩)), by rw [ht]; exact hP9, hD9⟩, hS.F ht⟩) hS.2.2 dX7_isLetter_17
abbrev q_X7_isDigit (dC : Nat → ClassId) (dI : Nat → Nat → Nat) (A : Nat → Prop) (v0 : Int32) : Array Value → State → Outcome → State → Prop := va_Qi (fun (r : Int32) (_ : Unit) => (r = 1 ∧ (48 ≤ v0.toInt ∧ v0.toInt ≤ 57)) ∨ (r = 0 ∧ (v0.toInt < 48 ∨ 57 < v0.toInt))) (fun (_ : Unit) (t : State) => va_P (dC, dI) vwCl [] t.heap ∧ va_D A []) A
set_option maxHeartbeats 4000000 in
set_option maxRecDepth 100000 in
theorem c_X7_isDigit (l : Launch) (dC : Nat → ClassId) (dI : Nat → Nat → Nat) (sz : Nat) (v0 : Int32)  : Met l yX7_isDigit (pw_w yX7_isDigit cX7_isDigit 1 (some .boolean)) ({ frames := 0, cells := 0, slots := 0, locals := 0 }) (va_Pc [.int v0] (fun U => U.heap.size = sz ∧ va_P (dC, dI) vwCl [] U.heap ∧ va_K (dC, dI) vwCl [] U ∧ va_D (fun _ => True) [])) (q_X7_isDigit dC dI (va_A [] sz) v0) 0 0 (va_A [] sz) := by
  refine Met.ofW (cc := cX7_isDigit) (maxL := 1) (ret := (some .boolean)) (by decide) rfl ?_
  intro p e s m args below meth c s₁ B hml hv
  obtain ⟨rfl, hsz, hP, hK, hD0⟩ := hv
  have hx := B.exec
  have hb := B.bytes
  have hr := B.returns
  have hts := atoms_spec (ws := (pw_w yX7_isDigit cX7_isDigit 1 (some .boolean))) B.pre
  have hT : ∀ w ∈ pw_T, w.before _ s = true := fun w h => hts w (List.mem_cons_of_mem _ h)
  have hown : s.vm.findClass RX7 = some m.cls := findClass_of_methodNamed B.named
  have hlocks := B.notSynchronized
  subst hsz
  have hD := hD0.self (sz := s.heap.size)
  generalize hAe : va_A [] s.heap.size = A at hD ⊢
  have hA : ∀ q : Nat, s.heap.size ≤ q → A q := fun q h => by rw [← hAe]; exact Or.inr h
  have hS : va_S A s.heap s.heap [] := va_S.rf
  have hP : va_P (dC, dI) vwCl [] s.heap := hP
  have hl := lv_entry ([.int v0]) (n := 1) (Nat.le_of_ble_eq_true rfl)
  rw [lg_entry_eq]
  generalize (lg_sl ([.int v0]) ++ List.replicate (1 - (lg_sl ([.int v0])).length) Slot.unset).toArray = ls at hl ⊢
  have hl : lv_has ls 1 [(0, .int v0)] := hl
  refine lv_iload_n hx hb dX7_isDigit_0 rfl (lv_at hl 0 rfl) ?_
  refine lv_bipush (v := 48) hx hb dX7_isDigit_1 (by decide) ?_
  refine lv_icmp_lt (tgt := 16) hx hb dX7_isDigit_3 (by decide) (fun c_1 => ?_) (fun c_1 => ?_)
  · have kc_1 := il_lt c_1
    have := (by decide : (48 : Int32).toInt = 48)
    refine lv_iconst (v := 0) hx hb dX7_isDigit_16 (by decide) ?_
    have hP9 := hP.sub (ws' := []) [] rfl
    have hD9 := hD.sub (ws' := []) [] (by decide) rfl
    have := (by decide : (0 : Int32).toInt = 0)
    exact W.zret (v := 0) hx hb hr (by decide) (fun t ht hW => ⟨⟨0, (), rfl, (by first | exact Or.inl ⟨rfl, by first | omega | trivial⟩ | exact Or.inl ⟨Int32.toInt_inj.mp (by omega), by first | omega | trivial⟩ | exact Or.inr (⟨rfl, by first | omega | trivial⟩) | exact Or.inr (⟨Int32.toInt_inj.mp (by omega), by first | omega | trivial⟩)), by rw [ht]; exact hP9, hD9⟩, hS.F ht⟩) hS.2.2 dX7_isDigit_17
  · have kc_1 := il_nlt c_1
    have := (by decide : (48 : Int32).toInt = 48)
    refine lv_iload_n hx hb dX7_isDigit_6 rfl (lv_at hl 0 rfl) ?_
    refine lv_bipush (v := 57) hx hb dX7_isDigit_7 (by decide) ?_
    refine lv_icmp_gt (tgt := 16) hx hb dX7_isDigit_9 (by decide) (fun c_2 => ?_) (fun c_2 => ?_)
    · have kc_2 := il_lt c_2
      have := (by decide : (57 : Int32).toInt = 57)
      refine lv_iconst (v := 0) hx hb dX7_isDigit_16 (by decide) ?_
      have hP9 := hP.sub (ws' := []) [] rfl
      have hD9 := hD.sub (ws' := []) [] (by decide) rfl
      have := (by decide : (0 : Int32).toInt = 0)
      exact W.zret (v := 0) hx hb hr (by decide) (fun t ht hW => ⟨⟨0, (), rfl, (by first | exact Or.inl ⟨rfl, by first | omega | trivial⟩ | exact Or.inl ⟨Int32.toInt_inj.mp (by omega), by first | omega | trivial⟩ | exact Or.inr (⟨rfl, by first | omega | trivial⟩) | exact Or.inr (⟨Int32.toInt_inj.mp (by omega), by first | omega | trivial⟩)), by rw [ht]; exact hP9, hD9⟩, hS.F ht⟩) hS.2.2 dX7_isDigit_17
    · have kc_2 := il_nlt c_2
      have := (by decide : (57 : Int32).toInt = 57)
      refine lv_iconst (v := 1) hx hb dX7_isDigit_12 (by decide) ?_
      refine lv_goto (tgt := 17) hx hb dX7_isDigit_13 (by decide) ?_
      have hP9 := hP.sub (ws' := []) [] rfl
      have hD9 := hD.sub (ws' := []) [] (by decide) rfl
      have := (by decide : (1 : Int32).toInt = 1)
      exact W.zret (v := 1) hx hb hr (by decide) (fun t ht hW => ⟨⟨1, (), rfl, (by first | exact Or.inl ⟨rfl, by first | omega | trivial⟩ | exact Or.inl ⟨Int32.toInt_inj.mp (by omega), by first | omega | trivial⟩ | exact Or.inr (⟨rfl, by first | omega | trivial⟩) | exact Or.inr (⟨Int32.toInt_inj.mp (by omega), by first | omega | trivial⟩)), by rw [ht]; exact hP9, hD9⟩, hS.F ht⟩) hS.2.2 dX7_isDigit_17
abbrev q_X7_withLetter (dC : Nat → ClassId) (dI : Nat → Nat → Nat) (A : Nat → Prop) (v0 : Int32) (v1 : Int32) (v2 : Int32) : Array Value → State → Outcome → State → Prop := va_Qi (fun (r : Int32) (_ : Unit) => WLt v0 v1 v2 r) (fun (_ : Unit) (t : State) => va_P (dC, dI) vwCl [] t.heap ∧ va_D A []) A
set_option maxHeartbeats 4000000 in
set_option maxRecDepth 100000 in
theorem c_X7_withLetter (l : Launch) (dC : Nat → ClassId) (dI : Nat → Nat → Nat) (sz : Nat) (v0 : Int32) (v1 : Int32) (v2 : Int32)  : Met l yX7_withLetter (pw_w yX7_withLetter cX7_withLetter 3 (some .int)) ({ frames := 0, cells := 0, slots := 0, locals := 0 }) (va_Pc [.int v0, .int v1, .int v2] (fun U => U.heap.size = sz ∧ va_P (dC, dI) vwCl [] U.heap ∧ va_K (dC, dI) vwCl [] U ∧ va_D (fun _ => True) [])) (q_X7_withLetter dC dI (va_A [] sz) v0 v1 v2) 0 0 (va_A [] sz) := by
  refine Met.ofW (cc := cX7_withLetter) (maxL := 3) (ret := (some .int)) (by decide) rfl ?_
  intro p e s m args below meth c s₁ B hml hv
  obtain ⟨rfl, hsz, hP, hK, hD0⟩ := hv
  have hx := B.exec
  have hb := B.bytes
  have hr := B.returns
  have hts := atoms_spec (ws := (pw_w yX7_withLetter cX7_withLetter 3 (some .int))) B.pre
  have hT : ∀ w ∈ pw_T, w.before _ s = true := fun w h => hts w (List.mem_cons_of_mem _ h)
  have hown : s.vm.findClass RX7 = some m.cls := findClass_of_methodNamed B.named
  have hlocks := B.notSynchronized
  subst hsz
  have hD := hD0.self (sz := s.heap.size)
  generalize hAe : va_A [] s.heap.size = A at hD ⊢
  have hA : ∀ q : Nat, s.heap.size ≤ q → A q := fun q h => by rw [← hAe]; exact Or.inr h
  have hS : va_S A s.heap s.heap [] := va_S.rf
  have hP : va_P (dC, dI) vwCl [] s.heap := hP
  have hl := lv_entry ([.int v0, .int v1, .int v2]) (n := 3) (Nat.le_of_ble_eq_true rfl)
  rw [lg_entry_eq]
  generalize (lg_sl ([.int v0, .int v1, .int v2]) ++ List.replicate (3 - (lg_sl ([.int v0, .int v1, .int v2])).length) Slot.unset).toArray = ls at hl ⊢
  have hl : lv_has ls 3 [(0, .int v0), (1, .int v1), (2, .int v2)] := hl
  refine lv_iload_n hx hb dX7_withLetter_0 rfl (lv_at hl 0 rfl) ?_
  refine lv_iload_n hx hb dX7_withLetter_1 rfl (lv_at hl 2 rfl) ?_
  refine lv_bipush (v := 97) hx hb dX7_withLetter_2 (by decide) ?_
  refine lv_isub hx hb dX7_withLetter_4 ?_
  refine lv_topi (fun z_1 ez_1 => ?_)
  refine lv_iconst (v := 1) hx hb dX7_withLetter_5 (by decide) ?_
  refine lv_iadd hx hb dX7_withLetter_6 ?_
  refine lv_topi (fun z_2 ez_2 => ?_)
  refine lv_bipush (v := 25) hx hb dX7_withLetter_7 (by decide) ?_
  refine lv_iconst (v := 5) hx hb dX7_withLetter_9 (by decide) ?_
  refine lv_iload_n hx hb dX7_withLetter_10 rfl (lv_at hl 1 rfl) ?_
  refine lv_imul hx hb dX7_withLetter_11 ?_
  refine lv_topi (fun z_3 ez_3 => ?_)
  refine lv_isub hx hb dX7_withLetter_12 ?_
  refine lv_topi (fun z_4 ez_4 => ?_)
  refine lv_ishl hx hb dX7_withLetter_13 ?_
  refine lv_topi (fun z_5 ez_5 => ?_)
  refine lv_ior hx hb dX7_withLetter_14 ?_
  refine lv_topi (fun z_6 ez_6 => ?_)
  have hP9 := hP.sub (ws' := []) [] rfl
  have hD9 := hD.sub (ws' := []) [] (by decide) rfl
  exact W.iret (v := z_6) hx hb hr (fun t ht hW => ⟨⟨z_6, (), rfl, (by unfold WLt; rw [ez_6, ez_5, ez_4, ez_3, ez_2, ez_1]), by rw [ht]; exact hP9, hD9⟩, hS.F ht⟩) hS.2.2 dX7_withLetter_15
abbrev q_X7_add (dC : Nat → ClassId) (dI : Nat → Nat → Nat) (A : Nat → Prop) (tk : Nat) (v0 : Int32) (v1 : Int32) (v2 : Int32) (tk_count : Int32) (tk_kind : Nat) (tk_place : Nat) (tk_worth : Nat) (tk_language : Nat) (k_tk_kind : ClassId) (f_tk_kind : Nat → Int32) (k_tk_place : ClassId) (f_tk_place : Nat → Int32) (k_tk_worth : ClassId) (f_tk_worth : Nat → Int32) : Array Value → State → Outcome → State → Prop := va_Qv (fun _ : Unit => True) (fun (_ : Unit) (t : State) => ∃ (e_tk_count : Int32), ∃ (g_tk_kind : Nat → Int32), ∃ (g_tk_place : Nat → Int32), ∃ (g_tk_worth : Nat → Int32), (1 ≤ e_tk_count.toInt ∧ e_tk_count.toInt ≤ 701) ∧ (Rg g_tk_kind 0 39) ∧ (e_tk_count.toInt = tk_count.toInt + 1) ∧ (upd f_tk_kind tk_count.toNatClampNeg v0 = g_tk_kind) ∧ (upd f_tk_place tk_count.toNatClampNeg v1 = g_tk_place) ∧ (upd f_tk_worth tk_count.toNatClampNeg v2 = g_tk_worth) ∧ va_P (dC, dI) vwCl [(tk, .inr (7, [.int e_tk_count, .ref tk_kind, .ref tk_place, .ref tk_worth, .ref tk_language])), (tk_kind, .inl (k_tk_kind, 701, .inl g_tk_kind)), (tk_place, .inl (k_tk_place, 701, .inl g_tk_place)), (tk_worth, .inl (k_tk_worth, 701, .inl g_tk_worth))] t.heap ∧ va_D A [(tk, .inr (7, [.int e_tk_count, .ref tk_kind, .ref tk_place, .ref tk_worth, .ref tk_language])), (tk_kind, .inl (k_tk_kind, 701, .inl g_tk_kind)), (tk_place, .inl (k_tk_place, 701, .inl g_tk_place)), (tk_worth, .inl (k_tk_worth, 701, .inl g_tk_worth))]) A
set_option maxHeartbeats 4000000 in
set_option maxRecDepth 100000 in
theorem c_X7_add (l : Launch) (dC : Nat → ClassId) (dI : Nat → Nat → Nat) (sz : Nat) (tk : Nat) (v0 : Int32) (v1 : Int32) (v2 : Int32) (tk_count : Int32) (tk_kind : Nat) (tk_place : Nat) (tk_worth : Nat) (tk_language : Nat) (k_tk_kind : ClassId) (f_tk_kind : Nat → Int32) (k_tk_place : ClassId) (f_tk_place : Nat → Int32) (k_tk_worth : ClassId) (f_tk_worth : Nat → Int32) (h_tk_count : 0 ≤ tk_count.toInt ∧ tk_count.toInt ≤ 700) (h_f_tk_kind : Rg f_tk_kind 0 39) (h_v0 : 0 ≤ v0.toInt ∧ v0.toInt ≤ 39) : Met l yX7_add (pw_w yX7_add cX7_add 4 none) ({ frames := 0, cells := 0, slots := 0, locals := 0 }) (va_Pc [.ref tk, .int v0, .int v1, .int v2] (fun U => U.heap.size = sz ∧ va_P (dC, dI) vwCl [(tk, .inr (7, [.int tk_count, .ref tk_kind, .ref tk_place, .ref tk_worth, .ref tk_language])), (tk_kind, .inl (k_tk_kind, 701, .inl f_tk_kind)), (tk_place, .inl (k_tk_place, 701, .inl f_tk_place)), (tk_worth, .inl (k_tk_worth, 701, .inl f_tk_worth))] U.heap ∧ va_K (dC, dI) vwCl [(k_tk_kind, .int), (k_tk_place, .int), (k_tk_worth, .int)] U ∧ va_D (fun _ => True) [(tk, .inr (7, [.int tk_count, .ref tk_kind, .ref tk_place, .ref tk_worth, .ref tk_language])), (tk_kind, .inl (k_tk_kind, 701, .inl f_tk_kind)), (tk_place, .inl (k_tk_place, 701, .inl f_tk_place)), (tk_worth, .inl (k_tk_worth, 701, .inl f_tk_worth))])) (q_X7_add dC dI (va_A [(tk, .inr (7, [.int tk_count, .ref tk_kind, .ref tk_place, .ref tk_worth, .ref tk_language])), (tk_kind, .inl (k_tk_kind, 701, .inl f_tk_kind)), (tk_place, .inl (k_tk_place, 701, .inl f_tk_place)), (tk_worth, .inl (k_tk_worth, 701, .inl f_tk_worth))] sz) tk v0 v1 v2 tk_count tk_kind tk_place tk_worth tk_language k_tk_kind f_tk_kind k_tk_place f_tk_place k_tk_worth f_tk_worth) 0 0 (va_A [(tk, .inr (7, [.int tk_count, .ref tk_kind, .ref tk_place, .ref tk_worth, .ref tk_language])), (tk_kind, .inl (k_tk_kind, 701, .inl f_tk_kind)), (tk_place, .inl (k_tk_place, 701, .inl f_tk_place)), (tk_worth, .inl (k_tk_worth, 701, .inl f_tk_worth))] sz) := by
  refine Met.ofW (cc := cX7_add) (maxL := 4) (ret := none) (by decide) rfl ?_
  intro p e s m args below meth c s₁ B hml hv
  obtain ⟨rfl, hsz, hP, hK, hD0⟩ := hv
  have hx := B.exec
  have hb := B.bytes
  have hr := B.returns
  have hts := atoms_spec (ws := (pw_w yX7_add cX7_add 4 none)) B.pre
  have hT : ∀ w ∈ pw_T, w.before _ s = true := fun w h => hts w (List.mem_cons_of_mem _ h)
  have hown : s.vm.findClass RX7 = some m.cls := findClass_of_methodNamed B.named
  have hlocks := B.notSynchronized
  subst hsz
  have hD := hD0.self (sz := s.heap.size)
  generalize hAe : va_A [(tk, .inr (7, [.int tk_count, .ref tk_kind, .ref tk_place, .ref tk_worth, .ref tk_language])), (tk_kind, .inl (k_tk_kind, 701, .inl f_tk_kind)), (tk_place, .inl (k_tk_place, 701, .inl f_tk_place)), (tk_worth, .inl (k_tk_worth, 701, .inl f_tk_worth))] s.heap.size = A at hD ⊢
  have hA : ∀ q : Nat, s.heap.size ≤ q → A q := fun q h => by rw [← hAe]; exact Or.inr h
  have hS : va_S A s.heap s.heap [] := va_S.rf
  have hP : va_P (dC, dI) vwCl [(tk, .inr (7, [.int tk_count, .ref tk_kind, .ref tk_place, .ref tk_worth, .ref tk_language])), (tk_kind, .inl (k_tk_kind, 701, .inl f_tk_kind)), (tk_place, .inl (k_tk_place, 701, .inl f_tk_place)), (tk_worth, .inl (k_tk_worth, 701, .inl f_tk_worth))] s.heap := hP
  have hl := lv_entry ([.ref tk, .int v0, .int v1, .int v2]) (n := 4) (Nat.le_of_ble_eq_true rfl)
  rw [lg_entry_eq]
  generalize (lg_sl ([.ref tk, .int v0, .int v1, .int v2]) ++ List.replicate (4 - (lg_sl ([.ref tk, .int v0, .int v1, .int v2])).length) Slot.unset).toArray = ls at hl ⊢
  have hl : lv_has ls 4 [(0, .ref tk), (1, .int v0), (2, .int v1), (3, .int v2)] := hl
  refine lv_aload_n hx hb dX7_add_0 rfl (lv_at hl 0 rfl) ?_
  refine va_get (D := (dC, dI)) (ci := 7) (v := .int tk_count) (C := RX7) (T := TX7) (N := 5) hx hb hT inX7 hown hK hP 0 rfl rfl 0 (by decide) (hT _ mw_1_102) (fun _ h9 => h9) rfl dX7_add_1 ?_
  refine lv_sipush (v := 700) hx hb dX7_add_4 (by decide) ?_
  refine lv_icmp_gt (tgt := 50) hx hb dX7_add_7 (by decide) (fun c_1 => False.elim (by have := il_lt c_1; have := (by decide : (700 : Int32).toInt = 700); omega)) (fun c_1 => ?_)
  have kc_1 := il_nlt c_1
  have := (by decide : (700 : Int32).toInt = 700)
  refine lv_aload_n hx hb dX7_add_10 rfl (lv_at hl 0 rfl) ?_
  refine va_get (D := (dC, dI)) (ci := 7) (v := .ref tk_kind) (C := RX7) (T := TX7) (N := 5) hx hb hT inX7 hown hK hP 0 rfl rfl 1 (by decide) (hT _ mw_1_103) (fun _ h9 => h9) rfl dX7_add_11 ?_
  refine lv_aload_n hx hb dX7_add_14 rfl (lv_at hl 0 rfl) ?_
  refine va_get (D := (dC, dI)) (ci := 7) (v := .int tk_count) (C := RX7) (T := TX7) (N := 5) hx hb hT inX7 hown hK hP 0 rfl rfl 0 (by decide) (hT _ mw_1_102) (fun _ h9 => h9) rfl dX7_add_15 ?_
  refine lv_iload_n hx hb dX7_add_18 rfl (lv_at hl 1 rfl) ?_
  refine va_iast hx hb hK hP hD hS 1 0 rfl rfl (vp_in_iff.mpr (by omega)) dX7_add_19 (fun H locs hP hD hS => ?_)
  have hP : va_P (dC, dI) vwCl [(tk, .inr (7, [.int tk_count, .ref tk_kind, .ref tk_place, .ref tk_worth, .ref tk_language])), (tk_kind, .inl (k_tk_kind, 701, .inl (upd f_tk_kind (tk_count : Int32).toNatClampNeg (v0 : Int32)))), (tk_place, .inl (k_tk_place, 701, .inl f_tk_place)), (tk_worth, .inl (k_tk_worth, 701, .inl f_tk_worth))] H := hP
  have hD : va_D A [(tk, .inr (7, [.int tk_count, .ref tk_kind, .ref tk_place, .ref tk_worth, .ref tk_language])), (tk_kind, .inl (k_tk_kind, 701, .inl (upd f_tk_kind (tk_count : Int32).toNatClampNeg (v0 : Int32)))), (tk_place, .inl (k_tk_place, 701, .inl f_tk_place)), (tk_worth, .inl (k_tk_worth, 701, .inl f_tk_worth))] := hD
  obtain ⟨f_2, hf_2, ef_2⟩ : ∃ g : Nat → Int32, Rg g 0 39 ∧ (upd f_tk_kind (tk_count : Int32).toNatClampNeg (v0 : Int32)) = g := ⟨_, Rg_upd h_f_tk_kind (by omega), rfl⟩
  rw [ef_2] at hP hD
  refine lv_aload_n hx hb dX7_add_20 rfl (lv_at hl 0 rfl) ?_
  refine va_get (D := (dC, dI)) (ci := 7) (v := .ref tk_place) (C := RX7) (T := TX7) (N := 5) hx hb hT inX7 hown hK hP 0 rfl rfl 2 (by decide) (hT _ mw_1_105) (fun _ h9 => h9) rfl dX7_add_21 ?_
  refine lv_aload_n hx hb dX7_add_24 rfl (lv_at hl 0 rfl) ?_
  refine va_get (D := (dC, dI)) (ci := 7) (v := .int tk_count) (C := RX7) (T := TX7) (N := 5) hx hb hT inX7 hown hK hP 0 rfl rfl 0 (by decide) (hT _ mw_1_102) (fun _ h9 => h9) rfl dX7_add_25 ?_
  refine lv_iload_n hx hb dX7_add_28 rfl (lv_at hl 2 rfl) ?_
  refine va_iast hx hb hK hP hD hS 2 1 rfl rfl (vp_in_iff.mpr (by omega)) dX7_add_29 (fun H locs hP hD hS => ?_)
  have hP : va_P (dC, dI) vwCl [(tk, .inr (7, [.int tk_count, .ref tk_kind, .ref tk_place, .ref tk_worth, .ref tk_language])), (tk_kind, .inl (k_tk_kind, 701, .inl f_2)), (tk_place, .inl (k_tk_place, 701, .inl (upd f_tk_place (tk_count : Int32).toNatClampNeg (v1 : Int32)))), (tk_worth, .inl (k_tk_worth, 701, .inl f_tk_worth))] H := hP
  have hD : va_D A [(tk, .inr (7, [.int tk_count, .ref tk_kind, .ref tk_place, .ref tk_worth, .ref tk_language])), (tk_kind, .inl (k_tk_kind, 701, .inl f_2)), (tk_place, .inl (k_tk_place, 701, .inl (upd f_tk_place (tk_count : Int32).toNatClampNeg (v1 : Int32)))), (tk_worth, .inl (k_tk_worth, 701, .inl f_tk_worth))] := hD
  obtain ⟨f_3, ef_3⟩ : ∃ g : Nat → Int32, (upd f_tk_place (tk_count : Int32).toNatClampNeg (v1 : Int32)) = g := ⟨_, rfl⟩
  rw [ef_3] at hP hD
  refine lv_aload_n hx hb dX7_add_30 rfl (lv_at hl 0 rfl) ?_
  refine va_get (D := (dC, dI)) (ci := 7) (v := .ref tk_worth) (C := RX7) (T := TX7) (N := 5) hx hb hT inX7 hown hK hP 0 rfl rfl 3 (by decide) (hT _ mw_1_107) (fun _ h9 => h9) rfl dX7_add_31 ?_
  refine lv_aload_n hx hb dX7_add_34 rfl (lv_at hl 0 rfl) ?_
  refine va_get (D := (dC, dI)) (ci := 7) (v := .int tk_count) (C := RX7) (T := TX7) (N := 5) hx hb hT inX7 hown hK hP 0 rfl rfl 0 (by decide) (hT _ mw_1_102) (fun _ h9 => h9) rfl dX7_add_35 ?_
  refine lv_iload_n hx hb dX7_add_38 rfl (lv_at hl 3 rfl) ?_
  refine va_iast hx hb hK hP hD hS 3 2 rfl rfl (vp_in_iff.mpr (by omega)) dX7_add_39 (fun H locs hP hD hS => ?_)
  have hP : va_P (dC, dI) vwCl [(tk, .inr (7, [.int tk_count, .ref tk_kind, .ref tk_place, .ref tk_worth, .ref tk_language])), (tk_kind, .inl (k_tk_kind, 701, .inl f_2)), (tk_place, .inl (k_tk_place, 701, .inl f_3)), (tk_worth, .inl (k_tk_worth, 701, .inl (upd f_tk_worth (tk_count : Int32).toNatClampNeg (v2 : Int32))))] H := hP
  have hD : va_D A [(tk, .inr (7, [.int tk_count, .ref tk_kind, .ref tk_place, .ref tk_worth, .ref tk_language])), (tk_kind, .inl (k_tk_kind, 701, .inl f_2)), (tk_place, .inl (k_tk_place, 701, .inl f_3)), (tk_worth, .inl (k_tk_worth, 701, .inl (upd f_tk_worth (tk_count : Int32).toNatClampNeg (v2 : Int32))))] := hD
  obtain ⟨f_4, ef_4⟩ : ∃ g : Nat → Int32, (upd f_tk_worth (tk_count : Int32).toNatClampNeg (v2 : Int32)) = g := ⟨_, rfl⟩
  rw [ef_4] at hP hD
  refine lv_aload_n hx hb dX7_add_40 rfl (lv_at hl 0 rfl) ?_
  refine lv_dup hx hb dX7_add_41 rfl ?_
  refine va_get (D := (dC, dI)) (ci := 7) (v := .int tk_count) (C := RX7) (T := TX7) (N := 5) hx hb hT inX7 hown hK hP 0 rfl rfl 0 (by decide) (hT _ mw_1_102) (fun _ h9 => h9) rfl dX7_add_42 ?_
  refine lv_iconst (v := 1) hx hb dX7_add_45 (by decide) ?_
  refine lv_iadd hx hb dX7_add_46 ?_
  refine lv_topi (fun z_5 ez_5 => ?_)
  have kz_5 : z_5.toInt = tk_count.toInt + 1 := ti_add ez_5 rfl (by decide) (by omega) (by omega)
  clear ez_5
  refine va_put (D := (dC, dI)) (ci := 7) (v := .int z_5) (ty := .int) (C := RX7) (T := TX7) (N := 5) hx hb hT inX7 tyX7 tyX7_ok nmX7 hown hK hP hD hS 0 rfl rfl 0 (by decide) (hT _ mw_1_102) (fun _ h9 => h9) rfl (by decide +kernel) rfl rfl (Nat.le_of_ble_eq_true rfl) dX7_add_47 (fun H locs hP hD hS => ?_)
  have hP : va_P (dC, dI) vwCl [(tk, .inr (7, [.int z_5, .ref tk_kind, .ref tk_place, .ref tk_worth, .ref tk_language])), (tk_kind, .inl (k_tk_kind, 701, .inl f_2)), (tk_place, .inl (k_tk_place, 701, .inl f_3)), (tk_worth, .inl (k_tk_worth, 701, .inl f_4))] H := hP
  have hD : va_D A [(tk, .inr (7, [.int z_5, .ref tk_kind, .ref tk_place, .ref tk_worth, .ref tk_language])), (tk_kind, .inl (k_tk_kind, 701, .inl f_2)), (tk_place, .inl (k_tk_place, 701, .inl f_3)), (tk_worth, .inl (k_tk_worth, 701, .inl f_4))] := hD
  have hP9 := hP.sub (ws' := [(tk, .inr (7, [.int z_5, .ref tk_kind, .ref tk_place, .ref tk_worth, .ref tk_language])), (tk_kind, .inl (k_tk_kind, 701, .inl f_2)), (tk_place, .inl (k_tk_place, 701, .inl f_3)), (tk_worth, .inl (k_tk_worth, 701, .inl f_4))]) [0, 1, 2, 3] rfl
  have hD9 := hD.sub (ws' := [(tk, .inr (7, [.int z_5, .ref tk_kind, .ref tk_place, .ref tk_worth, .ref tk_language])), (tk_kind, .inl (k_tk_kind, 701, .inl f_2)), (tk_place, .inl (k_tk_place, 701, .inl f_3)), (tk_worth, .inl (k_tk_worth, 701, .inl f_4))]) [0, 1, 2, 3] (by decide) rfl
  exact W.vret hx hb hr (fun t ht hW => ⟨⟨(), rfl, trivial, z_5, f_2, f_3, f_4, (by omega), hf_2, (by omega), ef_2, ef_3, ef_4, by rw [ht]; exact hP9, hD9⟩, hS.F ht⟩) hS.2.2 dX7_add_50
abbrev q_X7_wordKind (dC : Nat → ClassId) (dI : Nat → Nat → Nat) (A : Nat → Prop) (tk : Nat) (v0 : Int32) (tk_count : Int32) (tk_kind : Nat) (tk_place : Nat) (tk_worth : Nat) (tk_language : Nat) (k_tk_language : ClassId) (f_tk_language : Nat → Int32) : Array Value → State → Outcome → State → Prop := va_Qi (fun (r : Int32) (_ : Unit) => (2 ≤ r.toInt ∧ r.toInt ≤ 39) ∧ (WKt f_tk_language v0 r)) (fun (_ : Unit) (t : State) => va_P (dC, dI) vwCl [(tk, .inr (7, [.int tk_count, .ref tk_kind, .ref tk_place, .ref tk_worth, .ref tk_language])), (tk_language, .inl (k_tk_language, 20, .inl f_tk_language))] t.heap ∧ va_D A [(tk, .inr (7, [.int tk_count, .ref tk_kind, .ref tk_place, .ref tk_worth, .ref tk_language])), (tk_language, .inl (k_tk_language, 20, .inl f_tk_language))]) A
set_option maxHeartbeats 4000000 in
set_option maxRecDepth 100000 in
theorem c_X7_wordKind (l : Launch) (dC : Nat → ClassId) (dI : Nat → Nat → Nat) (sz : Nat) (tk : Nat) (v0 : Int32) (tk_count : Int32) (tk_kind : Nat) (tk_place : Nat) (tk_worth : Nat) (tk_language : Nat) (k_tk_language : ClassId) (f_tk_language : Nat → Int32) (h_tk_count : 0 ≤ tk_count.toInt ∧ tk_count.toInt ≤ 701) : Met l yX7_wordKind (pw_w yX7_wordKind cX7_wordKind 3 (some .int)) ({ frames := 0, cells := 0, slots := 0, locals := 0 }) (va_Pc [.ref tk, .int v0] (fun U => U.heap.size = sz ∧ va_P (dC, dI) vwCl [(tk, .inr (7, [.int tk_count, .ref tk_kind, .ref tk_place, .ref tk_worth, .ref tk_language])), (tk_language, .inl (k_tk_language, 20, .inl f_tk_language))] U.heap ∧ va_K (dC, dI) vwCl [(k_tk_language, .int)] U ∧ va_D (fun _ => True) [(tk, .inr (7, [.int tk_count, .ref tk_kind, .ref tk_place, .ref tk_worth, .ref tk_language])), (tk_language, .inl (k_tk_language, 20, .inl f_tk_language))])) (q_X7_wordKind dC dI (va_A [(tk, .inr (7, [.int tk_count, .ref tk_kind, .ref tk_place, .ref tk_worth, .ref tk_language])), (tk_language, .inl (k_tk_language, 20, .inl f_tk_language))] sz) tk v0 tk_count tk_kind tk_place tk_worth tk_language k_tk_language f_tk_language) 0 0 (va_A [(tk, .inr (7, [.int tk_count, .ref tk_kind, .ref tk_place, .ref tk_worth, .ref tk_language])), (tk_language, .inl (k_tk_language, 20, .inl f_tk_language))] sz) := by
  refine Met.ofW (cc := cX7_wordKind) (maxL := 3) (ret := (some .int)) (by decide) rfl ?_
  intro p e s m args below meth c s₁ B hml hv
  obtain ⟨rfl, hsz, hP, hK, hD0⟩ := hv
  have hx := B.exec
  have hb := B.bytes
  have hr := B.returns
  have hts := atoms_spec (ws := (pw_w yX7_wordKind cX7_wordKind 3 (some .int))) B.pre
  have hT : ∀ w ∈ pw_T, w.before _ s = true := fun w h => hts w (List.mem_cons_of_mem _ h)
  have hown : s.vm.findClass RX7 = some m.cls := findClass_of_methodNamed B.named
  have hlocks := B.notSynchronized
  subst hsz
  have hD := hD0.self (sz := s.heap.size)
  generalize hAe : va_A [(tk, .inr (7, [.int tk_count, .ref tk_kind, .ref tk_place, .ref tk_worth, .ref tk_language])), (tk_language, .inl (k_tk_language, 20, .inl f_tk_language))] s.heap.size = A at hD ⊢
  have hA : ∀ q : Nat, s.heap.size ≤ q → A q := fun q h => by rw [← hAe]; exact Or.inr h
  have hS : va_S A s.heap s.heap [] := va_S.rf
  have hP : va_P (dC, dI) vwCl [(tk, .inr (7, [.int tk_count, .ref tk_kind, .ref tk_place, .ref tk_worth, .ref tk_language])), (tk_language, .inl (k_tk_language, 20, .inl f_tk_language))] s.heap := hP
  have hl := lv_entry ([.ref tk, .int v0]) (n := 3) (Nat.le_of_ble_eq_true rfl)
  rw [lg_entry_eq]
  generalize (lg_sl ([.ref tk, .int v0]) ++ List.replicate (3 - (lg_sl ([.ref tk, .int v0])).length) Slot.unset).toArray = ls at hl ⊢
  have hl : lv_has ls 3 [(0, .ref tk), (1, .int v0)] := hl
  refine lv_iconst (v := 0) hx hb dX7_wordKind_0 (by decide) ?_
  refine lv_istore_n (lv' := [(2, .int 0), (0, .ref tk), (1, .int v0)]) hx hb dX7_wordKind_1 rfl hl (by decide) rfl (fun ls hl => ?_)
  have loop_9 : ∀ (fu : Nat), ∀ (g_7_l2 : Int32), (0 ≤ g_7_l2.toInt ∧ g_7_l2.toInt ≤ 20) → (NWt f_tk_language v0 g_7_l2) → (20 - g_7_l2.toInt < (fu : Int)) → ∀ (H : Heap) (locs : List Loc), va_P (dC, dI) vwCl [(tk, .inr (7, [.int tk_count, .ref tk_kind, .ref tk_place, .ref tk_worth, .ref tk_language])), (tk_language, .inl (k_tk_language, 20, .inl f_tk_language))] H → va_D A [(tk, .inr (7, [.int tk_count, .ref tk_kind, .ref tk_place, .ref tk_worth, .ref tk_language])), (tk_language, .inl (k_tk_language, 20, .inl f_tk_language))] → va_S A s.heap H locs → ∀ (ls : Array Slot), lv_has ls 3 [(2, .int g_7_l2), (0, .ref tk), (1, .int v0)] → W p l e (headSpec (pw_w yX7_wordKind cX7_wordKind 3 (some .int)) ({ frames := 0, cells := 0, slots := 0, locals := 0 })).room s m ([.ref tk, .int v0] : List Value).toArray below meth c H locs 0 0 (MQ below (q_X7_wordKind dC dI A tk v0 tk_count tk_kind tk_place tk_worth tk_language k_tk_language f_tk_language) ([.ref tk, .int v0] : List Value).toArray s 0 0 A) (F0 m 2 ls []) := by
    intro fu
    induction fu with
    | zero => intro g_7_l2 hg_7_l2 hi_nf_q_8 hfu; exact absurd hfu (by omega)
    | succ fu9 ih9 =>
      intro g_7_l2 hg_7_l2 hi_nf_q_8 hfu9 H locs hP hD hS ls hl
      refine lv_iload_n hx hb dX7_wordKind_2 rfl (lv_at hl 0 rfl) ?_
      refine lv_bipush (v := 20) hx hb dX7_wordKind_3 (by decide) ?_
      refine lv_icmp_ge (tgt := 29) hx hb dX7_wordKind_5 (by decide) (fun c_10 => ?_) (fun c_10 => ?_)
      · have kc_10 := il_le c_10
        have := (by decide : (20 : Int32).toInt = 20)
        refine lv_iconst (v := 2) hx hb dX7_wordKind_29 (by decide) ?_
        have hP9 := hP.sub (ws' := [(tk, .inr (7, [.int tk_count, .ref tk_kind, .ref tk_place, .ref tk_worth, .ref tk_language])), (tk_language, .inl (k_tk_language, 20, .inl f_tk_language))]) [0, 1] rfl
        have hD9 := hD.sub (ws' := [(tk, .inr (7, [.int tk_count, .ref tk_kind, .ref tk_place, .ref tk_worth, .ref tk_language])), (tk_language, .inl (k_tk_language, 20, .inl f_tk_language))]) [0, 1] (by decide) rfl
        have := (by decide : (2 : Int32).toInt = 2)
        exact W.iret (v := 2) hx hb hr (fun t ht hW => ⟨⟨2, (), rfl, ⟨(by decide), WKt_n hi_nf_q_8 (by omega)⟩, by rw [ht]; exact hP9, hD9⟩, hS.F ht⟩) hS.2.2 dX7_wordKind_30
      · have kc_10 := il_nle c_10
        have := (by decide : (20 : Int32).toInt = 20)
        refine lv_aload_n hx hb dX7_wordKind_8 rfl (lv_at hl 1 rfl) ?_
        refine va_get (D := (dC, dI)) (ci := 7) (v := .ref tk_language) (C := RX7) (T := TX7) (N := 5) hx hb hT inX7 hown hK hP 0 rfl rfl 4 (by decide) (hT _ mw_1_109) (fun _ h9 => h9) rfl dX7_wordKind_9 ?_
        refine lv_iload_n hx hb dX7_wordKind_12 rfl (lv_at hl 0 rfl) ?_
        refine va_iald hx hb hK hP 1 0 rfl rfl (vp_in_iff.mpr (by omega)) dX7_wordKind_13 ?_
        refine lv_topi (fun z_11 ez_11 => ?_)
        refine lv_iload_n hx hb dX7_wordKind_14 rfl (lv_at hl 2 rfl) ?_
        refine lv_icmp_ne (tgt := 23) hx hb dX7_wordKind_15 (by decide) (fun c_12 => ?_) (fun c_12 => ?_)
        · have kc_12 := il_ne c_12
          have := Int32.toInt_lt z_11; have := Int32.le_toInt z_11
          have := Int32.toInt_lt v0; have := Int32.le_toInt v0
          obtain ⟨z_13, ez_13⟩ : ∃ y : Int32, y = g_7_l2 + Int32.ofInt (1) := ⟨_, rfl⟩
          have kz_13 : z_13.toInt = g_7_l2.toInt + (1) := ti_add ez_13 rfl (by decide) (by omega) (by omega)
          refine lv_iinc (v := z_13) (lv' := [(2, .int z_13), (0, .ref tk), (1, .int v0)]) hx hb dX7_wordKind_23 hl (k := 0) rfl (ez_13.symm) (by decide) rfl (fun ls hl => ?_)
          clear ez_13
          refine lv_goto (tgt := 2) hx hb dX7_wordKind_26 (by decide) ?_
          exact ih9 z_13 (by omega) (NWt_s hi_nf_q_8 ez_11 (by omega) (by omega) (by omega)) (by omega) _ _ (hP.sub [0, 1] rfl) (hD.sub [0, 1] (by decide) rfl) hS _ (lv_sub hl [0, 1, 2] rfl)
        · have kc_12 := il_eq c_12
          have := Int32.toInt_lt z_11; have := Int32.le_toInt z_11
          have := Int32.toInt_lt v0; have := Int32.le_toInt v0
          refine lv_bipush (v := 20) hx hb dX7_wordKind_18 (by decide) ?_
          refine lv_iload_n hx hb dX7_wordKind_20 rfl (lv_at hl 0 rfl) ?_
          refine lv_iadd hx hb dX7_wordKind_21 ?_
          refine lv_topi (fun z_14 ez_14 => ?_)
          have kz_14 : z_14.toInt = 20 + g_7_l2.toInt := ti_add ez_14 (by decide) rfl (by omega) (by omega)
          clear ez_14
          have hP9 := hP.sub (ws' := [(tk, .inr (7, [.int tk_count, .ref tk_kind, .ref tk_place, .ref tk_worth, .ref tk_language])), (tk_language, .inl (k_tk_language, 20, .inl f_tk_language))]) [0, 1] rfl
          have hD9 := hD.sub (ws' := [(tk, .inr (7, [.int tk_count, .ref tk_kind, .ref tk_place, .ref tk_worth, .ref tk_language])), (tk_language, .inl (k_tk_language, 20, .inl f_tk_language))]) [0, 1] (by decide) rfl
          exact W.iret (v := z_14) hx hb hr (fun t ht hW => ⟨⟨z_14, (), rfl, ⟨(by omega), WKt_y ez_11 (by omega) (by omega) (by omega) (by omega)⟩, by rw [ht]; exact hP9, hD9⟩, hS.F ht⟩) hS.2.2 dX7_wordKind_22
  have := (by decide : (0 : Int32).toInt = 0)
  exact loop_9 4294967296 (0 : Int32) (by decide) NWt_0 (by omega) _ _ (hP.sub [0, 1] rfl) (hD.sub [0, 1] (by decide) rfl) hS _ (lv_sub hl [0, 1, 2] rfl)
abbrev q_X7_signKind (dC : Nat → ClassId) (dI : Nat → Nat → Nat) (A : Nat → Prop) (v0 : Int32) : Array Value → State → Outcome → State → Prop := va_Qi (fun (r : Int32) (_ : Unit) => (3 ≤ r.toInt ∧ r.toInt ≤ 16) ∧ (SKt v0.toInt r.toInt)) (fun (_ : Unit) (t : State) => va_P (dC, dI) vwCl [] t.heap ∧ va_D A []) A
set_option maxHeartbeats 4000000 in
set_option maxRecDepth 100000 in
theorem c_X7_signKind (l : Launch) (dC : Nat → ClassId) (dI : Nat → Nat → Nat) (sz : Nat) (v0 : Int32)  : Met l yX7_signKind (pw_w yX7_signKind cX7_signKind 1 (some .int)) ({ frames := 0, cells := 0, slots := 0, locals := 0 }) (va_Pc [.int v0] (fun U => U.heap.size = sz ∧ va_P (dC, dI) vwCl [] U.heap ∧ va_K (dC, dI) vwCl [] U ∧ va_D (fun _ => True) [])) (q_X7_signKind dC dI (va_A [] sz) v0) 0 0 (va_A [] sz) := by
  refine Met.ofW (cc := cX7_signKind) (maxL := 1) (ret := (some .int)) (by decide) rfl ?_
  intro p e s m args below meth c s₁ B hml hv
  obtain ⟨rfl, hsz, hP, hK, hD0⟩ := hv
  have hx := B.exec
  have hb := B.bytes
  have hr := B.returns
  have hts := atoms_spec (ws := (pw_w yX7_signKind cX7_signKind 1 (some .int))) B.pre
  have hT : ∀ w ∈ pw_T, w.before _ s = true := fun w h => hts w (List.mem_cons_of_mem _ h)
  have hown : s.vm.findClass RX7 = some m.cls := findClass_of_methodNamed B.named
  have hlocks := B.notSynchronized
  subst hsz
  have hD := hD0.self (sz := s.heap.size)
  generalize hAe : va_A [] s.heap.size = A at hD ⊢
  have hA : ∀ q : Nat, s.heap.size ≤ q → A q := fun q h => by rw [← hAe]; exact Or.inr h
  have hS : va_S A s.heap s.heap [] := va_S.rf
  have hP : va_P (dC, dI) vwCl [] s.heap := hP
  have hl := lv_entry ([.int v0]) (n := 1) (Nat.le_of_ble_eq_true rfl)
  rw [lg_entry_eq]
  generalize (lg_sl ([.int v0]) ++ List.replicate (1 - (lg_sl ([.int v0])).length) Slot.unset).toArray = ls at hl ⊢
  have hl : lv_has ls 1 [(0, .int v0)] := hl
  refine lv_iload_n hx hb dX7_signKind_0 rfl (lv_at hl 0 rfl) ?_
  by_cases w_1 : v0 = 40
  · have kw_1 := il_eq w_1
    have := (by decide : (40 : Int32).toInt = 40)
    refine lv_tableIn (off := 109) (tgt := 110) hx hb dX7_signKind_1 (by rw [w_1]; decide) (by rw [w_1]; decide) (by rw [w_1]; decide) (by decide) ?_
    refine lv_iconst (v := 5) hx hb dX7_signKind_110 (by decide) ?_
    have hP9 := hP.sub (ws' := []) [] rfl
    have hD9 := hD.sub (ws' := []) [] (by decide) rfl
    have := (by decide : (5 : Int32).toInt = 5)
    exact W.iret (v := 5) hx hb hr (fun t ht hW => ⟨⟨5, (), rfl, ⟨(by decide), Or.inr (Or.inr (Or.inr (Or.inl ⟨(by omega), (by decide)⟩)))⟩, by rw [ht]; exact hP9, hD9⟩, hS.F ht⟩) hS.2.2 dX7_signKind_111
  · have kw_1 := il_ne w_1
    have := (by decide : (40 : Int32).toInt = 40)
    by_cases w_2 : v0 = 41
    · have kw_2 := il_eq w_2
      have := (by decide : (41 : Int32).toInt = 41)
      refine lv_tableIn (off := 111) (tgt := 112) hx hb dX7_signKind_1 (by rw [w_2]; decide) (by rw [w_2]; decide) (by rw [w_2]; decide) (by decide) ?_
      refine lv_bipush (v := 6) hx hb dX7_signKind_112 (by decide) ?_
      have hP9 := hP.sub (ws' := []) [] rfl
      have hD9 := hD.sub (ws' := []) [] (by decide) rfl
      have := (by decide : (6 : Int32).toInt = 6)
      exact W.iret (v := 6) hx hb hr (fun t ht hW => ⟨⟨6, (), rfl, ⟨(by decide), Or.inr (Or.inr (Or.inr (Or.inr (Or.inl ⟨(by omega), (by decide)⟩))))⟩, by rw [ht]; exact hP9, hD9⟩, hS.F ht⟩) hS.2.2 dX7_signKind_114
    · have kw_2 := il_ne w_2
      have := (by decide : (41 : Int32).toInt = 41)
      by_cases w_3 : v0 = 42
      · have kw_3 := il_eq w_3
        have := (by decide : (42 : Int32).toInt = 42)
        refine lv_tableIn (off := 120) (tgt := 121) hx hb dX7_signKind_1 (by rw [w_3]; decide) (by rw [w_3]; decide) (by rw [w_3]; decide) (by decide) ?_
        refine lv_bipush (v := 9) hx hb dX7_signKind_121 (by decide) ?_
        have hP9 := hP.sub (ws' := []) [] rfl
        have hD9 := hD.sub (ws' := []) [] (by decide) rfl
        have := (by decide : (9 : Int32).toInt = 9)
        exact W.iret (v := 9) hx hb hr (fun t ht hW => ⟨⟨9, (), rfl, ⟨(by decide), Or.inr (Or.inr (Or.inr (Or.inr (Or.inr (Or.inr (Or.inr (Or.inl ⟨(by omega), (by decide)⟩)))))))⟩, by rw [ht]; exact hP9, hD9⟩, hS.F ht⟩) hS.2.2 dX7_signKind_123
      · have kw_3 := il_ne w_3
        have := (by decide : (42 : Int32).toInt = 42)
        by_cases w_4 : v0 = 43
        · have kw_4 := il_eq w_4
          have := (by decide : (43 : Int32).toInt = 43)
          refine lv_tableIn (off := 114) (tgt := 115) hx hb dX7_signKind_1 (by rw [w_4]; decide) (by rw [w_4]; decide) (by rw [w_4]; decide) (by decide) ?_
          refine lv_bipush (v := 7) hx hb dX7_signKind_115 (by decide) ?_
          have hP9 := hP.sub (ws' := []) [] rfl
          have hD9 := hD.sub (ws' := []) [] (by decide) rfl
          have := (by decide : (7 : Int32).toInt = 7)
          exact W.iret (v := 7) hx hb hr (fun t ht hW => ⟨⟨7, (), rfl, ⟨(by decide), Or.inr (Or.inr (Or.inr (Or.inr (Or.inr (Or.inl ⟨(by omega), (by decide)⟩)))))⟩, by rw [ht]; exact hP9, hD9⟩, hS.F ht⟩) hS.2.2 dX7_signKind_117
        · have kw_4 := il_ne w_4
          have := (by decide : (43 : Int32).toInt = 43)
          by_cases w_5 : v0 = 44
          · have kw_5 := il_eq w_5
            have := (by decide : (44 : Int32).toInt = 44)
            refine lv_tableIn (off := 135) (tgt := 136) hx hb dX7_signKind_1 (by rw [w_5]; decide) (by rw [w_5]; decide) (by rw [w_5]; decide) (by decide) ?_
            refine lv_iconst (v := 3) hx hb dX7_signKind_136 (by decide) ?_
            have hP9 := hP.sub (ws' := []) [] rfl
            have hD9 := hD.sub (ws' := []) [] (by decide) rfl
            have := (by decide : (3 : Int32).toInt = 3)
            exact W.iret (v := 3) hx hb hr (fun t ht hW => ⟨⟨3, (), rfl, ⟨(by decide), Or.inr (Or.inr (Or.inr (Or.inr (Or.inr (Or.inr (Or.inr (Or.inr (Or.inr (Or.inr (⟨(by omega), (by omega), (by omega), (by omega), (by omega), (by omega), (by omega), (by omega), (by omega), (by omega), (by decide)⟩))))))))))⟩, by rw [ht]; exact hP9, hD9⟩, hS.F ht⟩) hS.2.2 dX7_signKind_137
          · have kw_5 := il_ne w_5
            have := (by decide : (44 : Int32).toInt = 44)
            by_cases w_6 : v0 = 45
            · have kw_6 := il_eq w_6
              have := (by decide : (45 : Int32).toInt = 45)
              refine lv_tableIn (off := 117) (tgt := 118) hx hb dX7_signKind_1 (by rw [w_6]; decide) (by rw [w_6]; decide) (by rw [w_6]; decide) (by decide) ?_
              refine lv_bipush (v := 8) hx hb dX7_signKind_118 (by decide) ?_
              have hP9 := hP.sub (ws' := []) [] rfl
              have hD9 := hD.sub (ws' := []) [] (by decide) rfl
              have := (by decide : (8 : Int32).toInt = 8)
              exact W.iret (v := 8) hx hb hr (fun t ht hW => ⟨⟨8, (), rfl, ⟨(by decide), Or.inr (Or.inr (Or.inr (Or.inr (Or.inr (Or.inr (Or.inl ⟨(by omega), (by decide)⟩))))))⟩, by rw [ht]; exact hP9, hD9⟩, hS.F ht⟩) hS.2.2 dX7_signKind_120
            · have kw_6 := il_ne w_6
              have := (by decide : (45 : Int32).toInt = 45)
              by_cases w_7 : v0 = 46
              · have kw_7 := il_eq w_7
                have := (by decide : (46 : Int32).toInt = 46)
                refine lv_tableIn (off := 135) (tgt := 136) hx hb dX7_signKind_1 (by rw [w_7]; decide) (by rw [w_7]; decide) (by rw [w_7]; decide) (by decide) ?_
                refine lv_iconst (v := 3) hx hb dX7_signKind_136 (by decide) ?_
                have hP9 := hP.sub (ws' := []) [] rfl
                have hD9 := hD.sub (ws' := []) [] (by decide) rfl
                have := (by decide : (3 : Int32).toInt = 3)
                exact W.iret (v := 3) hx hb hr (fun t ht hW => ⟨⟨3, (), rfl, ⟨(by decide), Or.inr (Or.inr (Or.inr (Or.inr (Or.inr (Or.inr (Or.inr (Or.inr (Or.inr (Or.inr (⟨(by omega), (by omega), (by omega), (by omega), (by omega), (by omega), (by omega), (by omega), (by omega), (by omega), (by decide)⟩))))))))))⟩, by rw [ht]; exact hP9, hD9⟩, hS.F ht⟩) hS.2.2 dX7_signKind_137
              · have kw_7 := il_ne w_7
                have := (by decide : (46 : Int32).toInt = 46)
                by_cases w_8 : v0 = 47
                · have kw_8 := il_eq w_8
                  have := (by decide : (47 : Int32).toInt = 47)
                  refine lv_tableIn (off := 123) (tgt := 124) hx hb dX7_signKind_1 (by rw [w_8]; decide) (by rw [w_8]; decide) (by rw [w_8]; decide) (by decide) ?_
                  refine lv_bipush (v := 10) hx hb dX7_signKind_124 (by decide) ?_
                  have hP9 := hP.sub (ws' := []) [] rfl
                  have hD9 := hD.sub (ws' := []) [] (by decide) rfl
                  have := (by decide : (10 : Int32).toInt = 10)
                  exact W.iret (v := 10) hx hb hr (fun t ht hW => ⟨⟨10, (), rfl, ⟨(by decide), Or.inr (Or.inr (Or.inr (Or.inr (Or.inr (Or.inr (Or.inr (Or.inr (Or.inl ⟨(by omega), (by decide)⟩))))))))⟩, by rw [ht]; exact hP9, hD9⟩, hS.F ht⟩) hS.2.2 dX7_signKind_126
                · have kw_8 := il_ne w_8
                  have := (by decide : (47 : Int32).toInt = 47)
                  by_cases w_9 : v0 = 48
                  · have kw_9 := il_eq w_9
                    have := (by decide : (48 : Int32).toInt = 48)
                    refine lv_tableIn (off := 135) (tgt := 136) hx hb dX7_signKind_1 (by rw [w_9]; decide) (by rw [w_9]; decide) (by rw [w_9]; decide) (by decide) ?_
                    refine lv_iconst (v := 3) hx hb dX7_signKind_136 (by decide) ?_
                    have hP9 := hP.sub (ws' := []) [] rfl
                    have hD9 := hD.sub (ws' := []) [] (by decide) rfl
                    have := (by decide : (3 : Int32).toInt = 3)
                    exact W.iret (v := 3) hx hb hr (fun t ht hW => ⟨⟨3, (), rfl, ⟨(by decide), Or.inr (Or.inr (Or.inr (Or.inr (Or.inr (Or.inr (Or.inr (Or.inr (Or.inr (Or.inr (⟨(by omega), (by omega), (by omega), (by omega), (by omega), (by omega), (by omega), (by omega), (by omega), (by omega), (by decide)⟩))))))))))⟩, by rw [ht]; exact hP9, hD9⟩, hS.F ht⟩) hS.2.2 dX7_signKind_137
                  · have kw_9 := il_ne w_9
                    have := (by decide : (48 : Int32).toInt = 48)
                    by_cases w_10 : v0 = 49
                    · have kw_10 := il_eq w_10
                      have := (by decide : (49 : Int32).toInt = 49)
                      refine lv_tableIn (off := 135) (tgt := 136) hx hb dX7_signKind_1 (by rw [w_10]; decide) (by rw [w_10]; decide) (by rw [w_10]; decide) (by decide) ?_
                      refine lv_iconst (v := 3) hx hb dX7_signKind_136 (by decide) ?_
                      have hP9 := hP.sub (ws' := []) [] rfl
                      have hD9 := hD.sub (ws' := []) [] (by decide) rfl
                      have := (by decide : (3 : Int32).toInt = 3)
                      exact W.iret (v := 3) hx hb hr (fun t ht hW => ⟨⟨3, (), rfl, ⟨(by decide), Or.inr (Or.inr (Or.inr (Or.inr (Or.inr (Or.inr (Or.inr (Or.inr (Or.inr (Or.inr (⟨(by omega), (by omega), (by omega), (by omega), (by omega), (by omega), (by omega), (by omega), (by omega), (by omega), (by decide)⟩))))))))))⟩, by rw [ht]; exact hP9, hD9⟩, hS.F ht⟩) hS.2.2 dX7_signKind_137
                    · have kw_10 := il_ne w_10
                      have := (by decide : (49 : Int32).toInt = 49)
                      by_cases w_11 : v0 = 50
                      · have kw_11 := il_eq w_11
                        have := (by decide : (50 : Int32).toInt = 50)
                        refine lv_tableIn (off := 135) (tgt := 136) hx hb dX7_signKind_1 (by rw [w_11]; decide) (by rw [w_11]; decide) (by rw [w_11]; decide) (by decide) ?_
                        refine lv_iconst (v := 3) hx hb dX7_signKind_136 (by decide) ?_
                        have hP9 := hP.sub (ws' := []) [] rfl
                        have hD9 := hD.sub (ws' := []) [] (by decide) rfl
                        have := (by decide : (3 : Int32).toInt = 3)
                        exact W.iret (v := 3) hx hb hr (fun t ht hW => ⟨⟨3, (), rfl, ⟨(by decide), Or.inr (Or.inr (Or.inr (Or.inr (Or.inr (Or.inr (Or.inr (Or.inr (Or.inr (Or.inr (⟨(by omega), (by omega), (by omega), (by omega), (by omega), (by omega), (by omega), (by omega), (by omega), (by omega), (by decide)⟩))))))))))⟩, by rw [ht]; exact hP9, hD9⟩, hS.F ht⟩) hS.2.2 dX7_signKind_137
                      · have kw_11 := il_ne w_11
                        have := (by decide : (50 : Int32).toInt = 50)
                        by_cases w_12 : v0 = 51
                        · have kw_12 := il_eq w_12
                          have := (by decide : (51 : Int32).toInt = 51)
                          refine lv_tableIn (off := 135) (tgt := 136) hx hb dX7_signKind_1 (by rw [w_12]; decide) (by rw [w_12]; decide) (by rw [w_12]; decide) (by decide) ?_
                          refine lv_iconst (v := 3) hx hb dX7_signKind_136 (by decide) ?_
                          have hP9 := hP.sub (ws' := []) [] rfl
                          have hD9 := hD.sub (ws' := []) [] (by decide) rfl
                          have := (by decide : (3 : Int32).toInt = 3)
                          exact W.iret (v := 3) hx hb hr (fun t ht hW => ⟨⟨3, (), rfl, ⟨(by decide), Or.inr (Or.inr (Or.inr (Or.inr (Or.inr (Or.inr (Or.inr (Or.inr (Or.inr (Or.inr (⟨(by omega), (by omega), (by omega), (by omega), (by omega), (by omega), (by omega), (by omega), (by omega), (by omega), (by decide)⟩))))))))))⟩, by rw [ht]; exact hP9, hD9⟩, hS.F ht⟩) hS.2.2 dX7_signKind_137
                        · have kw_12 := il_ne w_12
                          have := (by decide : (51 : Int32).toInt = 51)
                          by_cases w_13 : v0 = 52
                          · have kw_13 := il_eq w_13
                            have := (by decide : (52 : Int32).toInt = 52)
                            refine lv_tableIn (off := 135) (tgt := 136) hx hb dX7_signKind_1 (by rw [w_13]; decide) (by rw [w_13]; decide) (by rw [w_13]; decide) (by decide) ?_
                            refine lv_iconst (v := 3) hx hb dX7_signKind_136 (by decide) ?_
                            have hP9 := hP.sub (ws' := []) [] rfl
                            have hD9 := hD.sub (ws' := []) [] (by decide) rfl
                            have := (by decide : (3 : Int32).toInt = 3)
                            exact W.iret (v := 3) hx hb hr (fun t ht hW => ⟨⟨3, (), rfl, ⟨(by decide), Or.inr (Or.inr (Or.inr (Or.inr (Or.inr (Or.inr (Or.inr (Or.inr (Or.inr (Or.inr (⟨(by omega), (by omega), (by omega), (by omega), (by omega), (by omega), (by omega), (by omega), (by omega), (by omega), (by decide)⟩))))))))))⟩, by rw [ht]; exact hP9, hD9⟩, hS.F ht⟩) hS.2.2 dX7_signKind_137
                          · have kw_13 := il_ne w_13
                            have := (by decide : (52 : Int32).toInt = 52)
                            by_cases w_14 : v0 = 53
                            · have kw_14 := il_eq w_14
                              have := (by decide : (53 : Int32).toInt = 53)
                              refine lv_tableIn (off := 135) (tgt := 136) hx hb dX7_signKind_1 (by rw [w_14]; decide) (by rw [w_14]; decide) (by rw [w_14]; decide) (by decide) ?_
                              refine lv_iconst (v := 3) hx hb dX7_signKind_136 (by decide) ?_
                              have hP9 := hP.sub (ws' := []) [] rfl
                              have hD9 := hD.sub (ws' := []) [] (by decide) rfl
                              have := (by decide : (3 : Int32).toInt = 3)
                              exact W.iret (v := 3) hx hb hr (fun t ht hW => ⟨⟨3, (), rfl, ⟨(by decide), Or.inr (Or.inr (Or.inr (Or.inr (Or.inr (Or.inr (Or.inr (Or.inr (Or.inr (Or.inr (⟨(by omega), (by omega), (by omega), (by omega), (by omega), (by omega), (by omega), (by omega), (by omega), (by omega), (by decide)⟩))))))))))⟩, by rw [ht]; exact hP9, hD9⟩, hS.F ht⟩) hS.2.2 dX7_signKind_137
                            · have kw_14 := il_ne w_14
                              have := (by decide : (53 : Int32).toInt = 53)
                              by_cases w_15 : v0 = 54
                              · have kw_15 := il_eq w_15
                                have := (by decide : (54 : Int32).toInt = 54)
                                refine lv_tableIn (off := 135) (tgt := 136) hx hb dX7_signKind_1 (by rw [w_15]; decide) (by rw [w_15]; decide) (by rw [w_15]; decide) (by decide) ?_
                                refine lv_iconst (v := 3) hx hb dX7_signKind_136 (by decide) ?_
                                have hP9 := hP.sub (ws' := []) [] rfl
                                have hD9 := hD.sub (ws' := []) [] (by decide) rfl
                                have := (by decide : (3 : Int32).toInt = 3)
                                exact W.iret (v := 3) hx hb hr (fun t ht hW => ⟨⟨3, (), rfl, ⟨(by decide), Or.inr (Or.inr (Or.inr (Or.inr (Or.inr (Or.inr (Or.inr (Or.inr (Or.inr (Or.inr (⟨(by omega), (by omega), (by omega), (by omega), (by omega), (by omega), (by omega), (by omega), (by omega), (by omega), (by decide)⟩))))))))))⟩, by rw [ht]; exact hP9, hD9⟩, hS.F ht⟩) hS.2.2 dX7_signKind_137
                              · have kw_15 := il_ne w_15
                                have := (by decide : (54 : Int32).toInt = 54)
                                by_cases w_16 : v0 = 55
                                · have kw_16 := il_eq w_16
                                  have := (by decide : (55 : Int32).toInt = 55)
                                  refine lv_tableIn (off := 135) (tgt := 136) hx hb dX7_signKind_1 (by rw [w_16]; decide) (by rw [w_16]; decide) (by rw [w_16]; decide) (by decide) ?_
                                  refine lv_iconst (v := 3) hx hb dX7_signKind_136 (by decide) ?_
                                  have hP9 := hP.sub (ws' := []) [] rfl
                                  have hD9 := hD.sub (ws' := []) [] (by decide) rfl
                                  have := (by decide : (3 : Int32).toInt = 3)
                                  exact W.iret (v := 3) hx hb hr (fun t ht hW => ⟨⟨3, (), rfl, ⟨(by decide), Or.inr (Or.inr (Or.inr (Or.inr (Or.inr (Or.inr (Or.inr (Or.inr (Or.inr (Or.inr (⟨(by omega), (by omega), (by omega), (by omega), (by omega), (by omega), (by omega), (by omega), (by omega), (by omega), (by decide)⟩))))))))))⟩, by rw [ht]; exact hP9, hD9⟩, hS.F ht⟩) hS.2.2 dX7_signKind_137
                                · have kw_16 := il_ne w_16
                                  have := (by decide : (55 : Int32).toInt = 55)
                                  by_cases w_17 : v0 = 56
                                  · have kw_17 := il_eq w_17
                                    have := (by decide : (56 : Int32).toInt = 56)
                                    refine lv_tableIn (off := 135) (tgt := 136) hx hb dX7_signKind_1 (by rw [w_17]; decide) (by rw [w_17]; decide) (by rw [w_17]; decide) (by decide) ?_
                                    refine lv_iconst (v := 3) hx hb dX7_signKind_136 (by decide) ?_
                                    have hP9 := hP.sub (ws' := []) [] rfl
                                    have hD9 := hD.sub (ws' := []) [] (by decide) rfl
                                    have := (by decide : (3 : Int32).toInt = 3)
                                    exact W.iret (v := 3) hx hb hr (fun t ht hW => ⟨⟨3, (), rfl, ⟨(by decide), Or.inr (Or.inr (Or.inr (Or.inr (Or.inr (Or.inr (Or.inr (Or.inr (Or.inr (Or.inr (⟨(by omega), (by omega), (by omega), (by omega), (by omega), (by omega), (by omega), (by omega), (by omega), (by omega), (by decide)⟩))))))))))⟩, by rw [ht]; exact hP9, hD9⟩, hS.F ht⟩) hS.2.2 dX7_signKind_137
                                  · have kw_17 := il_ne w_17
                                    have := (by decide : (56 : Int32).toInt = 56)
                                    by_cases w_18 : v0 = 57
                                    · have kw_18 := il_eq w_18
                                      have := (by decide : (57 : Int32).toInt = 57)
                                      refine lv_tableIn (off := 135) (tgt := 136) hx hb dX7_signKind_1 (by rw [w_18]; decide) (by rw [w_18]; decide) (by rw [w_18]; decide) (by decide) ?_
                                      refine lv_iconst (v := 3) hx hb dX7_signKind_136 (by decide) ?_
                                      have hP9 := hP.sub (ws' := []) [] rfl
                                      have hD9 := hD.sub (ws' := []) [] (by decide) rfl
                                      have := (by decide : (3 : Int32).toInt = 3)
                                      exact W.iret (v := 3) hx hb hr (fun t ht hW => ⟨⟨3, (), rfl, ⟨(by decide), Or.inr (Or.inr (Or.inr (Or.inr (Or.inr (Or.inr (Or.inr (Or.inr (Or.inr (Or.inr (⟨(by omega), (by omega), (by omega), (by omega), (by omega), (by omega), (by omega), (by omega), (by omega), (by omega), (by decide)⟩))))))))))⟩, by rw [ht]; exact hP9, hD9⟩, hS.F ht⟩) hS.2.2 dX7_signKind_137
                                    · have kw_18 := il_ne w_18
                                      have := (by decide : (57 : Int32).toInt = 57)
                                      by_cases w_19 : v0 = 58
                                      · have kw_19 := il_eq w_19
                                        have := (by decide : (58 : Int32).toInt = 58)
                                        refine lv_tableIn (off := 135) (tgt := 136) hx hb dX7_signKind_1 (by rw [w_19]; decide) (by rw [w_19]; decide) (by rw [w_19]; decide) (by decide) ?_
                                        refine lv_iconst (v := 3) hx hb dX7_signKind_136 (by decide) ?_
                                        have hP9 := hP.sub (ws' := []) [] rfl
                                        have hD9 := hD.sub (ws' := []) [] (by decide) rfl
                                        have := (by decide : (3 : Int32).toInt = 3)
                                        exact W.iret (v := 3) hx hb hr (fun t ht hW => ⟨⟨3, (), rfl, ⟨(by decide), Or.inr (Or.inr (Or.inr (Or.inr (Or.inr (Or.inr (Or.inr (Or.inr (Or.inr (Or.inr (⟨(by omega), (by omega), (by omega), (by omega), (by omega), (by omega), (by omega), (by omega), (by omega), (by omega), (by decide)⟩))))))))))⟩, by rw [ht]; exact hP9, hD9⟩, hS.F ht⟩) hS.2.2 dX7_signKind_137
                                      · have kw_19 := il_ne w_19
                                        have := (by decide : (58 : Int32).toInt = 58)
                                        by_cases w_20 : v0 = 59
                                        · have kw_20 := il_eq w_20
                                          have := (by decide : (59 : Int32).toInt = 59)
                                          refine lv_tableIn (off := 107) (tgt := 108) hx hb dX7_signKind_1 (by rw [w_20]; decide) (by rw [w_20]; decide) (by rw [w_20]; decide) (by decide) ?_
                                          refine lv_iconst (v := 4) hx hb dX7_signKind_108 (by decide) ?_
                                          have hP9 := hP.sub (ws' := []) [] rfl
                                          have hD9 := hD.sub (ws' := []) [] (by decide) rfl
                                          have := (by decide : (4 : Int32).toInt = 4)
                                          exact W.iret (v := 4) hx hb hr (fun t ht hW => ⟨⟨4, (), rfl, ⟨(by decide), Or.inr (Or.inr (Or.inl ⟨(by omega), (by decide)⟩))⟩, by rw [ht]; exact hP9, hD9⟩, hS.F ht⟩) hS.2.2 dX7_signKind_109
                                        · have kw_20 := il_ne w_20
                                          have := (by decide : (59 : Int32).toInt = 59)
                                          by_cases w_21 : v0 = 60
                                          · have kw_21 := il_eq w_21
                                            have := (by decide : (60 : Int32).toInt = 60)
                                            refine lv_tableIn (off := 126) (tgt := 127) hx hb dX7_signKind_1 (by rw [w_21]; decide) (by rw [w_21]; decide) (by rw [w_21]; decide) (by decide) ?_
                                            refine lv_bipush (v := 11) hx hb dX7_signKind_127 (by decide) ?_
                                            have hP9 := hP.sub (ws' := []) [] rfl
                                            have hD9 := hD.sub (ws' := []) [] (by decide) rfl
                                            have := (by decide : (11 : Int32).toInt = 11)
                                            exact W.iret (v := 11) hx hb hr (fun t ht hW => ⟨⟨11, (), rfl, ⟨(by decide), Or.inl ⟨(by omega), (by decide)⟩⟩, by rw [ht]; exact hP9, hD9⟩, hS.F ht⟩) hS.2.2 dX7_signKind_129
                                          · have kw_21 := il_ne w_21
                                            have := (by decide : (60 : Int32).toInt = 60)
                                            by_cases w_22 : v0 = 61
                                            · have kw_22 := il_eq w_22
                                              have := (by decide : (61 : Int32).toInt = 61)
                                              refine lv_tableIn (off := 129) (tgt := 130) hx hb dX7_signKind_1 (by rw [w_22]; decide) (by rw [w_22]; decide) (by rw [w_22]; decide) (by decide) ?_
                                              refine lv_bipush (v := 13) hx hb dX7_signKind_130 (by decide) ?_
                                              have hP9 := hP.sub (ws' := []) [] rfl
                                              have hD9 := hD.sub (ws' := []) [] (by decide) rfl
                                              have := (by decide : (13 : Int32).toInt = 13)
                                              exact W.iret (v := 13) hx hb hr (fun t ht hW => ⟨⟨13, (), rfl, ⟨(by decide), Or.inr (Or.inr (Or.inr (Or.inr (Or.inr (Or.inr (Or.inr (Or.inr (Or.inr (Or.inl ⟨(by omega), (by decide)⟩)))))))))⟩, by rw [ht]; exact hP9, hD9⟩, hS.F ht⟩) hS.2.2 dX7_signKind_132
                                            · have kw_22 := il_ne w_22
                                              have := (by decide : (61 : Int32).toInt = 61)
                                              by_cases w_23 : v0 = 62
                                              · have kw_23 := il_eq w_23
                                                have := (by decide : (62 : Int32).toInt = 62)
                                                refine lv_tableIn (off := 132) (tgt := 133) hx hb dX7_signKind_1 (by rw [w_23]; decide) (by rw [w_23]; decide) (by rw [w_23]; decide) (by decide) ?_
                                                refine lv_bipush (v := 16) hx hb dX7_signKind_133 (by decide) ?_
                                                have hP9 := hP.sub (ws' := []) [] rfl
                                                have hD9 := hD.sub (ws' := []) [] (by decide) rfl
                                                have := (by decide : (16 : Int32).toInt = 16)
                                                exact W.iret (v := 16) hx hb hr (fun t ht hW => ⟨⟨16, (), rfl, ⟨(by decide), Or.inr (Or.inl ⟨(by omega), (by decide)⟩)⟩, by rw [ht]; exact hP9, hD9⟩, hS.F ht⟩) hS.2.2 dX7_signKind_135
                                              · have kw_23 := il_ne w_23
                                                have := (by decide : (62 : Int32).toInt = 62)
                                                refine lv_tableOut (tgt := 136) hx hb dX7_signKind_1 (by omega) (by decide) ?_
                                                refine lv_iconst (v := 3) hx hb dX7_signKind_136 (by decide) ?_
                                                have hP9 := hP.sub (ws' := []) [] rfl
                                                have hD9 := hD.sub (ws' := []) [] (by decide) rfl
                                                have := (by decide : (3 : Int32).toInt = 3)
                                                exact W.iret (v := 3) hx hb hr (fun t ht hW => ⟨⟨3, (), rfl, ⟨(by decide), Or.inr (Or.inr (Or.inr (Or.inr (Or.inr (Or.inr (Or.inr (Or.inr (Or.inr (Or.inr (⟨(by omega), (by omega), (by omega), (by omega), (by omega), (by omega), (by omega), (by omega), (by omega), (by omega), (by decide)⟩))))))))))⟩, by rw [ht]; exact hP9, hD9⟩, hS.F ht⟩) hS.2.2 dX7_signKind_137
abbrev q_X7_takeWord (dC : Nat → ClassId) (dI : Nat → Nat → Nat) (A : Nat → Prop) (tk : Nat) (bb : Nat) (vf : Int32) (vl : Int32) (tk_count : Int32) (tk_kind : Nat) (tk_place : Nat) (tk_worth : Nat) (tk_language : Nat) (k_tk_kind : ClassId) (f_tk_kind : Nat → Int32) (k_tk_place : ClassId) (f_tk_place : Nat → Int32) (k_tk_worth : ClassId) (f_tk_worth : Nat → Int32) (k_tk_language : ClassId) (f_tk_language : Nat → Int32) (kbb : ClassId) (fbb : Nat → Int32) : Array Value → State → Outcome → State → Prop := va_Qi (fun (r : Int32) (e_r : Int32) => r = e_r ∧ ((0 ≤ r.toInt ∧ r.toInt ≤ 700))) (fun (e_r : Int32) (t : State) => ∃ (e_tk_count : Int32), ∃ (g_tk_kind : Nat → Int32), ∃ (g_tk_place : Nat → Int32), ∃ (g_tk_worth : Nat → Int32), (1 ≤ e_tk_count.toInt ∧ e_tk_count.toInt ≤ 701) ∧ (Rg g_tk_kind 0 39) ∧ (TWt fbb f_tk_kind f_tk_place f_tk_worth tk_count vf vl g_tk_kind g_tk_place g_tk_worth e_tk_count e_r) ∧ va_P (dC, dI) vwCl [(tk, .inr (7, [.int e_tk_count, .ref tk_kind, .ref tk_place, .ref tk_worth, .ref tk_language])), (tk_kind, .inl (k_tk_kind, 701, .inl g_tk_kind)), (tk_place, .inl (k_tk_place, 701, .inl g_tk_place)), (tk_worth, .inl (k_tk_worth, 701, .inl g_tk_worth)), (tk_language, .inl (k_tk_language, 20, .inl f_tk_language)), (bb, .inl (kbb, 700, .inl fbb))] t.heap ∧ va_D A [(tk, .inr (7, [.int e_tk_count, .ref tk_kind, .ref tk_place, .ref tk_worth, .ref tk_language])), (tk_kind, .inl (k_tk_kind, 701, .inl g_tk_kind)), (tk_place, .inl (k_tk_place, 701, .inl g_tk_place)), (tk_worth, .inl (k_tk_worth, 701, .inl g_tk_worth)), (tk_language, .inl (k_tk_language, 20, .inl f_tk_language)), (bb, .inl (kbb, 700, .inl fbb))]) A
set_option maxHeartbeats 4000000 in
set_option maxRecDepth 100000 in
theorem c_X7_takeWord (l : Launch) (dC : Nat → ClassId) (dI : Nat → Nat → Nat) (sz : Nat) (tk : Nat) (bb : Nat) (vf : Int32) (vl : Int32) (tk_count : Int32) (tk_kind : Nat) (tk_place : Nat) (tk_worth : Nat) (tk_language : Nat) (k_tk_kind : ClassId) (f_tk_kind : Nat → Int32) (k_tk_place : ClassId) (f_tk_place : Nat → Int32) (k_tk_worth : ClassId) (f_tk_worth : Nat → Int32) (k_tk_language : ClassId) (f_tk_language : Nat → Int32) (kbb : ClassId) (fbb : Nat → Int32) (h_tk_count : 0 ≤ tk_count.toInt ∧ tk_count.toInt ≤ 700) (h_f_tk_kind : Rg f_tk_kind 0 39) (h_fbb : Rg fbb (-128) 127) (h_vf : 0 ≤ vf.toInt ∧ vf.toInt ≤ 699) (h_vl : 0 ≤ vl.toInt ∧ vl.toInt ≤ 700) (hlt : vf.toInt < vl.toInt) (hlg : LGt f_tk_language) (hsm : 97 ≤ (fbb vf.toNatClampNeg).toInt ∧ (fbb vf.toNatClampNeg).toInt ≤ 122) : Met l yX7_takeWord (pw_w yX7_takeWord cX7_takeWord 6 (some .int)) ({ frames := 1, cells := 0, slots := 0, locals := 23 }) (va_Pc [.ref tk, .ref bb, .int vf, .int vl] (fun U => U.heap.size = sz ∧ va_P (dC, dI) vwCl [(tk, .inr (7, [.int tk_count, .ref tk_kind, .ref tk_place, .ref tk_worth, .ref tk_language])), (tk_kind, .inl (k_tk_kind, 701, .inl f_tk_kind)), (tk_place, .inl (k_tk_place, 701, .inl f_tk_place)), (tk_worth, .inl (k_tk_worth, 701, .inl f_tk_worth)), (tk_language, .inl (k_tk_language, 20, .inl f_tk_language)), (bb, .inl (kbb, 700, .inl fbb))] U.heap ∧ va_K (dC, dI) vwCl [(k_tk_kind, .int), (k_tk_place, .int), (k_tk_worth, .int), (k_tk_language, .int), (kbb, .byte)] U ∧ va_D (fun _ => True) [(tk, .inr (7, [.int tk_count, .ref tk_kind, .ref tk_place, .ref tk_worth, .ref tk_language])), (tk_kind, .inl (k_tk_kind, 701, .inl f_tk_kind)), (tk_place, .inl (k_tk_place, 701, .inl f_tk_place)), (tk_worth, .inl (k_tk_worth, 701, .inl f_tk_worth)), (tk_language, .inl (k_tk_language, 20, .inl f_tk_language)), (bb, .inl (kbb, 700, .inl fbb))])) (q_X7_takeWord dC dI (va_A [(tk, .inr (7, [.int tk_count, .ref tk_kind, .ref tk_place, .ref tk_worth, .ref tk_language])), (tk_kind, .inl (k_tk_kind, 701, .inl f_tk_kind)), (tk_place, .inl (k_tk_place, 701, .inl f_tk_place)), (tk_worth, .inl (k_tk_worth, 701, .inl f_tk_worth)), (tk_language, .inl (k_tk_language, 20, .inl f_tk_language)), (bb, .inl (kbb, 700, .inl fbb))] sz) tk bb vf vl tk_count tk_kind tk_place tk_worth tk_language k_tk_kind f_tk_kind k_tk_place f_tk_place k_tk_worth f_tk_worth k_tk_language f_tk_language kbb fbb) 0 0 (va_A [(tk, .inr (7, [.int tk_count, .ref tk_kind, .ref tk_place, .ref tk_worth, .ref tk_language])), (tk_kind, .inl (k_tk_kind, 701, .inl f_tk_kind)), (tk_place, .inl (k_tk_place, 701, .inl f_tk_place)), (tk_worth, .inl (k_tk_worth, 701, .inl f_tk_worth)), (tk_language, .inl (k_tk_language, 20, .inl f_tk_language)), (bb, .inl (kbb, 700, .inl fbb))] sz) := by
  refine Met.ofW (cc := cX7_takeWord) (maxL := 6) (ret := (some .int)) (by decide) rfl ?_
  intro p e s m args below meth c s₁ B hml hv
  obtain ⟨rfl, hsz, hP, hK, hD0⟩ := hv
  have hx := B.exec
  have hb := B.bytes
  have hr := B.returns
  have hts := atoms_spec (ws := (pw_w yX7_takeWord cX7_takeWord 6 (some .int))) B.pre
  have hT : ∀ w ∈ pw_T, w.before _ s = true := fun w h => hts w (List.mem_cons_of_mem _ h)
  have hown : s.vm.findClass RX7 = some m.cls := findClass_of_methodNamed B.named
  have hlocks := B.notSynchronized
  subst hsz
  have hD := hD0.self (sz := s.heap.size)
  generalize hAe : va_A [(tk, .inr (7, [.int tk_count, .ref tk_kind, .ref tk_place, .ref tk_worth, .ref tk_language])), (tk_kind, .inl (k_tk_kind, 701, .inl f_tk_kind)), (tk_place, .inl (k_tk_place, 701, .inl f_tk_place)), (tk_worth, .inl (k_tk_worth, 701, .inl f_tk_worth)), (tk_language, .inl (k_tk_language, 20, .inl f_tk_language)), (bb, .inl (kbb, 700, .inl fbb))] s.heap.size = A at hD ⊢
  have hA : ∀ q : Nat, s.heap.size ≤ q → A q := fun q h => by rw [← hAe]; exact Or.inr h
  have hS : va_S A s.heap s.heap [] := va_S.rf
  have hP : va_P (dC, dI) vwCl [(tk, .inr (7, [.int tk_count, .ref tk_kind, .ref tk_place, .ref tk_worth, .ref tk_language])), (tk_kind, .inl (k_tk_kind, 701, .inl f_tk_kind)), (tk_place, .inl (k_tk_place, 701, .inl f_tk_place)), (tk_worth, .inl (k_tk_worth, 701, .inl f_tk_worth)), (tk_language, .inl (k_tk_language, 20, .inl f_tk_language)), (bb, .inl (kbb, 700, .inl fbb))] s.heap := hP
  have hl := lv_entry ([.ref tk, .ref bb, .int vf, .int vl]) (n := 6) (Nat.le_of_ble_eq_true rfl)
  rw [lg_entry_eq]
  generalize (lg_sl ([.ref tk, .ref bb, .int vf, .int vl]) ++ List.replicate (6 - (lg_sl ([.ref tk, .ref bb, .int vf, .int vl])).length) Slot.unset).toArray = ls at hl ⊢
  have hl : lv_has ls 6 [(0, .ref tk), (1, .ref bb), (2, .int vf), (3, .int vl)] := hl
  refine lv_iconst (v := 0) hx hb dX7_takeWord_0 (by decide) ?_
  refine lv_istore (lv' := [(4, .int 0), (0, .ref tk), (1, .ref bb), (2, .int vf), (3, .int vl)]) hx hb dX7_takeWord_1 hl (by decide) rfl (fun ls hl => ?_)
  refine lv_iload_n hx hb dX7_takeWord_3 rfl (lv_at hl 3 rfl) ?_
  refine lv_istore (lv' := [(5, .int vf), (4, .int 0), (0, .ref tk), (1, .ref bb), (2, .int vf), (3, .int vl)]) hx hb dX7_takeWord_4 hl (by decide) rfl (fun ls hl => ?_)
  have loop_42 : ∀ (fu : Nat), ∀ (g_40_l5 : Int32), ∀ (g_40_l4 : Int32), (0 ≤ g_40_l5.toInt ∧ g_40_l5.toInt ≤ 700) → (PKt fbb vf g_40_l5 g_40_l4) → (vf.toInt ≤ g_40_l5.toInt) → (g_40_l5.toInt ≤ vl.toInt) → (700 - g_40_l5.toInt < (fu : Int)) → ∀ (H : Heap) (locs : List Loc), va_P (dC, dI) vwCl [(tk, .inr (7, [.int tk_count, .ref tk_kind, .ref tk_place, .ref tk_worth, .ref tk_language])), (tk_kind, .inl (k_tk_kind, 701, .inl f_tk_kind)), (tk_place, .inl (k_tk_place, 701, .inl f_tk_place)), (tk_worth, .inl (k_tk_worth, 701, .inl f_tk_worth)), (tk_language, .inl (k_tk_language, 20, .inl f_tk_language)), (bb, .inl (kbb, 700, .inl fbb))] H → va_D A [(tk, .inr (7, [.int tk_count, .ref tk_kind, .ref tk_place, .ref tk_worth, .ref tk_language])), (tk_kind, .inl (k_tk_kind, 701, .inl f_tk_kind)), (tk_place, .inl (k_tk_place, 701, .inl f_tk_place)), (tk_worth, .inl (k_tk_worth, 701, .inl f_tk_worth)), (tk_language, .inl (k_tk_language, 20, .inl f_tk_language)), (bb, .inl (kbb, 700, .inl fbb))] → va_S A s.heap H locs → ∀ (ls : Array Slot), lv_has ls 6 [(5, .int g_40_l5), (4, .int g_40_l4), (0, .ref tk), (1, .ref bb), (2, .int vf), (3, .int vl)] → W p l e (headSpec (pw_w yX7_takeWord cX7_takeWord 6 (some .int)) ({ frames := 1, cells := 0, slots := 0, locals := 23 })).room s m ([.ref tk, .ref bb, .int vf, .int vl] : List Value).toArray below meth c H locs 0 0 (MQ below (q_X7_takeWord dC dI A tk bb vf vl tk_count tk_kind tk_place tk_worth tk_language k_tk_kind f_tk_kind k_tk_place f_tk_place k_tk_worth f_tk_worth k_tk_language f_tk_language kbb fbb) ([.ref tk, .ref bb, .int vf, .int vl] : List Value).toArray s 0 0 A) (F0 m 6 ls []) := by
    intro fu
    induction fu with
    | zero => intro g_40_l5 g_40_l4 hg_40_l5 hi_pk_q_41 hx0 hx1 hfu; exact absurd hfu (by omega)
    | succ fu42 ih42 =>
      intro g_40_l5 g_40_l4 hg_40_l5 hi_pk_q_41 hx0 hx1 hfu42 H locs hP hD hS ls hl
      refine lv_iload hx hb dX7_takeWord_6 (lv_at hl 0 rfl) ?_
      refine lv_iload_n hx hb dX7_takeWord_8 rfl (lv_at hl 5 rfl) ?_
      refine lv_icmp_ge (tgt := 52) hx hb dX7_takeWord_9 (by decide) (fun c_43 => ?_) (fun c_43 => ?_)
      · have kc_43 := il_le c_43
        refine lv_aload_n hx hb dX7_takeWord_52 rfl (lv_at hl 2 rfl) ?_
        refine lv_iload hx hb dX7_takeWord_53 (lv_at hl 0 rfl) ?_
        refine lv_iload_n hx hb dX7_takeWord_55 rfl (lv_at hl 4 rfl) ?_
        refine lv_isub hx hb dX7_takeWord_56 ?_
        refine lv_topi (fun z_44 ez_44 => ?_)
        have kz_44 : z_44.toInt = g_40_l5.toInt - vf.toInt := ti_sub ez_44 rfl rfl (by omega) (by omega)
        clear ez_44
        refine lv_bipush (v := 6) hx hb dX7_takeWord_57 (by decide) ?_
        refine lv_icmp_le (tgt := 66) hx hb dX7_takeWord_59 (by decide) (fun c_45 => ?_) (fun c_45 => ?_)
        · have kc_45 := il_le c_45
          have := (by decide : (6 : Int32).toInt = 6)
          refine lv_aload_n hx hb dX7_takeWord_66 rfl (lv_at hl 2 rfl) ?_
          refine lv_iload hx hb dX7_takeWord_67 (lv_at hl 1 rfl) ?_
          have hPc := hP.sub (ws' := [(tk, .inr (7, [.int tk_count, .ref tk_kind, .ref tk_place, .ref tk_worth, .ref tk_language])), (tk_language, .inl (k_tk_language, 20, .inl f_tk_language))]) [0, 4] rfl
          have hDc := hD.sub (ws' := [(tk, .inr (7, [.int tk_count, .ref tk_kind, .ref tk_place, .ref tk_worth, .ref tk_language])), (tk_language, .inl (k_tk_language, 20, .inl f_tk_language))]) [0, 4] (by decide) rfl
          have hKc := hK.sub (tys' := [(k_tk_language, .int)]) [3] rfl
          have hFc := va_free (wc := [(tk, .inr (7, [.int tk_count, .ref tk_kind, .ref tk_place, .ref tk_worth, .ref tk_language])), (tk_language, .inl (k_tk_language, 20, .inl f_tk_language))]) hD hS hA [0, 4] rfl
          refine va_calli (va_runV (As := [.int g_40_l4]) (rest := [.ref tk]) ⟨hx, hb, hml, hown, hT⟩ (c_X7_wordKind l dC dI H.size tk g_40_l4 tk_count tk_kind tk_place tk_worth tk_language k_tk_language f_tk_language (by omega)) (cwV 1 hT (gwV mw_3_86 mw_3_88 mp_1_1 mw_1_3 mw_3_89) rfl rfl rfl (by decide +kernel) ⟨Nat.le_of_ble_eq_true rfl, Nat.le_of_ble_eq_true rfl⟩) ⟨fun a U g mk q => by obtain ⟨q0, q1, qP, qK, qD⟩ := q; exact ⟨q0, q1, qP, va_K.moved (u := U) (U := U.calling g mk a) (Vm.Alike.refl U.vm) qK, qD⟩, va_recv hK hP (ci := 7) (q0 := 0) rfl rfl, fun U hU hW => ⟨rfl, by rw [hU], by rw [hU]; exact hPc, va_K.moved hW.alike hKc, hDc.weaken (fun _ _ _ _ => trivial)⟩⟩ rfl rfl hl.1 rfl (lv_room (Nat.le_of_ble_eq_true rfl)) dX7_takeWord_69 ⟨Nat.le_of_ble_eq_true rfl, Nat.le_of_ble_eq_true rfl⟩) hS (fun q _ h => hFc q h) hFc (fun r_46 u t H1 locs ht hvm hw hB hz1 hk1 hS => ?_)
          obtain ⟨hP1, hD1⟩ := hB
          rw [ht] at hP1
          obtain ⟨hP, hD⟩ := va_join (wr := [(tk_kind, .inl (k_tk_kind, 701, .inl f_tk_kind)), (tk_place, .inl (k_tk_place, 701, .inl f_tk_place)), (tk_worth, .inl (k_tk_worth, 701, .inl f_tk_worth)), (bb, .inl (kbb, 700, .inl fbb))]) (w1 := [(tk, .inr (7, [.int tk_count, .ref tk_kind, .ref tk_place, .ref tk_worth, .ref tk_language])), (tk_language, .inl (k_tk_language, 20, .inl f_tk_language))]) hP hD [0, 4] [1, 2, 3, 5] rfl rfl (by decide) (by decide) hk1 hFc hP1 hD1
          generalize H1 = H at hP hS ⊢
          have hP : va_P (dC, dI) vwCl [(tk_kind, .inl (k_tk_kind, 701, .inl f_tk_kind)), (tk_place, .inl (k_tk_place, 701, .inl f_tk_place)), (tk_worth, .inl (k_tk_worth, 701, .inl f_tk_worth)), (bb, .inl (kbb, 700, .inl fbb)), (tk, .inr (7, [.int tk_count, .ref tk_kind, .ref tk_place, .ref tk_worth, .ref tk_language])), (tk_language, .inl (k_tk_language, 20, .inl f_tk_language))] H := hP
          have hD : va_D A [(tk_kind, .inl (k_tk_kind, 701, .inl f_tk_kind)), (tk_place, .inl (k_tk_place, 701, .inl f_tk_place)), (tk_worth, .inl (k_tk_worth, 701, .inl f_tk_worth)), (bb, .inl (kbb, 700, .inl fbb)), (tk, .inr (7, [.int tk_count, .ref tk_kind, .ref tk_place, .ref tk_worth, .ref tk_language])), (tk_language, .inl (k_tk_language, 20, .inl f_tk_language))] := hD
          clear hPc hDc hKc hFc hP1 hD1 hk1 hz1 ht hvm
          have hwr_46 : (2 ≤ r_46.toInt ∧ r_46.toInt ≤ 39) ∧ (WKt f_tk_language g_40_l4 r_46) := hw
          clear hw
          refine lv_iload_n hx hb dX7_takeWord_72 rfl (lv_at hl 4 rfl) ?_
          refine lv_iload hx hb dX7_takeWord_73 (lv_at hl 1 rfl) ?_
          have hPc := hP.sub (ws' := [(tk, .inr (7, [.int tk_count, .ref tk_kind, .ref tk_place, .ref tk_worth, .ref tk_language])), (tk_kind, .inl (k_tk_kind, 701, .inl f_tk_kind)), (tk_place, .inl (k_tk_place, 701, .inl f_tk_place)), (tk_worth, .inl (k_tk_worth, 701, .inl f_tk_worth))]) [4, 0, 1, 2] rfl
          have hDc := hD.sub (ws' := [(tk, .inr (7, [.int tk_count, .ref tk_kind, .ref tk_place, .ref tk_worth, .ref tk_language])), (tk_kind, .inl (k_tk_kind, 701, .inl f_tk_kind)), (tk_place, .inl (k_tk_place, 701, .inl f_tk_place)), (tk_worth, .inl (k_tk_worth, 701, .inl f_tk_worth))]) [4, 0, 1, 2] (by decide) rfl
          have hKc := hK.sub (tys' := [(k_tk_kind, .int), (k_tk_place, .int), (k_tk_worth, .int)]) [0, 1, 2] rfl
          have hFc := va_free (wc := [(tk, .inr (7, [.int tk_count, .ref tk_kind, .ref tk_place, .ref tk_worth, .ref tk_language])), (tk_kind, .inl (k_tk_kind, 701, .inl f_tk_kind)), (tk_place, .inl (k_tk_place, 701, .inl f_tk_place)), (tk_worth, .inl (k_tk_worth, 701, .inl f_tk_worth))]) hD hS hA [4, 0, 1, 2] rfl
          refine va_callv (va_runV (As := [.int r_46, .int vf, .int g_40_l4]) (rest := []) ⟨hx, hb, hml, hown, hT⟩ (c_X7_add l dC dI H.size tk r_46 vf g_40_l4 tk_count tk_kind tk_place tk_worth tk_language k_tk_kind f_tk_kind k_tk_place f_tk_place k_tk_worth f_tk_worth (by omega) h_f_tk_kind (by omega)) (cwV 3 hT (gwV mw_3_90 mw_3_92 mp_1_2 mw_1_3 mw_3_93) rfl rfl rfl (by decide +kernel) ⟨Nat.le_of_ble_eq_true rfl, Nat.le_of_ble_eq_true rfl⟩) ⟨fun a U g mk q => by obtain ⟨q0, q1, qP, qK, qD⟩ := q; exact ⟨q0, q1, qP, va_K.moved (u := U) (U := U.calling g mk a) (Vm.Alike.refl U.vm) qK, qD⟩, va_recv hK hP (ci := 7) (q0 := 4) rfl rfl, fun U hU hW => ⟨rfl, by rw [hU], by rw [hU]; exact hPc, va_K.moved hW.alike hKc, hDc.weaken (fun _ _ _ _ => trivial)⟩⟩ rfl rfl hl.1 rfl (lv_room (Nat.le_of_ble_eq_true rfl)) dX7_takeWord_75 ⟨Nat.le_of_ble_eq_true rfl, Nat.le_of_ble_eq_true rfl⟩) hS (fun q _ h => hFc q h) hFc (fun u t H1 locs ht hvm hw hB hz1 hk1 hS => ?_)
          obtain ⟨x_48, x_49, x_50, x_51, hpr_47_0, hpr_47_1, hpr_47_2, hpr_47_3, hpr_47_4, hpr_47_5, hP1, hD1⟩ := hB
          rw [ht] at hP1
          obtain ⟨hP, hD⟩ := va_join (wr := [(bb, .inl (kbb, 700, .inl fbb)), (tk_language, .inl (k_tk_language, 20, .inl f_tk_language))]) (w1 := [(tk, .inr (7, [.int x_48, .ref tk_kind, .ref tk_place, .ref tk_worth, .ref tk_language])), (tk_kind, .inl (k_tk_kind, 701, .inl x_49)), (tk_place, .inl (k_tk_place, 701, .inl x_50)), (tk_worth, .inl (k_tk_worth, 701, .inl x_51))]) hP hD [4, 0, 1, 2] [3, 5] rfl rfl (by decide) (by decide) hk1 hFc hP1 hD1
          generalize H1 = H at hP hS ⊢
          have hP : va_P (dC, dI) vwCl [(bb, .inl (kbb, 700, .inl fbb)), (tk_language, .inl (k_tk_language, 20, .inl f_tk_language)), (tk, .inr (7, [.int x_48, .ref tk_kind, .ref tk_place, .ref tk_worth, .ref tk_language])), (tk_kind, .inl (k_tk_kind, 701, .inl x_49)), (tk_place, .inl (k_tk_place, 701, .inl x_50)), (tk_worth, .inl (k_tk_worth, 701, .inl x_51))] H := hP
          have hD : va_D A [(bb, .inl (kbb, 700, .inl fbb)), (tk_language, .inl (k_tk_language, 20, .inl f_tk_language)), (tk, .inr (7, [.int x_48, .ref tk_kind, .ref tk_place, .ref tk_worth, .ref tk_language])), (tk_kind, .inl (k_tk_kind, 701, .inl x_49)), (tk_place, .inl (k_tk_place, 701, .inl x_50)), (tk_worth, .inl (k_tk_worth, 701, .inl x_51))] := hD
          clear hPc hDc hKc hFc hP1 hD1 hk1 hz1 ht hvm
          clear hw
          refine lv_iload hx hb dX7_takeWord_78 (lv_at hl 0 rfl) ?_
          have hP9 := hP.sub (ws' := [(tk, .inr (7, [.int x_48, .ref tk_kind, .ref tk_place, .ref tk_worth, .ref tk_language])), (tk_kind, .inl (k_tk_kind, 701, .inl x_49)), (tk_place, .inl (k_tk_place, 701, .inl x_50)), (tk_worth, .inl (k_tk_worth, 701, .inl x_51)), (tk_language, .inl (k_tk_language, 20, .inl f_tk_language)), (bb, .inl (kbb, 700, .inl fbb))]) [2, 3, 4, 5, 1, 0] rfl
          have hD9 := hD.sub (ws' := [(tk, .inr (7, [.int x_48, .ref tk_kind, .ref tk_place, .ref tk_worth, .ref tk_language])), (tk_kind, .inl (k_tk_kind, 701, .inl x_49)), (tk_place, .inl (k_tk_place, 701, .inl x_50)), (tk_worth, .inl (k_tk_worth, 701, .inl x_51)), (tk_language, .inl (k_tk_language, 20, .inl f_tk_language)), (bb, .inl (kbb, 700, .inl fbb))]) [2, 3, 4, 5, 1, 0] (by decide) rfl
          exact W.iret (v := g_40_l5) hx hb hr (fun t ht hW => ⟨⟨g_40_l5, g_40_l5, rfl, ⟨rfl, (by first | omega | (refine ⟨?_, ?_⟩ <;> omega) | rfl | (intros; omega))⟩, x_48, x_49, x_50, x_51, (by omega), hpr_47_1, ⟨r_46, g_40_l4, hpr_47_2, hpr_47_3, hpr_47_4, hpr_47_5, (by omega), (by omega), tw_word hi_pk_q_41 hlg (by omega) (by omega) (by omega) (Or.inl (by omega)) (Or.inr ⟨(by omega), hwr_46.2⟩)⟩, by rw [ht]; exact hP9, hD9⟩, hS.F ht⟩) hS.2.2 dX7_takeWord_80
        · have kc_45 := il_nle c_45
          have := (by decide : (6 : Int32).toInt = 6)
          refine lv_iconst (v := 3) hx hb dX7_takeWord_62 (by decide) ?_
          refine lv_goto (tgt := 72) hx hb dX7_takeWord_63 (by decide) ?_
          refine lv_iload_n hx hb dX7_takeWord_72 rfl (lv_at hl 4 rfl) ?_
          refine lv_iload hx hb dX7_takeWord_73 (lv_at hl 1 rfl) ?_
          have hPc := hP.sub (ws' := [(tk, .inr (7, [.int tk_count, .ref tk_kind, .ref tk_place, .ref tk_worth, .ref tk_language])), (tk_kind, .inl (k_tk_kind, 701, .inl f_tk_kind)), (tk_place, .inl (k_tk_place, 701, .inl f_tk_place)), (tk_worth, .inl (k_tk_worth, 701, .inl f_tk_worth))]) [0, 1, 2, 3] rfl
          have hDc := hD.sub (ws' := [(tk, .inr (7, [.int tk_count, .ref tk_kind, .ref tk_place, .ref tk_worth, .ref tk_language])), (tk_kind, .inl (k_tk_kind, 701, .inl f_tk_kind)), (tk_place, .inl (k_tk_place, 701, .inl f_tk_place)), (tk_worth, .inl (k_tk_worth, 701, .inl f_tk_worth))]) [0, 1, 2, 3] (by decide) rfl
          have hKc := hK.sub (tys' := [(k_tk_kind, .int), (k_tk_place, .int), (k_tk_worth, .int)]) [0, 1, 2] rfl
          have hFc := va_free (wc := [(tk, .inr (7, [.int tk_count, .ref tk_kind, .ref tk_place, .ref tk_worth, .ref tk_language])), (tk_kind, .inl (k_tk_kind, 701, .inl f_tk_kind)), (tk_place, .inl (k_tk_place, 701, .inl f_tk_place)), (tk_worth, .inl (k_tk_worth, 701, .inl f_tk_worth))]) hD hS hA [0, 1, 2, 3] rfl
          have := (by decide : (3 : Int32).toInt = 3)
          refine va_callv (va_runV (As := [.int 3, .int vf, .int g_40_l4]) (rest := []) ⟨hx, hb, hml, hown, hT⟩ (c_X7_add l dC dI H.size tk (3 : Int32) vf g_40_l4 tk_count tk_kind tk_place tk_worth tk_language k_tk_kind f_tk_kind k_tk_place f_tk_place k_tk_worth f_tk_worth (by omega) h_f_tk_kind (by decide)) (cwV 3 hT (gwV mw_3_90 mw_3_92 mp_1_2 mw_1_3 mw_3_93) rfl rfl rfl (by decide +kernel) ⟨Nat.le_of_ble_eq_true rfl, Nat.le_of_ble_eq_true rfl⟩) ⟨fun a U g mk q => by obtain ⟨q0, q1, qP, qK, qD⟩ := q; exact ⟨q0, q1, qP, va_K.moved (u := U) (U := U.calling g mk a) (Vm.Alike.refl U.vm) qK, qD⟩, va_recv hK hP (ci := 7) (q0 := 0) rfl rfl, fun U hU hW => ⟨rfl, by rw [hU], by rw [hU]; exact hPc, va_K.moved hW.alike hKc, hDc.weaken (fun _ _ _ _ => trivial)⟩⟩ rfl rfl hl.1 rfl (lv_room (Nat.le_of_ble_eq_true rfl)) dX7_takeWord_75 ⟨Nat.le_of_ble_eq_true rfl, Nat.le_of_ble_eq_true rfl⟩) hS (fun q _ h => hFc q h) hFc (fun u t H1 locs ht hvm hw hB hz1 hk1 hS => ?_)
          obtain ⟨x_53, x_54, x_55, x_56, hpr_52_0, hpr_52_1, hpr_52_2, hpr_52_3, hpr_52_4, hpr_52_5, hP1, hD1⟩ := hB
          rw [ht] at hP1
          obtain ⟨hP, hD⟩ := va_join (wr := [(tk_language, .inl (k_tk_language, 20, .inl f_tk_language)), (bb, .inl (kbb, 700, .inl fbb))]) (w1 := [(tk, .inr (7, [.int x_53, .ref tk_kind, .ref tk_place, .ref tk_worth, .ref tk_language])), (tk_kind, .inl (k_tk_kind, 701, .inl x_54)), (tk_place, .inl (k_tk_place, 701, .inl x_55)), (tk_worth, .inl (k_tk_worth, 701, .inl x_56))]) hP hD [0, 1, 2, 3] [4, 5] rfl rfl (by decide) (by decide) hk1 hFc hP1 hD1
          generalize H1 = H at hP hS ⊢
          have hP : va_P (dC, dI) vwCl [(tk_language, .inl (k_tk_language, 20, .inl f_tk_language)), (bb, .inl (kbb, 700, .inl fbb)), (tk, .inr (7, [.int x_53, .ref tk_kind, .ref tk_place, .ref tk_worth, .ref tk_language])), (tk_kind, .inl (k_tk_kind, 701, .inl x_54)), (tk_place, .inl (k_tk_place, 701, .inl x_55)), (tk_worth, .inl (k_tk_worth, 701, .inl x_56))] H := hP
          have hD : va_D A [(tk_language, .inl (k_tk_language, 20, .inl f_tk_language)), (bb, .inl (kbb, 700, .inl fbb)), (tk, .inr (7, [.int x_53, .ref tk_kind, .ref tk_place, .ref tk_worth, .ref tk_language])), (tk_kind, .inl (k_tk_kind, 701, .inl x_54)), (tk_place, .inl (k_tk_place, 701, .inl x_55)), (tk_worth, .inl (k_tk_worth, 701, .inl x_56))] := hD
          clear hPc hDc hKc hFc hP1 hD1 hk1 hz1 ht hvm
          clear hw
          refine lv_iload hx hb dX7_takeWord_78 (lv_at hl 0 rfl) ?_
          have hP9 := hP.sub (ws' := [(tk, .inr (7, [.int x_53, .ref tk_kind, .ref tk_place, .ref tk_worth, .ref tk_language])), (tk_kind, .inl (k_tk_kind, 701, .inl x_54)), (tk_place, .inl (k_tk_place, 701, .inl x_55)), (tk_worth, .inl (k_tk_worth, 701, .inl x_56)), (tk_language, .inl (k_tk_language, 20, .inl f_tk_language)), (bb, .inl (kbb, 700, .inl fbb))]) [2, 3, 4, 5, 0, 1] rfl
          have hD9 := hD.sub (ws' := [(tk, .inr (7, [.int x_53, .ref tk_kind, .ref tk_place, .ref tk_worth, .ref tk_language])), (tk_kind, .inl (k_tk_kind, 701, .inl x_54)), (tk_place, .inl (k_tk_place, 701, .inl x_55)), (tk_worth, .inl (k_tk_worth, 701, .inl x_56)), (tk_language, .inl (k_tk_language, 20, .inl f_tk_language)), (bb, .inl (kbb, 700, .inl fbb))]) [2, 3, 4, 5, 0, 1] (by decide) rfl
          exact W.iret (v := g_40_l5) hx hb hr (fun t ht hW => ⟨⟨g_40_l5, g_40_l5, rfl, ⟨rfl, (by first | omega | (refine ⟨?_, ?_⟩ <;> omega) | rfl | (intros; omega))⟩, x_53, x_54, x_55, x_56, (by omega), hpr_52_1, ⟨(3 : Int32), g_40_l4, hpr_52_2, hpr_52_3, hpr_52_4, hpr_52_5, (by omega), (by omega), tw_word hi_pk_q_41 hlg (by omega) (by omega) (by omega) (Or.inl (by omega)) (Or.inl ⟨(by omega), (by decide)⟩)⟩, by rw [ht]; exact hP9, hD9⟩, hS.F ht⟩) hS.2.2 dX7_takeWord_80
      · have kc_43 := il_nle c_43
        refine lv_aload_n hx hb dX7_takeWord_12 rfl (lv_at hl 3 rfl) ?_
        refine lv_iload hx hb dX7_takeWord_13 (lv_at hl 0 rfl) ?_
        refine va_bald hx hb hK hP 5 4 rfl rfl (vp_in_iff.mpr (by omega)) dX7_takeWord_15 ?_
        refine lv_topi (fun z_57 ez_57 => ?_)
        have kz_57 : (-128) ≤ z_57.toInt ∧ z_57.toInt ≤ 127 := by rw [ez_57]; exact h_fbb _
        have hPc := hP.sub (ws' := []) [] rfl
        have hDc := hD.sub (ws' := []) [] (by decide) rfl
        have hKc := hK.sub (tys' := []) [] rfl
        have hFc := va_free (wc := []) hD hS hA [] rfl
        refine va_calli (va_runS (As := [.int z_57]) (rest := []) ⟨hx, hb, hml, hown, hT⟩ (c_X7_isLetter l dC dI H.size z_57 ) (va_cwS 1 hT (gwS mw_3_79 mw_3_80 mw_1_3 mw_3_81) rfl rfl rfl (by decide +kernel) ⟨Nat.le_of_ble_eq_true rfl, Nat.le_of_ble_eq_true rfl⟩) ⟨fun a U g mk q => by obtain ⟨q0, q1, qP, qK, qD⟩ := q; exact ⟨q0, q1, qP, va_K.moved (u := U) (U := U.calling g mk a) (Vm.Alike.refl U.vm) qK, qD⟩, fun U hU hW => ⟨rfl, by rw [hU], by rw [hU]; exact hPc, va_K.moved hW.alike hKc, hDc.weaken (fun _ _ _ _ => trivial)⟩⟩ rfl rfl hl.1 rfl (lv_room (Nat.le_of_ble_eq_true rfl)) dX7_takeWord_16 ⟨Nat.le_of_ble_eq_true rfl, Nat.le_of_ble_eq_true rfl⟩) hS (fun q _ h => hFc q h) hFc (fun r_58 u t H1 locs ht hvm hw hB hz1 hk1 hS => ?_)
        obtain ⟨hP1, hD1⟩ := hB
        rw [ht] at hP1
        obtain ⟨hP, hD⟩ := va_join (wr := [(tk, .inr (7, [.int tk_count, .ref tk_kind, .ref tk_place, .ref tk_worth, .ref tk_language])), (tk_kind, .inl (k_tk_kind, 701, .inl f_tk_kind)), (tk_place, .inl (k_tk_place, 701, .inl f_tk_place)), (tk_worth, .inl (k_tk_worth, 701, .inl f_tk_worth)), (tk_language, .inl (k_tk_language, 20, .inl f_tk_language)), (bb, .inl (kbb, 700, .inl fbb))]) (w1 := []) hP hD [] [0, 1, 2, 3, 4, 5] rfl rfl (by decide) (by decide) hk1 hFc hP1 hD1
        generalize H1 = H at hP hS ⊢
        have hP : va_P (dC, dI) vwCl [(tk, .inr (7, [.int tk_count, .ref tk_kind, .ref tk_place, .ref tk_worth, .ref tk_language])), (tk_kind, .inl (k_tk_kind, 701, .inl f_tk_kind)), (tk_place, .inl (k_tk_place, 701, .inl f_tk_place)), (tk_worth, .inl (k_tk_worth, 701, .inl f_tk_worth)), (tk_language, .inl (k_tk_language, 20, .inl f_tk_language)), (bb, .inl (kbb, 700, .inl fbb))] H := hP
        have hD : va_D A [(tk, .inr (7, [.int tk_count, .ref tk_kind, .ref tk_place, .ref tk_worth, .ref tk_language])), (tk_kind, .inl (k_tk_kind, 701, .inl f_tk_kind)), (tk_place, .inl (k_tk_place, 701, .inl f_tk_place)), (tk_worth, .inl (k_tk_worth, 701, .inl f_tk_worth)), (tk_language, .inl (k_tk_language, 20, .inl f_tk_language)), (bb, .inl (kbb, 700, .inl fbb))] := hD
        clear hPc hDc hKc hFc hP1 hD1 hk1 hz1 ht hvm
        have hwr_58 : (r_58 = 1 ∧ (97 ≤ z_57.toInt ∧ z_57.toInt ≤ 122)) ∨ (r_58 = 0 ∧ (z_57.toInt < 97 ∨ 122 < z_57.toInt)) := hw
        clear hw
        rcases hwr_58 with ⟨hrr_58, hfr_58⟩ | ⟨hrr_58, hfr_58⟩
        · subst r_58
          refine lv_if_eq (tgt := 52) hx hb dX7_takeWord_19 (by decide) (fun c_59 => absurd c_59 (by decide)) (fun c_59 => ?_)
          refine lv_iload hx hb dX7_takeWord_22 (lv_at hl 0 rfl) ?_
          refine lv_iload_n hx hb dX7_takeWord_24 rfl (lv_at hl 4 rfl) ?_
          refine lv_isub hx hb dX7_takeWord_25 ?_
          refine lv_topi (fun z_60 ez_60 => ?_)
          have kz_60 : z_60.toInt = g_40_l5.toInt - vf.toInt := ti_sub ez_60 rfl rfl (by omega) (by omega)
          clear ez_60
          refine lv_bipush (v := 6) hx hb dX7_takeWord_26 (by decide) ?_
          refine lv_icmp_ge (tgt := 46) hx hb dX7_takeWord_28 (by decide) (fun c_61 => ?_) (fun c_61 => ?_)
          · have kc_61 := il_le c_61
            have := (by decide : (6 : Int32).toInt = 6)
            obtain ⟨z_62, ez_62⟩ : ∃ y : Int32, y = g_40_l5 + Int32.ofInt (1) := ⟨_, rfl⟩
            have kz_62 : z_62.toInt = g_40_l5.toInt + (1) := ti_add ez_62 rfl (by decide) (by omega) (by omega)
            refine lv_iinc (v := z_62) (lv' := [(5, .int z_62), (4, .int g_40_l4), (0, .ref tk), (1, .ref bb), (2, .int vf), (3, .int vl)]) hx hb dX7_takeWord_46 hl (k := 0) rfl (ez_62.symm) (by decide) rfl (fun ls hl => ?_)
            clear ez_62
            refine lv_goto (tgt := 6) hx hb dX7_takeWord_49 (by decide) ?_
            exact ih42 z_62 g_40_l4 (by omega) (PKt_skip hi_pk_q_41 ez_57 (by omega) (by omega) (by omega) (by omega)) (by omega) (by omega) (by omega) _ _ (hP.sub [0, 1, 2, 3, 4, 5] rfl) (hD.sub [0, 1, 2, 3, 4, 5] (by decide) rfl) hS _ (lv_sub hl [0, 1, 2, 3, 4, 5] rfl)
          · have kc_61 := il_nle c_61
            have := (by decide : (6 : Int32).toInt = 6)
            refine lv_iload hx hb dX7_takeWord_31 (lv_at hl 1 rfl) ?_
            refine lv_iload hx hb dX7_takeWord_33 (lv_at hl 0 rfl) ?_
            refine lv_iload_n hx hb dX7_takeWord_35 rfl (lv_at hl 4 rfl) ?_
            refine lv_isub hx hb dX7_takeWord_36 ?_
            refine lv_topi (fun z_63 ez_63 => ?_)
            have kz_63 : z_63.toInt = g_40_l5.toInt - vf.toInt := ti_sub ez_63 rfl rfl (by omega) (by omega)
            clear ez_63
            refine lv_aload_n hx hb dX7_takeWord_37 rfl (lv_at hl 3 rfl) ?_
            refine lv_iload hx hb dX7_takeWord_38 (lv_at hl 0 rfl) ?_
            refine va_bald hx hb hK hP 5 4 rfl rfl (vp_in_iff.mpr (by omega)) dX7_takeWord_40 ?_
            refine lv_topi (fun z_64 ez_64 => ?_)
            have qz_64 : z_64 = z_57 := ez_64.trans ez_57.symm
            clear ez_64
            subst z_64
            have hPc := hP.sub (ws' := []) [] rfl
            have hDc := hD.sub (ws' := []) [] (by decide) rfl
            have hKc := hK.sub (tys' := []) [] rfl
            have hFc := va_free (wc := []) hD hS hA [] rfl
            refine va_calli (va_runS (As := [.int g_40_l4, .int z_63, .int z_57]) (rest := []) ⟨hx, hb, hml, hown, hT⟩ (c_X7_withLetter l dC dI H.size g_40_l4 z_63 z_57 ) (va_cwS 3 hT (gwS mw_1_98 mw_1_99 mw_1_3 mw_1_100) rfl rfl rfl (by decide +kernel) ⟨Nat.le_of_ble_eq_true rfl, Nat.le_of_ble_eq_true rfl⟩) ⟨fun a U g mk q => by obtain ⟨q0, q1, qP, qK, qD⟩ := q; exact ⟨q0, q1, qP, va_K.moved (u := U) (U := U.calling g mk a) (Vm.Alike.refl U.vm) qK, qD⟩, fun U hU hW => ⟨rfl, by rw [hU], by rw [hU]; exact hPc, va_K.moved hW.alike hKc, hDc.weaken (fun _ _ _ _ => trivial)⟩⟩ rfl rfl hl.1 rfl (lv_room (Nat.le_of_ble_eq_true rfl)) dX7_takeWord_41 ⟨Nat.le_of_ble_eq_true rfl, Nat.le_of_ble_eq_true rfl⟩) hS (fun q _ h => hFc q h) hFc (fun r_65 u t H1 locs ht hvm hw hB hz1 hk1 hS => ?_)
            obtain ⟨hP1, hD1⟩ := hB
            rw [ht] at hP1
            obtain ⟨hP, hD⟩ := va_join (wr := [(tk, .inr (7, [.int tk_count, .ref tk_kind, .ref tk_place, .ref tk_worth, .ref tk_language])), (tk_kind, .inl (k_tk_kind, 701, .inl f_tk_kind)), (tk_place, .inl (k_tk_place, 701, .inl f_tk_place)), (tk_worth, .inl (k_tk_worth, 701, .inl f_tk_worth)), (tk_language, .inl (k_tk_language, 20, .inl f_tk_language)), (bb, .inl (kbb, 700, .inl fbb))]) (w1 := []) hP hD [] [0, 1, 2, 3, 4, 5] rfl rfl (by decide) (by decide) hk1 hFc hP1 hD1
            generalize H1 = H at hP hS ⊢
            have hP : va_P (dC, dI) vwCl [(tk, .inr (7, [.int tk_count, .ref tk_kind, .ref tk_place, .ref tk_worth, .ref tk_language])), (tk_kind, .inl (k_tk_kind, 701, .inl f_tk_kind)), (tk_place, .inl (k_tk_place, 701, .inl f_tk_place)), (tk_worth, .inl (k_tk_worth, 701, .inl f_tk_worth)), (tk_language, .inl (k_tk_language, 20, .inl f_tk_language)), (bb, .inl (kbb, 700, .inl fbb))] H := hP
            have hD : va_D A [(tk, .inr (7, [.int tk_count, .ref tk_kind, .ref tk_place, .ref tk_worth, .ref tk_language])), (tk_kind, .inl (k_tk_kind, 701, .inl f_tk_kind)), (tk_place, .inl (k_tk_place, 701, .inl f_tk_place)), (tk_worth, .inl (k_tk_worth, 701, .inl f_tk_worth)), (tk_language, .inl (k_tk_language, 20, .inl f_tk_language)), (bb, .inl (kbb, 700, .inl fbb))] := hD
            clear hPc hDc hKc hFc hP1 hD1 hk1 hz1 ht hvm
            have hwr_65 : WLt g_40_l4 z_63 z_57 r_65 := hw
            clear hw
            refine lv_istore (lv' := [(4, .int r_65), (5, .int g_40_l5), (0, .ref tk), (1, .ref bb), (2, .int vf), (3, .int vl)]) hx hb dX7_takeWord_44 hl (by decide) rfl (fun ls hl => ?_)
            obtain ⟨z_66, ez_66⟩ : ∃ y : Int32, y = g_40_l5 + Int32.ofInt (1) := ⟨_, rfl⟩
            have kz_66 : z_66.toInt = g_40_l5.toInt + (1) := ti_add ez_66 rfl (by decide) (by omega) (by omega)
            refine lv_iinc (v := z_66) (lv' := [(5, .int z_66), (4, .int r_65), (0, .ref tk), (1, .ref bb), (2, .int vf), (3, .int vl)]) hx hb dX7_takeWord_46 hl (k := 1) rfl (ez_66.symm) (by decide) rfl (fun ls hl => ?_)
            clear ez_66
            refine lv_goto (tgt := 6) hx hb dX7_takeWord_49 (by decide) ?_
            exact ih42 z_66 r_65 (by omega) (PKt_add hi_pk_q_41 ez_57 (by omega) hwr_65 (by omega) (by omega) (by omega) (by omega) (by omega)) (by omega) (by omega) (by omega) _ _ (hP.sub [0, 1, 2, 3, 4, 5] rfl) (hD.sub [0, 1, 2, 3, 4, 5] (by decide) rfl) hS _ (lv_sub hl [0, 1, 2, 3, 4, 5] rfl)
        · subst r_58
          refine lv_if_eq (tgt := 52) hx hb dX7_takeWord_19 (by decide) (fun c_67 => ?_) (fun c_67 => absurd c_67 (by decide))
          refine lv_aload_n hx hb dX7_takeWord_52 rfl (lv_at hl 2 rfl) ?_
          refine lv_iload hx hb dX7_takeWord_53 (lv_at hl 0 rfl) ?_
          refine lv_iload_n hx hb dX7_takeWord_55 rfl (lv_at hl 4 rfl) ?_
          refine lv_isub hx hb dX7_takeWord_56 ?_
          refine lv_topi (fun z_68 ez_68 => ?_)
          have kz_68 : z_68.toInt = g_40_l5.toInt - vf.toInt := ti_sub ez_68 rfl rfl (by omega) (by omega)
          clear ez_68
          refine lv_bipush (v := 6) hx hb dX7_takeWord_57 (by decide) ?_
          refine lv_icmp_le (tgt := 66) hx hb dX7_takeWord_59 (by decide) (fun c_69 => ?_) (fun c_69 => ?_)
          · have kc_69 := il_le c_69
            have := (by decide : (6 : Int32).toInt = 6)
            refine lv_aload_n hx hb dX7_takeWord_66 rfl (lv_at hl 2 rfl) ?_
            refine lv_iload hx hb dX7_takeWord_67 (lv_at hl 1 rfl) ?_
            have hPc := hP.sub (ws' := [(tk, .inr (7, [.int tk_count, .ref tk_kind, .ref tk_place, .ref tk_worth, .ref tk_language])), (tk_language, .inl (k_tk_language, 20, .inl f_tk_language))]) [0, 4] rfl
            have hDc := hD.sub (ws' := [(tk, .inr (7, [.int tk_count, .ref tk_kind, .ref tk_place, .ref tk_worth, .ref tk_language])), (tk_language, .inl (k_tk_language, 20, .inl f_tk_language))]) [0, 4] (by decide) rfl
            have hKc := hK.sub (tys' := [(k_tk_language, .int)]) [3] rfl
            have hFc := va_free (wc := [(tk, .inr (7, [.int tk_count, .ref tk_kind, .ref tk_place, .ref tk_worth, .ref tk_language])), (tk_language, .inl (k_tk_language, 20, .inl f_tk_language))]) hD hS hA [0, 4] rfl
            refine va_calli (va_runV (As := [.int g_40_l4]) (rest := [.ref tk]) ⟨hx, hb, hml, hown, hT⟩ (c_X7_wordKind l dC dI H.size tk g_40_l4 tk_count tk_kind tk_place tk_worth tk_language k_tk_language f_tk_language (by omega)) (cwV 1 hT (gwV mw_3_86 mw_3_88 mp_1_1 mw_1_3 mw_3_89) rfl rfl rfl (by decide +kernel) ⟨Nat.le_of_ble_eq_true rfl, Nat.le_of_ble_eq_true rfl⟩) ⟨fun a U g mk q => by obtain ⟨q0, q1, qP, qK, qD⟩ := q; exact ⟨q0, q1, qP, va_K.moved (u := U) (U := U.calling g mk a) (Vm.Alike.refl U.vm) qK, qD⟩, va_recv hK hP (ci := 7) (q0 := 0) rfl rfl, fun U hU hW => ⟨rfl, by rw [hU], by rw [hU]; exact hPc, va_K.moved hW.alike hKc, hDc.weaken (fun _ _ _ _ => trivial)⟩⟩ rfl rfl hl.1 rfl (lv_room (Nat.le_of_ble_eq_true rfl)) dX7_takeWord_69 ⟨Nat.le_of_ble_eq_true rfl, Nat.le_of_ble_eq_true rfl⟩) hS (fun q _ h => hFc q h) hFc (fun r_70 u t H1 locs ht hvm hw hB hz1 hk1 hS => ?_)
            obtain ⟨hP1, hD1⟩ := hB
            rw [ht] at hP1
            obtain ⟨hP, hD⟩ := va_join (wr := [(tk_kind, .inl (k_tk_kind, 701, .inl f_tk_kind)), (tk_place, .inl (k_tk_place, 701, .inl f_tk_place)), (tk_worth, .inl (k_tk_worth, 701, .inl f_tk_worth)), (bb, .inl (kbb, 700, .inl fbb))]) (w1 := [(tk, .inr (7, [.int tk_count, .ref tk_kind, .ref tk_place, .ref tk_worth, .ref tk_language])), (tk_language, .inl (k_tk_language, 20, .inl f_tk_language))]) hP hD [0, 4] [1, 2, 3, 5] rfl rfl (by decide) (by decide) hk1 hFc hP1 hD1
            generalize H1 = H at hP hS ⊢
            have hP : va_P (dC, dI) vwCl [(tk_kind, .inl (k_tk_kind, 701, .inl f_tk_kind)), (tk_place, .inl (k_tk_place, 701, .inl f_tk_place)), (tk_worth, .inl (k_tk_worth, 701, .inl f_tk_worth)), (bb, .inl (kbb, 700, .inl fbb)), (tk, .inr (7, [.int tk_count, .ref tk_kind, .ref tk_place, .ref tk_worth, .ref tk_language])), (tk_language, .inl (k_tk_language, 20, .inl f_tk_language))] H := hP
            have hD : va_D A [(tk_kind, .inl (k_tk_kind, 701, .inl f_tk_kind)), (tk_place, .inl (k_tk_place, 701, .inl f_tk_place)), (tk_worth, .inl (k_tk_worth, 701, .inl f_tk_worth)), (bb, .inl (kbb, 700, .inl fbb)), (tk, .inr (7, [.int tk_count, .ref tk_kind, .ref tk_place, .ref tk_worth, .ref tk_language])), (tk_language, .inl (k_tk_language, 20, .inl f_tk_language))] := hD
            clear hPc hDc hKc hFc hP1 hD1 hk1 hz1 ht hvm
            have hwr_70 : (2 ≤ r_70.toInt ∧ r_70.toInt ≤ 39) ∧ (WKt f_tk_language g_40_l4 r_70) := hw
            clear hw
            refine lv_iload_n hx hb dX7_takeWord_72 rfl (lv_at hl 4 rfl) ?_
            refine lv_iload hx hb dX7_takeWord_73 (lv_at hl 1 rfl) ?_
            have hPc := hP.sub (ws' := [(tk, .inr (7, [.int tk_count, .ref tk_kind, .ref tk_place, .ref tk_worth, .ref tk_language])), (tk_kind, .inl (k_tk_kind, 701, .inl f_tk_kind)), (tk_place, .inl (k_tk_place, 701, .inl f_tk_place)), (tk_worth, .inl (k_tk_worth, 701, .inl f_tk_worth))]) [4, 0, 1, 2] rfl
            have hDc := hD.sub (ws' := [(tk, .inr (7, [.int tk_count, .ref tk_kind, .ref tk_place, .ref tk_worth, .ref tk_language])), (tk_kind, .inl (k_tk_kind, 701, .inl f_tk_kind)), (tk_place, .inl (k_tk_place, 701, .inl f_tk_place)), (tk_worth, .inl (k_tk_worth, 701, .inl f_tk_worth))]) [4, 0, 1, 2] (by decide) rfl
            have hKc := hK.sub (tys' := [(k_tk_kind, .int), (k_tk_place, .int), (k_tk_worth, .int)]) [0, 1, 2] rfl
            have hFc := va_free (wc := [(tk, .inr (7, [.int tk_count, .ref tk_kind, .ref tk_place, .ref tk_worth, .ref tk_language])), (tk_kind, .inl (k_tk_kind, 701, .inl f_tk_kind)), (tk_place, .inl (k_tk_place, 701, .inl f_tk_place)), (tk_worth, .inl (k_tk_worth, 701, .inl f_tk_worth))]) hD hS hA [4, 0, 1, 2] rfl
            refine va_callv (va_runV (As := [.int r_70, .int vf, .int g_40_l4]) (rest := []) ⟨hx, hb, hml, hown, hT⟩ (c_X7_add l dC dI H.size tk r_70 vf g_40_l4 tk_count tk_kind tk_place tk_worth tk_language k_tk_kind f_tk_kind k_tk_place f_tk_place k_tk_worth f_tk_worth (by omega) h_f_tk_kind (by omega)) (cwV 3 hT (gwV mw_3_90 mw_3_92 mp_1_2 mw_1_3 mw_3_93) rfl rfl rfl (by decide +kernel) ⟨Nat.le_of_ble_eq_true rfl, Nat.le_of_ble_eq_true rfl⟩) ⟨fun a U g mk q => by obtain ⟨q0, q1, qP, qK, qD⟩ := q; exact ⟨q0, q1, qP, va_K.moved (u := U) (U := U.calling g mk a) (Vm.Alike.refl U.vm) qK, qD⟩, va_recv hK hP (ci := 7) (q0 := 4) rfl rfl, fun U hU hW => ⟨rfl, by rw [hU], by rw [hU]; exact hPc, va_K.moved hW.alike hKc, hDc.weaken (fun _ _ _ _ => trivial)⟩⟩ rfl rfl hl.1 rfl (lv_room (Nat.le_of_ble_eq_true rfl)) dX7_takeWord_75 ⟨Nat.le_of_ble_eq_true rfl, Nat.le_of_ble_eq_true rfl⟩) hS (fun q _ h => hFc q h) hFc (fun u t H1 locs ht hvm hw hB hz1 hk1 hS => ?_)
            obtain ⟨x_72, x_73, x_74, x_75, hpr_71_0, hpr_71_1, hpr_71_2, hpr_71_3, hpr_71_4, hpr_71_5, hP1, hD1⟩ := hB
            rw [ht] at hP1
            obtain ⟨hP, hD⟩ := va_join (wr := [(bb, .inl (kbb, 700, .inl fbb)), (tk_language, .inl (k_tk_language, 20, .inl f_tk_language))]) (w1 := [(tk, .inr (7, [.int x_72, .ref tk_kind, .ref tk_place, .ref tk_worth, .ref tk_language])), (tk_kind, .inl (k_tk_kind, 701, .inl x_73)), (tk_place, .inl (k_tk_place, 701, .inl x_74)), (tk_worth, .inl (k_tk_worth, 701, .inl x_75))]) hP hD [4, 0, 1, 2] [3, 5] rfl rfl (by decide) (by decide) hk1 hFc hP1 hD1
            generalize H1 = H at hP hS ⊢
            have hP : va_P (dC, dI) vwCl [(bb, .inl (kbb, 700, .inl fbb)), (tk_language, .inl (k_tk_language, 20, .inl f_tk_language)), (tk, .inr (7, [.int x_72, .ref tk_kind, .ref tk_place, .ref tk_worth, .ref tk_language])), (tk_kind, .inl (k_tk_kind, 701, .inl x_73)), (tk_place, .inl (k_tk_place, 701, .inl x_74)), (tk_worth, .inl (k_tk_worth, 701, .inl x_75))] H := hP
            have hD : va_D A [(bb, .inl (kbb, 700, .inl fbb)), (tk_language, .inl (k_tk_language, 20, .inl f_tk_language)), (tk, .inr (7, [.int x_72, .ref tk_kind, .ref tk_place, .ref tk_worth, .ref tk_language])), (tk_kind, .inl (k_tk_kind, 701, .inl x_73)), (tk_place, .inl (k_tk_place, 701, .inl x_74)), (tk_worth, .inl (k_tk_worth, 701, .inl x_75))] := hD
            clear hPc hDc hKc hFc hP1 hD1 hk1 hz1 ht hvm
            clear hw
            refine lv_iload hx hb dX7_takeWord_78 (lv_at hl 0 rfl) ?_
            have hP9 := hP.sub (ws' := [(tk, .inr (7, [.int x_72, .ref tk_kind, .ref tk_place, .ref tk_worth, .ref tk_language])), (tk_kind, .inl (k_tk_kind, 701, .inl x_73)), (tk_place, .inl (k_tk_place, 701, .inl x_74)), (tk_worth, .inl (k_tk_worth, 701, .inl x_75)), (tk_language, .inl (k_tk_language, 20, .inl f_tk_language)), (bb, .inl (kbb, 700, .inl fbb))]) [2, 3, 4, 5, 1, 0] rfl
            have hD9 := hD.sub (ws' := [(tk, .inr (7, [.int x_72, .ref tk_kind, .ref tk_place, .ref tk_worth, .ref tk_language])), (tk_kind, .inl (k_tk_kind, 701, .inl x_73)), (tk_place, .inl (k_tk_place, 701, .inl x_74)), (tk_worth, .inl (k_tk_worth, 701, .inl x_75)), (tk_language, .inl (k_tk_language, 20, .inl f_tk_language)), (bb, .inl (kbb, 700, .inl fbb))]) [2, 3, 4, 5, 1, 0] (by decide) rfl
            have hgt := ne_first ez_57 (p := vf) (by omega) (by omega)
            exact W.iret (v := g_40_l5) hx hb hr (fun t ht hW => ⟨⟨g_40_l5, g_40_l5, rfl, ⟨rfl, (by first | omega | (refine ⟨?_, ?_⟩ <;> omega) | rfl | (intros; omega))⟩, x_72, x_73, x_74, x_75, (by omega), hpr_71_1, ⟨r_70, g_40_l4, hpr_71_2, hpr_71_3, hpr_71_4, hpr_71_5, (by omega), (by omega), tw_word hi_pk_q_41 hlg (by omega) (by omega) (by omega) (Or.inr (by unfold tk_small fI; rw [← ez_57]; omega)) (Or.inr ⟨(by omega), hwr_70.2⟩)⟩, by rw [ht]; exact hP9, hD9⟩, hS.F ht⟩) hS.2.2 dX7_takeWord_80
          · have kc_69 := il_nle c_69
            have := (by decide : (6 : Int32).toInt = 6)
            refine lv_iconst (v := 3) hx hb dX7_takeWord_62 (by decide) ?_
            refine lv_goto (tgt := 72) hx hb dX7_takeWord_63 (by decide) ?_
            refine lv_iload_n hx hb dX7_takeWord_72 rfl (lv_at hl 4 rfl) ?_
            refine lv_iload hx hb dX7_takeWord_73 (lv_at hl 1 rfl) ?_
            have hPc := hP.sub (ws' := [(tk, .inr (7, [.int tk_count, .ref tk_kind, .ref tk_place, .ref tk_worth, .ref tk_language])), (tk_kind, .inl (k_tk_kind, 701, .inl f_tk_kind)), (tk_place, .inl (k_tk_place, 701, .inl f_tk_place)), (tk_worth, .inl (k_tk_worth, 701, .inl f_tk_worth))]) [0, 1, 2, 3] rfl
            have hDc := hD.sub (ws' := [(tk, .inr (7, [.int tk_count, .ref tk_kind, .ref tk_place, .ref tk_worth, .ref tk_language])), (tk_kind, .inl (k_tk_kind, 701, .inl f_tk_kind)), (tk_place, .inl (k_tk_place, 701, .inl f_tk_place)), (tk_worth, .inl (k_tk_worth, 701, .inl f_tk_worth))]) [0, 1, 2, 3] (by decide) rfl
            have hKc := hK.sub (tys' := [(k_tk_kind, .int), (k_tk_place, .int), (k_tk_worth, .int)]) [0, 1, 2] rfl
            have hFc := va_free (wc := [(tk, .inr (7, [.int tk_count, .ref tk_kind, .ref tk_place, .ref tk_worth, .ref tk_language])), (tk_kind, .inl (k_tk_kind, 701, .inl f_tk_kind)), (tk_place, .inl (k_tk_place, 701, .inl f_tk_place)), (tk_worth, .inl (k_tk_worth, 701, .inl f_tk_worth))]) hD hS hA [0, 1, 2, 3] rfl
            have := (by decide : (3 : Int32).toInt = 3)
            refine va_callv (va_runV (As := [.int 3, .int vf, .int g_40_l4]) (rest := []) ⟨hx, hb, hml, hown, hT⟩ (c_X7_add l dC dI H.size tk (3 : Int32) vf g_40_l4 tk_count tk_kind tk_place tk_worth tk_language k_tk_kind f_tk_kind k_tk_place f_tk_place k_tk_worth f_tk_worth (by omega) h_f_tk_kind (by decide)) (cwV 3 hT (gwV mw_3_90 mw_3_92 mp_1_2 mw_1_3 mw_3_93) rfl rfl rfl (by decide +kernel) ⟨Nat.le_of_ble_eq_true rfl, Nat.le_of_ble_eq_true rfl⟩) ⟨fun a U g mk q => by obtain ⟨q0, q1, qP, qK, qD⟩ := q; exact ⟨q0, q1, qP, va_K.moved (u := U) (U := U.calling g mk a) (Vm.Alike.refl U.vm) qK, qD⟩, va_recv hK hP (ci := 7) (q0 := 0) rfl rfl, fun U hU hW => ⟨rfl, by rw [hU], by rw [hU]; exact hPc, va_K.moved hW.alike hKc, hDc.weaken (fun _ _ _ _ => trivial)⟩⟩ rfl rfl hl.1 rfl (lv_room (Nat.le_of_ble_eq_true rfl)) dX7_takeWord_75 ⟨Nat.le_of_ble_eq_true rfl, Nat.le_of_ble_eq_true rfl⟩) hS (fun q _ h => hFc q h) hFc (fun u t H1 locs ht hvm hw hB hz1 hk1 hS => ?_)
            obtain ⟨x_77, x_78, x_79, x_80, hpr_76_0, hpr_76_1, hpr_76_2, hpr_76_3, hpr_76_4, hpr_76_5, hP1, hD1⟩ := hB
            rw [ht] at hP1
            obtain ⟨hP, hD⟩ := va_join (wr := [(tk_language, .inl (k_tk_language, 20, .inl f_tk_language)), (bb, .inl (kbb, 700, .inl fbb))]) (w1 := [(tk, .inr (7, [.int x_77, .ref tk_kind, .ref tk_place, .ref tk_worth, .ref tk_language])), (tk_kind, .inl (k_tk_kind, 701, .inl x_78)), (tk_place, .inl (k_tk_place, 701, .inl x_79)), (tk_worth, .inl (k_tk_worth, 701, .inl x_80))]) hP hD [0, 1, 2, 3] [4, 5] rfl rfl (by decide) (by decide) hk1 hFc hP1 hD1
            generalize H1 = H at hP hS ⊢
            have hP : va_P (dC, dI) vwCl [(tk_language, .inl (k_tk_language, 20, .inl f_tk_language)), (bb, .inl (kbb, 700, .inl fbb)), (tk, .inr (7, [.int x_77, .ref tk_kind, .ref tk_place, .ref tk_worth, .ref tk_language])), (tk_kind, .inl (k_tk_kind, 701, .inl x_78)), (tk_place, .inl (k_tk_place, 701, .inl x_79)), (tk_worth, .inl (k_tk_worth, 701, .inl x_80))] H := hP
            have hD : va_D A [(tk_language, .inl (k_tk_language, 20, .inl f_tk_language)), (bb, .inl (kbb, 700, .inl fbb)), (tk, .inr (7, [.int x_77, .ref tk_kind, .ref tk_place, .ref tk_worth, .ref tk_language])), (tk_kind, .inl (k_tk_kind, 701, .inl x_78)), (tk_place, .inl (k_tk_place, 701, .inl x_79)), (tk_worth, .inl (k_tk_worth, 701, .inl x_80))] := hD
            clear hPc hDc hKc hFc hP1 hD1 hk1 hz1 ht hvm
            clear hw
            refine lv_iload hx hb dX7_takeWord_78 (lv_at hl 0 rfl) ?_
            have hP9 := hP.sub (ws' := [(tk, .inr (7, [.int x_77, .ref tk_kind, .ref tk_place, .ref tk_worth, .ref tk_language])), (tk_kind, .inl (k_tk_kind, 701, .inl x_78)), (tk_place, .inl (k_tk_place, 701, .inl x_79)), (tk_worth, .inl (k_tk_worth, 701, .inl x_80)), (tk_language, .inl (k_tk_language, 20, .inl f_tk_language)), (bb, .inl (kbb, 700, .inl fbb))]) [2, 3, 4, 5, 0, 1] rfl
            have hD9 := hD.sub (ws' := [(tk, .inr (7, [.int x_77, .ref tk_kind, .ref tk_place, .ref tk_worth, .ref tk_language])), (tk_kind, .inl (k_tk_kind, 701, .inl x_78)), (tk_place, .inl (k_tk_place, 701, .inl x_79)), (tk_worth, .inl (k_tk_worth, 701, .inl x_80)), (tk_language, .inl (k_tk_language, 20, .inl f_tk_language)), (bb, .inl (kbb, 700, .inl fbb))]) [2, 3, 4, 5, 0, 1] (by decide) rfl
            have hgt := ne_first ez_57 (p := vf) (by omega) (by omega)
            exact W.iret (v := g_40_l5) hx hb hr (fun t ht hW => ⟨⟨g_40_l5, g_40_l5, rfl, ⟨rfl, (by first | omega | (refine ⟨?_, ?_⟩ <;> omega) | rfl | (intros; omega))⟩, x_77, x_78, x_79, x_80, (by omega), hpr_76_1, ⟨(3 : Int32), g_40_l4, hpr_76_2, hpr_76_3, hpr_76_4, hpr_76_5, (by omega), (by omega), tw_word hi_pk_q_41 hlg (by omega) (by omega) (by omega) (Or.inr (by unfold tk_small fI; rw [← ez_57]; omega)) (Or.inl ⟨(by omega), (by decide)⟩)⟩, by rw [ht]; exact hP9, hD9⟩, hS.F ht⟩) hS.2.2 dX7_takeWord_80
  have := (by decide : (0 : Int32).toInt = 0)
  exact loop_42 4294967296 vf (0 : Int32) (by omega) (PKt_0 (by omega)) (by omega) (by omega) (by omega) _ _ (hP.sub [0, 1, 2, 3, 4, 5] rfl) (hD.sub [0, 1, 2, 3, 4, 5] (by decide) rfl) hS _ (lv_sub hl [0, 1, 2, 3, 4, 5] rfl)
abbrev q_X7_takeNumber (dC : Nat → ClassId) (dI : Nat → Nat → Nat) (A : Nat → Prop) (tk : Nat) (bb : Nat) (vf : Int32) (vl : Int32) (tk_count : Int32) (tk_kind : Nat) (tk_place : Nat) (tk_worth : Nat) (tk_language : Nat) (k_tk_kind : ClassId) (f_tk_kind : Nat → Int32) (k_tk_place : ClassId) (f_tk_place : Nat → Int32) (k_tk_worth : ClassId) (f_tk_worth : Nat → Int32) (k_tk_language : ClassId) (f_tk_language : Nat → Int32) (kbb : ClassId) (fbb : Nat → Int32) : Array Value → State → Outcome → State → Prop := va_Qi (fun (r : Int32) (e_r : Int32) => r = e_r ∧ ((0 ≤ r.toInt ∧ r.toInt ≤ 700))) (fun (e_r : Int32) (t : State) => ∃ (e_tk_count : Int32), ∃ (g_tk_kind : Nat → Int32), ∃ (g_tk_place : Nat → Int32), ∃ (g_tk_worth : Nat → Int32), (1 ≤ e_tk_count.toInt ∧ e_tk_count.toInt ≤ 701) ∧ (Rg g_tk_kind 0 39) ∧ (TWt fbb f_tk_kind f_tk_place f_tk_worth tk_count vf vl g_tk_kind g_tk_place g_tk_worth e_tk_count e_r) ∧ va_P (dC, dI) vwCl [(tk, .inr (7, [.int e_tk_count, .ref tk_kind, .ref tk_place, .ref tk_worth, .ref tk_language])), (tk_kind, .inl (k_tk_kind, 701, .inl g_tk_kind)), (tk_place, .inl (k_tk_place, 701, .inl g_tk_place)), (tk_worth, .inl (k_tk_worth, 701, .inl g_tk_worth)), (tk_language, .inl (k_tk_language, 20, .inl f_tk_language)), (bb, .inl (kbb, 700, .inl fbb))] t.heap ∧ va_D A [(tk, .inr (7, [.int e_tk_count, .ref tk_kind, .ref tk_place, .ref tk_worth, .ref tk_language])), (tk_kind, .inl (k_tk_kind, 701, .inl g_tk_kind)), (tk_place, .inl (k_tk_place, 701, .inl g_tk_place)), (tk_worth, .inl (k_tk_worth, 701, .inl g_tk_worth)), (tk_language, .inl (k_tk_language, 20, .inl f_tk_language)), (bb, .inl (kbb, 700, .inl fbb))]) A
set_option maxHeartbeats 4000000 in
set_option maxRecDepth 100000 in
theorem c_X7_takeNumber (l : Launch) (dC : Nat → ClassId) (dI : Nat → Nat → Nat) (sz : Nat) (tk : Nat) (bb : Nat) (vf : Int32) (vl : Int32) (tk_count : Int32) (tk_kind : Nat) (tk_place : Nat) (tk_worth : Nat) (tk_language : Nat) (k_tk_kind : ClassId) (f_tk_kind : Nat → Int32) (k_tk_place : ClassId) (f_tk_place : Nat → Int32) (k_tk_worth : ClassId) (f_tk_worth : Nat → Int32) (k_tk_language : ClassId) (f_tk_language : Nat → Int32) (kbb : ClassId) (fbb : Nat → Int32) (h_tk_count : 0 ≤ tk_count.toInt ∧ tk_count.toInt ≤ 700) (h_f_tk_kind : Rg f_tk_kind 0 39) (h_fbb : Rg fbb (-128) 127) (h_vf : 0 ≤ vf.toInt ∧ vf.toInt ≤ 699) (h_vl : 0 ≤ vl.toInt ∧ vl.toInt ≤ 700) (hlt : vf.toInt < vl.toInt) (hsm : 48 ≤ (fbb vf.toNatClampNeg).toInt ∧ (fbb vf.toNatClampNeg).toInt ≤ 57) : Met l yX7_takeNumber (pw_w yX7_takeNumber cX7_takeNumber 6 (some .int)) ({ frames := 1, cells := 0, slots := 0, locals := 23 }) (va_Pc [.ref tk, .ref bb, .int vf, .int vl] (fun U => U.heap.size = sz ∧ va_P (dC, dI) vwCl [(tk, .inr (7, [.int tk_count, .ref tk_kind, .ref tk_place, .ref tk_worth, .ref tk_language])), (tk_kind, .inl (k_tk_kind, 701, .inl f_tk_kind)), (tk_place, .inl (k_tk_place, 701, .inl f_tk_place)), (tk_worth, .inl (k_tk_worth, 701, .inl f_tk_worth)), (tk_language, .inl (k_tk_language, 20, .inl f_tk_language)), (bb, .inl (kbb, 700, .inl fbb))] U.heap ∧ va_K (dC, dI) vwCl [(k_tk_kind, .int), (k_tk_place, .int), (k_tk_worth, .int), (k_tk_language, .int), (kbb, .byte)] U ∧ va_D (fun _ => True) [(tk, .inr (7, [.int tk_count, .ref tk_kind, .ref tk_place, .ref tk_worth, .ref tk_language])), (tk_kind, .inl (k_tk_kind, 701, .inl f_tk_kind)), (tk_place, .inl (k_tk_place, 701, .inl f_tk_place)), (tk_worth, .inl (k_tk_worth, 701, .inl f_tk_worth)), (tk_language, .inl (k_tk_language, 20, .inl f_tk_language)), (bb, .inl (kbb, 700, .inl fbb))])) (q_X7_takeNumber dC dI (va_A [(tk, .inr (7, [.int tk_count, .ref tk_kind, .ref tk_place, .ref tk_worth, .ref tk_language])), (tk_kind, .inl (k_tk_kind, 701, .inl f_tk_kind)), (tk_place, .inl (k_tk_place, 701, .inl f_tk_place)), (tk_worth, .inl (k_tk_worth, 701, .inl f_tk_worth)), (tk_language, .inl (k_tk_language, 20, .inl f_tk_language)), (bb, .inl (kbb, 700, .inl fbb))] sz) tk bb vf vl tk_count tk_kind tk_place tk_worth tk_language k_tk_kind f_tk_kind k_tk_place f_tk_place k_tk_worth f_tk_worth k_tk_language f_tk_language kbb fbb) 0 0 (va_A [(tk, .inr (7, [.int tk_count, .ref tk_kind, .ref tk_place, .ref tk_worth, .ref tk_language])), (tk_kind, .inl (k_tk_kind, 701, .inl f_tk_kind)), (tk_place, .inl (k_tk_place, 701, .inl f_tk_place)), (tk_worth, .inl (k_tk_worth, 701, .inl f_tk_worth)), (tk_language, .inl (k_tk_language, 20, .inl f_tk_language)), (bb, .inl (kbb, 700, .inl fbb))] sz) := by
  refine Met.ofW (cc := cX7_takeNumber) (maxL := 6) (ret := (some .int)) (by decide) rfl ?_
  intro p e s m args below meth c s₁ B hml hv
  obtain ⟨rfl, hsz, hP, hK, hD0⟩ := hv
  have hx := B.exec
  have hb := B.bytes
  have hr := B.returns
  have hts := atoms_spec (ws := (pw_w yX7_takeNumber cX7_takeNumber 6 (some .int))) B.pre
  have hT : ∀ w ∈ pw_T, w.before _ s = true := fun w h => hts w (List.mem_cons_of_mem _ h)
  have hown : s.vm.findClass RX7 = some m.cls := findClass_of_methodNamed B.named
  have hlocks := B.notSynchronized
  subst hsz
  have hD := hD0.self (sz := s.heap.size)
  generalize hAe : va_A [(tk, .inr (7, [.int tk_count, .ref tk_kind, .ref tk_place, .ref tk_worth, .ref tk_language])), (tk_kind, .inl (k_tk_kind, 701, .inl f_tk_kind)), (tk_place, .inl (k_tk_place, 701, .inl f_tk_place)), (tk_worth, .inl (k_tk_worth, 701, .inl f_tk_worth)), (tk_language, .inl (k_tk_language, 20, .inl f_tk_language)), (bb, .inl (kbb, 700, .inl fbb))] s.heap.size = A at hD ⊢
  have hA : ∀ q : Nat, s.heap.size ≤ q → A q := fun q h => by rw [← hAe]; exact Or.inr h
  have hS : va_S A s.heap s.heap [] := va_S.rf
  have hP : va_P (dC, dI) vwCl [(tk, .inr (7, [.int tk_count, .ref tk_kind, .ref tk_place, .ref tk_worth, .ref tk_language])), (tk_kind, .inl (k_tk_kind, 701, .inl f_tk_kind)), (tk_place, .inl (k_tk_place, 701, .inl f_tk_place)), (tk_worth, .inl (k_tk_worth, 701, .inl f_tk_worth)), (tk_language, .inl (k_tk_language, 20, .inl f_tk_language)), (bb, .inl (kbb, 700, .inl fbb))] s.heap := hP
  have hl := lv_entry ([.ref tk, .ref bb, .int vf, .int vl]) (n := 6) (Nat.le_of_ble_eq_true rfl)
  rw [lg_entry_eq]
  generalize (lg_sl ([.ref tk, .ref bb, .int vf, .int vl]) ++ List.replicate (6 - (lg_sl ([.ref tk, .ref bb, .int vf, .int vl])).length) Slot.unset).toArray = ls at hl ⊢
  have hl : lv_has ls 6 [(0, .ref tk), (1, .ref bb), (2, .int vf), (3, .int vl)] := hl
  refine lv_iconst (v := 0) hx hb dX7_takeNumber_0 (by decide) ?_
  refine lv_istore (lv' := [(4, .int 0), (0, .ref tk), (1, .ref bb), (2, .int vf), (3, .int vl)]) hx hb dX7_takeNumber_1 hl (by decide) rfl (fun ls hl => ?_)
  refine lv_iload_n hx hb dX7_takeNumber_3 rfl (lv_at hl 3 rfl) ?_
  refine lv_istore (lv' := [(5, .int vf), (4, .int 0), (0, .ref tk), (1, .ref bb), (2, .int vf), (3, .int vl)]) hx hb dX7_takeNumber_4 hl (by decide) rfl (fun ls hl => ?_)
  have loop_25 : ∀ (fu : Nat), ∀ (g_23_l5 : Int32), ∀ (g_23_l4 : Int32), (0 ≤ g_23_l5.toInt ∧ g_23_l5.toInt ≤ 700) → (0 ≤ g_23_l4.toInt ∧ g_23_l4.toInt ≤ 1000000) → (NVt fbb vf g_23_l5 g_23_l4) → (vf.toInt ≤ g_23_l5.toInt) → (g_23_l5.toInt ≤ vl.toInt) → (700 - g_23_l5.toInt < (fu : Int)) → ∀ (H : Heap) (locs : List Loc), va_P (dC, dI) vwCl [(tk, .inr (7, [.int tk_count, .ref tk_kind, .ref tk_place, .ref tk_worth, .ref tk_language])), (tk_kind, .inl (k_tk_kind, 701, .inl f_tk_kind)), (tk_place, .inl (k_tk_place, 701, .inl f_tk_place)), (tk_worth, .inl (k_tk_worth, 701, .inl f_tk_worth)), (tk_language, .inl (k_tk_language, 20, .inl f_tk_language)), (bb, .inl (kbb, 700, .inl fbb))] H → va_D A [(tk, .inr (7, [.int tk_count, .ref tk_kind, .ref tk_place, .ref tk_worth, .ref tk_language])), (tk_kind, .inl (k_tk_kind, 701, .inl f_tk_kind)), (tk_place, .inl (k_tk_place, 701, .inl f_tk_place)), (tk_worth, .inl (k_tk_worth, 701, .inl f_tk_worth)), (tk_language, .inl (k_tk_language, 20, .inl f_tk_language)), (bb, .inl (kbb, 700, .inl fbb))] → va_S A s.heap H locs → ∀ (ls : Array Slot), lv_has ls 6 [(5, .int g_23_l5), (4, .int g_23_l4), (0, .ref tk), (1, .ref bb), (2, .int vf), (3, .int vl)] → W p l e (headSpec (pw_w yX7_takeNumber cX7_takeNumber 6 (some .int)) ({ frames := 1, cells := 0, slots := 0, locals := 23 })).room s m ([.ref tk, .ref bb, .int vf, .int vl] : List Value).toArray below meth c H locs 0 0 (MQ below (q_X7_takeNumber dC dI A tk bb vf vl tk_count tk_kind tk_place tk_worth tk_language k_tk_kind f_tk_kind k_tk_place f_tk_place k_tk_worth f_tk_worth k_tk_language f_tk_language kbb fbb) ([.ref tk, .ref bb, .int vf, .int vl] : List Value).toArray s 0 0 A) (F0 m 6 ls []) := by
    intro fu
    induction fu with
    | zero => intro g_23_l5 g_23_l4 hg_23_l5 hg_23_l4 hi_nv_q_24 hx0 hx1 hfu; exact absurd hfu (by omega)
    | succ fu25 ih25 =>
      intro g_23_l5 g_23_l4 hg_23_l5 hg_23_l4 hi_nv_q_24 hx0 hx1 hfu25 H locs hP hD hS ls hl
      refine lv_iload hx hb dX7_takeNumber_6 (lv_at hl 0 rfl) ?_
      refine lv_iload_n hx hb dX7_takeNumber_8 rfl (lv_at hl 5 rfl) ?_
      refine lv_icmp_ge (tgt := 48) hx hb dX7_takeNumber_9 (by decide) (fun c_26 => ?_) (fun c_26 => ?_)
      · have kc_26 := il_le c_26
        refine lv_aload_n hx hb dX7_takeNumber_48 rfl (lv_at hl 2 rfl) ?_
        refine lv_iconst (v := 1) hx hb dX7_takeNumber_49 (by decide) ?_
        refine lv_iload_n hx hb dX7_takeNumber_50 rfl (lv_at hl 4 rfl) ?_
        refine lv_iload hx hb dX7_takeNumber_51 (lv_at hl 1 rfl) ?_
        have hPc := hP.sub (ws' := [(tk, .inr (7, [.int tk_count, .ref tk_kind, .ref tk_place, .ref tk_worth, .ref tk_language])), (tk_kind, .inl (k_tk_kind, 701, .inl f_tk_kind)), (tk_place, .inl (k_tk_place, 701, .inl f_tk_place)), (tk_worth, .inl (k_tk_worth, 701, .inl f_tk_worth))]) [0, 1, 2, 3] rfl
        have hDc := hD.sub (ws' := [(tk, .inr (7, [.int tk_count, .ref tk_kind, .ref tk_place, .ref tk_worth, .ref tk_language])), (tk_kind, .inl (k_tk_kind, 701, .inl f_tk_kind)), (tk_place, .inl (k_tk_place, 701, .inl f_tk_place)), (tk_worth, .inl (k_tk_worth, 701, .inl f_tk_worth))]) [0, 1, 2, 3] (by decide) rfl
        have hKc := hK.sub (tys' := [(k_tk_kind, .int), (k_tk_place, .int), (k_tk_worth, .int)]) [0, 1, 2] rfl
        have hFc := va_free (wc := [(tk, .inr (7, [.int tk_count, .ref tk_kind, .ref tk_place, .ref tk_worth, .ref tk_language])), (tk_kind, .inl (k_tk_kind, 701, .inl f_tk_kind)), (tk_place, .inl (k_tk_place, 701, .inl f_tk_place)), (tk_worth, .inl (k_tk_worth, 701, .inl f_tk_worth))]) hD hS hA [0, 1, 2, 3] rfl
        have := (by decide : (1 : Int32).toInt = 1)
        refine va_callv (va_runV (As := [.int 1, .int vf, .int g_23_l4]) (rest := []) ⟨hx, hb, hml, hown, hT⟩ (c_X7_add l dC dI H.size tk (1 : Int32) vf g_23_l4 tk_count tk_kind tk_place tk_worth tk_language k_tk_kind f_tk_kind k_tk_place f_tk_place k_tk_worth f_tk_worth (by omega) h_f_tk_kind (by decide)) (cwV 3 hT (gwV mw_3_90 mw_3_92 mp_1_2 mw_1_3 mw_3_93) rfl rfl rfl (by decide +kernel) ⟨Nat.le_of_ble_eq_true rfl, Nat.le_of_ble_eq_true rfl⟩) ⟨fun a U g mk q => by obtain ⟨q0, q1, qP, qK, qD⟩ := q; exact ⟨q0, q1, qP, va_K.moved (u := U) (U := U.calling g mk a) (Vm.Alike.refl U.vm) qK, qD⟩, va_recv hK hP (ci := 7) (q0 := 0) rfl rfl, fun U hU hW => ⟨rfl, by rw [hU], by rw [hU]; exact hPc, va_K.moved hW.alike hKc, hDc.weaken (fun _ _ _ _ => trivial)⟩⟩ rfl rfl hl.1 rfl (lv_room (Nat.le_of_ble_eq_true rfl)) dX7_takeNumber_53 ⟨Nat.le_of_ble_eq_true rfl, Nat.le_of_ble_eq_true rfl⟩) hS (fun q _ h => hFc q h) hFc (fun u t H1 locs ht hvm hw hB hz1 hk1 hS => ?_)
        obtain ⟨x_28, x_29, x_30, x_31, hpr_27_0, hpr_27_1, hpr_27_2, hpr_27_3, hpr_27_4, hpr_27_5, hP1, hD1⟩ := hB
        rw [ht] at hP1
        obtain ⟨hP, hD⟩ := va_join (wr := [(tk_language, .inl (k_tk_language, 20, .inl f_tk_language)), (bb, .inl (kbb, 700, .inl fbb))]) (w1 := [(tk, .inr (7, [.int x_28, .ref tk_kind, .ref tk_place, .ref tk_worth, .ref tk_language])), (tk_kind, .inl (k_tk_kind, 701, .inl x_29)), (tk_place, .inl (k_tk_place, 701, .inl x_30)), (tk_worth, .inl (k_tk_worth, 701, .inl x_31))]) hP hD [0, 1, 2, 3] [4, 5] rfl rfl (by decide) (by decide) hk1 hFc hP1 hD1
        generalize H1 = H at hP hS ⊢
        have hP : va_P (dC, dI) vwCl [(tk_language, .inl (k_tk_language, 20, .inl f_tk_language)), (bb, .inl (kbb, 700, .inl fbb)), (tk, .inr (7, [.int x_28, .ref tk_kind, .ref tk_place, .ref tk_worth, .ref tk_language])), (tk_kind, .inl (k_tk_kind, 701, .inl x_29)), (tk_place, .inl (k_tk_place, 701, .inl x_30)), (tk_worth, .inl (k_tk_worth, 701, .inl x_31))] H := hP
        have hD : va_D A [(tk_language, .inl (k_tk_language, 20, .inl f_tk_language)), (bb, .inl (kbb, 700, .inl fbb)), (tk, .inr (7, [.int x_28, .ref tk_kind, .ref tk_place, .ref tk_worth, .ref tk_language])), (tk_kind, .inl (k_tk_kind, 701, .inl x_29)), (tk_place, .inl (k_tk_place, 701, .inl x_30)), (tk_worth, .inl (k_tk_worth, 701, .inl x_31))] := hD
        clear hPc hDc hKc hFc hP1 hD1 hk1 hz1 ht hvm
        clear hw
        refine lv_iload hx hb dX7_takeNumber_56 (lv_at hl 0 rfl) ?_
        have hP9 := hP.sub (ws' := [(tk, .inr (7, [.int x_28, .ref tk_kind, .ref tk_place, .ref tk_worth, .ref tk_language])), (tk_kind, .inl (k_tk_kind, 701, .inl x_29)), (tk_place, .inl (k_tk_place, 701, .inl x_30)), (tk_worth, .inl (k_tk_worth, 701, .inl x_31)), (tk_language, .inl (k_tk_language, 20, .inl f_tk_language)), (bb, .inl (kbb, 700, .inl fbb))]) [2, 3, 4, 5, 0, 1] rfl
        have hD9 := hD.sub (ws' := [(tk, .inr (7, [.int x_28, .ref tk_kind, .ref tk_place, .ref tk_worth, .ref tk_language])), (tk_kind, .inl (k_tk_kind, 701, .inl x_29)), (tk_place, .inl (k_tk_place, 701, .inl x_30)), (tk_worth, .inl (k_tk_worth, 701, .inl x_31)), (tk_language, .inl (k_tk_language, 20, .inl f_tk_language)), (bb, .inl (kbb, 700, .inl fbb))]) [2, 3, 4, 5, 0, 1] (by decide) rfl
        exact W.iret (v := g_23_l5) hx hb hr (fun t ht hW => ⟨⟨g_23_l5, g_23_l5, rfl, ⟨rfl, (by first | omega | (refine ⟨?_, ?_⟩ <;> omega) | rfl | (intros; omega))⟩, x_28, x_29, x_30, x_31, (by omega), hpr_27_1, ⟨(1 : Int32), g_23_l4, hpr_27_2, hpr_27_3, hpr_27_4, hpr_27_5, (by omega), (by omega), tw_num hi_nv_q_24 (by omega) (by omega) (by omega) (Or.inl (by omega))⟩, by rw [ht]; exact hP9, hD9⟩, hS.F ht⟩) hS.2.2 dX7_takeNumber_58
      · have kc_26 := il_nle c_26
        refine lv_aload_n hx hb dX7_takeNumber_12 rfl (lv_at hl 3 rfl) ?_
        refine lv_iload hx hb dX7_takeNumber_13 (lv_at hl 0 rfl) ?_
        refine va_bald hx hb hK hP 5 4 rfl rfl (vp_in_iff.mpr (by omega)) dX7_takeNumber_15 ?_
        refine lv_topi (fun z_32 ez_32 => ?_)
        have kz_32 : (-128) ≤ z_32.toInt ∧ z_32.toInt ≤ 127 := by rw [ez_32]; exact h_fbb _
        have hPc := hP.sub (ws' := []) [] rfl
        have hDc := hD.sub (ws' := []) [] (by decide) rfl
        have hKc := hK.sub (tys' := []) [] rfl
        have hFc := va_free (wc := []) hD hS hA [] rfl
        refine va_calli (va_runS (As := [.int z_32]) (rest := []) ⟨hx, hb, hml, hown, hT⟩ (c_X7_isDigit l dC dI H.size z_32 ) (va_cwS 1 hT (gwS mw_3_94 mw_3_95 mw_1_3 mw_3_96) rfl rfl rfl (by decide +kernel) ⟨Nat.le_of_ble_eq_true rfl, Nat.le_of_ble_eq_true rfl⟩) ⟨fun a U g mk q => by obtain ⟨q0, q1, qP, qK, qD⟩ := q; exact ⟨q0, q1, qP, va_K.moved (u := U) (U := U.calling g mk a) (Vm.Alike.refl U.vm) qK, qD⟩, fun U hU hW => ⟨rfl, by rw [hU], by rw [hU]; exact hPc, va_K.moved hW.alike hKc, hDc.weaken (fun _ _ _ _ => trivial)⟩⟩ rfl rfl hl.1 rfl (lv_room (Nat.le_of_ble_eq_true rfl)) dX7_takeNumber_16 ⟨Nat.le_of_ble_eq_true rfl, Nat.le_of_ble_eq_true rfl⟩) hS (fun q _ h => hFc q h) hFc (fun r_33 u t H1 locs ht hvm hw hB hz1 hk1 hS => ?_)
        obtain ⟨hP1, hD1⟩ := hB
        rw [ht] at hP1
        obtain ⟨hP, hD⟩ := va_join (wr := [(tk, .inr (7, [.int tk_count, .ref tk_kind, .ref tk_place, .ref tk_worth, .ref tk_language])), (tk_kind, .inl (k_tk_kind, 701, .inl f_tk_kind)), (tk_place, .inl (k_tk_place, 701, .inl f_tk_place)), (tk_worth, .inl (k_tk_worth, 701, .inl f_tk_worth)), (tk_language, .inl (k_tk_language, 20, .inl f_tk_language)), (bb, .inl (kbb, 700, .inl fbb))]) (w1 := []) hP hD [] [0, 1, 2, 3, 4, 5] rfl rfl (by decide) (by decide) hk1 hFc hP1 hD1
        generalize H1 = H at hP hS ⊢
        have hP : va_P (dC, dI) vwCl [(tk, .inr (7, [.int tk_count, .ref tk_kind, .ref tk_place, .ref tk_worth, .ref tk_language])), (tk_kind, .inl (k_tk_kind, 701, .inl f_tk_kind)), (tk_place, .inl (k_tk_place, 701, .inl f_tk_place)), (tk_worth, .inl (k_tk_worth, 701, .inl f_tk_worth)), (tk_language, .inl (k_tk_language, 20, .inl f_tk_language)), (bb, .inl (kbb, 700, .inl fbb))] H := hP
        have hD : va_D A [(tk, .inr (7, [.int tk_count, .ref tk_kind, .ref tk_place, .ref tk_worth, .ref tk_language])), (tk_kind, .inl (k_tk_kind, 701, .inl f_tk_kind)), (tk_place, .inl (k_tk_place, 701, .inl f_tk_place)), (tk_worth, .inl (k_tk_worth, 701, .inl f_tk_worth)), (tk_language, .inl (k_tk_language, 20, .inl f_tk_language)), (bb, .inl (kbb, 700, .inl fbb))] := hD
        clear hPc hDc hKc hFc hP1 hD1 hk1 hz1 ht hvm
        have hwr_33 : (r_33 = 1 ∧ (48 ≤ z_32.toInt ∧ z_32.toInt ≤ 57)) ∨ (r_33 = 0 ∧ (z_32.toInt < 48 ∨ 57 < z_32.toInt)) := hw
        clear hw
        rcases hwr_33 with ⟨hrr_33, hfr_33⟩ | ⟨hrr_33, hfr_33⟩
        · subst r_33
          refine lv_if_eq (tgt := 48) hx hb dX7_takeNumber_19 (by decide) (fun c_34 => absurd c_34 (by decide)) (fun c_34 => ?_)
          refine lv_bipush (v := 10) hx hb dX7_takeNumber_22 (by decide) ?_
          refine lv_iload hx hb dX7_takeNumber_24 (lv_at hl 1 rfl) ?_
          refine lv_imul hx hb dX7_takeNumber_26 ?_
          refine lv_topi (fun z_35 ez_35 => ?_)
          have kz_35 : z_35.toInt = 10 * g_23_l4.toInt := ti_mul ez_35 (by decide) rfl (by omega) (by omega)
          clear ez_35
          refine lv_aload_n hx hb dX7_takeNumber_27 rfl (lv_at hl 3 rfl) ?_
          refine lv_iload hx hb dX7_takeNumber_28 (lv_at hl 0 rfl) ?_
          refine va_bald hx hb hK hP 5 4 rfl rfl (vp_in_iff.mpr (by omega)) dX7_takeNumber_30 ?_
          refine lv_topi (fun z_36 ez_36 => ?_)
          have qz_36 : z_36 = z_32 := ez_36.trans ez_32.symm
          clear ez_36
          subst z_36
          refine lv_iadd hx hb dX7_takeNumber_31 ?_
          refine lv_topi (fun z_37 ez_37 => ?_)
          have kz_37 : z_37.toInt = z_35.toInt + z_32.toInt := ti_add ez_37 rfl rfl (by omega) (by omega)
          clear ez_37
          refine lv_bipush (v := 48) hx hb dX7_takeNumber_32 (by decide) ?_
          refine lv_isub hx hb dX7_takeNumber_34 ?_
          refine lv_topi (fun z_38 ez_38 => ?_)
          have kz_38 : z_38.toInt = z_37.toInt - 48 := ti_sub ez_38 rfl (by decide) (by omega) (by omega)
          clear ez_38
          refine lv_ldc (v := 1000000) hx hb hown (hT _ mw_3_101) dX7_takeNumber_35 ?_
          have hPc := hP.sub (ws' := []) [] rfl
          have hDc := hD.sub (ws' := []) [] (by decide) rfl
          have hKc := hK.sub (tys' := []) [] rfl
          have hFc := va_free (wc := []) hD hS hA [] rfl
          have := (by decide : (1000000 : Int32).toInt = 1000000)
          refine va_calli (va_runS (As := [.int z_38, .int 1000000]) (rest := []) ⟨hx, hb, hml, hown, hT⟩ (c_J9_min_7cf53 l dC dI H.size z_38 (1000000 : Int32) ) (va_cwS 2 hT (gwS mw_3_102 mw_3_103 mw_1_17 mw_3_104) rfl rfl rfl (by decide +kernel) ⟨Nat.le_of_ble_eq_true rfl, Nat.le_of_ble_eq_true rfl⟩) ⟨fun a U g mk q => by obtain ⟨q0, q1, qP, qK, qD⟩ := q; exact ⟨q0, q1, qP, va_K.moved (u := U) (U := U.calling g mk a) (Vm.Alike.refl U.vm) qK, qD⟩, fun U hU hW => ⟨rfl, by rw [hU], by rw [hU]; exact hPc, va_K.moved hW.alike hKc, hDc.weaken (fun _ _ _ _ => trivial)⟩⟩ rfl rfl hl.1 rfl (lv_room (Nat.le_of_ble_eq_true rfl)) dX7_takeNumber_37 ⟨Nat.le_of_ble_eq_true rfl, Nat.le_of_ble_eq_true rfl⟩) hS (fun q _ h => hFc q h) hFc (fun r_39 u t H1 locs ht hvm hw hB hz1 hk1 hS => ?_)
          obtain ⟨hP1, hD1⟩ := hB
          rw [ht] at hP1
          obtain ⟨hP, hD⟩ := va_join (wr := [(tk, .inr (7, [.int tk_count, .ref tk_kind, .ref tk_place, .ref tk_worth, .ref tk_language])), (tk_kind, .inl (k_tk_kind, 701, .inl f_tk_kind)), (tk_place, .inl (k_tk_place, 701, .inl f_tk_place)), (tk_worth, .inl (k_tk_worth, 701, .inl f_tk_worth)), (tk_language, .inl (k_tk_language, 20, .inl f_tk_language)), (bb, .inl (kbb, 700, .inl fbb))]) (w1 := []) hP hD [] [0, 1, 2, 3, 4, 5] rfl rfl (by decide) (by decide) hk1 hFc hP1 hD1
          generalize H1 = H at hP hS ⊢
          have hP : va_P (dC, dI) vwCl [(tk, .inr (7, [.int tk_count, .ref tk_kind, .ref tk_place, .ref tk_worth, .ref tk_language])), (tk_kind, .inl (k_tk_kind, 701, .inl f_tk_kind)), (tk_place, .inl (k_tk_place, 701, .inl f_tk_place)), (tk_worth, .inl (k_tk_worth, 701, .inl f_tk_worth)), (tk_language, .inl (k_tk_language, 20, .inl f_tk_language)), (bb, .inl (kbb, 700, .inl fbb))] H := hP
          have hD : va_D A [(tk, .inr (7, [.int tk_count, .ref tk_kind, .ref tk_place, .ref tk_worth, .ref tk_language])), (tk_kind, .inl (k_tk_kind, 701, .inl f_tk_kind)), (tk_place, .inl (k_tk_place, 701, .inl f_tk_place)), (tk_worth, .inl (k_tk_worth, 701, .inl f_tk_worth)), (tk_language, .inl (k_tk_language, 20, .inl f_tk_language)), (bb, .inl (kbb, 700, .inl fbb))] := hD
          clear hPc hDc hKc hFc hP1 hD1 hk1 hz1 ht hvm
          have hwr_39 : (r_39.toInt = z_38.toInt ∧ z_38.toInt ≤ (1000000 : Int32).toInt) ∨ (r_39.toInt = (1000000 : Int32).toInt ∧ (1000000 : Int32).toInt ≤ z_38.toInt) := hw
          clear hw
          refine lv_istore (lv' := [(4, .int r_39), (5, .int g_23_l5), (0, .ref tk), (1, .ref bb), (2, .int vf), (3, .int vl)]) hx hb dX7_takeNumber_40 hl (by decide) rfl (fun ls hl => ?_)
          obtain ⟨z_40, ez_40⟩ : ∃ y : Int32, y = g_23_l5 + Int32.ofInt (1) := ⟨_, rfl⟩
          have kz_40 : z_40.toInt = g_23_l5.toInt + (1) := ti_add ez_40 rfl (by decide) (by omega) (by omega)
          refine lv_iinc (v := z_40) (lv' := [(5, .int z_40), (4, .int r_39), (0, .ref tk), (1, .ref bb), (2, .int vf), (3, .int vl)]) hx hb dX7_takeNumber_42 hl (k := 1) rfl (ez_40.symm) (by decide) rfl (fun ls hl => ?_)
          clear ez_40
          refine lv_goto (tgt := 6) hx hb dX7_takeNumber_45 (by decide) ?_
          exact ih25 z_40 r_39 (by omega) (by omega) (NVt_s (y := z_38) hi_nv_q_24 ez_32 (by omega) (by omega) (by have := (by decide : (1000000 : Int32).toInt = 1000000); omega) (by omega) (by omega) (by omega)) (by omega) (by omega) (by omega) _ _ (hP.sub [0, 1, 2, 3, 4, 5] rfl) (hD.sub [0, 1, 2, 3, 4, 5] (by decide) rfl) hS _ (lv_sub hl [0, 1, 2, 3, 4, 5] rfl)
        · subst r_33
          refine lv_if_eq (tgt := 48) hx hb dX7_takeNumber_19 (by decide) (fun c_41 => ?_) (fun c_41 => absurd c_41 (by decide))
          refine lv_aload_n hx hb dX7_takeNumber_48 rfl (lv_at hl 2 rfl) ?_
          refine lv_iconst (v := 1) hx hb dX7_takeNumber_49 (by decide) ?_
          refine lv_iload_n hx hb dX7_takeNumber_50 rfl (lv_at hl 4 rfl) ?_
          refine lv_iload hx hb dX7_takeNumber_51 (lv_at hl 1 rfl) ?_
          have hPc := hP.sub (ws' := [(tk, .inr (7, [.int tk_count, .ref tk_kind, .ref tk_place, .ref tk_worth, .ref tk_language])), (tk_kind, .inl (k_tk_kind, 701, .inl f_tk_kind)), (tk_place, .inl (k_tk_place, 701, .inl f_tk_place)), (tk_worth, .inl (k_tk_worth, 701, .inl f_tk_worth))]) [0, 1, 2, 3] rfl
          have hDc := hD.sub (ws' := [(tk, .inr (7, [.int tk_count, .ref tk_kind, .ref tk_place, .ref tk_worth, .ref tk_language])), (tk_kind, .inl (k_tk_kind, 701, .inl f_tk_kind)), (tk_place, .inl (k_tk_place, 701, .inl f_tk_place)), (tk_worth, .inl (k_tk_worth, 701, .inl f_tk_worth))]) [0, 1, 2, 3] (by decide) rfl
          have hKc := hK.sub (tys' := [(k_tk_kind, .int), (k_tk_place, .int), (k_tk_worth, .int)]) [0, 1, 2] rfl
          have hFc := va_free (wc := [(tk, .inr (7, [.int tk_count, .ref tk_kind, .ref tk_place, .ref tk_worth, .ref tk_language])), (tk_kind, .inl (k_tk_kind, 701, .inl f_tk_kind)), (tk_place, .inl (k_tk_place, 701, .inl f_tk_place)), (tk_worth, .inl (k_tk_worth, 701, .inl f_tk_worth))]) hD hS hA [0, 1, 2, 3] rfl
          have := (by decide : (1 : Int32).toInt = 1)
          refine va_callv (va_runV (As := [.int 1, .int vf, .int g_23_l4]) (rest := []) ⟨hx, hb, hml, hown, hT⟩ (c_X7_add l dC dI H.size tk (1 : Int32) vf g_23_l4 tk_count tk_kind tk_place tk_worth tk_language k_tk_kind f_tk_kind k_tk_place f_tk_place k_tk_worth f_tk_worth (by omega) h_f_tk_kind (by decide)) (cwV 3 hT (gwV mw_3_90 mw_3_92 mp_1_2 mw_1_3 mw_3_93) rfl rfl rfl (by decide +kernel) ⟨Nat.le_of_ble_eq_true rfl, Nat.le_of_ble_eq_true rfl⟩) ⟨fun a U g mk q => by obtain ⟨q0, q1, qP, qK, qD⟩ := q; exact ⟨q0, q1, qP, va_K.moved (u := U) (U := U.calling g mk a) (Vm.Alike.refl U.vm) qK, qD⟩, va_recv hK hP (ci := 7) (q0 := 0) rfl rfl, fun U hU hW => ⟨rfl, by rw [hU], by rw [hU]; exact hPc, va_K.moved hW.alike hKc, hDc.weaken (fun _ _ _ _ => trivial)⟩⟩ rfl rfl hl.1 rfl (lv_room (Nat.le_of_ble_eq_true rfl)) dX7_takeNumber_53 ⟨Nat.le_of_ble_eq_true rfl, Nat.le_of_ble_eq_true rfl⟩) hS (fun q _ h => hFc q h) hFc (fun u t H1 locs ht hvm hw hB hz1 hk1 hS => ?_)
          obtain ⟨x_43, x_44, x_45, x_46, hpr_42_0, hpr_42_1, hpr_42_2, hpr_42_3, hpr_42_4, hpr_42_5, hP1, hD1⟩ := hB
          rw [ht] at hP1
          obtain ⟨hP, hD⟩ := va_join (wr := [(tk_language, .inl (k_tk_language, 20, .inl f_tk_language)), (bb, .inl (kbb, 700, .inl fbb))]) (w1 := [(tk, .inr (7, [.int x_43, .ref tk_kind, .ref tk_place, .ref tk_worth, .ref tk_language])), (tk_kind, .inl (k_tk_kind, 701, .inl x_44)), (tk_place, .inl (k_tk_place, 701, .inl x_45)), (tk_worth, .inl (k_tk_worth, 701, .inl x_46))]) hP hD [0, 1, 2, 3] [4, 5] rfl rfl (by decide) (by decide) hk1 hFc hP1 hD1
          generalize H1 = H at hP hS ⊢
          have hP : va_P (dC, dI) vwCl [(tk_language, .inl (k_tk_language, 20, .inl f_tk_language)), (bb, .inl (kbb, 700, .inl fbb)), (tk, .inr (7, [.int x_43, .ref tk_kind, .ref tk_place, .ref tk_worth, .ref tk_language])), (tk_kind, .inl (k_tk_kind, 701, .inl x_44)), (tk_place, .inl (k_tk_place, 701, .inl x_45)), (tk_worth, .inl (k_tk_worth, 701, .inl x_46))] H := hP
          have hD : va_D A [(tk_language, .inl (k_tk_language, 20, .inl f_tk_language)), (bb, .inl (kbb, 700, .inl fbb)), (tk, .inr (7, [.int x_43, .ref tk_kind, .ref tk_place, .ref tk_worth, .ref tk_language])), (tk_kind, .inl (k_tk_kind, 701, .inl x_44)), (tk_place, .inl (k_tk_place, 701, .inl x_45)), (tk_worth, .inl (k_tk_worth, 701, .inl x_46))] := hD
          clear hPc hDc hKc hFc hP1 hD1 hk1 hz1 ht hvm
          clear hw
          refine lv_iload hx hb dX7_takeNumber_56 (lv_at hl 0 rfl) ?_
          have hP9 := hP.sub (ws' := [(tk, .inr (7, [.int x_43, .ref tk_kind, .ref tk_place, .ref tk_worth, .ref tk_language])), (tk_kind, .inl (k_tk_kind, 701, .inl x_44)), (tk_place, .inl (k_tk_place, 701, .inl x_45)), (tk_worth, .inl (k_tk_worth, 701, .inl x_46)), (tk_language, .inl (k_tk_language, 20, .inl f_tk_language)), (bb, .inl (kbb, 700, .inl fbb))]) [2, 3, 4, 5, 0, 1] rfl
          have hD9 := hD.sub (ws' := [(tk, .inr (7, [.int x_43, .ref tk_kind, .ref tk_place, .ref tk_worth, .ref tk_language])), (tk_kind, .inl (k_tk_kind, 701, .inl x_44)), (tk_place, .inl (k_tk_place, 701, .inl x_45)), (tk_worth, .inl (k_tk_worth, 701, .inl x_46)), (tk_language, .inl (k_tk_language, 20, .inl f_tk_language)), (bb, .inl (kbb, 700, .inl fbb))]) [2, 3, 4, 5, 0, 1] (by decide) rfl
          have hgt := ne_first ez_32 (p := vf) (by omega) (by omega)
          exact W.iret (v := g_23_l5) hx hb hr (fun t ht hW => ⟨⟨g_23_l5, g_23_l5, rfl, ⟨rfl, (by first | omega | (refine ⟨?_, ?_⟩ <;> omega) | rfl | (intros; omega))⟩, x_43, x_44, x_45, x_46, (by omega), hpr_42_1, ⟨(1 : Int32), g_23_l4, hpr_42_2, hpr_42_3, hpr_42_4, hpr_42_5, (by omega), (by omega), tw_num hi_nv_q_24 (by omega) (by omega) (by omega) (Or.inr (by unfold tk_digit fI; rw [← ez_32]; omega))⟩, by rw [ht]; exact hP9, hD9⟩, hS.F ht⟩) hS.2.2 dX7_takeNumber_58
  have := (by decide : (0 : Int32).toInt = 0)
  exact loop_25 4294967296 vf (0 : Int32) (by omega) (by decide) (NVt_0 (by omega)) (by omega) (by omega) (by omega) _ _ (hP.sub [0, 1, 2, 3, 4, 5] rfl) (hD.sub [0, 1, 2, 3, 4, 5] (by decide) rfl) hS _ (lv_sub hl [0, 1, 2, 3, 4, 5] rfl)
abbrev q_X7_takeSign (dC : Nat → ClassId) (dI : Nat → Nat → Nat) (A : Nat → Prop) (tk : Nat) (bb : Nat) (vf : Int32) (vl : Int32) (tk_count : Int32) (tk_kind : Nat) (tk_place : Nat) (tk_worth : Nat) (tk_language : Nat) (k_tk_kind : ClassId) (f_tk_kind : Nat → Int32) (k_tk_place : ClassId) (f_tk_place : Nat → Int32) (k_tk_worth : ClassId) (f_tk_worth : Nat → Int32) (k_tk_language : ClassId) (f_tk_language : Nat → Int32) (kbb : ClassId) (fbb : Nat → Int32) : Array Value → State → Outcome → State → Prop := va_Qi (fun (r : Int32) (e_r : Int32) => r = e_r ∧ ((0 ≤ r.toInt ∧ r.toInt ≤ 700))) (fun (e_r : Int32) (t : State) => ∃ (e_tk_count : Int32), ∃ (g_tk_kind : Nat → Int32), ∃ (g_tk_place : Nat → Int32), ∃ (g_tk_worth : Nat → Int32), (1 ≤ e_tk_count.toInt ∧ e_tk_count.toInt ≤ 701) ∧ (Rg g_tk_kind 0 39) ∧ (TWt fbb f_tk_kind f_tk_place f_tk_worth tk_count vf vl g_tk_kind g_tk_place g_tk_worth e_tk_count e_r) ∧ va_P (dC, dI) vwCl [(tk, .inr (7, [.int e_tk_count, .ref tk_kind, .ref tk_place, .ref tk_worth, .ref tk_language])), (tk_kind, .inl (k_tk_kind, 701, .inl g_tk_kind)), (tk_place, .inl (k_tk_place, 701, .inl g_tk_place)), (tk_worth, .inl (k_tk_worth, 701, .inl g_tk_worth)), (tk_language, .inl (k_tk_language, 20, .inl f_tk_language)), (bb, .inl (kbb, 700, .inl fbb))] t.heap ∧ va_D A [(tk, .inr (7, [.int e_tk_count, .ref tk_kind, .ref tk_place, .ref tk_worth, .ref tk_language])), (tk_kind, .inl (k_tk_kind, 701, .inl g_tk_kind)), (tk_place, .inl (k_tk_place, 701, .inl g_tk_place)), (tk_worth, .inl (k_tk_worth, 701, .inl g_tk_worth)), (tk_language, .inl (k_tk_language, 20, .inl f_tk_language)), (bb, .inl (kbb, 700, .inl fbb))]) A
set_option maxHeartbeats 4000000 in
set_option maxRecDepth 100000 in
theorem c_X7_takeSign (l : Launch) (dC : Nat → ClassId) (dI : Nat → Nat → Nat) (sz : Nat) (tk : Nat) (bb : Nat) (vf : Int32) (vl : Int32) (tk_count : Int32) (tk_kind : Nat) (tk_place : Nat) (tk_worth : Nat) (tk_language : Nat) (k_tk_kind : ClassId) (f_tk_kind : Nat → Int32) (k_tk_place : ClassId) (f_tk_place : Nat → Int32) (k_tk_worth : ClassId) (f_tk_worth : Nat → Int32) (k_tk_language : ClassId) (f_tk_language : Nat → Int32) (kbb : ClassId) (fbb : Nat → Int32) (h_tk_count : 0 ≤ tk_count.toInt ∧ tk_count.toInt ≤ 700) (h_f_tk_kind : Rg f_tk_kind 0 39) (h_fbb : Rg fbb (-128) 127) (h_vf : 0 ≤ vf.toInt ∧ vf.toInt ≤ 699) (h_vl : 0 ≤ vl.toInt ∧ vl.toInt ≤ 700) (hlt : vf.toInt < vl.toInt) (hsm : ((fbb vf.toNatClampNeg).toInt ≠ 10 ∧ (fbb vf.toNatClampNeg).toInt ≠ 32) ∧ ((fbb vf.toNatClampNeg).toInt < 97 ∨ 122 < (fbb vf.toNatClampNeg).toInt) ∧ ((fbb vf.toNatClampNeg).toInt < 48 ∨ 57 < (fbb vf.toNatClampNeg).toInt)) : Met l yX7_takeSign (pw_w yX7_takeSign cX7_takeSign 8 (some .int)) ({ frames := 1, cells := 0, slots := 0, locals := 23 }) (va_Pc [.ref tk, .ref bb, .int vf, .int vl] (fun U => U.heap.size = sz ∧ va_P (dC, dI) vwCl [(tk, .inr (7, [.int tk_count, .ref tk_kind, .ref tk_place, .ref tk_worth, .ref tk_language])), (tk_kind, .inl (k_tk_kind, 701, .inl f_tk_kind)), (tk_place, .inl (k_tk_place, 701, .inl f_tk_place)), (tk_worth, .inl (k_tk_worth, 701, .inl f_tk_worth)), (tk_language, .inl (k_tk_language, 20, .inl f_tk_language)), (bb, .inl (kbb, 700, .inl fbb))] U.heap ∧ va_K (dC, dI) vwCl [(k_tk_kind, .int), (k_tk_place, .int), (k_tk_worth, .int), (k_tk_language, .int), (kbb, .byte)] U ∧ va_D (fun _ => True) [(tk, .inr (7, [.int tk_count, .ref tk_kind, .ref tk_place, .ref tk_worth, .ref tk_language])), (tk_kind, .inl (k_tk_kind, 701, .inl f_tk_kind)), (tk_place, .inl (k_tk_place, 701, .inl f_tk_place)), (tk_worth, .inl (k_tk_worth, 701, .inl f_tk_worth)), (tk_language, .inl (k_tk_language, 20, .inl f_tk_language)), (bb, .inl (kbb, 700, .inl fbb))])) (q_X7_takeSign dC dI (va_A [(tk, .inr (7, [.int tk_count, .ref tk_kind, .ref tk_place, .ref tk_worth, .ref tk_language])), (tk_kind, .inl (k_tk_kind, 701, .inl f_tk_kind)), (tk_place, .inl (k_tk_place, 701, .inl f_tk_place)), (tk_worth, .inl (k_tk_worth, 701, .inl f_tk_worth)), (tk_language, .inl (k_tk_language, 20, .inl f_tk_language)), (bb, .inl (kbb, 700, .inl fbb))] sz) tk bb vf vl tk_count tk_kind tk_place tk_worth tk_language k_tk_kind f_tk_kind k_tk_place f_tk_place k_tk_worth f_tk_worth k_tk_language f_tk_language kbb fbb) 0 0 (va_A [(tk, .inr (7, [.int tk_count, .ref tk_kind, .ref tk_place, .ref tk_worth, .ref tk_language])), (tk_kind, .inl (k_tk_kind, 701, .inl f_tk_kind)), (tk_place, .inl (k_tk_place, 701, .inl f_tk_place)), (tk_worth, .inl (k_tk_worth, 701, .inl f_tk_worth)), (tk_language, .inl (k_tk_language, 20, .inl f_tk_language)), (bb, .inl (kbb, 700, .inl fbb))] sz) := by
  refine Met.ofW (cc := cX7_takeSign) (maxL := 8) (ret := (some .int)) (by decide) rfl ?_
  intro p e s m args below meth c s₁ B hml hv
  obtain ⟨rfl, hsz, hP, hK, hD0⟩ := hv
  have hx := B.exec
  have hb := B.bytes
  have hr := B.returns
  have hts := atoms_spec (ws := (pw_w yX7_takeSign cX7_takeSign 8 (some .int))) B.pre
  have hT : ∀ w ∈ pw_T, w.before _ s = true := fun w h => hts w (List.mem_cons_of_mem _ h)
  have hown : s.vm.findClass RX7 = some m.cls := findClass_of_methodNamed B.named
  have hlocks := B.notSynchronized
  subst hsz
  have hD := hD0.self (sz := s.heap.size)
  generalize hAe : va_A [(tk, .inr (7, [.int tk_count, .ref tk_kind, .ref tk_place, .ref tk_worth, .ref tk_language])), (tk_kind, .inl (k_tk_kind, 701, .inl f_tk_kind)), (tk_place, .inl (k_tk_place, 701, .inl f_tk_place)), (tk_worth, .inl (k_tk_worth, 701, .inl f_tk_worth)), (tk_language, .inl (k_tk_language, 20, .inl f_tk_language)), (bb, .inl (kbb, 700, .inl fbb))] s.heap.size = A at hD ⊢
  have hA : ∀ q : Nat, s.heap.size ≤ q → A q := fun q h => by rw [← hAe]; exact Or.inr h
  have hS : va_S A s.heap s.heap [] := va_S.rf
  have hP : va_P (dC, dI) vwCl [(tk, .inr (7, [.int tk_count, .ref tk_kind, .ref tk_place, .ref tk_worth, .ref tk_language])), (tk_kind, .inl (k_tk_kind, 701, .inl f_tk_kind)), (tk_place, .inl (k_tk_place, 701, .inl f_tk_place)), (tk_worth, .inl (k_tk_worth, 701, .inl f_tk_worth)), (tk_language, .inl (k_tk_language, 20, .inl f_tk_language)), (bb, .inl (kbb, 700, .inl fbb))] s.heap := hP
  have hl := lv_entry ([.ref tk, .ref bb, .int vf, .int vl]) (n := 8) (Nat.le_of_ble_eq_true rfl)
  rw [lg_entry_eq]
  generalize (lg_sl ([.ref tk, .ref bb, .int vf, .int vl]) ++ List.replicate (8 - (lg_sl ([.ref tk, .ref bb, .int vf, .int vl])).length) Slot.unset).toArray = ls at hl ⊢
  have hl : lv_has ls 8 [(0, .ref tk), (1, .ref bb), (2, .int vf), (3, .int vl)] := hl
  refine lv_iload_n hx hb dX7_takeSign_0 rfl (lv_at hl 2 rfl) ?_
  refine lv_iconst (v := 1) hx hb dX7_takeSign_1 (by decide) ?_
  refine lv_iadd hx hb dX7_takeSign_2 ?_
  refine lv_topi (fun z_1 ez_1 => ?_)
  have kz_1 : z_1.toInt = vf.toInt + 1 := ti_add ez_1 rfl (by decide) (by omega) (by omega)
  clear ez_1
  refine lv_iload_n hx hb dX7_takeSign_3 rfl (lv_at hl 3 rfl) ?_
  refine lv_icmp_ge (tgt := 15) hx hb dX7_takeSign_4 (by decide) (fun c_2 => ?_) (fun c_2 => ?_)
  · have kc_2 := il_le c_2
    refine lv_iconst (v := 0) hx hb dX7_takeSign_15 (by decide) ?_
    refine lv_istore (lv' := [(4, .int 0), (0, .ref tk), (1, .ref bb), (2, .int vf), (3, .int vl)]) hx hb dX7_takeSign_16 hl (by decide) rfl (fun ls hl => ?_)
    refine lv_aload_n hx hb dX7_takeSign_18 rfl (lv_at hl 2 rfl) ?_
    refine lv_iload_n hx hb dX7_takeSign_19 rfl (lv_at hl 3 rfl) ?_
    refine va_bald hx hb hK hP 5 4 rfl rfl (vp_in_iff.mpr (by omega)) dX7_takeSign_20 ?_
    refine lv_topi (fun z_3 ez_3 => ?_)
    have kz_3 : (-128) ≤ z_3.toInt ∧ z_3.toInt ≤ 127 := by rw [ez_3]; exact h_fbb _
    refine lv_istore (lv' := [(5, .int z_3), (4, .int 0), (0, .ref tk), (1, .ref bb), (2, .int vf), (3, .int vl)]) hx hb dX7_takeSign_21 hl (by decide) rfl (fun ls hl => ?_)
    refine lv_iload hx hb dX7_takeSign_23 (lv_at hl 0 rfl) ?_
    have hPc := hP.sub (ws' := []) [] rfl
    have hDc := hD.sub (ws' := []) [] (by decide) rfl
    have hKc := hK.sub (tys' := []) [] rfl
    have hFc := va_free (wc := []) hD hS hA [] rfl
    refine va_calli (va_runS (As := [.int z_3]) (rest := []) ⟨hx, hb, hml, hown, hT⟩ (c_X7_signKind l dC dI s.heap.size z_3 ) (va_cwS 1 hT (gwS mw_3_109 mw_3_110 mw_1_3 mw_3_111) rfl rfl rfl (by decide +kernel) ⟨Nat.le_of_ble_eq_true rfl, Nat.le_of_ble_eq_true rfl⟩) ⟨fun a U g mk q => by obtain ⟨q0, q1, qP, qK, qD⟩ := q; exact ⟨q0, q1, qP, va_K.moved (u := U) (U := U.calling g mk a) (Vm.Alike.refl U.vm) qK, qD⟩, fun U hU hW => ⟨rfl, by rw [hU], by rw [hU]; exact hPc, va_K.moved hW.alike hKc, hDc.weaken (fun _ _ _ _ => trivial)⟩⟩ rfl rfl hl.1 rfl (lv_room (Nat.le_of_ble_eq_true rfl)) dX7_takeSign_25 ⟨Nat.le_of_ble_eq_true rfl, Nat.le_of_ble_eq_true rfl⟩) hS (fun q _ h => hFc q h) hFc (fun r_4 u t H1 locs ht hvm hw hB hz1 hk1 hS => ?_)
    obtain ⟨hP1, hD1⟩ := hB
    rw [ht] at hP1
    obtain ⟨hP, hD⟩ := va_join (wr := [(tk, .inr (7, [.int tk_count, .ref tk_kind, .ref tk_place, .ref tk_worth, .ref tk_language])), (tk_kind, .inl (k_tk_kind, 701, .inl f_tk_kind)), (tk_place, .inl (k_tk_place, 701, .inl f_tk_place)), (tk_worth, .inl (k_tk_worth, 701, .inl f_tk_worth)), (tk_language, .inl (k_tk_language, 20, .inl f_tk_language)), (bb, .inl (kbb, 700, .inl fbb))]) (w1 := []) hP hD [] [0, 1, 2, 3, 4, 5] rfl rfl (by decide) (by decide) hk1 hFc hP1 hD1
    generalize H1 = H at hP hS ⊢
    have hP : va_P (dC, dI) vwCl [(tk, .inr (7, [.int tk_count, .ref tk_kind, .ref tk_place, .ref tk_worth, .ref tk_language])), (tk_kind, .inl (k_tk_kind, 701, .inl f_tk_kind)), (tk_place, .inl (k_tk_place, 701, .inl f_tk_place)), (tk_worth, .inl (k_tk_worth, 701, .inl f_tk_worth)), (tk_language, .inl (k_tk_language, 20, .inl f_tk_language)), (bb, .inl (kbb, 700, .inl fbb))] H := hP
    have hD : va_D A [(tk, .inr (7, [.int tk_count, .ref tk_kind, .ref tk_place, .ref tk_worth, .ref tk_language])), (tk_kind, .inl (k_tk_kind, 701, .inl f_tk_kind)), (tk_place, .inl (k_tk_place, 701, .inl f_tk_place)), (tk_worth, .inl (k_tk_worth, 701, .inl f_tk_worth)), (tk_language, .inl (k_tk_language, 20, .inl f_tk_language)), (bb, .inl (kbb, 700, .inl fbb))] := hD
    clear hPc hDc hKc hFc hP1 hD1 hk1 hz1 ht hvm
    have hwr_4 : (3 ≤ r_4.toInt ∧ r_4.toInt ≤ 16) ∧ (SKt z_3.toInt r_4.toInt) := hw
    clear hw
    refine lv_istore (lv' := [(6, .int r_4), (5, .int z_3), (4, .int 0), (0, .ref tk), (1, .ref bb), (2, .int vf), (3, .int vl)]) hx hb dX7_takeSign_28 hl (by decide) rfl (fun ls hl => ?_)
    refine lv_iconst (v := 1) hx hb dX7_takeSign_30 (by decide) ?_
    refine lv_istore (lv' := [(7, .int 1), (6, .int r_4), (5, .int z_3), (4, .int 0), (0, .ref tk), (1, .ref bb), (2, .int vf), (3, .int vl)]) hx hb dX7_takeSign_31 hl (by decide) rfl (fun ls hl => ?_)
    refine lv_iload hx hb dX7_takeSign_33 (lv_at hl 2 rfl) ?_
    refine lv_bipush (v := 60) hx hb dX7_takeSign_35 (by decide) ?_
    refine lv_icmp_ne (tgt := 57) hx hb dX7_takeSign_37 (by decide) (fun c_5 => ?_) (fun c_5 => ?_)
    · have kc_5 := il_ne c_5
      have := (by decide : (60 : Int32).toInt = 60)
      refine lv_iload hx hb dX7_takeSign_57 (lv_at hl 2 rfl) ?_
      refine lv_bipush (v := 60) hx hb dX7_takeSign_59 (by decide) ?_
      refine lv_icmp_ne (tgt := 81) hx hb dX7_takeSign_61 (by decide) (fun c_6 => ?_) (fun c_6 => False.elim (by have := il_eq c_6; have := (by decide : (60 : Int32).toInt = 60); omega))
      have kc_6 := il_ne c_6
      have := (by decide : (60 : Int32).toInt = 60)
      refine lv_iload hx hb dX7_takeSign_81 (lv_at hl 2 rfl) ?_
      refine lv_bipush (v := 62) hx hb dX7_takeSign_83 (by decide) ?_
      refine lv_icmp_ne (tgt := 102) hx hb dX7_takeSign_85 (by decide) (fun c_7 => ?_) (fun c_7 => ?_)
      · have kc_7 := il_ne c_7
        have := (by decide : (62 : Int32).toInt = 62)
        refine lv_aload_n hx hb dX7_takeSign_102 rfl (lv_at hl 4 rfl) ?_
        refine lv_iload hx hb dX7_takeSign_103 (lv_at hl 1 rfl) ?_
        refine lv_iload_n hx hb dX7_takeSign_105 rfl (lv_at hl 6 rfl) ?_
        refine lv_iconst (v := 0) hx hb dX7_takeSign_106 (by decide) ?_
        have hPc := hP.sub (ws' := [(tk, .inr (7, [.int tk_count, .ref tk_kind, .ref tk_place, .ref tk_worth, .ref tk_language])), (tk_kind, .inl (k_tk_kind, 701, .inl f_tk_kind)), (tk_place, .inl (k_tk_place, 701, .inl f_tk_place)), (tk_worth, .inl (k_tk_worth, 701, .inl f_tk_worth))]) [0, 1, 2, 3] rfl
        have hDc := hD.sub (ws' := [(tk, .inr (7, [.int tk_count, .ref tk_kind, .ref tk_place, .ref tk_worth, .ref tk_language])), (tk_kind, .inl (k_tk_kind, 701, .inl f_tk_kind)), (tk_place, .inl (k_tk_place, 701, .inl f_tk_place)), (tk_worth, .inl (k_tk_worth, 701, .inl f_tk_worth))]) [0, 1, 2, 3] (by decide) rfl
        have hKc := hK.sub (tys' := [(k_tk_kind, .int), (k_tk_place, .int), (k_tk_worth, .int)]) [0, 1, 2] rfl
        have hFc := va_free (wc := [(tk, .inr (7, [.int tk_count, .ref tk_kind, .ref tk_place, .ref tk_worth, .ref tk_language])), (tk_kind, .inl (k_tk_kind, 701, .inl f_tk_kind)), (tk_place, .inl (k_tk_place, 701, .inl f_tk_place)), (tk_worth, .inl (k_tk_worth, 701, .inl f_tk_worth))]) hD hS hA [0, 1, 2, 3] rfl
        refine va_callv (va_runV (As := [.int r_4, .int vf, .int 0]) (rest := []) ⟨hx, hb, hml, hown, hT⟩ (c_X7_add l dC dI H.size tk r_4 vf (0 : Int32) tk_count tk_kind tk_place tk_worth tk_language k_tk_kind f_tk_kind k_tk_place f_tk_place k_tk_worth f_tk_worth (by omega) h_f_tk_kind (by omega)) (cwV 3 hT (gwV mw_3_90 mw_3_92 mp_1_2 mw_1_3 mw_3_93) rfl rfl rfl (by decide +kernel) ⟨Nat.le_of_ble_eq_true rfl, Nat.le_of_ble_eq_true rfl⟩) ⟨fun a U g mk q => by obtain ⟨q0, q1, qP, qK, qD⟩ := q; exact ⟨q0, q1, qP, va_K.moved (u := U) (U := U.calling g mk a) (Vm.Alike.refl U.vm) qK, qD⟩, va_recv hK hP (ci := 7) (q0 := 0) rfl rfl, fun U hU hW => ⟨rfl, by rw [hU], by rw [hU]; exact hPc, va_K.moved hW.alike hKc, hDc.weaken (fun _ _ _ _ => trivial)⟩⟩ rfl rfl hl.1 rfl (lv_room (Nat.le_of_ble_eq_true rfl)) dX7_takeSign_107 ⟨Nat.le_of_ble_eq_true rfl, Nat.le_of_ble_eq_true rfl⟩) hS (fun q _ h => hFc q h) hFc (fun u t H1 locs ht hvm hw hB hz1 hk1 hS => ?_)
        obtain ⟨x_9, x_10, x_11, x_12, hpr_8_0, hpr_8_1, hpr_8_2, hpr_8_3, hpr_8_4, hpr_8_5, hP1, hD1⟩ := hB
        rw [ht] at hP1
        obtain ⟨hP, hD⟩ := va_join (wr := [(tk_language, .inl (k_tk_language, 20, .inl f_tk_language)), (bb, .inl (kbb, 700, .inl fbb))]) (w1 := [(tk, .inr (7, [.int x_9, .ref tk_kind, .ref tk_place, .ref tk_worth, .ref tk_language])), (tk_kind, .inl (k_tk_kind, 701, .inl x_10)), (tk_place, .inl (k_tk_place, 701, .inl x_11)), (tk_worth, .inl (k_tk_worth, 701, .inl x_12))]) hP hD [0, 1, 2, 3] [4, 5] rfl rfl (by decide) (by decide) hk1 hFc hP1 hD1
        generalize H1 = H at hP hS ⊢
        have hP : va_P (dC, dI) vwCl [(tk_language, .inl (k_tk_language, 20, .inl f_tk_language)), (bb, .inl (kbb, 700, .inl fbb)), (tk, .inr (7, [.int x_9, .ref tk_kind, .ref tk_place, .ref tk_worth, .ref tk_language])), (tk_kind, .inl (k_tk_kind, 701, .inl x_10)), (tk_place, .inl (k_tk_place, 701, .inl x_11)), (tk_worth, .inl (k_tk_worth, 701, .inl x_12))] H := hP
        have hD : va_D A [(tk_language, .inl (k_tk_language, 20, .inl f_tk_language)), (bb, .inl (kbb, 700, .inl fbb)), (tk, .inr (7, [.int x_9, .ref tk_kind, .ref tk_place, .ref tk_worth, .ref tk_language])), (tk_kind, .inl (k_tk_kind, 701, .inl x_10)), (tk_place, .inl (k_tk_place, 701, .inl x_11)), (tk_worth, .inl (k_tk_worth, 701, .inl x_12))] := hD
        clear hPc hDc hKc hFc hP1 hD1 hk1 hz1 ht hvm
        clear hw
        refine lv_iload_n hx hb dX7_takeSign_110 rfl (lv_at hl 6 rfl) ?_
        refine lv_iload hx hb dX7_takeSign_111 (lv_at hl 0 rfl) ?_
        refine lv_iadd hx hb dX7_takeSign_113 ?_
        refine lv_topi (fun z_13 ez_13 => ?_)
        have kz_13 : z_13.toInt = vf.toInt + 1 := ti_add ez_13 rfl (by decide) (by omega) (by omega)
        clear ez_13
        have hP9 := hP.sub (ws' := [(tk, .inr (7, [.int x_9, .ref tk_kind, .ref tk_place, .ref tk_worth, .ref tk_language])), (tk_kind, .inl (k_tk_kind, 701, .inl x_10)), (tk_place, .inl (k_tk_place, 701, .inl x_11)), (tk_worth, .inl (k_tk_worth, 701, .inl x_12)), (tk_language, .inl (k_tk_language, 20, .inl f_tk_language)), (bb, .inl (kbb, 700, .inl fbb))]) [2, 3, 4, 5, 0, 1] rfl
        have hD9 := hD.sub (ws' := [(tk, .inr (7, [.int x_9, .ref tk_kind, .ref tk_place, .ref tk_worth, .ref tk_language])), (tk_kind, .inl (k_tk_kind, 701, .inl x_10)), (tk_place, .inl (k_tk_place, 701, .inl x_11)), (tk_worth, .inl (k_tk_worth, 701, .inl x_12)), (tk_language, .inl (k_tk_language, 20, .inl f_tk_language)), (bb, .inl (kbb, 700, .inl fbb))]) [2, 3, 4, 5, 0, 1] (by decide) rfl
        exact W.iret (v := z_13) hx hb hr (fun t ht hW => ⟨⟨z_13, z_13, rfl, ⟨rfl, (by first | omega | (refine ⟨?_, ?_⟩ <;> omega) | rfl | (intros; omega))⟩, x_9, x_10, x_11, x_12, (by omega), hpr_8_1, ⟨r_4, (0 : Int32), hpr_8_2, hpr_8_3, hpr_8_4, hpr_8_5, (by omega), (by omega), tw_sign (nx := 0) (s := 1) (by omega) (by omega) ez_3 (by rw [ez_3]; omega) (by rw [ez_3]; omega) (by rw [ez_3]; omega) (Or.inr ⟨(by omega), rfl⟩) (by omega) (sk_1 hwr_4.2 (by omega) (by omega))⟩, by rw [ht]; exact hP9, hD9⟩, hS.F ht⟩) hS.2.2 dX7_takeSign_114
      · have kc_7 := il_eq c_7
        have := (by decide : (62 : Int32).toInt = 62)
        refine lv_iload hx hb dX7_takeSign_88 (lv_at hl 3 rfl) ?_
        refine lv_bipush (v := 61) hx hb dX7_takeSign_90 (by decide) ?_
        refine lv_icmp_ne (tgt := 102) hx hb dX7_takeSign_92 (by decide) (fun c_14 => ?_) (fun c_14 => absurd c_14 (by decide))
        refine lv_aload_n hx hb dX7_takeSign_102 rfl (lv_at hl 4 rfl) ?_
        refine lv_iload hx hb dX7_takeSign_103 (lv_at hl 1 rfl) ?_
        refine lv_iload_n hx hb dX7_takeSign_105 rfl (lv_at hl 6 rfl) ?_
        refine lv_iconst (v := 0) hx hb dX7_takeSign_106 (by decide) ?_
        have hPc := hP.sub (ws' := [(tk, .inr (7, [.int tk_count, .ref tk_kind, .ref tk_place, .ref tk_worth, .ref tk_language])), (tk_kind, .inl (k_tk_kind, 701, .inl f_tk_kind)), (tk_place, .inl (k_tk_place, 701, .inl f_tk_place)), (tk_worth, .inl (k_tk_worth, 701, .inl f_tk_worth))]) [0, 1, 2, 3] rfl
        have hDc := hD.sub (ws' := [(tk, .inr (7, [.int tk_count, .ref tk_kind, .ref tk_place, .ref tk_worth, .ref tk_language])), (tk_kind, .inl (k_tk_kind, 701, .inl f_tk_kind)), (tk_place, .inl (k_tk_place, 701, .inl f_tk_place)), (tk_worth, .inl (k_tk_worth, 701, .inl f_tk_worth))]) [0, 1, 2, 3] (by decide) rfl
        have hKc := hK.sub (tys' := [(k_tk_kind, .int), (k_tk_place, .int), (k_tk_worth, .int)]) [0, 1, 2] rfl
        have hFc := va_free (wc := [(tk, .inr (7, [.int tk_count, .ref tk_kind, .ref tk_place, .ref tk_worth, .ref tk_language])), (tk_kind, .inl (k_tk_kind, 701, .inl f_tk_kind)), (tk_place, .inl (k_tk_place, 701, .inl f_tk_place)), (tk_worth, .inl (k_tk_worth, 701, .inl f_tk_worth))]) hD hS hA [0, 1, 2, 3] rfl
        refine va_callv (va_runV (As := [.int r_4, .int vf, .int 0]) (rest := []) ⟨hx, hb, hml, hown, hT⟩ (c_X7_add l dC dI H.size tk r_4 vf (0 : Int32) tk_count tk_kind tk_place tk_worth tk_language k_tk_kind f_tk_kind k_tk_place f_tk_place k_tk_worth f_tk_worth (by omega) h_f_tk_kind (by omega)) (cwV 3 hT (gwV mw_3_90 mw_3_92 mp_1_2 mw_1_3 mw_3_93) rfl rfl rfl (by decide +kernel) ⟨Nat.le_of_ble_eq_true rfl, Nat.le_of_ble_eq_true rfl⟩) ⟨fun a U g mk q => by obtain ⟨q0, q1, qP, qK, qD⟩ := q; exact ⟨q0, q1, qP, va_K.moved (u := U) (U := U.calling g mk a) (Vm.Alike.refl U.vm) qK, qD⟩, va_recv hK hP (ci := 7) (q0 := 0) rfl rfl, fun U hU hW => ⟨rfl, by rw [hU], by rw [hU]; exact hPc, va_K.moved hW.alike hKc, hDc.weaken (fun _ _ _ _ => trivial)⟩⟩ rfl rfl hl.1 rfl (lv_room (Nat.le_of_ble_eq_true rfl)) dX7_takeSign_107 ⟨Nat.le_of_ble_eq_true rfl, Nat.le_of_ble_eq_true rfl⟩) hS (fun q _ h => hFc q h) hFc (fun u t H1 locs ht hvm hw hB hz1 hk1 hS => ?_)
        obtain ⟨x_16, x_17, x_18, x_19, hpr_15_0, hpr_15_1, hpr_15_2, hpr_15_3, hpr_15_4, hpr_15_5, hP1, hD1⟩ := hB
        rw [ht] at hP1
        obtain ⟨hP, hD⟩ := va_join (wr := [(tk_language, .inl (k_tk_language, 20, .inl f_tk_language)), (bb, .inl (kbb, 700, .inl fbb))]) (w1 := [(tk, .inr (7, [.int x_16, .ref tk_kind, .ref tk_place, .ref tk_worth, .ref tk_language])), (tk_kind, .inl (k_tk_kind, 701, .inl x_17)), (tk_place, .inl (k_tk_place, 701, .inl x_18)), (tk_worth, .inl (k_tk_worth, 701, .inl x_19))]) hP hD [0, 1, 2, 3] [4, 5] rfl rfl (by decide) (by decide) hk1 hFc hP1 hD1
        generalize H1 = H at hP hS ⊢
        have hP : va_P (dC, dI) vwCl [(tk_language, .inl (k_tk_language, 20, .inl f_tk_language)), (bb, .inl (kbb, 700, .inl fbb)), (tk, .inr (7, [.int x_16, .ref tk_kind, .ref tk_place, .ref tk_worth, .ref tk_language])), (tk_kind, .inl (k_tk_kind, 701, .inl x_17)), (tk_place, .inl (k_tk_place, 701, .inl x_18)), (tk_worth, .inl (k_tk_worth, 701, .inl x_19))] H := hP
        have hD : va_D A [(tk_language, .inl (k_tk_language, 20, .inl f_tk_language)), (bb, .inl (kbb, 700, .inl fbb)), (tk, .inr (7, [.int x_16, .ref tk_kind, .ref tk_place, .ref tk_worth, .ref tk_language])), (tk_kind, .inl (k_tk_kind, 701, .inl x_17)), (tk_place, .inl (k_tk_place, 701, .inl x_18)), (tk_worth, .inl (k_tk_worth, 701, .inl x_19))] := hD
        clear hPc hDc hKc hFc hP1 hD1 hk1 hz1 ht hvm
        clear hw
        refine lv_iload_n hx hb dX7_takeSign_110 rfl (lv_at hl 6 rfl) ?_
        refine lv_iload hx hb dX7_takeSign_111 (lv_at hl 0 rfl) ?_
        refine lv_iadd hx hb dX7_takeSign_113 ?_
        refine lv_topi (fun z_20 ez_20 => ?_)
        have kz_20 : z_20.toInt = vf.toInt + 1 := ti_add ez_20 rfl (by decide) (by omega) (by omega)
        clear ez_20
        have hP9 := hP.sub (ws' := [(tk, .inr (7, [.int x_16, .ref tk_kind, .ref tk_place, .ref tk_worth, .ref tk_language])), (tk_kind, .inl (k_tk_kind, 701, .inl x_17)), (tk_place, .inl (k_tk_place, 701, .inl x_18)), (tk_worth, .inl (k_tk_worth, 701, .inl x_19)), (tk_language, .inl (k_tk_language, 20, .inl f_tk_language)), (bb, .inl (kbb, 700, .inl fbb))]) [2, 3, 4, 5, 0, 1] rfl
        have hD9 := hD.sub (ws' := [(tk, .inr (7, [.int x_16, .ref tk_kind, .ref tk_place, .ref tk_worth, .ref tk_language])), (tk_kind, .inl (k_tk_kind, 701, .inl x_17)), (tk_place, .inl (k_tk_place, 701, .inl x_18)), (tk_worth, .inl (k_tk_worth, 701, .inl x_19)), (tk_language, .inl (k_tk_language, 20, .inl f_tk_language)), (bb, .inl (kbb, 700, .inl fbb))]) [2, 3, 4, 5, 0, 1] (by decide) rfl
        exact W.iret (v := z_20) hx hb hr (fun t ht hW => ⟨⟨z_20, z_20, rfl, ⟨rfl, (by first | omega | (refine ⟨?_, ?_⟩ <;> omega) | rfl | (intros; omega))⟩, x_16, x_17, x_18, x_19, (by omega), hpr_15_1, ⟨r_4, (0 : Int32), hpr_15_2, hpr_15_3, hpr_15_4, hpr_15_5, (by omega), (by omega), tw_sign (nx := 0) (s := 1) (by omega) (by omega) ez_3 (by rw [ez_3]; omega) (by rw [ez_3]; omega) (by rw [ez_3]; omega) (Or.inr ⟨(by omega), rfl⟩) (by omega) (sk_1 hwr_4.2 (by omega) (by omega))⟩, by rw [ht]; exact hP9, hD9⟩, hS.F ht⟩) hS.2.2 dX7_takeSign_114
    · have kc_5 := il_eq c_5
      have := (by decide : (60 : Int32).toInt = 60)
      refine lv_iload hx hb dX7_takeSign_40 (lv_at hl 3 rfl) ?_
      refine lv_bipush (v := 61) hx hb dX7_takeSign_42 (by decide) ?_
      refine lv_icmp_ne (tgt := 57) hx hb dX7_takeSign_44 (by decide) (fun c_21 => ?_) (fun c_21 => absurd c_21 (by decide))
      refine lv_iload hx hb dX7_takeSign_57 (lv_at hl 2 rfl) ?_
      refine lv_bipush (v := 60) hx hb dX7_takeSign_59 (by decide) ?_
      refine lv_icmp_ne (tgt := 81) hx hb dX7_takeSign_61 (by decide) (fun c_22 => False.elim (by have := il_ne c_22; have := (by decide : (60 : Int32).toInt = 60); omega)) (fun c_22 => ?_)
      have kc_22 := il_eq c_22
      have := (by decide : (60 : Int32).toInt = 60)
      refine lv_iload hx hb dX7_takeSign_64 (lv_at hl 3 rfl) ?_
      refine lv_bipush (v := 62) hx hb dX7_takeSign_66 (by decide) ?_
      refine lv_icmp_ne (tgt := 81) hx hb dX7_takeSign_68 (by decide) (fun c_23 => ?_) (fun c_23 => absurd c_23 (by decide))
      refine lv_iload hx hb dX7_takeSign_81 (lv_at hl 2 rfl) ?_
      refine lv_bipush (v := 62) hx hb dX7_takeSign_83 (by decide) ?_
      refine lv_icmp_ne (tgt := 102) hx hb dX7_takeSign_85 (by decide) (fun c_24 => ?_) (fun c_24 => False.elim (by have := il_eq c_24; have := (by decide : (62 : Int32).toInt = 62); omega))
      have kc_24 := il_ne c_24
      have := (by decide : (62 : Int32).toInt = 62)
      refine lv_aload_n hx hb dX7_takeSign_102 rfl (lv_at hl 4 rfl) ?_
      refine lv_iload hx hb dX7_takeSign_103 (lv_at hl 1 rfl) ?_
      refine lv_iload_n hx hb dX7_takeSign_105 rfl (lv_at hl 6 rfl) ?_
      refine lv_iconst (v := 0) hx hb dX7_takeSign_106 (by decide) ?_
      have hPc := hP.sub (ws' := [(tk, .inr (7, [.int tk_count, .ref tk_kind, .ref tk_place, .ref tk_worth, .ref tk_language])), (tk_kind, .inl (k_tk_kind, 701, .inl f_tk_kind)), (tk_place, .inl (k_tk_place, 701, .inl f_tk_place)), (tk_worth, .inl (k_tk_worth, 701, .inl f_tk_worth))]) [0, 1, 2, 3] rfl
      have hDc := hD.sub (ws' := [(tk, .inr (7, [.int tk_count, .ref tk_kind, .ref tk_place, .ref tk_worth, .ref tk_language])), (tk_kind, .inl (k_tk_kind, 701, .inl f_tk_kind)), (tk_place, .inl (k_tk_place, 701, .inl f_tk_place)), (tk_worth, .inl (k_tk_worth, 701, .inl f_tk_worth))]) [0, 1, 2, 3] (by decide) rfl
      have hKc := hK.sub (tys' := [(k_tk_kind, .int), (k_tk_place, .int), (k_tk_worth, .int)]) [0, 1, 2] rfl
      have hFc := va_free (wc := [(tk, .inr (7, [.int tk_count, .ref tk_kind, .ref tk_place, .ref tk_worth, .ref tk_language])), (tk_kind, .inl (k_tk_kind, 701, .inl f_tk_kind)), (tk_place, .inl (k_tk_place, 701, .inl f_tk_place)), (tk_worth, .inl (k_tk_worth, 701, .inl f_tk_worth))]) hD hS hA [0, 1, 2, 3] rfl
      refine va_callv (va_runV (As := [.int r_4, .int vf, .int 0]) (rest := []) ⟨hx, hb, hml, hown, hT⟩ (c_X7_add l dC dI H.size tk r_4 vf (0 : Int32) tk_count tk_kind tk_place tk_worth tk_language k_tk_kind f_tk_kind k_tk_place f_tk_place k_tk_worth f_tk_worth (by omega) h_f_tk_kind (by omega)) (cwV 3 hT (gwV mw_3_90 mw_3_92 mp_1_2 mw_1_3 mw_3_93) rfl rfl rfl (by decide +kernel) ⟨Nat.le_of_ble_eq_true rfl, Nat.le_of_ble_eq_true rfl⟩) ⟨fun a U g mk q => by obtain ⟨q0, q1, qP, qK, qD⟩ := q; exact ⟨q0, q1, qP, va_K.moved (u := U) (U := U.calling g mk a) (Vm.Alike.refl U.vm) qK, qD⟩, va_recv hK hP (ci := 7) (q0 := 0) rfl rfl, fun U hU hW => ⟨rfl, by rw [hU], by rw [hU]; exact hPc, va_K.moved hW.alike hKc, hDc.weaken (fun _ _ _ _ => trivial)⟩⟩ rfl rfl hl.1 rfl (lv_room (Nat.le_of_ble_eq_true rfl)) dX7_takeSign_107 ⟨Nat.le_of_ble_eq_true rfl, Nat.le_of_ble_eq_true rfl⟩) hS (fun q _ h => hFc q h) hFc (fun u t H1 locs ht hvm hw hB hz1 hk1 hS => ?_)
      obtain ⟨x_26, x_27, x_28, x_29, hpr_25_0, hpr_25_1, hpr_25_2, hpr_25_3, hpr_25_4, hpr_25_5, hP1, hD1⟩ := hB
      rw [ht] at hP1
      obtain ⟨hP, hD⟩ := va_join (wr := [(tk_language, .inl (k_tk_language, 20, .inl f_tk_language)), (bb, .inl (kbb, 700, .inl fbb))]) (w1 := [(tk, .inr (7, [.int x_26, .ref tk_kind, .ref tk_place, .ref tk_worth, .ref tk_language])), (tk_kind, .inl (k_tk_kind, 701, .inl x_27)), (tk_place, .inl (k_tk_place, 701, .inl x_28)), (tk_worth, .inl (k_tk_worth, 701, .inl x_29))]) hP hD [0, 1, 2, 3] [4, 5] rfl rfl (by decide) (by decide) hk1 hFc hP1 hD1
      generalize H1 = H at hP hS ⊢
      have hP : va_P (dC, dI) vwCl [(tk_language, .inl (k_tk_language, 20, .inl f_tk_language)), (bb, .inl (kbb, 700, .inl fbb)), (tk, .inr (7, [.int x_26, .ref tk_kind, .ref tk_place, .ref tk_worth, .ref tk_language])), (tk_kind, .inl (k_tk_kind, 701, .inl x_27)), (tk_place, .inl (k_tk_place, 701, .inl x_28)), (tk_worth, .inl (k_tk_worth, 701, .inl x_29))] H := hP
      have hD : va_D A [(tk_language, .inl (k_tk_language, 20, .inl f_tk_language)), (bb, .inl (kbb, 700, .inl fbb)), (tk, .inr (7, [.int x_26, .ref tk_kind, .ref tk_place, .ref tk_worth, .ref tk_language])), (tk_kind, .inl (k_tk_kind, 701, .inl x_27)), (tk_place, .inl (k_tk_place, 701, .inl x_28)), (tk_worth, .inl (k_tk_worth, 701, .inl x_29))] := hD
      clear hPc hDc hKc hFc hP1 hD1 hk1 hz1 ht hvm
      clear hw
      refine lv_iload_n hx hb dX7_takeSign_110 rfl (lv_at hl 6 rfl) ?_
      refine lv_iload hx hb dX7_takeSign_111 (lv_at hl 0 rfl) ?_
      refine lv_iadd hx hb dX7_takeSign_113 ?_
      refine lv_topi (fun z_30 ez_30 => ?_)
      have kz_30 : z_30.toInt = vf.toInt + 1 := ti_add ez_30 rfl (by decide) (by omega) (by omega)
      clear ez_30
      have hP9 := hP.sub (ws' := [(tk, .inr (7, [.int x_26, .ref tk_kind, .ref tk_place, .ref tk_worth, .ref tk_language])), (tk_kind, .inl (k_tk_kind, 701, .inl x_27)), (tk_place, .inl (k_tk_place, 701, .inl x_28)), (tk_worth, .inl (k_tk_worth, 701, .inl x_29)), (tk_language, .inl (k_tk_language, 20, .inl f_tk_language)), (bb, .inl (kbb, 700, .inl fbb))]) [2, 3, 4, 5, 0, 1] rfl
      have hD9 := hD.sub (ws' := [(tk, .inr (7, [.int x_26, .ref tk_kind, .ref tk_place, .ref tk_worth, .ref tk_language])), (tk_kind, .inl (k_tk_kind, 701, .inl x_27)), (tk_place, .inl (k_tk_place, 701, .inl x_28)), (tk_worth, .inl (k_tk_worth, 701, .inl x_29)), (tk_language, .inl (k_tk_language, 20, .inl f_tk_language)), (bb, .inl (kbb, 700, .inl fbb))]) [2, 3, 4, 5, 0, 1] (by decide) rfl
      exact W.iret (v := z_30) hx hb hr (fun t ht hW => ⟨⟨z_30, z_30, rfl, ⟨rfl, (by first | omega | (refine ⟨?_, ?_⟩ <;> omega) | rfl | (intros; omega))⟩, x_26, x_27, x_28, x_29, (by omega), hpr_25_1, ⟨r_4, (0 : Int32), hpr_25_2, hpr_25_3, hpr_25_4, hpr_25_5, (by omega), (by omega), tw_sign (nx := 0) (s := 1) (by omega) (by omega) ez_3 (by rw [ez_3]; omega) (by rw [ez_3]; omega) (by rw [ez_3]; omega) (Or.inr ⟨(by omega), rfl⟩) (by omega) (sk_1 hwr_4.2 (by omega) (by omega))⟩, by rw [ht]; exact hP9, hD9⟩, hS.F ht⟩) hS.2.2 dX7_takeSign_114
  · have kc_2 := il_nle c_2
    refine lv_aload_n hx hb dX7_takeSign_7 rfl (lv_at hl 1 rfl) ?_
    refine lv_iload_n hx hb dX7_takeSign_8 rfl (lv_at hl 2 rfl) ?_
    refine lv_iconst (v := 1) hx hb dX7_takeSign_9 (by decide) ?_
    refine lv_iadd hx hb dX7_takeSign_10 ?_
    refine lv_topi (fun z_31 ez_31 => ?_)
    have kz_31 : z_31.toInt = vf.toInt + 1 := ti_add ez_31 rfl (by decide) (by omega) (by omega)
    clear ez_31
    refine va_bald hx hb hK hP 5 4 rfl rfl (vp_in_iff.mpr (by omega)) dX7_takeSign_11 ?_
    refine lv_topi (fun z_32 ez_32 => ?_)
    have kz_32 : (-128) ≤ z_32.toInt ∧ z_32.toInt ≤ 127 := by rw [ez_32]; exact h_fbb _
    refine lv_goto (tgt := 16) hx hb dX7_takeSign_12 (by decide) ?_
    refine lv_istore (lv' := [(4, .int z_32), (0, .ref tk), (1, .ref bb), (2, .int vf), (3, .int vl)]) hx hb dX7_takeSign_16 hl (by decide) rfl (fun ls hl => ?_)
    refine lv_aload_n hx hb dX7_takeSign_18 rfl (lv_at hl 2 rfl) ?_
    refine lv_iload_n hx hb dX7_takeSign_19 rfl (lv_at hl 3 rfl) ?_
    refine va_bald hx hb hK hP 5 4 rfl rfl (vp_in_iff.mpr (by omega)) dX7_takeSign_20 ?_
    refine lv_topi (fun z_33 ez_33 => ?_)
    have kz_33 : (-128) ≤ z_33.toInt ∧ z_33.toInt ≤ 127 := by rw [ez_33]; exact h_fbb _
    refine lv_istore (lv' := [(5, .int z_33), (4, .int z_32), (0, .ref tk), (1, .ref bb), (2, .int vf), (3, .int vl)]) hx hb dX7_takeSign_21 hl (by decide) rfl (fun ls hl => ?_)
    refine lv_iload hx hb dX7_takeSign_23 (lv_at hl 0 rfl) ?_
    have hPc := hP.sub (ws' := []) [] rfl
    have hDc := hD.sub (ws' := []) [] (by decide) rfl
    have hKc := hK.sub (tys' := []) [] rfl
    have hFc := va_free (wc := []) hD hS hA [] rfl
    refine va_calli (va_runS (As := [.int z_33]) (rest := []) ⟨hx, hb, hml, hown, hT⟩ (c_X7_signKind l dC dI s.heap.size z_33 ) (va_cwS 1 hT (gwS mw_3_109 mw_3_110 mw_1_3 mw_3_111) rfl rfl rfl (by decide +kernel) ⟨Nat.le_of_ble_eq_true rfl, Nat.le_of_ble_eq_true rfl⟩) ⟨fun a U g mk q => by obtain ⟨q0, q1, qP, qK, qD⟩ := q; exact ⟨q0, q1, qP, va_K.moved (u := U) (U := U.calling g mk a) (Vm.Alike.refl U.vm) qK, qD⟩, fun U hU hW => ⟨rfl, by rw [hU], by rw [hU]; exact hPc, va_K.moved hW.alike hKc, hDc.weaken (fun _ _ _ _ => trivial)⟩⟩ rfl rfl hl.1 rfl (lv_room (Nat.le_of_ble_eq_true rfl)) dX7_takeSign_25 ⟨Nat.le_of_ble_eq_true rfl, Nat.le_of_ble_eq_true rfl⟩) hS (fun q _ h => hFc q h) hFc (fun r_34 u t H1 locs ht hvm hw hB hz1 hk1 hS => ?_)
    obtain ⟨hP1, hD1⟩ := hB
    rw [ht] at hP1
    obtain ⟨hP, hD⟩ := va_join (wr := [(tk, .inr (7, [.int tk_count, .ref tk_kind, .ref tk_place, .ref tk_worth, .ref tk_language])), (tk_kind, .inl (k_tk_kind, 701, .inl f_tk_kind)), (tk_place, .inl (k_tk_place, 701, .inl f_tk_place)), (tk_worth, .inl (k_tk_worth, 701, .inl f_tk_worth)), (tk_language, .inl (k_tk_language, 20, .inl f_tk_language)), (bb, .inl (kbb, 700, .inl fbb))]) (w1 := []) hP hD [] [0, 1, 2, 3, 4, 5] rfl rfl (by decide) (by decide) hk1 hFc hP1 hD1
    generalize H1 = H at hP hS ⊢
    have hP : va_P (dC, dI) vwCl [(tk, .inr (7, [.int tk_count, .ref tk_kind, .ref tk_place, .ref tk_worth, .ref tk_language])), (tk_kind, .inl (k_tk_kind, 701, .inl f_tk_kind)), (tk_place, .inl (k_tk_place, 701, .inl f_tk_place)), (tk_worth, .inl (k_tk_worth, 701, .inl f_tk_worth)), (tk_language, .inl (k_tk_language, 20, .inl f_tk_language)), (bb, .inl (kbb, 700, .inl fbb))] H := hP
    have hD : va_D A [(tk, .inr (7, [.int tk_count, .ref tk_kind, .ref tk_place, .ref tk_worth, .ref tk_language])), (tk_kind, .inl (k_tk_kind, 701, .inl f_tk_kind)), (tk_place, .inl (k_tk_place, 701, .inl f_tk_place)), (tk_worth, .inl (k_tk_worth, 701, .inl f_tk_worth)), (tk_language, .inl (k_tk_language, 20, .inl f_tk_language)), (bb, .inl (kbb, 700, .inl fbb))] := hD
    clear hPc hDc hKc hFc hP1 hD1 hk1 hz1 ht hvm
    have hwr_34 : (3 ≤ r_34.toInt ∧ r_34.toInt ≤ 16) ∧ (SKt z_33.toInt r_34.toInt) := hw
    clear hw
    refine lv_istore (lv' := [(6, .int r_34), (5, .int z_33), (4, .int z_32), (0, .ref tk), (1, .ref bb), (2, .int vf), (3, .int vl)]) hx hb dX7_takeSign_28 hl (by decide) rfl (fun ls hl => ?_)
    refine lv_iconst (v := 1) hx hb dX7_takeSign_30 (by decide) ?_
    refine lv_istore (lv' := [(7, .int 1), (6, .int r_34), (5, .int z_33), (4, .int z_32), (0, .ref tk), (1, .ref bb), (2, .int vf), (3, .int vl)]) hx hb dX7_takeSign_31 hl (by decide) rfl (fun ls hl => ?_)
    refine lv_iload hx hb dX7_takeSign_33 (lv_at hl 2 rfl) ?_
    refine lv_bipush (v := 60) hx hb dX7_takeSign_35 (by decide) ?_
    refine lv_icmp_ne (tgt := 57) hx hb dX7_takeSign_37 (by decide) (fun c_35 => ?_) (fun c_35 => ?_)
    · have kc_35 := il_ne c_35
      have := (by decide : (60 : Int32).toInt = 60)
      refine lv_iload hx hb dX7_takeSign_57 (lv_at hl 2 rfl) ?_
      refine lv_bipush (v := 60) hx hb dX7_takeSign_59 (by decide) ?_
      refine lv_icmp_ne (tgt := 81) hx hb dX7_takeSign_61 (by decide) (fun c_36 => ?_) (fun c_36 => False.elim (by have := il_eq c_36; have := (by decide : (60 : Int32).toInt = 60); omega))
      have kc_36 := il_ne c_36
      have := (by decide : (60 : Int32).toInt = 60)
      refine lv_iload hx hb dX7_takeSign_81 (lv_at hl 2 rfl) ?_
      refine lv_bipush (v := 62) hx hb dX7_takeSign_83 (by decide) ?_
      refine lv_icmp_ne (tgt := 102) hx hb dX7_takeSign_85 (by decide) (fun c_37 => ?_) (fun c_37 => ?_)
      · have kc_37 := il_ne c_37
        have := (by decide : (62 : Int32).toInt = 62)
        refine lv_aload_n hx hb dX7_takeSign_102 rfl (lv_at hl 4 rfl) ?_
        refine lv_iload hx hb dX7_takeSign_103 (lv_at hl 1 rfl) ?_
        refine lv_iload_n hx hb dX7_takeSign_105 rfl (lv_at hl 6 rfl) ?_
        refine lv_iconst (v := 0) hx hb dX7_takeSign_106 (by decide) ?_
        have hPc := hP.sub (ws' := [(tk, .inr (7, [.int tk_count, .ref tk_kind, .ref tk_place, .ref tk_worth, .ref tk_language])), (tk_kind, .inl (k_tk_kind, 701, .inl f_tk_kind)), (tk_place, .inl (k_tk_place, 701, .inl f_tk_place)), (tk_worth, .inl (k_tk_worth, 701, .inl f_tk_worth))]) [0, 1, 2, 3] rfl
        have hDc := hD.sub (ws' := [(tk, .inr (7, [.int tk_count, .ref tk_kind, .ref tk_place, .ref tk_worth, .ref tk_language])), (tk_kind, .inl (k_tk_kind, 701, .inl f_tk_kind)), (tk_place, .inl (k_tk_place, 701, .inl f_tk_place)), (tk_worth, .inl (k_tk_worth, 701, .inl f_tk_worth))]) [0, 1, 2, 3] (by decide) rfl
        have hKc := hK.sub (tys' := [(k_tk_kind, .int), (k_tk_place, .int), (k_tk_worth, .int)]) [0, 1, 2] rfl
        have hFc := va_free (wc := [(tk, .inr (7, [.int tk_count, .ref tk_kind, .ref tk_place, .ref tk_worth, .ref tk_language])), (tk_kind, .inl (k_tk_kind, 701, .inl f_tk_kind)), (tk_place, .inl (k_tk_place, 701, .inl f_tk_place)), (tk_worth, .inl (k_tk_worth, 701, .inl f_tk_worth))]) hD hS hA [0, 1, 2, 3] rfl
        refine va_callv (va_runV (As := [.int r_34, .int vf, .int 0]) (rest := []) ⟨hx, hb, hml, hown, hT⟩ (c_X7_add l dC dI H.size tk r_34 vf (0 : Int32) tk_count tk_kind tk_place tk_worth tk_language k_tk_kind f_tk_kind k_tk_place f_tk_place k_tk_worth f_tk_worth (by omega) h_f_tk_kind (by omega)) (cwV 3 hT (gwV mw_3_90 mw_3_92 mp_1_2 mw_1_3 mw_3_93) rfl rfl rfl (by decide +kernel) ⟨Nat.le_of_ble_eq_true rfl, Nat.le_of_ble_eq_true rfl⟩) ⟨fun a U g mk q => by obtain ⟨q0, q1, qP, qK, qD⟩ := q; exact ⟨q0, q1, qP, va_K.moved (u := U) (U := U.calling g mk a) (Vm.Alike.refl U.vm) qK, qD⟩, va_recv hK hP (ci := 7) (q0 := 0) rfl rfl, fun U hU hW => ⟨rfl, by rw [hU], by rw [hU]; exact hPc, va_K.moved hW.alike hKc, hDc.weaken (fun _ _ _ _ => trivial)⟩⟩ rfl rfl hl.1 rfl (lv_room (Nat.le_of_ble_eq_true rfl)) dX7_takeSign_107 ⟨Nat.le_of_ble_eq_true rfl, Nat.le_of_ble_eq_true rfl⟩) hS (fun q _ h => hFc q h) hFc (fun u t H1 locs ht hvm hw hB hz1 hk1 hS => ?_)
        obtain ⟨x_39, x_40, x_41, x_42, hpr_38_0, hpr_38_1, hpr_38_2, hpr_38_3, hpr_38_4, hpr_38_5, hP1, hD1⟩ := hB
        rw [ht] at hP1
        obtain ⟨hP, hD⟩ := va_join (wr := [(tk_language, .inl (k_tk_language, 20, .inl f_tk_language)), (bb, .inl (kbb, 700, .inl fbb))]) (w1 := [(tk, .inr (7, [.int x_39, .ref tk_kind, .ref tk_place, .ref tk_worth, .ref tk_language])), (tk_kind, .inl (k_tk_kind, 701, .inl x_40)), (tk_place, .inl (k_tk_place, 701, .inl x_41)), (tk_worth, .inl (k_tk_worth, 701, .inl x_42))]) hP hD [0, 1, 2, 3] [4, 5] rfl rfl (by decide) (by decide) hk1 hFc hP1 hD1
        generalize H1 = H at hP hS ⊢
        have hP : va_P (dC, dI) vwCl [(tk_language, .inl (k_tk_language, 20, .inl f_tk_language)), (bb, .inl (kbb, 700, .inl fbb)), (tk, .inr (7, [.int x_39, .ref tk_kind, .ref tk_place, .ref tk_worth, .ref tk_language])), (tk_kind, .inl (k_tk_kind, 701, .inl x_40)), (tk_place, .inl (k_tk_place, 701, .inl x_41)), (tk_worth, .inl (k_tk_worth, 701, .inl x_42))] H := hP
        have hD : va_D A [(tk_language, .inl (k_tk_language, 20, .inl f_tk_language)), (bb, .inl (kbb, 700, .inl fbb)), (tk, .inr (7, [.int x_39, .ref tk_kind, .ref tk_place, .ref tk_worth, .ref tk_language])), (tk_kind, .inl (k_tk_kind, 701, .inl x_40)), (tk_place, .inl (k_tk_place, 701, .inl x_41)), (tk_worth, .inl (k_tk_worth, 701, .inl x_42))] := hD
        clear hPc hDc hKc hFc hP1 hD1 hk1 hz1 ht hvm
        clear hw
        refine lv_iload_n hx hb dX7_takeSign_110 rfl (lv_at hl 6 rfl) ?_
        refine lv_iload hx hb dX7_takeSign_111 (lv_at hl 0 rfl) ?_
        refine lv_iadd hx hb dX7_takeSign_113 ?_
        refine lv_topi (fun z_43 ez_43 => ?_)
        have kz_43 : z_43.toInt = vf.toInt + 1 := ti_add ez_43 rfl (by decide) (by omega) (by omega)
        clear ez_43
        have hP9 := hP.sub (ws' := [(tk, .inr (7, [.int x_39, .ref tk_kind, .ref tk_place, .ref tk_worth, .ref tk_language])), (tk_kind, .inl (k_tk_kind, 701, .inl x_40)), (tk_place, .inl (k_tk_place, 701, .inl x_41)), (tk_worth, .inl (k_tk_worth, 701, .inl x_42)), (tk_language, .inl (k_tk_language, 20, .inl f_tk_language)), (bb, .inl (kbb, 700, .inl fbb))]) [2, 3, 4, 5, 0, 1] rfl
        have hD9 := hD.sub (ws' := [(tk, .inr (7, [.int x_39, .ref tk_kind, .ref tk_place, .ref tk_worth, .ref tk_language])), (tk_kind, .inl (k_tk_kind, 701, .inl x_40)), (tk_place, .inl (k_tk_place, 701, .inl x_41)), (tk_worth, .inl (k_tk_worth, 701, .inl x_42)), (tk_language, .inl (k_tk_language, 20, .inl f_tk_language)), (bb, .inl (kbb, 700, .inl fbb))]) [2, 3, 4, 5, 0, 1] (by decide) rfl
        exact W.iret (v := z_43) hx hb hr (fun t ht hW => ⟨⟨z_43, z_43, rfl, ⟨rfl, (by first | omega | (refine ⟨?_, ?_⟩ <;> omega) | rfl | (intros; omega))⟩, x_39, x_40, x_41, x_42, (by omega), hpr_38_1, ⟨r_34, (0 : Int32), hpr_38_2, hpr_38_3, hpr_38_4, hpr_38_5, (by omega), (by omega), tw_sign (nx := z_32.toInt) (s := 1) (by omega) (by omega) ez_33 (by rw [ez_33]; omega) (by rw [ez_33]; omega) (by rw [ez_33]; omega) (Or.inl ⟨(by omega), by unfold fI; rw [show vf.toInt.toNat + 1 = (z_31).toNatClampNeg by rw [tn_c]; omega, ← ez_32]⟩) (by omega) (sk_1 hwr_34.2 (by omega) (by omega))⟩, by rw [ht]; exact hP9, hD9⟩, hS.F ht⟩) hS.2.2 dX7_takeSign_114
      · have kc_37 := il_eq c_37
        have := (by decide : (62 : Int32).toInt = 62)
        refine lv_iload hx hb dX7_takeSign_88 (lv_at hl 3 rfl) ?_
        refine lv_bipush (v := 61) hx hb dX7_takeSign_90 (by decide) ?_
        refine lv_icmp_ne (tgt := 102) hx hb dX7_takeSign_92 (by decide) (fun c_44 => ?_) (fun c_44 => ?_)
        · have kc_44 := il_ne c_44
          have := (by decide : (61 : Int32).toInt = 61)
          refine lv_aload_n hx hb dX7_takeSign_102 rfl (lv_at hl 4 rfl) ?_
          refine lv_iload hx hb dX7_takeSign_103 (lv_at hl 1 rfl) ?_
          refine lv_iload_n hx hb dX7_takeSign_105 rfl (lv_at hl 6 rfl) ?_
          refine lv_iconst (v := 0) hx hb dX7_takeSign_106 (by decide) ?_
          have hPc := hP.sub (ws' := [(tk, .inr (7, [.int tk_count, .ref tk_kind, .ref tk_place, .ref tk_worth, .ref tk_language])), (tk_kind, .inl (k_tk_kind, 701, .inl f_tk_kind)), (tk_place, .inl (k_tk_place, 701, .inl f_tk_place)), (tk_worth, .inl (k_tk_worth, 701, .inl f_tk_worth))]) [0, 1, 2, 3] rfl
          have hDc := hD.sub (ws' := [(tk, .inr (7, [.int tk_count, .ref tk_kind, .ref tk_place, .ref tk_worth, .ref tk_language])), (tk_kind, .inl (k_tk_kind, 701, .inl f_tk_kind)), (tk_place, .inl (k_tk_place, 701, .inl f_tk_place)), (tk_worth, .inl (k_tk_worth, 701, .inl f_tk_worth))]) [0, 1, 2, 3] (by decide) rfl
          have hKc := hK.sub (tys' := [(k_tk_kind, .int), (k_tk_place, .int), (k_tk_worth, .int)]) [0, 1, 2] rfl
          have hFc := va_free (wc := [(tk, .inr (7, [.int tk_count, .ref tk_kind, .ref tk_place, .ref tk_worth, .ref tk_language])), (tk_kind, .inl (k_tk_kind, 701, .inl f_tk_kind)), (tk_place, .inl (k_tk_place, 701, .inl f_tk_place)), (tk_worth, .inl (k_tk_worth, 701, .inl f_tk_worth))]) hD hS hA [0, 1, 2, 3] rfl
          refine va_callv (va_runV (As := [.int r_34, .int vf, .int 0]) (rest := []) ⟨hx, hb, hml, hown, hT⟩ (c_X7_add l dC dI H.size tk r_34 vf (0 : Int32) tk_count tk_kind tk_place tk_worth tk_language k_tk_kind f_tk_kind k_tk_place f_tk_place k_tk_worth f_tk_worth (by omega) h_f_tk_kind (by omega)) (cwV 3 hT (gwV mw_3_90 mw_3_92 mp_1_2 mw_1_3 mw_3_93) rfl rfl rfl (by decide +kernel) ⟨Nat.le_of_ble_eq_true rfl, Nat.le_of_ble_eq_true rfl⟩) ⟨fun a U g mk q => by obtain ⟨q0, q1, qP, qK, qD⟩ := q; exact ⟨q0, q1, qP, va_K.moved (u := U) (U := U.calling g mk a) (Vm.Alike.refl U.vm) qK, qD⟩, va_recv hK hP (ci := 7) (q0 := 0) rfl rfl, fun U hU hW => ⟨rfl, by rw [hU], by rw [hU]; exact hPc, va_K.moved hW.alike hKc, hDc.weaken (fun _ _ _ _ => trivial)⟩⟩ rfl rfl hl.1 rfl (lv_room (Nat.le_of_ble_eq_true rfl)) dX7_takeSign_107 ⟨Nat.le_of_ble_eq_true rfl, Nat.le_of_ble_eq_true rfl⟩) hS (fun q _ h => hFc q h) hFc (fun u t H1 locs ht hvm hw hB hz1 hk1 hS => ?_)
          obtain ⟨x_46, x_47, x_48, x_49, hpr_45_0, hpr_45_1, hpr_45_2, hpr_45_3, hpr_45_4, hpr_45_5, hP1, hD1⟩ := hB
          rw [ht] at hP1
          obtain ⟨hP, hD⟩ := va_join (wr := [(tk_language, .inl (k_tk_language, 20, .inl f_tk_language)), (bb, .inl (kbb, 700, .inl fbb))]) (w1 := [(tk, .inr (7, [.int x_46, .ref tk_kind, .ref tk_place, .ref tk_worth, .ref tk_language])), (tk_kind, .inl (k_tk_kind, 701, .inl x_47)), (tk_place, .inl (k_tk_place, 701, .inl x_48)), (tk_worth, .inl (k_tk_worth, 701, .inl x_49))]) hP hD [0, 1, 2, 3] [4, 5] rfl rfl (by decide) (by decide) hk1 hFc hP1 hD1
          generalize H1 = H at hP hS ⊢
          have hP : va_P (dC, dI) vwCl [(tk_language, .inl (k_tk_language, 20, .inl f_tk_language)), (bb, .inl (kbb, 700, .inl fbb)), (tk, .inr (7, [.int x_46, .ref tk_kind, .ref tk_place, .ref tk_worth, .ref tk_language])), (tk_kind, .inl (k_tk_kind, 701, .inl x_47)), (tk_place, .inl (k_tk_place, 701, .inl x_48)), (tk_worth, .inl (k_tk_worth, 701, .inl x_49))] H := hP
          have hD : va_D A [(tk_language, .inl (k_tk_language, 20, .inl f_tk_language)), (bb, .inl (kbb, 700, .inl fbb)), (tk, .inr (7, [.int x_46, .ref tk_kind, .ref tk_place, .ref tk_worth, .ref tk_language])), (tk_kind, .inl (k_tk_kind, 701, .inl x_47)), (tk_place, .inl (k_tk_place, 701, .inl x_48)), (tk_worth, .inl (k_tk_worth, 701, .inl x_49))] := hD
          clear hPc hDc hKc hFc hP1 hD1 hk1 hz1 ht hvm
          clear hw
          refine lv_iload_n hx hb dX7_takeSign_110 rfl (lv_at hl 6 rfl) ?_
          refine lv_iload hx hb dX7_takeSign_111 (lv_at hl 0 rfl) ?_
          refine lv_iadd hx hb dX7_takeSign_113 ?_
          refine lv_topi (fun z_50 ez_50 => ?_)
          have kz_50 : z_50.toInt = vf.toInt + 1 := ti_add ez_50 rfl (by decide) (by omega) (by omega)
          clear ez_50
          have hP9 := hP.sub (ws' := [(tk, .inr (7, [.int x_46, .ref tk_kind, .ref tk_place, .ref tk_worth, .ref tk_language])), (tk_kind, .inl (k_tk_kind, 701, .inl x_47)), (tk_place, .inl (k_tk_place, 701, .inl x_48)), (tk_worth, .inl (k_tk_worth, 701, .inl x_49)), (tk_language, .inl (k_tk_language, 20, .inl f_tk_language)), (bb, .inl (kbb, 700, .inl fbb))]) [2, 3, 4, 5, 0, 1] rfl
          have hD9 := hD.sub (ws' := [(tk, .inr (7, [.int x_46, .ref tk_kind, .ref tk_place, .ref tk_worth, .ref tk_language])), (tk_kind, .inl (k_tk_kind, 701, .inl x_47)), (tk_place, .inl (k_tk_place, 701, .inl x_48)), (tk_worth, .inl (k_tk_worth, 701, .inl x_49)), (tk_language, .inl (k_tk_language, 20, .inl f_tk_language)), (bb, .inl (kbb, 700, .inl fbb))]) [2, 3, 4, 5, 0, 1] (by decide) rfl
          exact W.iret (v := z_50) hx hb hr (fun t ht hW => ⟨⟨z_50, z_50, rfl, ⟨rfl, (by first | omega | (refine ⟨?_, ?_⟩ <;> omega) | rfl | (intros; omega))⟩, x_46, x_47, x_48, x_49, (by omega), hpr_45_1, ⟨r_34, (0 : Int32), hpr_45_2, hpr_45_3, hpr_45_4, hpr_45_5, (by omega), (by omega), tw_sign (nx := z_32.toInt) (s := 1) (by omega) (by omega) ez_33 (by rw [ez_33]; omega) (by rw [ez_33]; omega) (by rw [ez_33]; omega) (Or.inl ⟨(by omega), by unfold fI; rw [show vf.toInt.toNat + 1 = (z_31).toNatClampNeg by rw [tn_c]; omega, ← ez_32]⟩) (by omega) (sk_1 hwr_34.2 (by omega) (by omega))⟩, by rw [ht]; exact hP9, hD9⟩, hS.F ht⟩) hS.2.2 dX7_takeSign_114
        · have kc_44 := il_eq c_44
          have := (by decide : (61 : Int32).toInt = 61)
          refine lv_bipush (v := 15) hx hb dX7_takeSign_95 (by decide) ?_
          refine lv_istore (lv' := [(6, .int 15), (7, .int 1), (5, .int z_33), (4, .int z_32), (0, .ref tk), (1, .ref bb), (2, .int vf), (3, .int vl)]) hx hb dX7_takeSign_97 hl (by decide) rfl (fun ls hl => ?_)
          refine lv_iconst (v := 2) hx hb dX7_takeSign_99 (by decide) ?_
          refine lv_istore (lv' := [(7, .int 2), (6, .int 15), (5, .int z_33), (4, .int z_32), (0, .ref tk), (1, .ref bb), (2, .int vf), (3, .int vl)]) hx hb dX7_takeSign_100 hl (by decide) rfl (fun ls hl => ?_)
          refine lv_aload_n hx hb dX7_takeSign_102 rfl (lv_at hl 4 rfl) ?_
          refine lv_iload hx hb dX7_takeSign_103 (lv_at hl 1 rfl) ?_
          refine lv_iload_n hx hb dX7_takeSign_105 rfl (lv_at hl 6 rfl) ?_
          refine lv_iconst (v := 0) hx hb dX7_takeSign_106 (by decide) ?_
          have hPc := hP.sub (ws' := [(tk, .inr (7, [.int tk_count, .ref tk_kind, .ref tk_place, .ref tk_worth, .ref tk_language])), (tk_kind, .inl (k_tk_kind, 701, .inl f_tk_kind)), (tk_place, .inl (k_tk_place, 701, .inl f_tk_place)), (tk_worth, .inl (k_tk_worth, 701, .inl f_tk_worth))]) [0, 1, 2, 3] rfl
          have hDc := hD.sub (ws' := [(tk, .inr (7, [.int tk_count, .ref tk_kind, .ref tk_place, .ref tk_worth, .ref tk_language])), (tk_kind, .inl (k_tk_kind, 701, .inl f_tk_kind)), (tk_place, .inl (k_tk_place, 701, .inl f_tk_place)), (tk_worth, .inl (k_tk_worth, 701, .inl f_tk_worth))]) [0, 1, 2, 3] (by decide) rfl
          have hKc := hK.sub (tys' := [(k_tk_kind, .int), (k_tk_place, .int), (k_tk_worth, .int)]) [0, 1, 2] rfl
          have hFc := va_free (wc := [(tk, .inr (7, [.int tk_count, .ref tk_kind, .ref tk_place, .ref tk_worth, .ref tk_language])), (tk_kind, .inl (k_tk_kind, 701, .inl f_tk_kind)), (tk_place, .inl (k_tk_place, 701, .inl f_tk_place)), (tk_worth, .inl (k_tk_worth, 701, .inl f_tk_worth))]) hD hS hA [0, 1, 2, 3] rfl
          have := (by decide : (15 : Int32).toInt = 15)
          refine va_callv (va_runV (As := [.int 15, .int vf, .int 0]) (rest := []) ⟨hx, hb, hml, hown, hT⟩ (c_X7_add l dC dI H.size tk (15 : Int32) vf (0 : Int32) tk_count tk_kind tk_place tk_worth tk_language k_tk_kind f_tk_kind k_tk_place f_tk_place k_tk_worth f_tk_worth (by omega) h_f_tk_kind (by decide)) (cwV 3 hT (gwV mw_3_90 mw_3_92 mp_1_2 mw_1_3 mw_3_93) rfl rfl rfl (by decide +kernel) ⟨Nat.le_of_ble_eq_true rfl, Nat.le_of_ble_eq_true rfl⟩) ⟨fun a U g mk q => by obtain ⟨q0, q1, qP, qK, qD⟩ := q; exact ⟨q0, q1, qP, va_K.moved (u := U) (U := U.calling g mk a) (Vm.Alike.refl U.vm) qK, qD⟩, va_recv hK hP (ci := 7) (q0 := 0) rfl rfl, fun U hU hW => ⟨rfl, by rw [hU], by rw [hU]; exact hPc, va_K.moved hW.alike hKc, hDc.weaken (fun _ _ _ _ => trivial)⟩⟩ rfl rfl hl.1 rfl (lv_room (Nat.le_of_ble_eq_true rfl)) dX7_takeSign_107 ⟨Nat.le_of_ble_eq_true rfl, Nat.le_of_ble_eq_true rfl⟩) hS (fun q _ h => hFc q h) hFc (fun u t H1 locs ht hvm hw hB hz1 hk1 hS => ?_)
          obtain ⟨x_52, x_53, x_54, x_55, hpr_51_0, hpr_51_1, hpr_51_2, hpr_51_3, hpr_51_4, hpr_51_5, hP1, hD1⟩ := hB
          rw [ht] at hP1
          obtain ⟨hP, hD⟩ := va_join (wr := [(tk_language, .inl (k_tk_language, 20, .inl f_tk_language)), (bb, .inl (kbb, 700, .inl fbb))]) (w1 := [(tk, .inr (7, [.int x_52, .ref tk_kind, .ref tk_place, .ref tk_worth, .ref tk_language])), (tk_kind, .inl (k_tk_kind, 701, .inl x_53)), (tk_place, .inl (k_tk_place, 701, .inl x_54)), (tk_worth, .inl (k_tk_worth, 701, .inl x_55))]) hP hD [0, 1, 2, 3] [4, 5] rfl rfl (by decide) (by decide) hk1 hFc hP1 hD1
          generalize H1 = H at hP hS ⊢
          have hP : va_P (dC, dI) vwCl [(tk_language, .inl (k_tk_language, 20, .inl f_tk_language)), (bb, .inl (kbb, 700, .inl fbb)), (tk, .inr (7, [.int x_52, .ref tk_kind, .ref tk_place, .ref tk_worth, .ref tk_language])), (tk_kind, .inl (k_tk_kind, 701, .inl x_53)), (tk_place, .inl (k_tk_place, 701, .inl x_54)), (tk_worth, .inl (k_tk_worth, 701, .inl x_55))] H := hP
          have hD : va_D A [(tk_language, .inl (k_tk_language, 20, .inl f_tk_language)), (bb, .inl (kbb, 700, .inl fbb)), (tk, .inr (7, [.int x_52, .ref tk_kind, .ref tk_place, .ref tk_worth, .ref tk_language])), (tk_kind, .inl (k_tk_kind, 701, .inl x_53)), (tk_place, .inl (k_tk_place, 701, .inl x_54)), (tk_worth, .inl (k_tk_worth, 701, .inl x_55))] := hD
          clear hPc hDc hKc hFc hP1 hD1 hk1 hz1 ht hvm
          clear hw
          refine lv_iload_n hx hb dX7_takeSign_110 rfl (lv_at hl 6 rfl) ?_
          refine lv_iload hx hb dX7_takeSign_111 (lv_at hl 0 rfl) ?_
          refine lv_iadd hx hb dX7_takeSign_113 ?_
          refine lv_topi (fun z_56 ez_56 => ?_)
          have kz_56 : z_56.toInt = vf.toInt + 2 := ti_add ez_56 rfl (by decide) (by omega) (by omega)
          clear ez_56
          have hP9 := hP.sub (ws' := [(tk, .inr (7, [.int x_52, .ref tk_kind, .ref tk_place, .ref tk_worth, .ref tk_language])), (tk_kind, .inl (k_tk_kind, 701, .inl x_53)), (tk_place, .inl (k_tk_place, 701, .inl x_54)), (tk_worth, .inl (k_tk_worth, 701, .inl x_55)), (tk_language, .inl (k_tk_language, 20, .inl f_tk_language)), (bb, .inl (kbb, 700, .inl fbb))]) [2, 3, 4, 5, 0, 1] rfl
          have hD9 := hD.sub (ws' := [(tk, .inr (7, [.int x_52, .ref tk_kind, .ref tk_place, .ref tk_worth, .ref tk_language])), (tk_kind, .inl (k_tk_kind, 701, .inl x_53)), (tk_place, .inl (k_tk_place, 701, .inl x_54)), (tk_worth, .inl (k_tk_worth, 701, .inl x_55)), (tk_language, .inl (k_tk_language, 20, .inl f_tk_language)), (bb, .inl (kbb, 700, .inl fbb))]) [2, 3, 4, 5, 0, 1] (by decide) rfl
          exact W.iret (v := z_56) hx hb hr (fun t ht hW => ⟨⟨z_56, z_56, rfl, ⟨rfl, (by first | omega | (refine ⟨?_, ?_⟩ <;> omega) | rfl | (intros; omega))⟩, x_52, x_53, x_54, x_55, (by omega), hpr_51_1, ⟨(15 : Int32), (0 : Int32), hpr_51_2, hpr_51_3, hpr_51_4, hpr_51_5, (by omega), (by omega), tw_sign (nx := z_32.toInt) (s := 2) (by omega) (by omega) ez_33 (by rw [ez_33]; omega) (by rw [ez_33]; omega) (by rw [ez_33]; omega) (Or.inl ⟨(by omega), by unfold fI; rw [show vf.toInt.toNat + 1 = (z_31).toNatClampNeg by rw [tn_c]; omega, ← ez_32]⟩) (by omega) (Or.inr (Or.inr (Or.inl ⟨(by omega), (by omega), (by decide), rfl⟩)))⟩, by rw [ht]; exact hP9, hD9⟩, hS.F ht⟩) hS.2.2 dX7_takeSign_114
    · have kc_35 := il_eq c_35
      have := (by decide : (60 : Int32).toInt = 60)
      refine lv_iload hx hb dX7_takeSign_40 (lv_at hl 3 rfl) ?_
      refine lv_bipush (v := 61) hx hb dX7_takeSign_42 (by decide) ?_
      refine lv_icmp_ne (tgt := 57) hx hb dX7_takeSign_44 (by decide) (fun c_57 => ?_) (fun c_57 => ?_)
      · have kc_57 := il_ne c_57
        have := (by decide : (61 : Int32).toInt = 61)
        refine lv_iload hx hb dX7_takeSign_57 (lv_at hl 2 rfl) ?_
        refine lv_bipush (v := 60) hx hb dX7_takeSign_59 (by decide) ?_
        refine lv_icmp_ne (tgt := 81) hx hb dX7_takeSign_61 (by decide) (fun c_58 => False.elim (by have := il_ne c_58; have := (by decide : (60 : Int32).toInt = 60); omega)) (fun c_58 => ?_)
        have kc_58 := il_eq c_58
        have := (by decide : (60 : Int32).toInt = 60)
        refine lv_iload hx hb dX7_takeSign_64 (lv_at hl 3 rfl) ?_
        refine lv_bipush (v := 62) hx hb dX7_takeSign_66 (by decide) ?_
        refine lv_icmp_ne (tgt := 81) hx hb dX7_takeSign_68 (by decide) (fun c_59 => ?_) (fun c_59 => ?_)
        · have kc_59 := il_ne c_59
          have := (by decide : (62 : Int32).toInt = 62)
          refine lv_iload hx hb dX7_takeSign_81 (lv_at hl 2 rfl) ?_
          refine lv_bipush (v := 62) hx hb dX7_takeSign_83 (by decide) ?_
          refine lv_icmp_ne (tgt := 102) hx hb dX7_takeSign_85 (by decide) (fun c_60 => ?_) (fun c_60 => False.elim (by have := il_eq c_60; have := (by decide : (62 : Int32).toInt = 62); omega))
          have kc_60 := il_ne c_60
          have := (by decide : (62 : Int32).toInt = 62)
          refine lv_aload_n hx hb dX7_takeSign_102 rfl (lv_at hl 4 rfl) ?_
          refine lv_iload hx hb dX7_takeSign_103 (lv_at hl 1 rfl) ?_
          refine lv_iload_n hx hb dX7_takeSign_105 rfl (lv_at hl 6 rfl) ?_
          refine lv_iconst (v := 0) hx hb dX7_takeSign_106 (by decide) ?_
          have hPc := hP.sub (ws' := [(tk, .inr (7, [.int tk_count, .ref tk_kind, .ref tk_place, .ref tk_worth, .ref tk_language])), (tk_kind, .inl (k_tk_kind, 701, .inl f_tk_kind)), (tk_place, .inl (k_tk_place, 701, .inl f_tk_place)), (tk_worth, .inl (k_tk_worth, 701, .inl f_tk_worth))]) [0, 1, 2, 3] rfl
          have hDc := hD.sub (ws' := [(tk, .inr (7, [.int tk_count, .ref tk_kind, .ref tk_place, .ref tk_worth, .ref tk_language])), (tk_kind, .inl (k_tk_kind, 701, .inl f_tk_kind)), (tk_place, .inl (k_tk_place, 701, .inl f_tk_place)), (tk_worth, .inl (k_tk_worth, 701, .inl f_tk_worth))]) [0, 1, 2, 3] (by decide) rfl
          have hKc := hK.sub (tys' := [(k_tk_kind, .int), (k_tk_place, .int), (k_tk_worth, .int)]) [0, 1, 2] rfl
          have hFc := va_free (wc := [(tk, .inr (7, [.int tk_count, .ref tk_kind, .ref tk_place, .ref tk_worth, .ref tk_language])), (tk_kind, .inl (k_tk_kind, 701, .inl f_tk_kind)), (tk_place, .inl (k_tk_place, 701, .inl f_tk_place)), (tk_worth, .inl (k_tk_worth, 701, .inl f_tk_worth))]) hD hS hA [0, 1, 2, 3] rfl
          refine va_callv (va_runV (As := [.int r_34, .int vf, .int 0]) (rest := []) ⟨hx, hb, hml, hown, hT⟩ (c_X7_add l dC dI H.size tk r_34 vf (0 : Int32) tk_count tk_kind tk_place tk_worth tk_language k_tk_kind f_tk_kind k_tk_place f_tk_place k_tk_worth f_tk_worth (by omega) h_f_tk_kind (by omega)) (cwV 3 hT (gwV mw_3_90 mw_3_92 mp_1_2 mw_1_3 mw_3_93) rfl rfl rfl (by decide +kernel) ⟨Nat.le_of_ble_eq_true rfl, Nat.le_of_ble_eq_true rfl⟩) ⟨fun a U g mk q => by obtain ⟨q0, q1, qP, qK, qD⟩ := q; exact ⟨q0, q1, qP, va_K.moved (u := U) (U := U.calling g mk a) (Vm.Alike.refl U.vm) qK, qD⟩, va_recv hK hP (ci := 7) (q0 := 0) rfl rfl, fun U hU hW => ⟨rfl, by rw [hU], by rw [hU]; exact hPc, va_K.moved hW.alike hKc, hDc.weaken (fun _ _ _ _ => trivial)⟩⟩ rfl rfl hl.1 rfl (lv_room (Nat.le_of_ble_eq_true rfl)) dX7_takeSign_107 ⟨Nat.le_of_ble_eq_true rfl, Nat.le_of_ble_eq_true rfl⟩) hS (fun q _ h => hFc q h) hFc (fun u t H1 locs ht hvm hw hB hz1 hk1 hS => ?_)
          obtain ⟨x_62, x_63, x_64, x_65, hpr_61_0, hpr_61_1, hpr_61_2, hpr_61_3, hpr_61_4, hpr_61_5, hP1, hD1⟩ := hB
          rw [ht] at hP1
          obtain ⟨hP, hD⟩ := va_join (wr := [(tk_language, .inl (k_tk_language, 20, .inl f_tk_language)), (bb, .inl (kbb, 700, .inl fbb))]) (w1 := [(tk, .inr (7, [.int x_62, .ref tk_kind, .ref tk_place, .ref tk_worth, .ref tk_language])), (tk_kind, .inl (k_tk_kind, 701, .inl x_63)), (tk_place, .inl (k_tk_place, 701, .inl x_64)), (tk_worth, .inl (k_tk_worth, 701, .inl x_65))]) hP hD [0, 1, 2, 3] [4, 5] rfl rfl (by decide) (by decide) hk1 hFc hP1 hD1
          generalize H1 = H at hP hS ⊢
          have hP : va_P (dC, dI) vwCl [(tk_language, .inl (k_tk_language, 20, .inl f_tk_language)), (bb, .inl (kbb, 700, .inl fbb)), (tk, .inr (7, [.int x_62, .ref tk_kind, .ref tk_place, .ref tk_worth, .ref tk_language])), (tk_kind, .inl (k_tk_kind, 701, .inl x_63)), (tk_place, .inl (k_tk_place, 701, .inl x_64)), (tk_worth, .inl (k_tk_worth, 701, .inl x_65))] H := hP
          have hD : va_D A [(tk_language, .inl (k_tk_language, 20, .inl f_tk_language)), (bb, .inl (kbb, 700, .inl fbb)), (tk, .inr (7, [.int x_62, .ref tk_kind, .ref tk_place, .ref tk_worth, .ref tk_language])), (tk_kind, .inl (k_tk_kind, 701, .inl x_63)), (tk_place, .inl (k_tk_place, 701, .inl x_64)), (tk_worth, .inl (k_tk_worth, 701, .inl x_65))] := hD
          clear hPc hDc hKc hFc hP1 hD1 hk1 hz1 ht hvm
          clear hw
          refine lv_iload_n hx hb dX7_takeSign_110 rfl (lv_at hl 6 rfl) ?_
          refine lv_iload hx hb dX7_takeSign_111 (lv_at hl 0 rfl) ?_
          refine lv_iadd hx hb dX7_takeSign_113 ?_
          refine lv_topi (fun z_66 ez_66 => ?_)
          have kz_66 : z_66.toInt = vf.toInt + 1 := ti_add ez_66 rfl (by decide) (by omega) (by omega)
          clear ez_66
          have hP9 := hP.sub (ws' := [(tk, .inr (7, [.int x_62, .ref tk_kind, .ref tk_place, .ref tk_worth, .ref tk_language])), (tk_kind, .inl (k_tk_kind, 701, .inl x_63)), (tk_place, .inl (k_tk_place, 701, .inl x_64)), (tk_worth, .inl (k_tk_worth, 701, .inl x_65)), (tk_language, .inl (k_tk_language, 20, .inl f_tk_language)), (bb, .inl (kbb, 700, .inl fbb))]) [2, 3, 4, 5, 0, 1] rfl
          have hD9 := hD.sub (ws' := [(tk, .inr (7, [.int x_62, .ref tk_kind, .ref tk_place, .ref tk_worth, .ref tk_language])), (tk_kind, .inl (k_tk_kind, 701, .inl x_63)), (tk_place, .inl (k_tk_place, 701, .inl x_64)), (tk_worth, .inl (k_tk_worth, 701, .inl x_65)), (tk_language, .inl (k_tk_language, 20, .inl f_tk_language)), (bb, .inl (kbb, 700, .inl fbb))]) [2, 3, 4, 5, 0, 1] (by decide) rfl
          exact W.iret (v := z_66) hx hb hr (fun t ht hW => ⟨⟨z_66, z_66, rfl, ⟨rfl, (by first | omega | (refine ⟨?_, ?_⟩ <;> omega) | rfl | (intros; omega))⟩, x_62, x_63, x_64, x_65, (by omega), hpr_61_1, ⟨r_34, (0 : Int32), hpr_61_2, hpr_61_3, hpr_61_4, hpr_61_5, (by omega), (by omega), tw_sign (nx := z_32.toInt) (s := 1) (by omega) (by omega) ez_33 (by rw [ez_33]; omega) (by rw [ez_33]; omega) (by rw [ez_33]; omega) (Or.inl ⟨(by omega), by unfold fI; rw [show vf.toInt.toNat + 1 = (z_31).toNatClampNeg by rw [tn_c]; omega, ← ez_32]⟩) (by omega) (sk_1 hwr_34.2 (by omega) (by omega))⟩, by rw [ht]; exact hP9, hD9⟩, hS.F ht⟩) hS.2.2 dX7_takeSign_114
        · have kc_59 := il_eq c_59
          have := (by decide : (62 : Int32).toInt = 62)
          refine lv_bipush (v := 14) hx hb dX7_takeSign_71 (by decide) ?_
          refine lv_istore (lv' := [(6, .int 14), (7, .int 1), (5, .int z_33), (4, .int z_32), (0, .ref tk), (1, .ref bb), (2, .int vf), (3, .int vl)]) hx hb dX7_takeSign_73 hl (by decide) rfl (fun ls hl => ?_)
          refine lv_iconst (v := 2) hx hb dX7_takeSign_75 (by decide) ?_
          refine lv_istore (lv' := [(7, .int 2), (6, .int 14), (5, .int z_33), (4, .int z_32), (0, .ref tk), (1, .ref bb), (2, .int vf), (3, .int vl)]) hx hb dX7_takeSign_76 hl (by decide) rfl (fun ls hl => ?_)
          refine lv_goto (tgt := 102) hx hb dX7_takeSign_78 (by decide) ?_
          refine lv_aload_n hx hb dX7_takeSign_102 rfl (lv_at hl 4 rfl) ?_
          refine lv_iload hx hb dX7_takeSign_103 (lv_at hl 1 rfl) ?_
          refine lv_iload_n hx hb dX7_takeSign_105 rfl (lv_at hl 6 rfl) ?_
          refine lv_iconst (v := 0) hx hb dX7_takeSign_106 (by decide) ?_
          have hPc := hP.sub (ws' := [(tk, .inr (7, [.int tk_count, .ref tk_kind, .ref tk_place, .ref tk_worth, .ref tk_language])), (tk_kind, .inl (k_tk_kind, 701, .inl f_tk_kind)), (tk_place, .inl (k_tk_place, 701, .inl f_tk_place)), (tk_worth, .inl (k_tk_worth, 701, .inl f_tk_worth))]) [0, 1, 2, 3] rfl
          have hDc := hD.sub (ws' := [(tk, .inr (7, [.int tk_count, .ref tk_kind, .ref tk_place, .ref tk_worth, .ref tk_language])), (tk_kind, .inl (k_tk_kind, 701, .inl f_tk_kind)), (tk_place, .inl (k_tk_place, 701, .inl f_tk_place)), (tk_worth, .inl (k_tk_worth, 701, .inl f_tk_worth))]) [0, 1, 2, 3] (by decide) rfl
          have hKc := hK.sub (tys' := [(k_tk_kind, .int), (k_tk_place, .int), (k_tk_worth, .int)]) [0, 1, 2] rfl
          have hFc := va_free (wc := [(tk, .inr (7, [.int tk_count, .ref tk_kind, .ref tk_place, .ref tk_worth, .ref tk_language])), (tk_kind, .inl (k_tk_kind, 701, .inl f_tk_kind)), (tk_place, .inl (k_tk_place, 701, .inl f_tk_place)), (tk_worth, .inl (k_tk_worth, 701, .inl f_tk_worth))]) hD hS hA [0, 1, 2, 3] rfl
          have := (by decide : (14 : Int32).toInt = 14)
          refine va_callv (va_runV (As := [.int 14, .int vf, .int 0]) (rest := []) ⟨hx, hb, hml, hown, hT⟩ (c_X7_add l dC dI H.size tk (14 : Int32) vf (0 : Int32) tk_count tk_kind tk_place tk_worth tk_language k_tk_kind f_tk_kind k_tk_place f_tk_place k_tk_worth f_tk_worth (by omega) h_f_tk_kind (by decide)) (cwV 3 hT (gwV mw_3_90 mw_3_92 mp_1_2 mw_1_3 mw_3_93) rfl rfl rfl (by decide +kernel) ⟨Nat.le_of_ble_eq_true rfl, Nat.le_of_ble_eq_true rfl⟩) ⟨fun a U g mk q => by obtain ⟨q0, q1, qP, qK, qD⟩ := q; exact ⟨q0, q1, qP, va_K.moved (u := U) (U := U.calling g mk a) (Vm.Alike.refl U.vm) qK, qD⟩, va_recv hK hP (ci := 7) (q0 := 0) rfl rfl, fun U hU hW => ⟨rfl, by rw [hU], by rw [hU]; exact hPc, va_K.moved hW.alike hKc, hDc.weaken (fun _ _ _ _ => trivial)⟩⟩ rfl rfl hl.1 rfl (lv_room (Nat.le_of_ble_eq_true rfl)) dX7_takeSign_107 ⟨Nat.le_of_ble_eq_true rfl, Nat.le_of_ble_eq_true rfl⟩) hS (fun q _ h => hFc q h) hFc (fun u t H1 locs ht hvm hw hB hz1 hk1 hS => ?_)
          obtain ⟨x_68, x_69, x_70, x_71, hpr_67_0, hpr_67_1, hpr_67_2, hpr_67_3, hpr_67_4, hpr_67_5, hP1, hD1⟩ := hB
          rw [ht] at hP1
          obtain ⟨hP, hD⟩ := va_join (wr := [(tk_language, .inl (k_tk_language, 20, .inl f_tk_language)), (bb, .inl (kbb, 700, .inl fbb))]) (w1 := [(tk, .inr (7, [.int x_68, .ref tk_kind, .ref tk_place, .ref tk_worth, .ref tk_language])), (tk_kind, .inl (k_tk_kind, 701, .inl x_69)), (tk_place, .inl (k_tk_place, 701, .inl x_70)), (tk_worth, .inl (k_tk_worth, 701, .inl x_71))]) hP hD [0, 1, 2, 3] [4, 5] rfl rfl (by decide) (by decide) hk1 hFc hP1 hD1
          generalize H1 = H at hP hS ⊢
          have hP : va_P (dC, dI) vwCl [(tk_language, .inl (k_tk_language, 20, .inl f_tk_language)), (bb, .inl (kbb, 700, .inl fbb)), (tk, .inr (7, [.int x_68, .ref tk_kind, .ref tk_place, .ref tk_worth, .ref tk_language])), (tk_kind, .inl (k_tk_kind, 701, .inl x_69)), (tk_place, .inl (k_tk_place, 701, .inl x_70)), (tk_worth, .inl (k_tk_worth, 701, .inl x_71))] H := hP
          have hD : va_D A [(tk_language, .inl (k_tk_language, 20, .inl f_tk_language)), (bb, .inl (kbb, 700, .inl fbb)), (tk, .inr (7, [.int x_68, .ref tk_kind, .ref tk_place, .ref tk_worth, .ref tk_language])), (tk_kind, .inl (k_tk_kind, 701, .inl x_69)), (tk_place, .inl (k_tk_place, 701, .inl x_70)), (tk_worth, .inl (k_tk_worth, 701, .inl x_71))] := hD
          clear hPc hDc hKc hFc hP1 hD1 hk1 hz1 ht hvm
          clear hw
          refine lv_iload_n hx hb dX7_takeSign_110 rfl (lv_at hl 6 rfl) ?_
          refine lv_iload hx hb dX7_takeSign_111 (lv_at hl 0 rfl) ?_
          refine lv_iadd hx hb dX7_takeSign_113 ?_
          refine lv_topi (fun z_72 ez_72 => ?_)
          have kz_72 : z_72.toInt = vf.toInt + 2 := ti_add ez_72 rfl (by decide) (by omega) (by omega)
          clear ez_72
          have hP9 := hP.sub (ws' := [(tk, .inr (7, [.int x_68, .ref tk_kind, .ref tk_place, .ref tk_worth, .ref tk_language])), (tk_kind, .inl (k_tk_kind, 701, .inl x_69)), (tk_place, .inl (k_tk_place, 701, .inl x_70)), (tk_worth, .inl (k_tk_worth, 701, .inl x_71)), (tk_language, .inl (k_tk_language, 20, .inl f_tk_language)), (bb, .inl (kbb, 700, .inl fbb))]) [2, 3, 4, 5, 0, 1] rfl
          have hD9 := hD.sub (ws' := [(tk, .inr (7, [.int x_68, .ref tk_kind, .ref tk_place, .ref tk_worth, .ref tk_language])), (tk_kind, .inl (k_tk_kind, 701, .inl x_69)), (tk_place, .inl (k_tk_place, 701, .inl x_70)), (tk_worth, .inl (k_tk_worth, 701, .inl x_71)), (tk_language, .inl (k_tk_language, 20, .inl f_tk_language)), (bb, .inl (kbb, 700, .inl fbb))]) [2, 3, 4, 5, 0, 1] (by decide) rfl
          exact W.iret (v := z_72) hx hb hr (fun t ht hW => ⟨⟨z_72, z_72, rfl, ⟨rfl, (by first | omega | (refine ⟨?_, ?_⟩ <;> omega) | rfl | (intros; omega))⟩, x_68, x_69, x_70, x_71, (by omega), hpr_67_1, ⟨(14 : Int32), (0 : Int32), hpr_67_2, hpr_67_3, hpr_67_4, hpr_67_5, (by omega), (by omega), tw_sign (nx := z_32.toInt) (s := 2) (by omega) (by omega) ez_33 (by rw [ez_33]; omega) (by rw [ez_33]; omega) (by rw [ez_33]; omega) (Or.inl ⟨(by omega), by unfold fI; rw [show vf.toInt.toNat + 1 = (z_31).toNatClampNeg by rw [tn_c]; omega, ← ez_32]⟩) (by omega) (Or.inr (Or.inl ⟨(by omega), (by omega), (by decide), rfl⟩))⟩, by rw [ht]; exact hP9, hD9⟩, hS.F ht⟩) hS.2.2 dX7_takeSign_114
      · have kc_57 := il_eq c_57
        have := (by decide : (61 : Int32).toInt = 61)
        refine lv_bipush (v := 12) hx hb dX7_takeSign_47 (by decide) ?_
        refine lv_istore (lv' := [(6, .int 12), (7, .int 1), (5, .int z_33), (4, .int z_32), (0, .ref tk), (1, .ref bb), (2, .int vf), (3, .int vl)]) hx hb dX7_takeSign_49 hl (by decide) rfl (fun ls hl => ?_)
        refine lv_iconst (v := 2) hx hb dX7_takeSign_51 (by decide) ?_
        refine lv_istore (lv' := [(7, .int 2), (6, .int 12), (5, .int z_33), (4, .int z_32), (0, .ref tk), (1, .ref bb), (2, .int vf), (3, .int vl)]) hx hb dX7_takeSign_52 hl (by decide) rfl (fun ls hl => ?_)
        refine lv_goto (tgt := 102) hx hb dX7_takeSign_54 (by decide) ?_
        refine lv_aload_n hx hb dX7_takeSign_102 rfl (lv_at hl 4 rfl) ?_
        refine lv_iload hx hb dX7_takeSign_103 (lv_at hl 1 rfl) ?_
        refine lv_iload_n hx hb dX7_takeSign_105 rfl (lv_at hl 6 rfl) ?_
        refine lv_iconst (v := 0) hx hb dX7_takeSign_106 (by decide) ?_
        have hPc := hP.sub (ws' := [(tk, .inr (7, [.int tk_count, .ref tk_kind, .ref tk_place, .ref tk_worth, .ref tk_language])), (tk_kind, .inl (k_tk_kind, 701, .inl f_tk_kind)), (tk_place, .inl (k_tk_place, 701, .inl f_tk_place)), (tk_worth, .inl (k_tk_worth, 701, .inl f_tk_worth))]) [0, 1, 2, 3] rfl
        have hDc := hD.sub (ws' := [(tk, .inr (7, [.int tk_count, .ref tk_kind, .ref tk_place, .ref tk_worth, .ref tk_language])), (tk_kind, .inl (k_tk_kind, 701, .inl f_tk_kind)), (tk_place, .inl (k_tk_place, 701, .inl f_tk_place)), (tk_worth, .inl (k_tk_worth, 701, .inl f_tk_worth))]) [0, 1, 2, 3] (by decide) rfl
        have hKc := hK.sub (tys' := [(k_tk_kind, .int), (k_tk_place, .int), (k_tk_worth, .int)]) [0, 1, 2] rfl
        have hFc := va_free (wc := [(tk, .inr (7, [.int tk_count, .ref tk_kind, .ref tk_place, .ref tk_worth, .ref tk_language])), (tk_kind, .inl (k_tk_kind, 701, .inl f_tk_kind)), (tk_place, .inl (k_tk_place, 701, .inl f_tk_place)), (tk_worth, .inl (k_tk_worth, 701, .inl f_tk_worth))]) hD hS hA [0, 1, 2, 3] rfl
        have := (by decide : (12 : Int32).toInt = 12)
        refine va_callv (va_runV (As := [.int 12, .int vf, .int 0]) (rest := []) ⟨hx, hb, hml, hown, hT⟩ (c_X7_add l dC dI H.size tk (12 : Int32) vf (0 : Int32) tk_count tk_kind tk_place tk_worth tk_language k_tk_kind f_tk_kind k_tk_place f_tk_place k_tk_worth f_tk_worth (by omega) h_f_tk_kind (by decide)) (cwV 3 hT (gwV mw_3_90 mw_3_92 mp_1_2 mw_1_3 mw_3_93) rfl rfl rfl (by decide +kernel) ⟨Nat.le_of_ble_eq_true rfl, Nat.le_of_ble_eq_true rfl⟩) ⟨fun a U g mk q => by obtain ⟨q0, q1, qP, qK, qD⟩ := q; exact ⟨q0, q1, qP, va_K.moved (u := U) (U := U.calling g mk a) (Vm.Alike.refl U.vm) qK, qD⟩, va_recv hK hP (ci := 7) (q0 := 0) rfl rfl, fun U hU hW => ⟨rfl, by rw [hU], by rw [hU]; exact hPc, va_K.moved hW.alike hKc, hDc.weaken (fun _ _ _ _ => trivial)⟩⟩ rfl rfl hl.1 rfl (lv_room (Nat.le_of_ble_eq_true rfl)) dX7_takeSign_107 ⟨Nat.le_of_ble_eq_true rfl, Nat.le_of_ble_eq_true rfl⟩) hS (fun q _ h => hFc q h) hFc (fun u t H1 locs ht hvm hw hB hz1 hk1 hS => ?_)
        obtain ⟨x_74, x_75, x_76, x_77, hpr_73_0, hpr_73_1, hpr_73_2, hpr_73_3, hpr_73_4, hpr_73_5, hP1, hD1⟩ := hB
        rw [ht] at hP1
        obtain ⟨hP, hD⟩ := va_join (wr := [(tk_language, .inl (k_tk_language, 20, .inl f_tk_language)), (bb, .inl (kbb, 700, .inl fbb))]) (w1 := [(tk, .inr (7, [.int x_74, .ref tk_kind, .ref tk_place, .ref tk_worth, .ref tk_language])), (tk_kind, .inl (k_tk_kind, 701, .inl x_75)), (tk_place, .inl (k_tk_place, 701, .inl x_76)), (tk_worth, .inl (k_tk_worth, 701, .inl x_77))]) hP hD [0, 1, 2, 3] [4, 5] rfl rfl (by decide) (by decide) hk1 hFc hP1 hD1
        generalize H1 = H at hP hS ⊢
        have hP : va_P (dC, dI) vwCl [(tk_language, .inl (k_tk_language, 20, .inl f_tk_language)), (bb, .inl (kbb, 700, .inl fbb)), (tk, .inr (7, [.int x_74, .ref tk_kind, .ref tk_place, .ref tk_worth, .ref tk_language])), (tk_kind, .inl (k_tk_kind, 701, .inl x_75)), (tk_place, .inl (k_tk_place, 701, .inl x_76)), (tk_worth, .inl (k_tk_worth, 701, .inl x_77))] H := hP
        have hD : va_D A [(tk_language, .inl (k_tk_language, 20, .inl f_tk_language)), (bb, .inl (kbb, 700, .inl fbb)), (tk, .inr (7, [.int x_74, .ref tk_kind, .ref tk_place, .ref tk_worth, .ref tk_language])), (tk_kind, .inl (k_tk_kind, 701, .inl x_75)), (tk_place, .inl (k_tk_place, 701, .inl x_76)), (tk_worth, .inl (k_tk_worth, 701, .inl x_77))] := hD
        clear hPc hDc hKc hFc hP1 hD1 hk1 hz1 ht hvm
        clear hw
        refine lv_iload_n hx hb dX7_takeSign_110 rfl (lv_at hl 6 rfl) ?_
        refine lv_iload hx hb dX7_takeSign_111 (lv_at hl 0 rfl) ?_
        refine lv_iadd hx hb dX7_takeSign_113 ?_
        refine lv_topi (fun z_78 ez_78 => ?_)
        have kz_78 : z_78.toInt = vf.toInt + 2 := ti_add ez_78 rfl (by decide) (by omega) (by omega)
        clear ez_78
        have hP9 := hP.sub (ws' := [(tk, .inr (7, [.int x_74, .ref tk_kind, .ref tk_place, .ref tk_worth, .ref tk_language])), (tk_kind, .inl (k_tk_kind, 701, .inl x_75)), (tk_place, .inl (k_tk_place, 701, .inl x_76)), (tk_worth, .inl (k_tk_worth, 701, .inl x_77)), (tk_language, .inl (k_tk_language, 20, .inl f_tk_language)), (bb, .inl (kbb, 700, .inl fbb))]) [2, 3, 4, 5, 0, 1] rfl
        have hD9 := hD.sub (ws' := [(tk, .inr (7, [.int x_74, .ref tk_kind, .ref tk_place, .ref tk_worth, .ref tk_language])), (tk_kind, .inl (k_tk_kind, 701, .inl x_75)), (tk_place, .inl (k_tk_place, 701, .inl x_76)), (tk_worth, .inl (k_tk_worth, 701, .inl x_77)), (tk_language, .inl (k_tk_language, 20, .inl f_tk_language)), (bb, .inl (kbb, 700, .inl fbb))]) [2, 3, 4, 5, 0, 1] (by decide) rfl
        exact W.iret (v := z_78) hx hb hr (fun t ht hW => ⟨⟨z_78, z_78, rfl, ⟨rfl, (by first | omega | (refine ⟨?_, ?_⟩ <;> omega) | rfl | (intros; omega))⟩, x_74, x_75, x_76, x_77, (by omega), hpr_73_1, ⟨(12 : Int32), (0 : Int32), hpr_73_2, hpr_73_3, hpr_73_4, hpr_73_5, (by omega), (by omega), tw_sign (nx := z_32.toInt) (s := 2) (by omega) (by omega) ez_33 (by rw [ez_33]; omega) (by rw [ez_33]; omega) (by rw [ez_33]; omega) (Or.inl ⟨(by omega), by unfold fI; rw [show vf.toInt.toNat + 1 = (z_31).toNatClampNeg by rw [tn_c]; omega, ← ez_32]⟩) (by omega) (Or.inl ⟨(by omega), (by omega), (by decide), rfl⟩)⟩, by rw [ht]; exact hP9, hD9⟩, hS.F ht⟩) hS.2.2 dX7_takeSign_114
theorem tw_len {fb fk fp fw fk1 fp1 fw1 : Nat → Int32} {c vf vl c1 r : Int32} (h : TWt fb fk fp fw c vf vl fk1 fp1 fw1 c1 r) : c1.toInt = c.toInt + 1 ∧ vf.toInt < r.toInt ∧ r.toInt ≤ vl.toInt := by
  obtain ⟨k, w, h1, -, -, -, h2, h3, -⟩ := h
  exact ⟨h1, h2, h3⟩
abbrev q_X7_split (dC : Nat → ClassId) (dI : Nat → Nat → Nat) (A : Nat → Prop) (tk : Nat) (bb : Nat) (vl : Int32) (tk_count : Int32) (tk_kind : Nat) (tk_place : Nat) (tk_worth : Nat) (tk_language : Nat) (k_tk_kind : ClassId) (f_tk_kind : Nat → Int32) (k_tk_place : ClassId) (f_tk_place : Nat → Int32) (k_tk_worth : ClassId) (f_tk_worth : Nat → Int32) (k_tk_language : ClassId) (f_tk_language : Nat → Int32) (kbb : ClassId) (fbb : Nat → Int32) : Array Value → State → Outcome → State → Prop := va_Qv (fun _ : Unit => True) (fun (_ : Unit) (t : State) => ∃ (e_tk_count : Int32), ∃ (g_tk_kind : Nat → Int32), ∃ (g_tk_place : Nat → Int32), ∃ (g_tk_worth : Nat → Int32), (1 ≤ e_tk_count.toInt ∧ e_tk_count.toInt ≤ 701) ∧ (Rg g_tk_kind 0 39) ∧ (TSe fbb vl g_tk_kind g_tk_place g_tk_worth e_tk_count) ∧ va_P (dC, dI) vwCl [(tk, .inr (7, [.int e_tk_count, .ref tk_kind, .ref tk_place, .ref tk_worth, .ref tk_language])), (tk_kind, .inl (k_tk_kind, 701, .inl g_tk_kind)), (tk_place, .inl (k_tk_place, 701, .inl g_tk_place)), (tk_worth, .inl (k_tk_worth, 701, .inl g_tk_worth)), (tk_language, .inl (k_tk_language, 20, .inl f_tk_language)), (bb, .inl (kbb, 700, .inl fbb))] t.heap ∧ va_D A [(tk, .inr (7, [.int e_tk_count, .ref tk_kind, .ref tk_place, .ref tk_worth, .ref tk_language])), (tk_kind, .inl (k_tk_kind, 701, .inl g_tk_kind)), (tk_place, .inl (k_tk_place, 701, .inl g_tk_place)), (tk_worth, .inl (k_tk_worth, 701, .inl g_tk_worth)), (tk_language, .inl (k_tk_language, 20, .inl f_tk_language)), (bb, .inl (kbb, 700, .inl fbb))]) A
set_option maxHeartbeats 4000000 in
set_option maxRecDepth 100000 in
theorem c_X7_split (l : Launch) (dC : Nat → ClassId) (dI : Nat → Nat → Nat) (sz : Nat) (tk : Nat) (bb : Nat) (vl : Int32) (tk_count : Int32) (tk_kind : Nat) (tk_place : Nat) (tk_worth : Nat) (tk_language : Nat) (k_tk_kind : ClassId) (f_tk_kind : Nat → Int32) (k_tk_place : ClassId) (f_tk_place : Nat → Int32) (k_tk_worth : ClassId) (f_tk_worth : Nat → Int32) (k_tk_language : ClassId) (f_tk_language : Nat → Int32) (kbb : ClassId) (fbb : Nat → Int32) (h_tk_count : 0 ≤ tk_count.toInt ∧ tk_count.toInt ≤ 701) (h_f_tk_kind : Rg f_tk_kind 0 39) (h_fbb : Rg fbb (-128) 127) (h_vl : 0 ≤ vl.toInt ∧ vl.toInt ≤ 700) (hlg : LGt f_tk_language) : Met l yX7_split (pw_w yX7_split cX7_split 6 none) ({ frames := 2, cells := 0, slots := 0, locals := 50 }) (va_Pc [.ref tk, .ref bb, .int vl] (fun U => U.heap.size = sz ∧ va_P (dC, dI) vwCl [(tk, .inr (7, [.int tk_count, .ref tk_kind, .ref tk_place, .ref tk_worth, .ref tk_language])), (tk_kind, .inl (k_tk_kind, 701, .inl f_tk_kind)), (tk_place, .inl (k_tk_place, 701, .inl f_tk_place)), (tk_worth, .inl (k_tk_worth, 701, .inl f_tk_worth)), (tk_language, .inl (k_tk_language, 20, .inl f_tk_language)), (bb, .inl (kbb, 700, .inl fbb))] U.heap ∧ va_K (dC, dI) vwCl [(k_tk_kind, .int), (k_tk_place, .int), (k_tk_worth, .int), (k_tk_language, .int), (kbb, .byte)] U ∧ va_D (fun _ => True) [(tk, .inr (7, [.int tk_count, .ref tk_kind, .ref tk_place, .ref tk_worth, .ref tk_language])), (tk_kind, .inl (k_tk_kind, 701, .inl f_tk_kind)), (tk_place, .inl (k_tk_place, 701, .inl f_tk_place)), (tk_worth, .inl (k_tk_worth, 701, .inl f_tk_worth)), (tk_language, .inl (k_tk_language, 20, .inl f_tk_language)), (bb, .inl (kbb, 700, .inl fbb))])) (q_X7_split dC dI (va_A [(tk, .inr (7, [.int tk_count, .ref tk_kind, .ref tk_place, .ref tk_worth, .ref tk_language])), (tk_kind, .inl (k_tk_kind, 701, .inl f_tk_kind)), (tk_place, .inl (k_tk_place, 701, .inl f_tk_place)), (tk_worth, .inl (k_tk_worth, 701, .inl f_tk_worth)), (tk_language, .inl (k_tk_language, 20, .inl f_tk_language)), (bb, .inl (kbb, 700, .inl fbb))] sz) tk bb vl tk_count tk_kind tk_place tk_worth tk_language k_tk_kind f_tk_kind k_tk_place f_tk_place k_tk_worth f_tk_worth k_tk_language f_tk_language kbb fbb) 0 0 (va_A [(tk, .inr (7, [.int tk_count, .ref tk_kind, .ref tk_place, .ref tk_worth, .ref tk_language])), (tk_kind, .inl (k_tk_kind, 701, .inl f_tk_kind)), (tk_place, .inl (k_tk_place, 701, .inl f_tk_place)), (tk_worth, .inl (k_tk_worth, 701, .inl f_tk_worth)), (tk_language, .inl (k_tk_language, 20, .inl f_tk_language)), (bb, .inl (kbb, 700, .inl fbb))] sz) := by
  refine Met.ofW (cc := cX7_split) (maxL := 6) (ret := none) (by decide) rfl ?_
  intro p e s m args below meth c s₁ B hml hv
  obtain ⟨rfl, hsz, hP, hK, hD0⟩ := hv
  have hx := B.exec
  have hb := B.bytes
  have hr := B.returns
  have hts := atoms_spec (ws := (pw_w yX7_split cX7_split 6 none)) B.pre
  have hT : ∀ w ∈ pw_T, w.before _ s = true := fun w h => hts w (List.mem_cons_of_mem _ h)
  have hown : s.vm.findClass RX7 = some m.cls := findClass_of_methodNamed B.named
  have hlocks := B.notSynchronized
  subst hsz
  have hD := hD0.self (sz := s.heap.size)
  generalize hAe : va_A [(tk, .inr (7, [.int tk_count, .ref tk_kind, .ref tk_place, .ref tk_worth, .ref tk_language])), (tk_kind, .inl (k_tk_kind, 701, .inl f_tk_kind)), (tk_place, .inl (k_tk_place, 701, .inl f_tk_place)), (tk_worth, .inl (k_tk_worth, 701, .inl f_tk_worth)), (tk_language, .inl (k_tk_language, 20, .inl f_tk_language)), (bb, .inl (kbb, 700, .inl fbb))] s.heap.size = A at hD ⊢
  have hA : ∀ q : Nat, s.heap.size ≤ q → A q := fun q h => by rw [← hAe]; exact Or.inr h
  have hS : va_S A s.heap s.heap [] := va_S.rf
  have hP : va_P (dC, dI) vwCl [(tk, .inr (7, [.int tk_count, .ref tk_kind, .ref tk_place, .ref tk_worth, .ref tk_language])), (tk_kind, .inl (k_tk_kind, 701, .inl f_tk_kind)), (tk_place, .inl (k_tk_place, 701, .inl f_tk_place)), (tk_worth, .inl (k_tk_worth, 701, .inl f_tk_worth)), (tk_language, .inl (k_tk_language, 20, .inl f_tk_language)), (bb, .inl (kbb, 700, .inl fbb))] s.heap := hP
  have hl := lv_entry ([.ref tk, .ref bb, .int vl]) (n := 6) (Nat.le_of_ble_eq_true rfl)
  rw [lg_entry_eq]
  generalize (lg_sl ([.ref tk, .ref bb, .int vl]) ++ List.replicate (6 - (lg_sl ([.ref tk, .ref bb, .int vl])).length) Slot.unset).toArray = ls at hl ⊢
  have hl : lv_has ls 6 [(0, .ref tk), (1, .ref bb), (2, .int vl)] := hl
  refine lv_aload_n hx hb dX7_split_0 rfl (lv_at hl 0 rfl) ?_
  refine lv_iconst (v := 0) hx hb dX7_split_1 (by decide) ?_
  refine va_put (D := (dC, dI)) (ci := 7) (v := .int 0) (ty := .int) (C := RX7) (T := TX7) (N := 5) hx hb hT inX7 tyX7 tyX7_ok nmX7 hown hK hP hD hS 0 rfl rfl 0 (by decide) (hT _ mw_1_102) (fun _ h9 => h9) rfl (by decide +kernel) rfl rfl (Nat.le_of_ble_eq_true rfl) dX7_split_2 (fun H locs hP hD hS => ?_)
  have hP : va_P (dC, dI) vwCl [(tk, .inr (7, [.int 0, .ref tk_kind, .ref tk_place, .ref tk_worth, .ref tk_language])), (tk_kind, .inl (k_tk_kind, 701, .inl f_tk_kind)), (tk_place, .inl (k_tk_place, 701, .inl f_tk_place)), (tk_worth, .inl (k_tk_worth, 701, .inl f_tk_worth)), (tk_language, .inl (k_tk_language, 20, .inl f_tk_language)), (bb, .inl (kbb, 700, .inl fbb))] H := hP
  have hD : va_D A [(tk, .inr (7, [.int 0, .ref tk_kind, .ref tk_place, .ref tk_worth, .ref tk_language])), (tk_kind, .inl (k_tk_kind, 701, .inl f_tk_kind)), (tk_place, .inl (k_tk_place, 701, .inl f_tk_place)), (tk_worth, .inl (k_tk_worth, 701, .inl f_tk_worth)), (tk_language, .inl (k_tk_language, 20, .inl f_tk_language)), (bb, .inl (kbb, 700, .inl fbb))] := hD
  refine lv_iconst (v := 0) hx hb dX7_split_5 (by decide) ?_
  refine lv_istore_n (lv' := [(3, .int 0), (0, .ref tk), (1, .ref bb), (2, .int vl)]) hx hb dX7_split_6 rfl hl (by decide) rfl (fun ls hl => ?_)
  refine lv_iconst (v := 0) hx hb dX7_split_7 (by decide) ?_
  refine lv_istore (lv' := [(4, .int 0), (3, .int 0), (0, .ref tk), (1, .ref bb), (2, .int vl)]) hx hb dX7_split_8 hl (by decide) rfl (fun ls hl => ?_)
  have loop_51 : ∀ (fu : Nat), ∀ (g_49_l4 : Int32), ∀ (g_49_l3 : Int32), ∀ (g_49_tk_0 : Int32), ∀ (g_49_f1 : Nat → Int32), ∀ (g_49_f2 : Nat → Int32), ∀ (g_49_f3 : Nat → Int32), (0 ≤ g_49_l4.toInt ∧ g_49_l4.toInt ≤ 700) → (0 ≤ g_49_l3.toInt ∧ g_49_l3.toInt ≤ 700) → (0 ≤ g_49_tk_0.toInt ∧ g_49_tk_0.toInt ≤ 700) → (Rg g_49_f1 0 39) → (TSp fbb vl g_49_f1 g_49_f2 g_49_f3 g_49_tk_0 g_49_l3) → (g_49_l4.toInt ≤ g_49_l3.toInt) → (g_49_l3.toInt ≤ vl.toInt) → (g_49_tk_0.toInt ≤ g_49_l3.toInt) → (700 - g_49_l4.toInt < (fu : Int)) → ∀ (H : Heap) (locs : List Loc), va_P (dC, dI) vwCl [(tk, .inr (7, [.int g_49_tk_0, .ref tk_kind, .ref tk_place, .ref tk_worth, .ref tk_language])), (tk_kind, .inl (k_tk_kind, 701, .inl g_49_f1)), (tk_place, .inl (k_tk_place, 701, .inl g_49_f2)), (tk_worth, .inl (k_tk_worth, 701, .inl g_49_f3)), (tk_language, .inl (k_tk_language, 20, .inl f_tk_language)), (bb, .inl (kbb, 700, .inl fbb))] H → va_D A [(tk, .inr (7, [.int g_49_tk_0, .ref tk_kind, .ref tk_place, .ref tk_worth, .ref tk_language])), (tk_kind, .inl (k_tk_kind, 701, .inl g_49_f1)), (tk_place, .inl (k_tk_place, 701, .inl g_49_f2)), (tk_worth, .inl (k_tk_worth, 701, .inl g_49_f3)), (tk_language, .inl (k_tk_language, 20, .inl f_tk_language)), (bb, .inl (kbb, 700, .inl fbb))] → va_S A s.heap H locs → ∀ (ls : Array Slot), lv_has ls 6 [(4, .int g_49_l4), (3, .int g_49_l3), (0, .ref tk), (1, .ref bb), (2, .int vl)] → W p l e (headSpec (pw_w yX7_split cX7_split 6 none) ({ frames := 2, cells := 0, slots := 0, locals := 50 })).room s m ([.ref tk, .ref bb, .int vl] : List Value).toArray below meth c H locs 0 0 (MQ below (q_X7_split dC dI A tk bb vl tk_count tk_kind tk_place tk_worth tk_language k_tk_kind f_tk_kind k_tk_place f_tk_place k_tk_worth f_tk_worth k_tk_language f_tk_language kbb fbb) ([.ref tk, .ref bb, .int vl] : List Value).toArray s 0 0 A) (F0 m 10 ls []) := by
    intro fu
    induction fu with
    | zero => intro g_49_l4 g_49_l3 g_49_tk_0 g_49_f1 g_49_f2 g_49_f3 hg_49_l4 hg_49_l3 hg_49_tk_0 hg_49_f1 hi_ts_q_50 hx0 hx1 hx2 hfu; exact absurd hfu (by omega)
    | succ fu51 ih51 =>
      intro g_49_l4 g_49_l3 g_49_tk_0 g_49_f1 g_49_f2 g_49_f3 hg_49_l4 hg_49_l3 hg_49_tk_0 hg_49_f1 hi_ts_q_50 hx0 hx1 hx2 hfu51 H locs hP hD hS ls hl
      refine lv_iload hx hb dX7_split_10 (lv_at hl 0 rfl) ?_
      refine lv_sipush (v := 700) hx hb dX7_split_12 (by decide) ?_
      refine lv_icmp_ge (tgt := 104) hx hb dX7_split_15 (by decide) (fun c_52 => ?_) (fun c_52 => ?_)
      · have kc_52 := il_le c_52
        have := (by decide : (700 : Int32).toInt = 700)
        refine lv_aload_n hx hb dX7_split_104 rfl (lv_at hl 2 rfl) ?_
        refine lv_iconst (v := 0) hx hb dX7_split_105 (by decide) ?_
        refine lv_iload_n hx hb dX7_split_106 rfl (lv_at hl 4 rfl) ?_
        refine lv_iconst (v := 0) hx hb dX7_split_107 (by decide) ?_
        have hPc := hP.sub (ws' := [(tk, .inr (7, [.int g_49_tk_0, .ref tk_kind, .ref tk_place, .ref tk_worth, .ref tk_language])), (tk_kind, .inl (k_tk_kind, 701, .inl g_49_f1)), (tk_place, .inl (k_tk_place, 701, .inl g_49_f2)), (tk_worth, .inl (k_tk_worth, 701, .inl g_49_f3))]) [0, 1, 2, 3] rfl
        have hDc := hD.sub (ws' := [(tk, .inr (7, [.int g_49_tk_0, .ref tk_kind, .ref tk_place, .ref tk_worth, .ref tk_language])), (tk_kind, .inl (k_tk_kind, 701, .inl g_49_f1)), (tk_place, .inl (k_tk_place, 701, .inl g_49_f2)), (tk_worth, .inl (k_tk_worth, 701, .inl g_49_f3))]) [0, 1, 2, 3] (by decide) rfl
        have hKc := hK.sub (tys' := [(k_tk_kind, .int), (k_tk_place, .int), (k_tk_worth, .int)]) [0, 1, 2] rfl
        have hFc := va_free (wc := [(tk, .inr (7, [.int g_49_tk_0, .ref tk_kind, .ref tk_place, .ref tk_worth, .ref tk_language])), (tk_kind, .inl (k_tk_kind, 701, .inl g_49_f1)), (tk_place, .inl (k_tk_place, 701, .inl g_49_f2)), (tk_worth, .inl (k_tk_worth, 701, .inl g_49_f3))]) hD hS hA [0, 1, 2, 3] rfl
        have := (by decide : (0 : Int32).toInt = 0)
        refine va_callv (va_runV (As := [.int 0, .int vl, .int 0]) (rest := []) ⟨hx, hb, hml, hown, hT⟩ (c_X7_add l dC dI H.size tk (0 : Int32) vl (0 : Int32) g_49_tk_0 tk_kind tk_place tk_worth tk_language k_tk_kind g_49_f1 k_tk_place g_49_f2 k_tk_worth g_49_f3 (by omega) hg_49_f1 (by decide)) (cwV 3 hT (gwV mw_3_90 mw_3_92 mp_1_2 mw_1_3 mw_3_93) rfl rfl rfl (by decide +kernel) ⟨Nat.le_of_ble_eq_true rfl, Nat.le_of_ble_eq_true rfl⟩) ⟨fun a U g mk q => by obtain ⟨q0, q1, qP, qK, qD⟩ := q; exact ⟨q0, q1, qP, va_K.moved (u := U) (U := U.calling g mk a) (Vm.Alike.refl U.vm) qK, qD⟩, va_recv hK hP (ci := 7) (q0 := 0) rfl rfl, fun U hU hW => ⟨rfl, by rw [hU], by rw [hU]; exact hPc, va_K.moved hW.alike hKc, hDc.weaken (fun _ _ _ _ => trivial)⟩⟩ rfl rfl hl.1 rfl (lv_room (Nat.le_of_ble_eq_true rfl)) dX7_split_108 ⟨Nat.le_of_ble_eq_true rfl, Nat.le_of_ble_eq_true rfl⟩) hS (fun q _ h => hFc q h) hFc (fun u t H1 locs ht hvm hw hB hz1 hk1 hS => ?_)
        obtain ⟨x_54, x_55, x_56, x_57, hpr_53_0, hpr_53_1, hpr_53_2, hpr_53_3, hpr_53_4, hpr_53_5, hP1, hD1⟩ := hB
        rw [ht] at hP1
        obtain ⟨hP, hD⟩ := va_join (wr := [(tk_language, .inl (k_tk_language, 20, .inl f_tk_language)), (bb, .inl (kbb, 700, .inl fbb))]) (w1 := [(tk, .inr (7, [.int x_54, .ref tk_kind, .ref tk_place, .ref tk_worth, .ref tk_language])), (tk_kind, .inl (k_tk_kind, 701, .inl x_55)), (tk_place, .inl (k_tk_place, 701, .inl x_56)), (tk_worth, .inl (k_tk_worth, 701, .inl x_57))]) hP hD [0, 1, 2, 3] [4, 5] rfl rfl (by decide) (by decide) hk1 hFc hP1 hD1
        generalize H1 = H at hP hS ⊢
        have hP : va_P (dC, dI) vwCl [(tk_language, .inl (k_tk_language, 20, .inl f_tk_language)), (bb, .inl (kbb, 700, .inl fbb)), (tk, .inr (7, [.int x_54, .ref tk_kind, .ref tk_place, .ref tk_worth, .ref tk_language])), (tk_kind, .inl (k_tk_kind, 701, .inl x_55)), (tk_place, .inl (k_tk_place, 701, .inl x_56)), (tk_worth, .inl (k_tk_worth, 701, .inl x_57))] H := hP
        have hD : va_D A [(tk_language, .inl (k_tk_language, 20, .inl f_tk_language)), (bb, .inl (kbb, 700, .inl fbb)), (tk, .inr (7, [.int x_54, .ref tk_kind, .ref tk_place, .ref tk_worth, .ref tk_language])), (tk_kind, .inl (k_tk_kind, 701, .inl x_55)), (tk_place, .inl (k_tk_place, 701, .inl x_56)), (tk_worth, .inl (k_tk_worth, 701, .inl x_57))] := hD
        clear hPc hDc hKc hFc hP1 hD1 hk1 hz1 ht hvm
        clear hw
        have hP9 := hP.sub (ws' := [(tk, .inr (7, [.int x_54, .ref tk_kind, .ref tk_place, .ref tk_worth, .ref tk_language])), (tk_kind, .inl (k_tk_kind, 701, .inl x_55)), (tk_place, .inl (k_tk_place, 701, .inl x_56)), (tk_worth, .inl (k_tk_worth, 701, .inl x_57)), (tk_language, .inl (k_tk_language, 20, .inl f_tk_language)), (bb, .inl (kbb, 700, .inl fbb))]) [2, 3, 4, 5, 0, 1] rfl
        have hD9 := hD.sub (ws' := [(tk, .inr (7, [.int x_54, .ref tk_kind, .ref tk_place, .ref tk_worth, .ref tk_language])), (tk_kind, .inl (k_tk_kind, 701, .inl x_55)), (tk_place, .inl (k_tk_place, 701, .inl x_56)), (tk_worth, .inl (k_tk_worth, 701, .inl x_57)), (tk_language, .inl (k_tk_language, 20, .inl f_tk_language)), (bb, .inl (kbb, 700, .inl fbb))]) [2, 3, 4, 5, 0, 1] (by decide) rfl
        exact W.vret hx hb hr (fun t ht hW => ⟨⟨(), rfl, trivial, x_54, x_55, x_56, x_57, (by omega), hpr_53_1, (TSp_e hi_ts_q_50 (by omega) (by omega) (by omega) hpr_53_2 hpr_53_3 hpr_53_4 hpr_53_5), by rw [ht]; exact hP9, hD9⟩, hS.F ht⟩) hS.2.2 dX7_split_111
      · have kc_52 := il_nle c_52
        have := (by decide : (700 : Int32).toInt = 700)
        refine lv_iload_n hx hb dX7_split_18 rfl (lv_at hl 1 rfl) ?_
        refine lv_iload_n hx hb dX7_split_19 rfl (lv_at hl 4 rfl) ?_
        refine lv_icmp_ge (tgt := 104) hx hb dX7_split_20 (by decide) (fun c_58 => ?_) (fun c_58 => ?_)
        · have kc_58 := il_le c_58
          refine lv_aload_n hx hb dX7_split_104 rfl (lv_at hl 2 rfl) ?_
          refine lv_iconst (v := 0) hx hb dX7_split_105 (by decide) ?_
          refine lv_iload_n hx hb dX7_split_106 rfl (lv_at hl 4 rfl) ?_
          refine lv_iconst (v := 0) hx hb dX7_split_107 (by decide) ?_
          have hPc := hP.sub (ws' := [(tk, .inr (7, [.int g_49_tk_0, .ref tk_kind, .ref tk_place, .ref tk_worth, .ref tk_language])), (tk_kind, .inl (k_tk_kind, 701, .inl g_49_f1)), (tk_place, .inl (k_tk_place, 701, .inl g_49_f2)), (tk_worth, .inl (k_tk_worth, 701, .inl g_49_f3))]) [0, 1, 2, 3] rfl
          have hDc := hD.sub (ws' := [(tk, .inr (7, [.int g_49_tk_0, .ref tk_kind, .ref tk_place, .ref tk_worth, .ref tk_language])), (tk_kind, .inl (k_tk_kind, 701, .inl g_49_f1)), (tk_place, .inl (k_tk_place, 701, .inl g_49_f2)), (tk_worth, .inl (k_tk_worth, 701, .inl g_49_f3))]) [0, 1, 2, 3] (by decide) rfl
          have hKc := hK.sub (tys' := [(k_tk_kind, .int), (k_tk_place, .int), (k_tk_worth, .int)]) [0, 1, 2] rfl
          have hFc := va_free (wc := [(tk, .inr (7, [.int g_49_tk_0, .ref tk_kind, .ref tk_place, .ref tk_worth, .ref tk_language])), (tk_kind, .inl (k_tk_kind, 701, .inl g_49_f1)), (tk_place, .inl (k_tk_place, 701, .inl g_49_f2)), (tk_worth, .inl (k_tk_worth, 701, .inl g_49_f3))]) hD hS hA [0, 1, 2, 3] rfl
          have := (by decide : (0 : Int32).toInt = 0)
          refine va_callv (va_runV (As := [.int 0, .int vl, .int 0]) (rest := []) ⟨hx, hb, hml, hown, hT⟩ (c_X7_add l dC dI H.size tk (0 : Int32) vl (0 : Int32) g_49_tk_0 tk_kind tk_place tk_worth tk_language k_tk_kind g_49_f1 k_tk_place g_49_f2 k_tk_worth g_49_f3 (by omega) hg_49_f1 (by decide)) (cwV 3 hT (gwV mw_3_90 mw_3_92 mp_1_2 mw_1_3 mw_3_93) rfl rfl rfl (by decide +kernel) ⟨Nat.le_of_ble_eq_true rfl, Nat.le_of_ble_eq_true rfl⟩) ⟨fun a U g mk q => by obtain ⟨q0, q1, qP, qK, qD⟩ := q; exact ⟨q0, q1, qP, va_K.moved (u := U) (U := U.calling g mk a) (Vm.Alike.refl U.vm) qK, qD⟩, va_recv hK hP (ci := 7) (q0 := 0) rfl rfl, fun U hU hW => ⟨rfl, by rw [hU], by rw [hU]; exact hPc, va_K.moved hW.alike hKc, hDc.weaken (fun _ _ _ _ => trivial)⟩⟩ rfl rfl hl.1 rfl (lv_room (Nat.le_of_ble_eq_true rfl)) dX7_split_108 ⟨Nat.le_of_ble_eq_true rfl, Nat.le_of_ble_eq_true rfl⟩) hS (fun q _ h => hFc q h) hFc (fun u t H1 locs ht hvm hw hB hz1 hk1 hS => ?_)
          obtain ⟨x_60, x_61, x_62, x_63, hpr_59_0, hpr_59_1, hpr_59_2, hpr_59_3, hpr_59_4, hpr_59_5, hP1, hD1⟩ := hB
          rw [ht] at hP1
          obtain ⟨hP, hD⟩ := va_join (wr := [(tk_language, .inl (k_tk_language, 20, .inl f_tk_language)), (bb, .inl (kbb, 700, .inl fbb))]) (w1 := [(tk, .inr (7, [.int x_60, .ref tk_kind, .ref tk_place, .ref tk_worth, .ref tk_language])), (tk_kind, .inl (k_tk_kind, 701, .inl x_61)), (tk_place, .inl (k_tk_place, 701, .inl x_62)), (tk_worth, .inl (k_tk_worth, 701, .inl x_63))]) hP hD [0, 1, 2, 3] [4, 5] rfl rfl (by decide) (by decide) hk1 hFc hP1 hD1
          generalize H1 = H at hP hS ⊢
          have hP : va_P (dC, dI) vwCl [(tk_language, .inl (k_tk_language, 20, .inl f_tk_language)), (bb, .inl (kbb, 700, .inl fbb)), (tk, .inr (7, [.int x_60, .ref tk_kind, .ref tk_place, .ref tk_worth, .ref tk_language])), (tk_kind, .inl (k_tk_kind, 701, .inl x_61)), (tk_place, .inl (k_tk_place, 701, .inl x_62)), (tk_worth, .inl (k_tk_worth, 701, .inl x_63))] H := hP
          have hD : va_D A [(tk_language, .inl (k_tk_language, 20, .inl f_tk_language)), (bb, .inl (kbb, 700, .inl fbb)), (tk, .inr (7, [.int x_60, .ref tk_kind, .ref tk_place, .ref tk_worth, .ref tk_language])), (tk_kind, .inl (k_tk_kind, 701, .inl x_61)), (tk_place, .inl (k_tk_place, 701, .inl x_62)), (tk_worth, .inl (k_tk_worth, 701, .inl x_63))] := hD
          clear hPc hDc hKc hFc hP1 hD1 hk1 hz1 ht hvm
          clear hw
          have hP9 := hP.sub (ws' := [(tk, .inr (7, [.int x_60, .ref tk_kind, .ref tk_place, .ref tk_worth, .ref tk_language])), (tk_kind, .inl (k_tk_kind, 701, .inl x_61)), (tk_place, .inl (k_tk_place, 701, .inl x_62)), (tk_worth, .inl (k_tk_worth, 701, .inl x_63)), (tk_language, .inl (k_tk_language, 20, .inl f_tk_language)), (bb, .inl (kbb, 700, .inl fbb))]) [2, 3, 4, 5, 0, 1] rfl
          have hD9 := hD.sub (ws' := [(tk, .inr (7, [.int x_60, .ref tk_kind, .ref tk_place, .ref tk_worth, .ref tk_language])), (tk_kind, .inl (k_tk_kind, 701, .inl x_61)), (tk_place, .inl (k_tk_place, 701, .inl x_62)), (tk_worth, .inl (k_tk_worth, 701, .inl x_63)), (tk_language, .inl (k_tk_language, 20, .inl f_tk_language)), (bb, .inl (kbb, 700, .inl fbb))]) [2, 3, 4, 5, 0, 1] (by decide) rfl
          exact W.vret hx hb hr (fun t ht hW => ⟨⟨(), rfl, trivial, x_60, x_61, x_62, x_63, (by omega), hpr_59_1, (TSp_e hi_ts_q_50 (by omega) (by omega) (by omega) hpr_59_2 hpr_59_3 hpr_59_4 hpr_59_5), by rw [ht]; exact hP9, hD9⟩, hS.F ht⟩) hS.2.2 dX7_split_111
        · have kc_58 := il_nle c_58
          refine lv_aload_n hx hb dX7_split_23 rfl (lv_at hl 3 rfl) ?_
          refine lv_iload_n hx hb dX7_split_24 rfl (lv_at hl 1 rfl) ?_
          refine va_bald hx hb hK hP 5 4 rfl rfl (vp_in_iff.mpr (by omega)) dX7_split_25 ?_
          refine lv_topi (fun z_64 ez_64 => ?_)
          have kz_64 : (-128) ≤ z_64.toInt ∧ z_64.toInt ≤ 127 := by rw [ez_64]; exact h_fbb _
          refine lv_sipush (v := 255) hx hb dX7_split_26 (by decide) ?_
          refine lv_iand hx hb dX7_split_29 ?_
          refine lv_topi (fun z_65 ez_65 => ?_)
          have kz_65 : 0 ≤ z_65.toInt ∧ z_65.toInt ≤ 255 := ti_and ez_65 (by decide)
          have kaz_65 := an_255 ez_65 (by omega)
          refine lv_istore (lv' := [(5, .int z_65), (4, .int g_49_l4), (3, .int g_49_l3), (0, .ref tk), (1, .ref bb), (2, .int vl)]) hx hb dX7_split_30 hl (by decide) rfl (fun ls hl => ?_)
          refine lv_iload hx hb dX7_split_32 (lv_at hl 0 rfl) ?_
          refine lv_bipush (v := 10) hx hb dX7_split_34 (by decide) ?_
          refine lv_icmp_eq (tgt := 46) hx hb dX7_split_36 (by decide) (fun c_66 => ?_) (fun c_66 => ?_)
          · have kc_66 := il_eq c_66
            have := (by decide : (10 : Int32).toInt = 10)
            obtain ⟨z_67, ez_67⟩ : ∃ y : Int32, y = g_49_l3 + Int32.ofInt (1) := ⟨_, rfl⟩
            have kz_67 : z_67.toInt = g_49_l3.toInt + (1) := ti_add ez_67 rfl (by decide) (by omega) (by omega)
            refine lv_iinc (v := z_67) (lv' := [(3, .int z_67), (5, .int z_65), (4, .int g_49_l4), (0, .ref tk), (1, .ref bb), (2, .int vl)]) hx hb dX7_split_46 hl (k := 2) rfl (ez_67.symm) (by decide) rfl (fun ls hl => ?_)
            clear ez_67
            refine lv_goto (tgt := 98) hx hb dX7_split_49 (by decide) ?_
            obtain ⟨z_68, ez_68⟩ : ∃ y : Int32, y = g_49_l4 + Int32.ofInt (1) := ⟨_, rfl⟩
            have kz_68 : z_68.toInt = g_49_l4.toInt + (1) := ti_add ez_68 rfl (by decide) (by omega) (by omega)
            refine lv_iinc (v := z_68) (lv' := [(4, .int z_68), (3, .int z_67), (5, .int z_65), (0, .ref tk), (1, .ref bb), (2, .int vl)]) hx hb dX7_split_98 hl (k := 2) rfl (ez_68.symm) (by decide) rfl (fun ls hl => ?_)
            clear ez_68
            refine lv_goto (tgt := 10) hx hb dX7_split_101 (by decide) ?_
            exact ih51 z_68 z_67 g_49_tk_0 g_49_f1 g_49_f2 g_49_f3 (by omega) (by omega) (by omega) hg_49_f1 (TSp_b hi_ts_q_50 ez_64 (by omega) (by omega) (by omega)) (by omega) (by omega) (by omega) (by omega) _ _ (hP.sub [0, 1, 2, 3, 4, 5] rfl) (hD.sub [0, 1, 2, 3, 4, 5] (by decide) rfl) hS _ (lv_sub hl [0, 1, 3, 4, 5] rfl)
          · have kc_66 := il_ne c_66
            have := (by decide : (10 : Int32).toInt = 10)
            refine lv_iload hx hb dX7_split_39 (lv_at hl 0 rfl) ?_
            refine lv_bipush (v := 32) hx hb dX7_split_41 (by decide) ?_
            refine lv_icmp_ne (tgt := 52) hx hb dX7_split_43 (by decide) (fun c_69 => ?_) (fun c_69 => ?_)
            · have kc_69 := il_ne c_69
              have := (by decide : (32 : Int32).toInt = 32)
              refine lv_iload hx hb dX7_split_52 (lv_at hl 0 rfl) ?_
              have hPc := hP.sub (ws' := []) [] rfl
              have hDc := hD.sub (ws' := []) [] (by decide) rfl
              have hKc := hK.sub (tys' := []) [] rfl
              have hFc := va_free (wc := []) hD hS hA [] rfl
              refine va_calli (va_runS (As := [.int z_65]) (rest := []) ⟨hx, hb, hml, hown, hT⟩ (c_X7_isLetter l dC dI H.size z_65 ) (va_cwS 1 hT (gwS mw_3_79 mw_3_80 mw_1_3 mw_3_81) rfl rfl rfl (by decide +kernel) ⟨Nat.le_of_ble_eq_true rfl, Nat.le_of_ble_eq_true rfl⟩) ⟨fun a U g mk q => by obtain ⟨q0, q1, qP, qK, qD⟩ := q; exact ⟨q0, q1, qP, va_K.moved (u := U) (U := U.calling g mk a) (Vm.Alike.refl U.vm) qK, qD⟩, fun U hU hW => ⟨rfl, by rw [hU], by rw [hU]; exact hPc, va_K.moved hW.alike hKc, hDc.weaken (fun _ _ _ _ => trivial)⟩⟩ rfl rfl hl.1 rfl (lv_room (Nat.le_of_ble_eq_true rfl)) dX7_split_54 ⟨Nat.le_of_ble_eq_true rfl, Nat.le_of_ble_eq_true rfl⟩) hS (fun q _ h => hFc q h) hFc (fun r_70 u t H1 locs ht hvm hw hB hz1 hk1 hS => ?_)
              obtain ⟨hP1, hD1⟩ := hB
              rw [ht] at hP1
              obtain ⟨hP, hD⟩ := va_join (wr := [(tk, .inr (7, [.int g_49_tk_0, .ref tk_kind, .ref tk_place, .ref tk_worth, .ref tk_language])), (tk_kind, .inl (k_tk_kind, 701, .inl g_49_f1)), (tk_place, .inl (k_tk_place, 701, .inl g_49_f2)), (tk_worth, .inl (k_tk_worth, 701, .inl g_49_f3)), (tk_language, .inl (k_tk_language, 20, .inl f_tk_language)), (bb, .inl (kbb, 700, .inl fbb))]) (w1 := []) hP hD [] [0, 1, 2, 3, 4, 5] rfl rfl (by decide) (by decide) hk1 hFc hP1 hD1
              generalize H1 = H at hP hS ⊢
              have hP : va_P (dC, dI) vwCl [(tk, .inr (7, [.int g_49_tk_0, .ref tk_kind, .ref tk_place, .ref tk_worth, .ref tk_language])), (tk_kind, .inl (k_tk_kind, 701, .inl g_49_f1)), (tk_place, .inl (k_tk_place, 701, .inl g_49_f2)), (tk_worth, .inl (k_tk_worth, 701, .inl g_49_f3)), (tk_language, .inl (k_tk_language, 20, .inl f_tk_language)), (bb, .inl (kbb, 700, .inl fbb))] H := hP
              have hD : va_D A [(tk, .inr (7, [.int g_49_tk_0, .ref tk_kind, .ref tk_place, .ref tk_worth, .ref tk_language])), (tk_kind, .inl (k_tk_kind, 701, .inl g_49_f1)), (tk_place, .inl (k_tk_place, 701, .inl g_49_f2)), (tk_worth, .inl (k_tk_worth, 701, .inl g_49_f3)), (tk_language, .inl (k_tk_language, 20, .inl f_tk_language)), (bb, .inl (kbb, 700, .inl fbb))] := hD
              clear hPc hDc hKc hFc hP1 hD1 hk1 hz1 ht hvm
              have hwr_70 : (r_70 = 1 ∧ (97 ≤ z_65.toInt ∧ z_65.toInt ≤ 122)) ∨ (r_70 = 0 ∧ (z_65.toInt < 97 ∨ 122 < z_65.toInt)) := hw
              clear hw
              rcases hwr_70 with ⟨hrr_70, hfr_70⟩ | ⟨hrr_70, hfr_70⟩
              · subst r_70
                refine lv_if_eq (tgt := 71) hx hb dX7_split_57 (by decide) (fun c_71 => absurd c_71 (by decide)) (fun c_71 => ?_)
                refine lv_aload_n hx hb dX7_split_60 rfl (lv_at hl 3 rfl) ?_
                refine lv_aload_n hx hb dX7_split_61 rfl (lv_at hl 4 rfl) ?_
                refine lv_iload_n hx hb dX7_split_62 rfl (lv_at hl 2 rfl) ?_
                refine lv_iload_n hx hb dX7_split_63 rfl (lv_at hl 5 rfl) ?_
                have hPc := hP.sub (ws' := [(tk, .inr (7, [.int g_49_tk_0, .ref tk_kind, .ref tk_place, .ref tk_worth, .ref tk_language])), (tk_kind, .inl (k_tk_kind, 701, .inl g_49_f1)), (tk_place, .inl (k_tk_place, 701, .inl g_49_f2)), (tk_worth, .inl (k_tk_worth, 701, .inl g_49_f3)), (tk_language, .inl (k_tk_language, 20, .inl f_tk_language)), (bb, .inl (kbb, 700, .inl fbb))]) [0, 1, 2, 3, 4, 5] rfl
                have hDc := hD.sub (ws' := [(tk, .inr (7, [.int g_49_tk_0, .ref tk_kind, .ref tk_place, .ref tk_worth, .ref tk_language])), (tk_kind, .inl (k_tk_kind, 701, .inl g_49_f1)), (tk_place, .inl (k_tk_place, 701, .inl g_49_f2)), (tk_worth, .inl (k_tk_worth, 701, .inl g_49_f3)), (tk_language, .inl (k_tk_language, 20, .inl f_tk_language)), (bb, .inl (kbb, 700, .inl fbb))]) [0, 1, 2, 3, 4, 5] (by decide) rfl
                have hKc := hK.sub (tys' := [(k_tk_kind, .int), (k_tk_place, .int), (k_tk_worth, .int), (k_tk_language, .int), (kbb, .byte)]) [0, 1, 2, 3, 4] rfl
                have hFc := va_free (wc := [(tk, .inr (7, [.int g_49_tk_0, .ref tk_kind, .ref tk_place, .ref tk_worth, .ref tk_language])), (tk_kind, .inl (k_tk_kind, 701, .inl g_49_f1)), (tk_place, .inl (k_tk_place, 701, .inl g_49_f2)), (tk_worth, .inl (k_tk_worth, 701, .inl g_49_f3)), (tk_language, .inl (k_tk_language, 20, .inl f_tk_language)), (bb, .inl (kbb, 700, .inl fbb))]) hD hS hA [0, 1, 2, 3, 4, 5] rfl
                refine va_calli (va_runV (As := [.ref bb, .int g_49_l3, .int vl]) (rest := []) ⟨hx, hb, hml, hown, hT⟩ (c_X7_takeWord l dC dI H.size tk bb g_49_l3 vl g_49_tk_0 tk_kind tk_place tk_worth tk_language k_tk_kind g_49_f1 k_tk_place g_49_f2 k_tk_worth g_49_f3 k_tk_language f_tk_language kbb fbb (by omega) hg_49_f1 h_fbb (by omega) (by omega) (by omega) hlg (by rw [← ez_64]; omega)) (cwV 3 hT (gwV mw_3_82 mw_3_84 mp_1_0 mw_1_3 mw_3_85) rfl rfl rfl (by decide +kernel) ⟨Nat.le_of_ble_eq_true rfl, Nat.le_of_ble_eq_true rfl⟩) ⟨fun a U g mk q => by obtain ⟨q0, q1, qP, qK, qD⟩ := q; exact ⟨q0, q1, qP, va_K.moved (u := U) (U := U.calling g mk a) (Vm.Alike.refl U.vm) qK, qD⟩, va_recv hK hP (ci := 7) (q0 := 0) rfl rfl, fun U hU hW => ⟨rfl, by rw [hU], by rw [hU]; exact hPc, va_K.moved hW.alike hKc, hDc.weaken (fun _ _ _ _ => trivial)⟩⟩ rfl rfl hl.1 rfl (lv_room (Nat.le_of_ble_eq_true rfl)) dX7_split_64 ⟨Nat.le_of_ble_eq_true rfl, Nat.le_of_ble_eq_true rfl⟩) hS (fun q _ h => hFc q h) hFc (fun r_72 x_77 t H1 locs ht hvm hw hB hz1 hk1 hS => ?_)
                obtain ⟨x_73, x_74, x_75, x_76, hpr_72_0, hpr_72_1, hpr_72_2, hP1, hD1⟩ := hB
                rw [ht] at hP1
                obtain ⟨hP, hD⟩ := va_join (wr := []) (w1 := [(tk, .inr (7, [.int x_73, .ref tk_kind, .ref tk_place, .ref tk_worth, .ref tk_language])), (tk_kind, .inl (k_tk_kind, 701, .inl x_74)), (tk_place, .inl (k_tk_place, 701, .inl x_75)), (tk_worth, .inl (k_tk_worth, 701, .inl x_76)), (tk_language, .inl (k_tk_language, 20, .inl f_tk_language)), (bb, .inl (kbb, 700, .inl fbb))]) hP hD [0, 1, 2, 3, 4, 5] [] rfl rfl (by decide) (by decide) hk1 hFc hP1 hD1
                generalize H1 = H at hP hS ⊢
                have hP : va_P (dC, dI) vwCl [(tk, .inr (7, [.int x_73, .ref tk_kind, .ref tk_place, .ref tk_worth, .ref tk_language])), (tk_kind, .inl (k_tk_kind, 701, .inl x_74)), (tk_place, .inl (k_tk_place, 701, .inl x_75)), (tk_worth, .inl (k_tk_worth, 701, .inl x_76)), (tk_language, .inl (k_tk_language, 20, .inl f_tk_language)), (bb, .inl (kbb, 700, .inl fbb))] H := hP
                have hD : va_D A [(tk, .inr (7, [.int x_73, .ref tk_kind, .ref tk_place, .ref tk_worth, .ref tk_language])), (tk_kind, .inl (k_tk_kind, 701, .inl x_74)), (tk_place, .inl (k_tk_place, 701, .inl x_75)), (tk_worth, .inl (k_tk_worth, 701, .inl x_76)), (tk_language, .inl (k_tk_language, 20, .inl f_tk_language)), (bb, .inl (kbb, 700, .inl fbb))] := hD
                clear hPc hDc hKc hFc hP1 hD1 hk1 hz1 ht hvm
                have hur_72 : x_77 = r_72 := hw.1.symm
                subst x_77
                have hq_78 := tw_len hpr_72_2
                have hw : ((0 ≤ r_72.toInt ∧ r_72.toInt ≤ 700)) := hw.2
                have hwr_72 : ((0 ≤ r_72.toInt ∧ r_72.toInt ≤ 700)) := hw
                clear hw
                refine lv_istore_n (lv' := [(3, .int r_72), (5, .int z_65), (4, .int g_49_l4), (0, .ref tk), (1, .ref bb), (2, .int vl)]) hx hb dX7_split_67 rfl hl (by decide) rfl (fun ls hl => ?_)
                refine lv_goto (tgt := 98) hx hb dX7_split_68 (by decide) ?_
                obtain ⟨z_79, ez_79⟩ : ∃ y : Int32, y = g_49_l4 + Int32.ofInt (1) := ⟨_, rfl⟩
                have kz_79 : z_79.toInt = g_49_l4.toInt + (1) := ti_add ez_79 rfl (by decide) (by omega) (by omega)
                refine lv_iinc (v := z_79) (lv' := [(4, .int z_79), (3, .int r_72), (5, .int z_65), (0, .ref tk), (1, .ref bb), (2, .int vl)]) hx hb dX7_split_98 hl (k := 2) rfl (ez_79.symm) (by decide) rfl (fun ls hl => ?_)
                clear ez_79
                refine lv_goto (tgt := 10) hx hb dX7_split_101 (by decide) ?_
                exact ih51 z_79 r_72 x_73 x_74 x_75 x_76 (by omega) (by omega) (by omega) hpr_72_1 (TSp_n hi_ts_q_50 (by omega) (by omega) hpr_72_2) (by omega) (by omega) (by omega) (by omega) _ _ (hP.sub [0, 1, 2, 3, 4, 5] rfl) (hD.sub [0, 1, 2, 3, 4, 5] (by decide) rfl) hS _ (lv_sub hl [0, 1, 3, 4, 5] rfl)
              · subst r_70
                refine lv_if_eq (tgt := 71) hx hb dX7_split_57 (by decide) (fun c_80 => ?_) (fun c_80 => absurd c_80 (by decide))
                refine lv_iload hx hb dX7_split_71 (lv_at hl 0 rfl) ?_
                have hPc := hP.sub (ws' := []) [] rfl
                have hDc := hD.sub (ws' := []) [] (by decide) rfl
                have hKc := hK.sub (tys' := []) [] rfl
                have hFc := va_free (wc := []) hD hS hA [] rfl
                refine va_calli (va_runS (As := [.int z_65]) (rest := []) ⟨hx, hb, hml, hown, hT⟩ (c_X7_isDigit l dC dI H.size z_65 ) (va_cwS 1 hT (gwS mw_3_94 mw_3_95 mw_1_3 mw_3_96) rfl rfl rfl (by decide +kernel) ⟨Nat.le_of_ble_eq_true rfl, Nat.le_of_ble_eq_true rfl⟩) ⟨fun a U g mk q => by obtain ⟨q0, q1, qP, qK, qD⟩ := q; exact ⟨q0, q1, qP, va_K.moved (u := U) (U := U.calling g mk a) (Vm.Alike.refl U.vm) qK, qD⟩, fun U hU hW => ⟨rfl, by rw [hU], by rw [hU]; exact hPc, va_K.moved hW.alike hKc, hDc.weaken (fun _ _ _ _ => trivial)⟩⟩ rfl rfl hl.1 rfl (lv_room (Nat.le_of_ble_eq_true rfl)) dX7_split_73 ⟨Nat.le_of_ble_eq_true rfl, Nat.le_of_ble_eq_true rfl⟩) hS (fun q _ h => hFc q h) hFc (fun r_81 u t H1 locs ht hvm hw hB hz1 hk1 hS => ?_)
                obtain ⟨hP1, hD1⟩ := hB
                rw [ht] at hP1
                obtain ⟨hP, hD⟩ := va_join (wr := [(tk, .inr (7, [.int g_49_tk_0, .ref tk_kind, .ref tk_place, .ref tk_worth, .ref tk_language])), (tk_kind, .inl (k_tk_kind, 701, .inl g_49_f1)), (tk_place, .inl (k_tk_place, 701, .inl g_49_f2)), (tk_worth, .inl (k_tk_worth, 701, .inl g_49_f3)), (tk_language, .inl (k_tk_language, 20, .inl f_tk_language)), (bb, .inl (kbb, 700, .inl fbb))]) (w1 := []) hP hD [] [0, 1, 2, 3, 4, 5] rfl rfl (by decide) (by decide) hk1 hFc hP1 hD1
                generalize H1 = H at hP hS ⊢
                have hP : va_P (dC, dI) vwCl [(tk, .inr (7, [.int g_49_tk_0, .ref tk_kind, .ref tk_place, .ref tk_worth, .ref tk_language])), (tk_kind, .inl (k_tk_kind, 701, .inl g_49_f1)), (tk_place, .inl (k_tk_place, 701, .inl g_49_f2)), (tk_worth, .inl (k_tk_worth, 701, .inl g_49_f3)), (tk_language, .inl (k_tk_language, 20, .inl f_tk_language)), (bb, .inl (kbb, 700, .inl fbb))] H := hP
                have hD : va_D A [(tk, .inr (7, [.int g_49_tk_0, .ref tk_kind, .ref tk_place, .ref tk_worth, .ref tk_language])), (tk_kind, .inl (k_tk_kind, 701, .inl g_49_f1)), (tk_place, .inl (k_tk_place, 701, .inl g_49_f2)), (tk_worth, .inl (k_tk_worth, 701, .inl g_49_f3)), (tk_language, .inl (k_tk_language, 20, .inl f_tk_language)), (bb, .inl (kbb, 700, .inl fbb))] := hD
                clear hPc hDc hKc hFc hP1 hD1 hk1 hz1 ht hvm
                have hwr_81 : (r_81 = 1 ∧ (48 ≤ z_65.toInt ∧ z_65.toInt ≤ 57)) ∨ (r_81 = 0 ∧ (z_65.toInt < 48 ∨ 57 < z_65.toInt)) := hw
                clear hw
                rcases hwr_81 with ⟨hrr_81, hfr_81⟩ | ⟨hrr_81, hfr_81⟩
                · subst r_81
                  refine lv_if_eq (tgt := 90) hx hb dX7_split_76 (by decide) (fun c_82 => absurd c_82 (by decide)) (fun c_82 => ?_)
                  refine lv_aload_n hx hb dX7_split_79 rfl (lv_at hl 3 rfl) ?_
                  refine lv_aload_n hx hb dX7_split_80 rfl (lv_at hl 4 rfl) ?_
                  refine lv_iload_n hx hb dX7_split_81 rfl (lv_at hl 2 rfl) ?_
                  refine lv_iload_n hx hb dX7_split_82 rfl (lv_at hl 5 rfl) ?_
                  have hPc := hP.sub (ws' := [(tk, .inr (7, [.int g_49_tk_0, .ref tk_kind, .ref tk_place, .ref tk_worth, .ref tk_language])), (tk_kind, .inl (k_tk_kind, 701, .inl g_49_f1)), (tk_place, .inl (k_tk_place, 701, .inl g_49_f2)), (tk_worth, .inl (k_tk_worth, 701, .inl g_49_f3)), (tk_language, .inl (k_tk_language, 20, .inl f_tk_language)), (bb, .inl (kbb, 700, .inl fbb))]) [0, 1, 2, 3, 4, 5] rfl
                  have hDc := hD.sub (ws' := [(tk, .inr (7, [.int g_49_tk_0, .ref tk_kind, .ref tk_place, .ref tk_worth, .ref tk_language])), (tk_kind, .inl (k_tk_kind, 701, .inl g_49_f1)), (tk_place, .inl (k_tk_place, 701, .inl g_49_f2)), (tk_worth, .inl (k_tk_worth, 701, .inl g_49_f3)), (tk_language, .inl (k_tk_language, 20, .inl f_tk_language)), (bb, .inl (kbb, 700, .inl fbb))]) [0, 1, 2, 3, 4, 5] (by decide) rfl
                  have hKc := hK.sub (tys' := [(k_tk_kind, .int), (k_tk_place, .int), (k_tk_worth, .int), (k_tk_language, .int), (kbb, .byte)]) [0, 1, 2, 3, 4] rfl
                  have hFc := va_free (wc := [(tk, .inr (7, [.int g_49_tk_0, .ref tk_kind, .ref tk_place, .ref tk_worth, .ref tk_language])), (tk_kind, .inl (k_tk_kind, 701, .inl g_49_f1)), (tk_place, .inl (k_tk_place, 701, .inl g_49_f2)), (tk_worth, .inl (k_tk_worth, 701, .inl g_49_f3)), (tk_language, .inl (k_tk_language, 20, .inl f_tk_language)), (bb, .inl (kbb, 700, .inl fbb))]) hD hS hA [0, 1, 2, 3, 4, 5] rfl
                  refine va_calli (va_runV (As := [.ref bb, .int g_49_l3, .int vl]) (rest := []) ⟨hx, hb, hml, hown, hT⟩ (c_X7_takeNumber l dC dI H.size tk bb g_49_l3 vl g_49_tk_0 tk_kind tk_place tk_worth tk_language k_tk_kind g_49_f1 k_tk_place g_49_f2 k_tk_worth g_49_f3 k_tk_language f_tk_language kbb fbb (by omega) hg_49_f1 h_fbb (by omega) (by omega) (by omega) (by rw [← ez_64]; omega)) (cwV 3 hT (gwV mw_3_97 mw_3_99 mp_1_3 mw_1_3 mw_3_100) rfl rfl rfl (by decide +kernel) ⟨Nat.le_of_ble_eq_true rfl, Nat.le_of_ble_eq_true rfl⟩) ⟨fun a U g mk q => by obtain ⟨q0, q1, qP, qK, qD⟩ := q; exact ⟨q0, q1, qP, va_K.moved (u := U) (U := U.calling g mk a) (Vm.Alike.refl U.vm) qK, qD⟩, va_recv hK hP (ci := 7) (q0 := 0) rfl rfl, fun U hU hW => ⟨rfl, by rw [hU], by rw [hU]; exact hPc, va_K.moved hW.alike hKc, hDc.weaken (fun _ _ _ _ => trivial)⟩⟩ rfl rfl hl.1 rfl (lv_room (Nat.le_of_ble_eq_true rfl)) dX7_split_83 ⟨Nat.le_of_ble_eq_true rfl, Nat.le_of_ble_eq_true rfl⟩) hS (fun q _ h => hFc q h) hFc (fun r_83 x_88 t H1 locs ht hvm hw hB hz1 hk1 hS => ?_)
                  obtain ⟨x_84, x_85, x_86, x_87, hpr_83_0, hpr_83_1, hpr_83_2, hP1, hD1⟩ := hB
                  rw [ht] at hP1
                  obtain ⟨hP, hD⟩ := va_join (wr := []) (w1 := [(tk, .inr (7, [.int x_84, .ref tk_kind, .ref tk_place, .ref tk_worth, .ref tk_language])), (tk_kind, .inl (k_tk_kind, 701, .inl x_85)), (tk_place, .inl (k_tk_place, 701, .inl x_86)), (tk_worth, .inl (k_tk_worth, 701, .inl x_87)), (tk_language, .inl (k_tk_language, 20, .inl f_tk_language)), (bb, .inl (kbb, 700, .inl fbb))]) hP hD [0, 1, 2, 3, 4, 5] [] rfl rfl (by decide) (by decide) hk1 hFc hP1 hD1
                  generalize H1 = H at hP hS ⊢
                  have hP : va_P (dC, dI) vwCl [(tk, .inr (7, [.int x_84, .ref tk_kind, .ref tk_place, .ref tk_worth, .ref tk_language])), (tk_kind, .inl (k_tk_kind, 701, .inl x_85)), (tk_place, .inl (k_tk_place, 701, .inl x_86)), (tk_worth, .inl (k_tk_worth, 701, .inl x_87)), (tk_language, .inl (k_tk_language, 20, .inl f_tk_language)), (bb, .inl (kbb, 700, .inl fbb))] H := hP
                  have hD : va_D A [(tk, .inr (7, [.int x_84, .ref tk_kind, .ref tk_place, .ref tk_worth, .ref tk_language])), (tk_kind, .inl (k_tk_kind, 701, .inl x_85)), (tk_place, .inl (k_tk_place, 701, .inl x_86)), (tk_worth, .inl (k_tk_worth, 701, .inl x_87)), (tk_language, .inl (k_tk_language, 20, .inl f_tk_language)), (bb, .inl (kbb, 700, .inl fbb))] := hD
                  clear hPc hDc hKc hFc hP1 hD1 hk1 hz1 ht hvm
                  have hur_83 : x_88 = r_83 := hw.1.symm
                  subst x_88
                  have hq_89 := tw_len hpr_83_2
                  have hw : ((0 ≤ r_83.toInt ∧ r_83.toInt ≤ 700)) := hw.2
                  have hwr_83 : ((0 ≤ r_83.toInt ∧ r_83.toInt ≤ 700)) := hw
                  clear hw
                  refine lv_istore_n (lv' := [(3, .int r_83), (5, .int z_65), (4, .int g_49_l4), (0, .ref tk), (1, .ref bb), (2, .int vl)]) hx hb dX7_split_86 rfl hl (by decide) rfl (fun ls hl => ?_)
                  refine lv_goto (tgt := 98) hx hb dX7_split_87 (by decide) ?_
                  obtain ⟨z_90, ez_90⟩ : ∃ y : Int32, y = g_49_l4 + Int32.ofInt (1) := ⟨_, rfl⟩
                  have kz_90 : z_90.toInt = g_49_l4.toInt + (1) := ti_add ez_90 rfl (by decide) (by omega) (by omega)
                  refine lv_iinc (v := z_90) (lv' := [(4, .int z_90), (3, .int r_83), (5, .int z_65), (0, .ref tk), (1, .ref bb), (2, .int vl)]) hx hb dX7_split_98 hl (k := 2) rfl (ez_90.symm) (by decide) rfl (fun ls hl => ?_)
                  clear ez_90
                  refine lv_goto (tgt := 10) hx hb dX7_split_101 (by decide) ?_
                  exact ih51 z_90 r_83 x_84 x_85 x_86 x_87 (by omega) (by omega) (by omega) hpr_83_1 (TSp_n hi_ts_q_50 (by omega) (by omega) hpr_83_2) (by omega) (by omega) (by omega) (by omega) _ _ (hP.sub [0, 1, 2, 3, 4, 5] rfl) (hD.sub [0, 1, 2, 3, 4, 5] (by decide) rfl) hS _ (lv_sub hl [0, 1, 3, 4, 5] rfl)
                · subst r_81
                  refine lv_if_eq (tgt := 90) hx hb dX7_split_76 (by decide) (fun c_91 => ?_) (fun c_91 => absurd c_91 (by decide))
                  refine lv_aload_n hx hb dX7_split_90 rfl (lv_at hl 3 rfl) ?_
                  refine lv_aload_n hx hb dX7_split_91 rfl (lv_at hl 4 rfl) ?_
                  refine lv_iload_n hx hb dX7_split_92 rfl (lv_at hl 2 rfl) ?_
                  refine lv_iload_n hx hb dX7_split_93 rfl (lv_at hl 5 rfl) ?_
                  have hPc := hP.sub (ws' := [(tk, .inr (7, [.int g_49_tk_0, .ref tk_kind, .ref tk_place, .ref tk_worth, .ref tk_language])), (tk_kind, .inl (k_tk_kind, 701, .inl g_49_f1)), (tk_place, .inl (k_tk_place, 701, .inl g_49_f2)), (tk_worth, .inl (k_tk_worth, 701, .inl g_49_f3)), (tk_language, .inl (k_tk_language, 20, .inl f_tk_language)), (bb, .inl (kbb, 700, .inl fbb))]) [0, 1, 2, 3, 4, 5] rfl
                  have hDc := hD.sub (ws' := [(tk, .inr (7, [.int g_49_tk_0, .ref tk_kind, .ref tk_place, .ref tk_worth, .ref tk_language])), (tk_kind, .inl (k_tk_kind, 701, .inl g_49_f1)), (tk_place, .inl (k_tk_place, 701, .inl g_49_f2)), (tk_worth, .inl (k_tk_worth, 701, .inl g_49_f3)), (tk_language, .inl (k_tk_language, 20, .inl f_tk_language)), (bb, .inl (kbb, 700, .inl fbb))]) [0, 1, 2, 3, 4, 5] (by decide) rfl
                  have hKc := hK.sub (tys' := [(k_tk_kind, .int), (k_tk_place, .int), (k_tk_worth, .int), (k_tk_language, .int), (kbb, .byte)]) [0, 1, 2, 3, 4] rfl
                  have hFc := va_free (wc := [(tk, .inr (7, [.int g_49_tk_0, .ref tk_kind, .ref tk_place, .ref tk_worth, .ref tk_language])), (tk_kind, .inl (k_tk_kind, 701, .inl g_49_f1)), (tk_place, .inl (k_tk_place, 701, .inl g_49_f2)), (tk_worth, .inl (k_tk_worth, 701, .inl g_49_f3)), (tk_language, .inl (k_tk_language, 20, .inl f_tk_language)), (bb, .inl (kbb, 700, .inl fbb))]) hD hS hA [0, 1, 2, 3, 4, 5] rfl
                  refine va_calli (va_runV (As := [.ref bb, .int g_49_l3, .int vl]) (rest := []) ⟨hx, hb, hml, hown, hT⟩ (c_X7_takeSign l dC dI H.size tk bb g_49_l3 vl g_49_tk_0 tk_kind tk_place tk_worth tk_language k_tk_kind g_49_f1 k_tk_place g_49_f2 k_tk_worth g_49_f3 k_tk_language f_tk_language kbb fbb (by omega) hg_49_f1 h_fbb (by omega) (by omega) (by omega) (by rw [← ez_64]; omega)) (cwV 3 hT (gwV mw_3_105 mw_3_107 mp_1_4 mw_1_3 mw_3_108) rfl rfl rfl (by decide +kernel) ⟨Nat.le_of_ble_eq_true rfl, Nat.le_of_ble_eq_true rfl⟩) ⟨fun a U g mk q => by obtain ⟨q0, q1, qP, qK, qD⟩ := q; exact ⟨q0, q1, qP, va_K.moved (u := U) (U := U.calling g mk a) (Vm.Alike.refl U.vm) qK, qD⟩, va_recv hK hP (ci := 7) (q0 := 0) rfl rfl, fun U hU hW => ⟨rfl, by rw [hU], by rw [hU]; exact hPc, va_K.moved hW.alike hKc, hDc.weaken (fun _ _ _ _ => trivial)⟩⟩ rfl rfl hl.1 rfl (lv_room (Nat.le_of_ble_eq_true rfl)) dX7_split_94 ⟨Nat.le_of_ble_eq_true rfl, Nat.le_of_ble_eq_true rfl⟩) hS (fun q _ h => hFc q h) hFc (fun r_92 x_97 t H1 locs ht hvm hw hB hz1 hk1 hS => ?_)
                  obtain ⟨x_93, x_94, x_95, x_96, hpr_92_0, hpr_92_1, hpr_92_2, hP1, hD1⟩ := hB
                  rw [ht] at hP1
                  obtain ⟨hP, hD⟩ := va_join (wr := []) (w1 := [(tk, .inr (7, [.int x_93, .ref tk_kind, .ref tk_place, .ref tk_worth, .ref tk_language])), (tk_kind, .inl (k_tk_kind, 701, .inl x_94)), (tk_place, .inl (k_tk_place, 701, .inl x_95)), (tk_worth, .inl (k_tk_worth, 701, .inl x_96)), (tk_language, .inl (k_tk_language, 20, .inl f_tk_language)), (bb, .inl (kbb, 700, .inl fbb))]) hP hD [0, 1, 2, 3, 4, 5] [] rfl rfl (by decide) (by decide) hk1 hFc hP1 hD1
                  generalize H1 = H at hP hS ⊢
                  have hP : va_P (dC, dI) vwCl [(tk, .inr (7, [.int x_93, .ref tk_kind, .ref tk_place, .ref tk_worth, .ref tk_language])), (tk_kind, .inl (k_tk_kind, 701, .inl x_94)), (tk_place, .inl (k_tk_place, 701, .inl x_95)), (tk_worth, .inl (k_tk_worth, 701, .inl x_96)), (tk_language, .inl (k_tk_language, 20, .inl f_tk_language)), (bb, .inl (kbb, 700, .inl fbb))] H := hP
                  have hD : va_D A [(tk, .inr (7, [.int x_93, .ref tk_kind, .ref tk_place, .ref tk_worth, .ref tk_language])), (tk_kind, .inl (k_tk_kind, 701, .inl x_94)), (tk_place, .inl (k_tk_place, 701, .inl x_95)), (tk_worth, .inl (k_tk_worth, 701, .inl x_96)), (tk_language, .inl (k_tk_language, 20, .inl f_tk_language)), (bb, .inl (kbb, 700, .inl fbb))] := hD
                  clear hPc hDc hKc hFc hP1 hD1 hk1 hz1 ht hvm
                  have hur_92 : x_97 = r_92 := hw.1.symm
                  subst x_97
                  have hq_98 := tw_len hpr_92_2
                  have hw : ((0 ≤ r_92.toInt ∧ r_92.toInt ≤ 700)) := hw.2
                  have hwr_92 : ((0 ≤ r_92.toInt ∧ r_92.toInt ≤ 700)) := hw
                  clear hw
                  refine lv_istore_n (lv' := [(3, .int r_92), (5, .int z_65), (4, .int g_49_l4), (0, .ref tk), (1, .ref bb), (2, .int vl)]) hx hb dX7_split_97 rfl hl (by decide) rfl (fun ls hl => ?_)
                  obtain ⟨z_99, ez_99⟩ : ∃ y : Int32, y = g_49_l4 + Int32.ofInt (1) := ⟨_, rfl⟩
                  have kz_99 : z_99.toInt = g_49_l4.toInt + (1) := ti_add ez_99 rfl (by decide) (by omega) (by omega)
                  refine lv_iinc (v := z_99) (lv' := [(4, .int z_99), (3, .int r_92), (5, .int z_65), (0, .ref tk), (1, .ref bb), (2, .int vl)]) hx hb dX7_split_98 hl (k := 2) rfl (ez_99.symm) (by decide) rfl (fun ls hl => ?_)
                  clear ez_99
                  refine lv_goto (tgt := 10) hx hb dX7_split_101 (by decide) ?_
                  exact ih51 z_99 r_92 x_93 x_94 x_95 x_96 (by omega) (by omega) (by omega) hpr_92_1 (TSp_n hi_ts_q_50 (by omega) (by omega) hpr_92_2) (by omega) (by omega) (by omega) (by omega) _ _ (hP.sub [0, 1, 2, 3, 4, 5] rfl) (hD.sub [0, 1, 2, 3, 4, 5] (by decide) rfl) hS _ (lv_sub hl [0, 1, 3, 4, 5] rfl)
            · have kc_69 := il_eq c_69
              have := (by decide : (32 : Int32).toInt = 32)
              obtain ⟨z_100, ez_100⟩ : ∃ y : Int32, y = g_49_l3 + Int32.ofInt (1) := ⟨_, rfl⟩
              have kz_100 : z_100.toInt = g_49_l3.toInt + (1) := ti_add ez_100 rfl (by decide) (by omega) (by omega)
              refine lv_iinc (v := z_100) (lv' := [(3, .int z_100), (5, .int z_65), (4, .int g_49_l4), (0, .ref tk), (1, .ref bb), (2, .int vl)]) hx hb dX7_split_46 hl (k := 2) rfl (ez_100.symm) (by decide) rfl (fun ls hl => ?_)
              clear ez_100
              refine lv_goto (tgt := 98) hx hb dX7_split_49 (by decide) ?_
              obtain ⟨z_101, ez_101⟩ : ∃ y : Int32, y = g_49_l4 + Int32.ofInt (1) := ⟨_, rfl⟩
              have kz_101 : z_101.toInt = g_49_l4.toInt + (1) := ti_add ez_101 rfl (by decide) (by omega) (by omega)
              refine lv_iinc (v := z_101) (lv' := [(4, .int z_101), (3, .int z_100), (5, .int z_65), (0, .ref tk), (1, .ref bb), (2, .int vl)]) hx hb dX7_split_98 hl (k := 2) rfl (ez_101.symm) (by decide) rfl (fun ls hl => ?_)
              clear ez_101
              refine lv_goto (tgt := 10) hx hb dX7_split_101 (by decide) ?_
              exact ih51 z_101 z_100 g_49_tk_0 g_49_f1 g_49_f2 g_49_f3 (by omega) (by omega) (by omega) hg_49_f1 (TSp_b hi_ts_q_50 ez_64 (by omega) (by omega) (by omega)) (by omega) (by omega) (by omega) (by omega) _ _ (hP.sub [0, 1, 2, 3, 4, 5] rfl) (hD.sub [0, 1, 2, 3, 4, 5] (by decide) rfl) hS _ (lv_sub hl [0, 1, 3, 4, 5] rfl)
  have := (by decide : (0 : Int32).toInt = 0); have := (by decide : (0 : Int32).toInt = 0); have := (by decide : (0 : Int32).toInt = 0)
  exact loop_51 4294967296 (0 : Int32) (0 : Int32) (0 : Int32) f_tk_kind f_tk_place f_tk_worth (by decide) (by decide) (by decide) h_f_tk_kind TSp_0 (by omega) (by omega) (by omega) (by omega) _ _ (hP.sub [0, 1, 2, 3, 4, 5] rfl) (hD.sub [0, 1, 2, 3, 4, 5] (by decide) rfl) hS _ (lv_sub hl [0, 1, 2, 3, 4] rfl)
