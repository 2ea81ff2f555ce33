theorem dX0_bounded_0 : decode cX0_bounded 0 = .ok (.lload_n 0, 1) := by decide +kernel
theorem dX0_bounded_1 : decode cX0_bounded 1 = .ok (.ldc2_w 165, 3) := by decide +kernel
theorem dX0_bounded_11 : decode cX0_bounded 11 = .ok (.lload_n 0, 1) := by decide +kernel
theorem dX0_bounded_12 : decode cX0_bounded 12 = .ok (.ldc2_w 168, 3) := by decide +kernel
theorem dX0_bounded_24 : decode cX0_bounded 24 = .ok (.lload_n 0, 1) := by decide +kernel
theorem dX0_bounded_26 : decode cX0_bounded 26 = .ok (.ireturn, 1) := by decide +kernel
theorem dX0_bounded_19 : decode cX0_bounded 19 = .ok (.ldc 170, 2) := by decide +kernel
theorem dX0_bounded_21 : decode cX0_bounded 21 = .ok (.goto 5, 3) := by decide +kernel
theorem dX0_bounded_8 : decode cX0_bounded 8 = .ok (.ldc 167, 2) := by decide +kernel
theorem dX0_bounded_10 : decode cX0_bounded 10 = .ok (.ireturn, 1) := by decide +kernel
theorem dX0_bounded_4 : decode cX0_bounded 4 = .ok (.lcmp, 1) := by decide +kernel
theorem dX0_bounded_5 : decode cX0_bounded 5 = .ok (.ifCond .le 6, 3) := by decide +kernel
theorem dX0_bounded_15 : decode cX0_bounded 15 = .ok (.lcmp, 1) := by decide +kernel
theorem dX0_bounded_16 : decode cX0_bounded 16 = .ok (.ifCond .ge 8, 3) := by decide +kernel
theorem dX0_bounded_25 : decode cX0_bounded 25 = .ok (.l2i, 1) := by decide +kernel
theorem dX0_offAt_0 : decode cX0_offAt 0 = .ok (.aload_n 0, 1) := by decide +kernel
theorem dX0_offAt_1 : decode cX0_offAt 1 = .ok (.getfield 21, 3) := by decide +kernel
theorem dX0_offAt_4 : decode cX0_offAt 4 = .ok (.iload_n 1, 1) := by decide +kernel
theorem dX0_offAt_7 : decode cX0_offAt 7 = .ok (.aload_n 0, 1) := by decide +kernel
theorem dX0_offAt_8 : decode cX0_offAt 8 = .ok (.getfield 33, 3) := by decide +kernel
theorem dX0_offAt_11 : decode cX0_offAt 11 = .ok (.getfield 162, 3) := by decide +kernel
theorem dX0_offAt_14 : decode cX0_offAt 14 = .ok (.iload_n 1, 1) := by decide +kernel
theorem dX0_offAt_16 : decode cX0_offAt 16 = .ok (.iload_n 2, 1) := by decide +kernel
theorem dX0_offAt_17 : decode cX0_offAt 17 = .ok (.aload_n 0, 1) := by decide +kernel
theorem dX0_offAt_18 : decode cX0_offAt 18 = .ok (.getfield 24, 3) := by decide +kernel
theorem dX0_offAt_21 : decode cX0_offAt 21 = .ok (.iload_n 1, 1) := by decide +kernel
theorem dX0_offAt_26 : decode cX0_offAt 26 = .ok (.ladd, 1) := by decide +kernel
theorem dX0_offAt_27 : decode cX0_offAt 27 = .ok (.invokestatic 145, 3) := by decide +kernel
theorem dX0_offAt_30 : decode cX0_offAt 30 = .ok (.ireturn, 1) := by decide +kernel
theorem dX0_offAt_5 : decode cX0_offAt 5 = .ok (.iaload, 1) := by decide +kernel
theorem dX0_offAt_6 : decode cX0_offAt 6 = .ok (.i2l, 1) := by decide +kernel
theorem dX0_offAt_15 : decode cX0_offAt 15 = .ok (.iaload, 1) := by decide +kernel
theorem dX0_offAt_22 : decode cX0_offAt 22 = .ok (.iaload, 1) := by decide +kernel
theorem dX0_offAt_23 : decode cX0_offAt 23 = .ok (.isub, 1) := by decide +kernel
theorem dX0_offAt_24 : decode cX0_offAt 24 = .ok (.imul, 1) := by decide +kernel
theorem dX0_offAt_25 : decode cX0_offAt 25 = .ok (.i2l, 1) := by decide +kernel
theorem dX0_offNow_0 : decode cX0_offNow 0 = .ok (.aload_n 0, 1) := by decide +kernel
theorem dX0_offNow_1 : decode cX0_offNow 1 = .ok (.iload_n 1, 1) := by decide +kernel
theorem dX0_offNow_2 : decode cX0_offNow 2 = .ok (.aload_n 0, 1) := by decide +kernel
theorem dX0_offNow_3 : decode cX0_offNow 3 = .ok (.getfield 37, 3) := by decide +kernel
theorem dX0_offNow_18 : decode cX0_offNow 18 = .ok (.iconst 0, 1) := by decide +kernel
theorem dX0_offNow_19 : decode cX0_offNow 19 = .ok (.invokevirtual 159, 3) := by decide +kernel
theorem dX0_offNow_22 : decode cX0_offNow 22 = .ok (.ireturn, 1) := by decide +kernel
theorem dX0_offNow_9 : decode cX0_offNow 9 = .ok (.aload_n 0, 1) := by decide +kernel
theorem dX0_offNow_10 : decode cX0_offNow 10 = .ok (.getfield 37, 3) := by decide +kernel
theorem dX0_offNow_13 : decode cX0_offNow 13 = .ok (.iconst 1, 1) := by decide +kernel
theorem dX0_offNow_15 : decode cX0_offNow 15 = .ok (.goto 4, 3) := by decide +kernel
theorem dX0_offNow_6 : decode cX0_offNow 6 = .ok (.ifCond .le 12, 3) := by decide +kernel
theorem dX0_offNow_14 : decode cX0_offNow 14 = .ok (.isub, 1) := by decide +kernel
theorem dX0_noteWidest_0 : decode cX0_noteWidest 0 = .ok (.iload_n 1, 1) := by decide +kernel
theorem dX0_noteWidest_9 : decode cX0_noteWidest 9 = .ok (.iload_n 1, 1) := by decide +kernel
theorem dX0_noteWidest_4 : decode cX0_noteWidest 4 = .ok (.iload_n 1, 1) := by decide +kernel
theorem dX0_noteWidest_6 : decode cX0_noteWidest 6 = .ok (.goto 4, 3) := by decide +kernel
theorem dX0_noteWidest_10 : decode cX0_noteWidest 10 = .ok (.istore_n 2, 1) := by decide +kernel
theorem dX0_noteWidest_11 : decode cX0_noteWidest 11 = .ok (.iload_n 2, 1) := by decide +kernel
theorem dX0_noteWidest_12 : decode cX0_noteWidest 12 = .ok (.aload_n 0, 1) := by decide +kernel
theorem dX0_noteWidest_13 : decode cX0_noteWidest 13 = .ok (.getfield 48, 3) := by decide +kernel
theorem dX0_noteWidest_24 : decode cX0_noteWidest 24 = .ok (.return_, 1) := by decide +kernel
theorem dX0_noteWidest_19 : decode cX0_noteWidest 19 = .ok (.aload_n 0, 1) := by decide +kernel
theorem dX0_noteWidest_20 : decode cX0_noteWidest 20 = .ok (.iload_n 2, 1) := by decide +kernel
theorem dX0_noteWidest_21 : decode cX0_noteWidest 21 = .ok (.putfield 48, 3) := by decide +kernel
theorem dX0_noteWidest_1 : decode cX0_noteWidest 1 = .ok (.ifCond .ge 8, 3) := by decide +kernel
theorem dX0_noteWidest_16 : decode cX0_noteWidest 16 = .ok (.if_icmp .le 8, 3) := by decide +kernel
theorem dX0_noteWidest_5 : decode cX0_noteWidest 5 = .ok (.ineg, 1) := by decide +kernel
theorem dX0_settle_0 : decode cX0_settle 0 = .ok (.iload_n 2, 1) := by decide +kernel
theorem dX0_settle_1 : decode cX0_settle 1 = .ok (.aload_n 0, 1) := by decide +kernel
theorem dX0_settle_2 : decode cX0_settle 2 = .ok (.getfield 24, 3) := by decide +kernel
theorem dX0_settle_5 : decode cX0_settle 5 = .ok (.iload_n 1, 1) := by decide +kernel
theorem dX0_settle_58 : decode cX0_settle 58 = .ok (.return_, 1) := by decide +kernel
theorem dX0_settle_10 : decode cX0_settle 10 = .ok (.aload_n 0, 1) := by decide +kernel
theorem dX0_settle_11 : decode cX0_settle 11 = .ok (.getfield 44, 3) := by decide +kernel
theorem dX0_settle_17 : decode cX0_settle 17 = .ok (.aload_n 0, 1) := by decide +kernel
theorem dX0_settle_18 : decode cX0_settle 18 = .ok (.aload_n 0, 1) := by decide +kernel
theorem dX0_settle_19 : decode cX0_settle 19 = .ok (.getfield 21, 3) := by decide +kernel
theorem dX0_settle_22 : decode cX0_settle 22 = .ok (.iload_n 1, 1) := by decide +kernel
theorem dX0_settle_24 : decode cX0_settle 24 = .ok (.invokevirtual 155, 3) := by decide +kernel
theorem dX0_settle_27 : decode cX0_settle 27 = .ok (.aload_n 0, 1) := by decide +kernel
theorem dX0_settle_28 : decode cX0_settle 28 = .ok (.aload_n 0, 1) := by decide +kernel
theorem dX0_settle_29 : decode cX0_settle 29 = .ok (.iload_n 1, 1) := by decide +kernel
theorem dX0_settle_30 : decode cX0_settle 30 = .ok (.iload_n 2, 1) := by decide +kernel
theorem dX0_settle_31 : decode cX0_settle 31 = .ok (.iconst 1, 1) := by decide +kernel
theorem dX0_settle_33 : decode cX0_settle 33 = .ok (.invokevirtual 159, 3) := by decide +kernel
theorem dX0_settle_36 : decode cX0_settle 36 = .ok (.invokevirtual 155, 3) := by decide +kernel
theorem dX0_settle_39 : decode cX0_settle 39 = .ok (.aload_n 0, 1) := by decide +kernel
theorem dX0_settle_40 : decode cX0_settle 40 = .ok (.getfield 21, 3) := by decide +kernel
theorem dX0_settle_43 : decode cX0_settle 43 = .ok (.iload_n 1, 1) := by decide +kernel
theorem dX0_settle_44 : decode cX0_settle 44 = .ok (.aload_n 0, 1) := by decide +kernel
theorem dX0_settle_45 : decode cX0_settle 45 = .ok (.iload_n 1, 1) := by decide +kernel
theorem dX0_settle_46 : decode cX0_settle 46 = .ok (.iload_n 2, 1) := by decide +kernel
theorem dX0_settle_47 : decode cX0_settle 47 = .ok (.invokevirtual 159, 3) := by decide +kernel
theorem dX0_settle_51 : decode cX0_settle 51 = .ok (.aload_n 0, 1) := by decide +kernel
theorem dX0_settle_52 : decode cX0_settle 52 = .ok (.getfield 24, 3) := by decide +kernel
theorem dX0_settle_55 : decode cX0_settle 55 = .ok (.iload_n 1, 1) := by decide +kernel
theorem dX0_settle_56 : decode cX0_settle 56 = .ok (.iload_n 2, 1) := by decide +kernel
theorem dX0_settle_6 : decode cX0_settle 6 = .ok (.iaload, 1) := by decide +kernel
theorem dX0_settle_7 : decode cX0_settle 7 = .ok (.if_icmp .le 51, 3) := by decide +kernel
theorem dX0_settle_14 : decode cX0_settle 14 = .ok (.ifCond .eq 25, 3) := by decide +kernel
theorem dX0_settle_50 : decode cX0_settle 50 = .ok (.iastore, 1) := by decide +kernel
theorem dX0_settle_57 : decode cX0_settle 57 = .ok (.iastore, 1) := by decide +kernel
theorem dX0_settle_23 : decode cX0_settle 23 = .ok (.iaload, 1) := by decide +kernel
theorem dX0_settle_32 : decode cX0_settle 32 = .ok (.isub, 1) := by decide +kernel
theorem dX0_shoot_0 : decode cX0_shoot 0 = .ok (.aload_n 0, 1) := by decide +kernel
theorem dX0_shoot_1 : decode cX0_shoot 1 = .ok (.iload_n 1, 1) := by decide +kernel
theorem dX0_shoot_2 : decode cX0_shoot 2 = .ok (.iload_n 2, 1) := by decide +kernel
theorem dX0_shoot_3 : decode cX0_shoot 3 = .ok (.invokevirtual 94, 3) := by decide +kernel
theorem dX0_shoot_6 : decode cX0_shoot 6 = .ok (.aload_n 0, 1) := by decide +kernel
theorem dX0_shoot_7 : decode cX0_shoot 7 = .ok (.getfield 21, 3) := by decide +kernel
theorem dX0_shoot_10 : decode cX0_shoot 10 = .ok (.iload_n 1, 1) := by decide +kernel
theorem dX0_shoot_11 : decode cX0_shoot 11 = .ok (.iconst 0, 1) := by decide +kernel
theorem dX0_shoot_13 : decode cX0_shoot 13 = .ok (.return_, 1) := by decide +kernel
theorem dX0_shoot_12 : decode cX0_shoot 12 = .ok (.iastore, 1) := by decide +kernel
theorem dX0_shift_0 : decode cX0_shift 0 = .ok (.aload_n 0, 1) := by decide +kernel
theorem dX0_shift_1 : decode cX0_shift 1 = .ok (.getfield 21, 3) := by decide +kernel
theorem dX0_shift_4 : decode cX0_shift 4 = .ok (.iload_n 1, 1) := by decide +kernel
theorem dX0_shift_5 : decode cX0_shift 5 = .ok (.dup2, 1) := by decide +kernel
theorem dX0_shift_7 : decode cX0_shift 7 = .ok (.iload_n 2, 1) := by decide +kernel
theorem dX0_shift_10 : decode cX0_shift 10 = .ok (.return_, 1) := by decide +kernel
theorem dX0_shift_6 : decode cX0_shift 6 = .ok (.iaload, 1) := by decide +kernel
theorem dX0_shift_8 : decode cX0_shift 8 = .ok (.iadd, 1) := by decide +kernel
theorem dX0_shift_9 : decode cX0_shift 9 = .ok (.iastore, 1) := by decide +kernel
theorem dX0_partOf_0 : decode cX0_partOf 0 = .ok (.aload_n 0, 1) := by decide +kernel
theorem dX0_partOf_1 : decode cX0_partOf 1 = .ok (.getfield 33, 3) := by decide +kernel
theorem dX0_partOf_4 : decode cX0_partOf 4 = .ok (.getfield 101, 3) := by decide +kernel
theorem dX0_partOf_7 : decode cX0_partOf 7 = .ok (.getfield 149, 3) := by decide +kernel
theorem dX0_partOf_10 : decode cX0_partOf 10 = .ok (.iload_n 1, 1) := by decide +kernel
theorem dX0_partOf_12 : decode cX0_partOf 12 = .ok (.istore_n 3, 1) := by decide +kernel
theorem dX0_partOf_13 : decode cX0_partOf 13 = .ok (.iload_n 3, 1) := by decide +kernel
theorem dX0_partOf_21 : decode cX0_partOf 21 = .ok (.aload_n 0, 1) := by decide +kernel
theorem dX0_partOf_22 : decode cX0_partOf 22 = .ok (.getfield 33, 3) := by decide +kernel
theorem dX0_partOf_25 : decode cX0_partOf 25 = .ok (.getfield 101, 3) := by decide +kernel
theorem dX0_partOf_28 : decode cX0_partOf 28 = .ok (.getfield 152, 3) := by decide +kernel
theorem dX0_partOf_31 : decode cX0_partOf 31 = .ok (.iload_n 1, 1) := by decide +kernel
theorem dX0_partOf_34 : decode cX0_partOf 34 = .ok (.iload_n 2, 1) := by decide +kernel
theorem dX0_partOf_36 : decode cX0_partOf 36 = .ok (.lmul, 1) := by decide +kernel
theorem dX0_partOf_37 : decode cX0_partOf 37 = .ok (.iload_n 3, 1) := by decide +kernel
theorem dX0_partOf_41 : decode cX0_partOf 41 = .ok (.ireturn, 1) := by decide +kernel
theorem dX0_partOf_17 : decode cX0_partOf 17 = .ok (.iconst 0, 1) := by decide +kernel
theorem dX0_partOf_18 : decode cX0_partOf 18 = .ok (.goto 23, 3) := by decide +kernel
theorem dX0_partOf_11 : decode cX0_partOf 11 = .ok (.iaload, 1) := by decide +kernel
theorem dX0_partOf_14 : decode cX0_partOf 14 = .ok (.ifCond .ne 7, 3) := by decide +kernel
theorem dX0_partOf_32 : decode cX0_partOf 32 = .ok (.iaload, 1) := by decide +kernel
theorem dX0_partOf_33 : decode cX0_partOf 33 = .ok (.i2l, 1) := by decide +kernel
theorem dX0_partOf_35 : decode cX0_partOf 35 = .ok (.i2l, 1) := by decide +kernel
theorem dX0_partOf_38 : decode cX0_partOf 38 = .ok (.i2l, 1) := by decide +kernel
theorem dX0_partOf_39 : decode cX0_partOf 39 = .ok (.ldiv, 1) := by decide +kernel
theorem dX0_partOf_40 : decode cX0_partOf 40 = .ok (.l2i, 1) := by decide +kernel
theorem dX0_keepAhead_0 : decode cX0_keepAhead 0 = .ok (.iload_n 1, 1) := by decide +kernel
theorem dX0_keepAhead_1 : decode cX0_keepAhead 1 = .ok (.iconst 5, 1) := by decide +kernel
theorem dX0_keepAhead_3 : decode cX0_keepAhead 3 = .ok (.istore_n 3, 1) := by decide +kernel
theorem dX0_keepAhead_4 : decode cX0_keepAhead 4 = .ok (.aload_n 0, 1) := by decide +kernel
theorem dX0_keepAhead_5 : decode cX0_keepAhead 5 = .ok (.getfield 18, 3) := by decide +kernel
theorem dX0_keepAhead_8 : decode cX0_keepAhead 8 = .ok (.iload_n 1, 1) := by decide +kernel
theorem dX0_keepAhead_10 : decode cX0_keepAhead 10 = .ok (.istore 4, 2) := by decide +kernel
theorem dX0_keepAhead_12 : decode cX0_keepAhead 12 = .ok (.iload 4, 2) := by decide +kernel
theorem dX0_keepAhead_14 : decode cX0_keepAhead 14 = .ok (.aload_n 0, 1) := by decide +kernel
theorem dX0_keepAhead_15 : decode cX0_keepAhead 15 = .ok (.getfield 33, 3) := by decide +kernel
theorem dX0_keepAhead_18 : decode cX0_keepAhead 18 = .ok (.getfield 101, 3) := by decide +kernel
theorem dX0_keepAhead_21 : decode cX0_keepAhead 21 = .ok (.getfield 152, 3) := by decide +kernel
theorem dX0_keepAhead_24 : decode cX0_keepAhead 24 = .ok (.iload_n 1, 1) := by decide +kernel
theorem dX0_keepAhead_48 : decode cX0_keepAhead 48 = .ok (.aload_n 0, 1) := by decide +kernel
theorem dX0_keepAhead_49 : decode cX0_keepAhead 49 = .ok (.getfield 27, 3) := by decide +kernel
theorem dX0_keepAhead_52 : decode cX0_keepAhead 52 = .ok (.iload_n 3, 1) := by decide +kernel
theorem dX0_keepAhead_53 : decode cX0_keepAhead 53 = .ok (.iload 4, 2) := by decide +kernel
theorem dX0_keepAhead_56 : decode cX0_keepAhead 56 = .ok (.iload_n 2, 1) := by decide +kernel
theorem dX0_keepAhead_58 : decode cX0_keepAhead 58 = .ok (.aload_n 0, 1) := by decide +kernel
theorem dX0_keepAhead_59 : decode cX0_keepAhead 59 = .ok (.getfield 18, 3) := by decide +kernel
theorem dX0_keepAhead_62 : decode cX0_keepAhead 62 = .ok (.iload_n 1, 1) := by decide +kernel
theorem dX0_keepAhead_63 : decode cX0_keepAhead 63 = .ok (.iload 4, 2) := by decide +kernel
theorem dX0_keepAhead_65 : decode cX0_keepAhead 65 = .ok (.iconst 1, 1) := by decide +kernel
theorem dX0_keepAhead_68 : decode cX0_keepAhead 68 = .ok (.return_, 1) := by decide +kernel
theorem dX0_keepAhead_29 : decode cX0_keepAhead 29 = .ok (.aload_n 0, 1) := by decide +kernel
theorem dX0_keepAhead_30 : decode cX0_keepAhead 30 = .ok (.getfield 27, 3) := by decide +kernel
theorem dX0_keepAhead_33 : decode cX0_keepAhead 33 = .ok (.iload_n 3, 1) := by decide +kernel
theorem dX0_keepAhead_34 : decode cX0_keepAhead 34 = .ok (.iconst 1, 1) := by decide +kernel
theorem dX0_keepAhead_36 : decode cX0_keepAhead 36 = .ok (.aload_n 0, 1) := by decide +kernel
theorem dX0_keepAhead_37 : decode cX0_keepAhead 37 = .ok (.getfield 27, 3) := by decide +kernel
theorem dX0_keepAhead_40 : decode cX0_keepAhead 40 = .ok (.iload_n 3, 1) := by decide +kernel
theorem dX0_keepAhead_41 : decode cX0_keepAhead 41 = .ok (.iconst 4, 1) := by decide +kernel
theorem dX0_keepAhead_42 : decode cX0_keepAhead 42 = .ok (.invokestatic 62, 3) := by decide +kernel
theorem dX0_keepAhead_2 : decode cX0_keepAhead 2 = .ok (.imul, 1) := by decide +kernel
theorem dX0_keepAhead_9 : decode cX0_keepAhead 9 = .ok (.iaload, 1) := by decide +kernel
theorem dX0_keepAhead_25 : decode cX0_keepAhead 25 = .ok (.iaload, 1) := by decide +kernel
theorem dX0_keepAhead_26 : decode cX0_keepAhead 26 = .ok (.if_icmp .lt 22, 3) := by decide +kernel
theorem dX0_keepAhead_55 : decode cX0_keepAhead 55 = .ok (.iadd, 1) := by decide +kernel
theorem dX0_keepAhead_57 : decode cX0_keepAhead 57 = .ok (.iastore, 1) := by decide +kernel
theorem dX0_keepAhead_66 : decode cX0_keepAhead 66 = .ok (.iadd, 1) := by decide +kernel
theorem dX0_keepAhead_67 : decode cX0_keepAhead 67 = .ok (.iastore, 1) := by decide +kernel
theorem dX0_keepAhead_35 : decode cX0_keepAhead 35 = .ok (.iadd, 1) := by decide +kernel
theorem dX0_keepAhead_45 : decode cX0_keepAhead 45 = .ok (.iinc 4 (-1), 3) := by decide +kernel
theorem dX0_middleKept_0 : decode cX0_middleKept 0 = .ok (.aload_n 0, 1) := by decide +kernel
theorem dX0_middleKept_1 : decode cX0_middleKept 1 = .ok (.getfield 18, 3) := by decide +kernel
theorem dX0_middleKept_4 : decode cX0_middleKept 4 = .ok (.iload_n 1, 1) := by decide +kernel
theorem dX0_middleKept_6 : decode cX0_middleKept 6 = .ok (.istore_n 2, 1) := by decide +kernel
theorem dX0_middleKept_7 : decode cX0_middleKept 7 = .ok (.iconst 0, 1) := by decide +kernel
theorem dX0_middleKept_8 : decode cX0_middleKept 8 = .ok (.istore_n 3, 1) := by decide +kernel
theorem dX0_middleKept_9 : decode cX0_middleKept 9 = .ok (.iload_n 3, 1) := by decide +kernel
theorem dX0_middleKept_10 : decode cX0_middleKept 10 = .ok (.iload_n 2, 1) := by decide +kernel
theorem dX0_middleKept_14 : decode cX0_middleKept 14 = .ok (.aload_n 0, 1) := by decide +kernel
theorem dX0_middleKept_15 : decode cX0_middleKept 15 = .ok (.getfield 27, 3) := by decide +kernel
theorem dX0_middleKept_18 : decode cX0_middleKept 18 = .ok (.iload_n 1, 1) := by decide +kernel
theorem dX0_middleKept_19 : decode cX0_middleKept 19 = .ok (.iconst 5, 1) := by decide +kernel
theorem dX0_middleKept_21 : decode cX0_middleKept 21 = .ok (.iload_n 3, 1) := by decide +kernel
theorem dX0_middleKept_24 : decode cX0_middleKept 24 = .ok (.istore 4, 2) := by decide +kernel
theorem dX0_middleKept_26 : decode cX0_middleKept 26 = .ok (.iload_n 3, 1) := by decide +kernel
theorem dX0_middleKept_27 : decode cX0_middleKept 27 = .ok (.istore 5, 2) := by decide +kernel
theorem dX0_middleKept_29 : decode cX0_middleKept 29 = .ok (.iload 5, 2) := by decide +kernel
theorem dX0_middleKept_70 : decode cX0_middleKept 70 = .ok (.aload_n 0, 1) := by decide +kernel
theorem dX0_middleKept_71 : decode cX0_middleKept 71 = .ok (.getfield 30, 3) := by decide +kernel
theorem dX0_middleKept_74 : decode cX0_middleKept 74 = .ok (.iload 5, 2) := by decide +kernel
theorem dX0_middleKept_76 : decode cX0_middleKept 76 = .ok (.iload 4, 2) := by decide +kernel
theorem dX0_middleKept_82 : decode cX0_middleKept 82 = .ok (.goto (-73), 3) := by decide +kernel
theorem dX0_middleKept_85 : decode cX0_middleKept 85 = .ok (.aload_n 0, 1) := by decide +kernel
theorem dX0_middleKept_86 : decode cX0_middleKept 86 = .ok (.getfield 30, 3) := by decide +kernel
theorem dX0_middleKept_89 : decode cX0_middleKept 89 = .ok (.iload_n 2, 1) := by decide +kernel
theorem dX0_middleKept_90 : decode cX0_middleKept 90 = .ok (.iconst 1, 1) := by decide +kernel
theorem dX0_middleKept_92 : decode cX0_middleKept 92 = .ok (.iconst 2, 1) := by decide +kernel
theorem dX0_middleKept_95 : decode cX0_middleKept 95 = .ok (.ireturn, 1) := by decide +kernel
theorem dX0_middleKept_34 : decode cX0_middleKept 34 = .ok (.aload_n 0, 1) := by decide +kernel
theorem dX0_middleKept_35 : decode cX0_middleKept 35 = .ok (.getfield 30, 3) := by decide +kernel
theorem dX0_middleKept_38 : decode cX0_middleKept 38 = .ok (.iload 5, 2) := by decide +kernel
theorem dX0_middleKept_40 : decode cX0_middleKept 40 = .ok (.iconst 1, 1) := by decide +kernel
theorem dX0_middleKept_43 : decode cX0_middleKept 43 = .ok (.iload 4, 2) := by decide +kernel
theorem dX0_middleKept_48 : decode cX0_middleKept 48 = .ok (.aload_n 0, 1) := by decide +kernel
theorem dX0_middleKept_49 : decode cX0_middleKept 49 = .ok (.getfield 30, 3) := by decide +kernel
theorem dX0_middleKept_52 : decode cX0_middleKept 52 = .ok (.iload 5, 2) := by decide +kernel
theorem dX0_middleKept_54 : decode cX0_middleKept 54 = .ok (.aload_n 0, 1) := by decide +kernel
theorem dX0_middleKept_55 : decode cX0_middleKept 55 = .ok (.getfield 30, 3) := by decide +kernel
theorem dX0_middleKept_58 : decode cX0_middleKept 58 = .ok (.iload 5, 2) := by decide +kernel
theorem dX0_middleKept_60 : decode cX0_middleKept 60 = .ok (.iconst 1, 1) := by decide +kernel
theorem dX0_middleKept_67 : decode cX0_middleKept 67 = .ok (.goto (-38), 3) := by decide +kernel
theorem dX0_middleKept_5 : decode cX0_middleKept 5 = .ok (.iaload, 1) := by decide +kernel
theorem dX0_middleKept_11 : decode cX0_middleKept 11 = .ok (.if_icmp .ge 74, 3) := by decide +kernel
theorem dX0_middleKept_91 : decode cX0_middleKept 91 = .ok (.isub, 1) := by decide +kernel
theorem dX0_middleKept_93 : decode cX0_middleKept 93 = .ok (.idiv, 1) := by decide +kernel
theorem dX0_middleKept_94 : decode cX0_middleKept 94 = .ok (.iaload, 1) := by decide +kernel
theorem dX0_middleKept_20 : decode cX0_middleKept 20 = .ok (.imul, 1) := by decide +kernel
theorem dX0_middleKept_22 : decode cX0_middleKept 22 = .ok (.iadd, 1) := by decide +kernel
theorem dX0_middleKept_23 : decode cX0_middleKept 23 = .ok (.iaload, 1) := by decide +kernel
theorem dX0_middleKept_31 : decode cX0_middleKept 31 = .ok (.ifCond .le 39, 3) := by decide +kernel
theorem dX0_middleKept_78 : decode cX0_middleKept 78 = .ok (.iastore, 1) := by decide +kernel
theorem dX0_middleKept_79 : decode cX0_middleKept 79 = .ok (.iinc 3 1, 3) := by decide +kernel
theorem dX0_middleKept_41 : decode cX0_middleKept 41 = .ok (.isub, 1) := by decide +kernel
theorem dX0_middleKept_42 : decode cX0_middleKept 42 = .ok (.iaload, 1) := by decide +kernel
theorem dX0_middleKept_45 : decode cX0_middleKept 45 = .ok (.if_icmp .le 25, 3) := by decide +kernel
theorem dX0_middleKept_61 : decode cX0_middleKept 61 = .ok (.isub, 1) := by decide +kernel
theorem dX0_middleKept_62 : decode cX0_middleKept 62 = .ok (.iaload, 1) := by decide +kernel
theorem dX0_middleKept_63 : decode cX0_middleKept 63 = .ok (.iastore, 1) := by decide +kernel
theorem dX0_middleKept_64 : decode cX0_middleKept 64 = .ok (.iinc 5 (-1), 3) := by decide +kernel
abbrev q_X0_bounded (dC : Nat → ClassId) (dI : Nat → Nat → Nat) (A : Nat → Prop) (w0 : Int64) : Array Value → State → Outcome → State → Prop := va_Qi (fun (r : Int32) (_ : Unit) => True) (fun (_ : Unit) (t : State) => va_P (dC, dI) vwCl [] t.heap ∧ va_D A []) A
set_option maxHeartbeats 4000000 in
set_option maxRecDepth 100000 in
theorem c_X0_bounded (l : Launch) (dC : Nat → ClassId) (dI : Nat → Nat → Nat) (sz : Nat) (w0 : Int64)  : Met l yX0_bounded (pw_w yX0_bounded cX0_bounded 2 (some .int)) ({ frames := 0, cells := 0, slots := 0, locals := 0 }) (va_Pc [.long w0] (fun U => U.heap.size = sz ∧ va_P (dC, dI) vwCl [] U.heap ∧ va_K (dC, dI) vwCl [] U ∧ va_D (fun _ => True) [])) (q_X0_bounded dC dI (va_A [] sz) w0) 0 0 (va_A [] sz) := by
  refine Met.ofW (cc := cX0_bounded) (maxL := 2) (ret := (some .int)) (by decide) rfl ?_
  intro p e s m args below meth c s₁ B hml hv
  obtain ⟨rfl, hsz, hP, hK, hD0⟩ := hv
  have hx := B.exec
  have hb := B.bytes
  have hr := B.returns
  have hts := atoms_spec (ws := (pw_w yX0_bounded cX0_bounded 2 (some .int))) B.pre
  have hT : ∀ w ∈ pw_T, w.before _ s = true := fun w h => hts w (List.mem_cons_of_mem _ h)
  have hown : s.vm.findClass RX0 = some m.cls := findClass_of_methodNamed B.named
  have hlocks := B.notSynchronized
  subst hsz
  have hD := hD0.self (sz := s.heap.size)
  generalize hAe : va_A [] s.heap.size = A at hD ⊢
  have hA : ∀ q : Nat, s.heap.size ≤ q → A q := fun q h => by rw [← hAe]; exact Or.inr h
  have hS : va_S A s.heap s.heap [] := va_S.rf
  have hP : va_P (dC, dI) vwCl [] s.heap := hP
  have hl := lv_entry ([.long w0]) (n := 2) (Nat.le_of_ble_eq_true rfl)
  rw [lg_entry_eq]
  generalize (lg_sl ([.long w0]) ++ List.replicate (2 - (lg_sl ([.long w0])).length) Slot.unset).toArray = ls at hl ⊢
  have hl : lv_has ls 2 [(0, .long w0)] := hl
  refine lv_lload_n hx hb dX0_bounded_0 rfl (lv_at hl 0 rfl) ?_
  refine lv_ldc2 (v := 1000000000) hx hb hown (hT _ mw_4_76) dX0_bounded_1 ?_
  refine W.lcmp hx hb dX0_bounded_4 ?_
  refine lv_topi (fun z_1 ez_1 => ?_)
  have kz_1 : -1 ≤ z_1.toInt ∧ z_1.toInt ≤ 1 := lc_rng ez_1
  refine lv_if_le (tgt := 11) hx hb dX0_bounded_5 (by decide) (fun c_2 => ?_) (fun c_2 => ?_)
  · have kc_2 := il_le c_2
    have := (by decide : (0 : Int32).toInt = 0)
    refine lv_lload_n hx hb dX0_bounded_11 rfl (lv_at hl 0 rfl) ?_
    refine lv_ldc2 (v := (-1000000000)) hx hb hown (hT _ mw_4_78) dX0_bounded_12 ?_
    refine W.lcmp hx hb dX0_bounded_15 ?_
    refine lv_topi (fun z_3 ez_3 => ?_)
    have kz_3 : -1 ≤ z_3.toInt ∧ z_3.toInt ≤ 1 := lc_rng ez_3
    refine lv_if_ge (tgt := 24) hx hb dX0_bounded_16 (by decide) (fun c_4 => ?_) (fun c_4 => ?_)
    · have kc_4 := il_le c_4
      have := (by decide : (0 : Int32).toInt = 0)
      refine lv_lload_n hx hb dX0_bounded_24 rfl (lv_at hl 0 rfl) ?_
      refine lv_l2i hx hb dX0_bounded_25 rfl ?_
      refine lv_topi (fun z_5 ez_5 => ?_)
      clear ez_5
      have hP9 := hP.sub (ws' := []) [] rfl
      have hD9 := hD.sub (ws' := []) [] (by decide) rfl
      exact W.iret (v := z_5) hx hb hr (fun t ht hW => ⟨⟨z_5, (), rfl, trivial, by rw [ht]; exact hP9, hD9⟩, hS.F ht⟩) hS.2.2 dX0_bounded_26
    · have kc_4 := il_nle c_4
      have := (by decide : (0 : Int32).toInt = 0)
      refine lv_ldc (v := (-1000000000)) hx hb hown (hT _ mw_4_79) dX0_bounded_19 ?_
      refine lv_goto (tgt := 26) hx hb dX0_bounded_21 (by decide) ?_
      have hP9 := hP.sub (ws' := []) [] rfl
      have hD9 := hD.sub (ws' := []) [] (by decide) rfl
      have := (by decide : ((-1000000000) : Int32).toInt = -1000000000)
      exact W.iret (v := (-1000000000)) hx hb hr (fun t ht hW => ⟨⟨(-1000000000), (), rfl, trivial, by rw [ht]; exact hP9, hD9⟩, hS.F ht⟩) hS.2.2 dX0_bounded_26
  · have kc_2 := il_nle c_2
    have := (by decide : (0 : Int32).toInt = 0)
    refine lv_ldc (v := 1000000000) hx hb hown (hT _ mw_4_77) dX0_bounded_8 ?_
    have hP9 := hP.sub (ws' := []) [] rfl
    have hD9 := hD.sub (ws' := []) [] (by decide) rfl
    have := (by decide : (1000000000 : Int32).toInt = 1000000000)
    exact W.iret (v := 1000000000) hx hb hr (fun t ht hW => ⟨⟨1000000000, (), rfl, trivial, by rw [ht]; exact hP9, hD9⟩, hS.F ht⟩) hS.2.2 dX0_bounded_10
abbrev q_X0_offAt (dC : Nat → ClassId) (dI : Nat → Nat → Nat) (A : Nat → Prop) (co : Nat) (vs : Int32) (vh : Int32) (pl : Nat) (co_hour : Int32) (co_passings : Int32) (co_last : Nat) (co_passed : Nat) (co_keptCount : Nat) (co_watched : Int32) (co_widest : Int32) (co_deed : Int32) (co_week : Int32) (co_off : Nat) (co_since : Nat) (co_kept : Nat) (co_sorted : Nat) (k_co_off : ClassId) (f_co_off : Nat → Int32) (k_co_since : ClassId) (f_co_since : Nat → Int32) (pl_told : Nat) (pl_first : Nat) (pl_gain : Nat) (pl_custom : Nat) (pl_ruled : Nat) (pl_deeds : Int32) (pl_deedHour : Nat) (pl_deedPerson : Nat) (pl_deedClock : Nat) (k_pl_gain : ClassId) (f_pl_gain : Nat → Int32) : Array Value → State → Outcome → State → Prop := va_Qi (fun (r : Int32) (_ : Unit) => True) (fun (_ : Unit) (t : State) => va_P (dC, dI) vwCl [(co, .inr (0, [.ref pl, .int co_hour, .int co_passings, .ref co_last, .ref co_passed, .ref co_keptCount, .int co_watched, .int co_widest, .int co_deed, .int co_week, .ref co_off, .ref co_since, .ref co_kept, .ref co_sorted])), (co_off, .inl (k_co_off, 10, .inl f_co_off)), (co_since, .inl (k_co_since, 10, .inl f_co_since)), (pl, .inr (3, [.ref pl_told, .ref pl_first, .ref pl_gain, .ref pl_custom, .ref pl_ruled, .int pl_deeds, .ref pl_deedHour, .ref pl_deedPerson, .ref pl_deedClock])), (pl_gain, .inl (k_pl_gain, 10, .inl f_pl_gain))] t.heap ∧ va_D A [(co, .inr (0, [.ref pl, .int co_hour, .int co_passings, .ref co_last, .ref co_passed, .ref co_keptCount, .int co_watched, .int co_widest, .int co_deed, .int co_week, .ref co_off, .ref co_since, .ref co_kept, .ref co_sorted])), (co_off, .inl (k_co_off, 10, .inl f_co_off)), (co_since, .inl (k_co_since, 10, .inl f_co_since)), (pl, .inr (3, [.ref pl_told, .ref pl_first, .ref pl_gain, .ref pl_custom, .ref pl_ruled, .int pl_deeds, .ref pl_deedHour, .ref pl_deedPerson, .ref pl_deedClock])), (pl_gain, .inl (k_pl_gain, 10, .inl f_pl_gain))]) A
set_option maxHeartbeats 4000000 in
set_option maxRecDepth 100000 in
theorem c_X0_offAt (l : Launch) (dC : Nat → ClassId) (dI : Nat → Nat → Nat) (sz : Nat) (co : Nat) (vs : Int32) (vh : Int32) (pl : Nat) (co_hour : Int32) (co_passings : Int32) (co_last : Nat) (co_passed : Nat) (co_keptCount : Nat) (co_watched : Int32) (co_widest : Int32) (co_deed : Int32) (co_week : Int32) (co_off : Nat) (co_since : Nat) (co_kept : Nat) (co_sorted : Nat) (k_co_off : ClassId) (f_co_off : Nat → Int32) (k_co_since : ClassId) (f_co_since : Nat → Int32) (pl_told : Nat) (pl_first : Nat) (pl_gain : Nat) (pl_custom : Nat) (pl_ruled : Nat) (pl_deeds : Int32) (pl_deedHour : Nat) (pl_deedPerson : Nat) (pl_deedClock : Nat) (k_pl_gain : ClassId) (f_pl_gain : Nat → Int32) (h_co_hour : 0 ≤ co_hour.toInt ∧ co_hour.toInt ≤ 2000) (h_co_watched : 0 ≤ co_watched.toInt ∧ co_watched.toInt ≤ 1) (h_co_deed : 0 ≤ co_deed.toInt ∧ co_deed.toInt ≤ 16) (h_pl_deeds : 0 ≤ pl_deeds.toInt ∧ pl_deeds.toInt ≤ 16) (h_vs : 0 ≤ vs.toInt ∧ vs.toInt ≤ 9) : Met l yX0_offAt (pw_w yX0_offAt cX0_offAt 3 (some .int)) ({ frames := 1, cells := 0, slots := 0, locals := 21 }) (va_Pc [.ref co, .int vs, .int vh] (fun U => U.heap.size = sz ∧ va_P (dC, dI) vwCl [(co, .inr (0, [.ref pl, .int co_hour, .int co_passings, .ref co_last, .ref co_passed, .ref co_keptCount, .int co_watched, .int co_widest, .int co_deed, .int co_week, .ref co_off, .ref co_since, .ref co_kept, .ref co_sorted])), (co_off, .inl (k_co_off, 10, .inl f_co_off)), (co_since, .inl (k_co_since, 10, .inl f_co_since)), (pl, .inr (3, [.ref pl_told, .ref pl_first, .ref pl_gain, .ref pl_custom, .ref pl_ruled, .int pl_deeds, .ref pl_deedHour, .ref pl_deedPerson, .ref pl_deedClock])), (pl_gain, .inl (k_pl_gain, 10, .inl f_pl_gain))] U.heap ∧ va_K (dC, dI) vwCl [(k_co_off, .int), (k_co_since, .int), (k_pl_gain, .int)] U ∧ va_D (fun _ => True) [(co, .inr (0, [.ref pl, .int co_hour, .int co_passings, .ref co_last, .ref co_passed, .ref co_keptCount, .int co_watched, .int co_widest, .int co_deed, .int co_week, .ref co_off, .ref co_since, .ref co_kept, .ref co_sorted])), (co_off, .inl (k_co_off, 10, .inl f_co_off)), (co_since, .inl (k_co_since, 10, .inl f_co_since)), (pl, .inr (3, [.ref pl_told, .ref pl_first, .ref pl_gain, .ref pl_custom, .ref pl_ruled, .int pl_deeds, .ref pl_deedHour, .ref pl_deedPerson, .ref pl_deedClock])), (pl_gain, .inl (k_pl_gain, 10, .inl f_pl_gain))])) (q_X0_offAt dC dI (va_A [(co, .inr (0, [.ref pl, .int co_hour, .int co_passings, .ref co_last, .ref co_passed, .ref co_keptCount, .int co_watched, .int co_widest, .int co_deed, .int co_week, .ref co_off, .ref co_since, .ref co_kept, .ref co_sorted])), (co_off, .inl (k_co_off, 10, .inl f_co_off)), (co_since, .inl (k_co_since, 10, .inl f_co_since)), (pl, .inr (3, [.ref pl_told, .ref pl_first, .ref pl_gain, .ref pl_custom, .ref pl_ruled, .int pl_deeds, .ref pl_deedHour, .ref pl_deedPerson, .ref pl_deedClock])), (pl_gain, .inl (k_pl_gain, 10, .inl f_pl_gain))] sz) co vs vh pl co_hour co_passings co_last co_passed co_keptCount co_watched co_widest co_deed co_week co_off co_since co_kept co_sorted k_co_off f_co_off k_co_since f_co_since pl_told pl_first pl_gain pl_custom pl_ruled pl_deeds pl_deedHour pl_deedPerson pl_deedClock k_pl_gain f_pl_gain) 0 0 (va_A [(co, .inr (0, [.ref pl, .int co_hour, .int co_passings, .ref co_last, .ref co_passed, .ref co_keptCount, .int co_watched, .int co_widest, .int co_deed, .int co_week, .ref co_off, .ref co_since, .ref co_kept, .ref co_sorted])), (co_off, .inl (k_co_off, 10, .inl f_co_off)), (co_since, .inl (k_co_since, 10, .inl f_co_since)), (pl, .inr (3, [.ref pl_told, .ref pl_first, .ref pl_gain, .ref pl_custom, .ref pl_ruled, .int pl_deeds, .ref pl_deedHour, .ref pl_deedPerson, .ref pl_deedClock])), (pl_gain, .inl (k_pl_gain, 10, .inl f_pl_gain))] sz) := by
  refine Met.ofW (cc := cX0_offAt) (maxL := 3) (ret := (some .int)) (by decide) rfl ?_
  intro p e s m args below meth c s₁ B hml hv
  obtain ⟨rfl, hsz, hP, hK, hD0⟩ := hv
  have hx := B.exec
  have hb := B.bytes
  have hr := B.returns
  have hts := atoms_spec (ws := (pw_w yX0_offAt cX0_offAt 3 (some .int))) B.pre
  have hT : ∀ w ∈ pw_T, w.before _ s = true := fun w h => hts w (List.mem_cons_of_mem _ h)
  have hown : s.vm.findClass RX0 = some m.cls := findClass_of_methodNamed B.named
  have hlocks := B.notSynchronized
  subst hsz
  have hD := hD0.self (sz := s.heap.size)
  generalize hAe : va_A [(co, .inr (0, [.ref pl, .int co_hour, .int co_passings, .ref co_last, .ref co_passed, .ref co_keptCount, .int co_watched, .int co_widest, .int co_deed, .int co_week, .ref co_off, .ref co_since, .ref co_kept, .ref co_sorted])), (co_off, .inl (k_co_off, 10, .inl f_co_off)), (co_since, .inl (k_co_since, 10, .inl f_co_since)), (pl, .inr (3, [.ref pl_told, .ref pl_first, .ref pl_gain, .ref pl_custom, .ref pl_ruled, .int pl_deeds, .ref pl_deedHour, .ref pl_deedPerson, .ref pl_deedClock])), (pl_gain, .inl (k_pl_gain, 10, .inl f_pl_gain))] s.heap.size = A at hD ⊢
  have hA : ∀ q : Nat, s.heap.size ≤ q → A q := fun q h => by rw [← hAe]; exact Or.inr h
  have hS : va_S A s.heap s.heap [] := va_S.rf
  have hP : va_P (dC, dI) vwCl [(co, .inr (0, [.ref pl, .int co_hour, .int co_passings, .ref co_last, .ref co_passed, .ref co_keptCount, .int co_watched, .int co_widest, .int co_deed, .int co_week, .ref co_off, .ref co_since, .ref co_kept, .ref co_sorted])), (co_off, .inl (k_co_off, 10, .inl f_co_off)), (co_since, .inl (k_co_since, 10, .inl f_co_since)), (pl, .inr (3, [.ref pl_told, .ref pl_first, .ref pl_gain, .ref pl_custom, .ref pl_ruled, .int pl_deeds, .ref pl_deedHour, .ref pl_deedPerson, .ref pl_deedClock])), (pl_gain, .inl (k_pl_gain, 10, .inl f_pl_gain))] s.heap := hP
  have hl := lv_entry ([.ref co, .int vs, .int vh]) (n := 3) (Nat.le_of_ble_eq_true rfl)
  rw [lg_entry_eq]
  generalize (lg_sl ([.ref co, .int vs, .int vh]) ++ List.replicate (3 - (lg_sl ([.ref co, .int vs, .int vh])).length) Slot.unset).toArray = ls at hl ⊢
  have hl : lv_has ls 3 [(0, .ref co), (1, .int vs), (2, .int vh)] := hl
  refine lv_aload_n hx hb dX0_offAt_0 rfl (lv_at hl 0 rfl) ?_
  refine va_get (D := (dC, dI)) (ci := 0) (v := .ref co_off) (C := RX0) (T := TX0) (N := 14) hx hb hT inX0 hown hK hP 0 rfl rfl 10 (by decide) (hT _ mw_2_124) (fun _ h9 => h9) rfl dX0_offAt_1 ?_
  refine lv_iload_n hx hb dX0_offAt_4 rfl (lv_at hl 1 rfl) ?_
  refine va_iald hx hb hK hP 1 0 rfl rfl (vp_in_iff.mpr (by omega)) dX0_offAt_5 ?_
  refine lv_topi (fun z_1 ez_1 => ?_)
  refine lv_i2l hx hb dX0_offAt_6 rfl ?_
  refine lv_topl (fun z_2 ez_2 => ?_)
  refine lv_aload_n hx hb dX0_offAt_7 rfl (lv_at hl 0 rfl) ?_
  refine va_get (D := (dC, dI)) (ci := 0) (v := .ref pl) (C := RX0) (T := TX0) (N := 14) hx hb hT inX0 hown hK hP 0 rfl rfl 0 (by decide) (hT _ mw_2_104) (fun _ h9 => h9) rfl dX0_offAt_8 ?_
  refine va_get (D := (dC, dI)) (ci := 3) (v := .ref pl_gain) (C := RX3) (T := TX3) (N := 9) hx hb hT inX3 hown hK hP 3 rfl rfl 2 (by decide) (hT _ mw_2_65) (fun _ h9 => h9) rfl dX0_offAt_11 ?_
  refine lv_iload_n hx hb dX0_offAt_14 rfl (lv_at hl 1 rfl) ?_
  refine va_iald hx hb hK hP 4 2 rfl rfl (vp_in_iff.mpr (by omega)) dX0_offAt_15 ?_
  refine lv_topi (fun z_3 ez_3 => ?_)
  refine lv_iload_n hx hb dX0_offAt_16 rfl (lv_at hl 2 rfl) ?_
  refine lv_aload_n hx hb dX0_offAt_17 rfl (lv_at hl 0 rfl) ?_
  refine va_get (D := (dC, dI)) (ci := 0) (v := .ref co_since) (C := RX0) (T := TX0) (N := 14) hx hb hT inX0 hown hK hP 0 rfl rfl 11 (by decide) (hT _ mw_2_125) (fun _ h9 => h9) rfl dX0_offAt_18 ?_
  refine lv_iload_n hx hb dX0_offAt_21 rfl (lv_at hl 1 rfl) ?_
  refine va_iald hx hb hK hP 2 1 rfl rfl (vp_in_iff.mpr (by omega)) dX0_offAt_22 ?_
  refine lv_topi (fun z_4 ez_4 => ?_)
  refine lv_isub hx hb dX0_offAt_23 ?_
  refine lv_topi (fun z_5 ez_5 => ?_)
  clear ez_5
  refine lv_imul hx hb dX0_offAt_24 ?_
  refine lv_topi (fun z_6 ez_6 => ?_)
  clear ez_6
  refine lv_i2l hx hb dX0_offAt_25 rfl ?_
  refine lv_topl (fun z_7 ez_7 => ?_)
  refine lv_ladd hx hb dX0_offAt_26 ?_
  refine lv_topl (fun z_8 ez_8 => ?_)
  clear ez_8
  have hPc := hP.sub (ws' := []) [] rfl
  have hDc := hD.sub (ws' := []) [] (by decide) rfl
  have hKc := hK.sub (tys' := []) [] rfl
  have hFc := va_free (wc := []) hD hS hA [] rfl
  refine va_calli (va_runS (As := [.long z_8]) (rest := []) ⟨hx, hb, hml, hown, hT⟩ (c_X0_bounded l dC dI s.heap.size z_8 ) (va_cwS 1 hT (gwS mw_4_73 mw_4_74 mw_1_11 mw_4_75) rfl rfl rfl (by decide +kernel) ⟨Nat.le_of_ble_eq_true rfl, Nat.le_of_ble_eq_true rfl⟩) ⟨fun a U g mk q => by obtain ⟨q0, q1, qP, qK, qD⟩ := q; exact ⟨q0, q1, qP, va_K.moved (u := U) (U := U.calling g mk a) (Vm.Alike.refl U.vm) qK, qD⟩, fun U hU hW => ⟨rfl, by rw [hU], by rw [hU]; exact hPc, va_K.moved hW.alike hKc, hDc.weaken (fun _ _ _ _ => trivial)⟩⟩ rfl rfl hl.1 rfl (lv_room (Nat.le_of_ble_eq_true rfl)) dX0_offAt_27 ⟨Nat.le_of_ble_eq_true rfl, Nat.le_of_ble_eq_true rfl⟩) hS (fun q _ h => hFc q h) hFc (fun r_9 u t H1 locs ht hvm hw hB hz1 hk1 hS => ?_)
  obtain ⟨hP1, hD1⟩ := hB
  rw [ht] at hP1
  obtain ⟨hP, hD⟩ := va_join (wr := [(co, .inr (0, [.ref pl, .int co_hour, .int co_passings, .ref co_last, .ref co_passed, .ref co_keptCount, .int co_watched, .int co_widest, .int co_deed, .int co_week, .ref co_off, .ref co_since, .ref co_kept, .ref co_sorted])), (co_off, .inl (k_co_off, 10, .inl f_co_off)), (co_since, .inl (k_co_since, 10, .inl f_co_since)), (pl, .inr (3, [.ref pl_told, .ref pl_first, .ref pl_gain, .ref pl_custom, .ref pl_ruled, .int pl_deeds, .ref pl_deedHour, .ref pl_deedPerson, .ref pl_deedClock])), (pl_gain, .inl (k_pl_gain, 10, .inl f_pl_gain))]) (w1 := []) hP hD [] [0, 1, 2, 3, 4] rfl rfl (by decide) (by decide) hk1 hFc hP1 hD1
  generalize H1 = H at hP hS ⊢
  have hP : va_P (dC, dI) vwCl [(co, .inr (0, [.ref pl, .int co_hour, .int co_passings, .ref co_last, .ref co_passed, .ref co_keptCount, .int co_watched, .int co_widest, .int co_deed, .int co_week, .ref co_off, .ref co_since, .ref co_kept, .ref co_sorted])), (co_off, .inl (k_co_off, 10, .inl f_co_off)), (co_since, .inl (k_co_since, 10, .inl f_co_since)), (pl, .inr (3, [.ref pl_told, .ref pl_first, .ref pl_gain, .ref pl_custom, .ref pl_ruled, .int pl_deeds, .ref pl_deedHour, .ref pl_deedPerson, .ref pl_deedClock])), (pl_gain, .inl (k_pl_gain, 10, .inl f_pl_gain))] H := hP
  have hD : va_D A [(co, .inr (0, [.ref pl, .int co_hour, .int co_passings, .ref co_last, .ref co_passed, .ref co_keptCount, .int co_watched, .int co_widest, .int co_deed, .int co_week, .ref co_off, .ref co_since, .ref co_kept, .ref co_sorted])), (co_off, .inl (k_co_off, 10, .inl f_co_off)), (co_since, .inl (k_co_since, 10, .inl f_co_since)), (pl, .inr (3, [.ref pl_told, .ref pl_first, .ref pl_gain, .ref pl_custom, .ref pl_ruled, .int pl_deeds, .ref pl_deedHour, .ref pl_deedPerson, .ref pl_deedClock])), (pl_gain, .inl (k_pl_gain, 10, .inl f_pl_gain))] := hD
  clear hPc hDc hKc hFc hP1 hD1 hk1 hz1 ht hvm
  have hwr_9 : True := hw
  clear hw
  clear hwr_9
  have hP9 := hP.sub (ws' := [(co, .inr (0, [.ref pl, .int co_hour, .int co_passings, .ref co_last, .ref co_passed, .ref co_keptCount, .int co_watched, .int co_widest, .int co_deed, .int co_week, .ref co_off, .ref co_since, .ref co_kept, .ref co_sorted])), (co_off, .inl (k_co_off, 10, .inl f_co_off)), (co_since, .inl (k_co_since, 10, .inl f_co_since)), (pl, .inr (3, [.ref pl_told, .ref pl_first, .ref pl_gain, .ref pl_custom, .ref pl_ruled, .int pl_deeds, .ref pl_deedHour, .ref pl_deedPerson, .ref pl_deedClock])), (pl_gain, .inl (k_pl_gain, 10, .inl f_pl_gain))]) [0, 1, 2, 3, 4] rfl
  have hD9 := hD.sub (ws' := [(co, .inr (0, [.ref pl, .int co_hour, .int co_passings, .ref co_last, .ref co_passed, .ref co_keptCount, .int co_watched, .int co_widest, .int co_deed, .int co_week, .ref co_off, .ref co_since, .ref co_kept, .ref co_sorted])), (co_off, .inl (k_co_off, 10, .inl f_co_off)), (co_since, .inl (k_co_since, 10, .inl f_co_since)), (pl, .inr (3, [.ref pl_told, .ref pl_first, .ref pl_gain, .ref pl_custom, .ref pl_ruled, .int pl_deeds, .ref pl_deedHour, .ref pl_deedPerson, .ref pl_deedClock])), (pl_gain, .inl (k_pl_gain, 10, .inl f_pl_gain))]) [0, 1, 2, 3, 4] (by decide) rfl
  exact W.iret (v := r_9) hx hb hr (fun t ht hW => ⟨⟨r_9, (), rfl, trivial, by rw [ht]; exact hP9, hD9⟩, hS.F ht⟩) hS.2.2 dX0_offAt_30
abbrev q_X0_offNow (dC : Nat → ClassId) (dI : Nat → Nat → Nat) (A : Nat → Prop) (co : Nat) (vs : Int32) (pl : Nat) (co_hour : Int32) (co_passings : Int32) (co_last : Nat) (co_passed : Nat) (co_keptCount : Nat) (co_watched : Int32) (co_widest : Int32) (co_deed : Int32) (co_week : Int32) (co_off : Nat) (co_since : Nat) (co_kept : Nat) (co_sorted : Nat) (k_co_off : ClassId) (f_co_off : Nat → Int32) (k_co_since : ClassId) (f_co_since : Nat → Int32) (pl_told : Nat) (pl_first : Nat) (pl_gain : Nat) (pl_custom : Nat) (pl_ruled : Nat) (pl_deeds : Int32) (pl_deedHour : Nat) (pl_deedPerson : Nat) (pl_deedClock : Nat) (k_pl_gain : ClassId) (f_pl_gain : Nat → Int32) : Array Value → State → Outcome → State → Prop := va_Qi (fun (r : Int32) (_ : Unit) => True) (fun (_ : Unit) (t : State) => va_P (dC, dI) vwCl [(co, .inr (0, [.ref pl, .int co_hour, .int co_passings, .ref co_last, .ref co_passed, .ref co_keptCount, .int co_watched, .int co_widest, .int co_deed, .int co_week, .ref co_off, .ref co_since, .ref co_kept, .ref co_sorted])), (co_off, .inl (k_co_off, 10, .inl f_co_off)), (co_since, .inl (k_co_since, 10, .inl f_co_since)), (pl, .inr (3, [.ref pl_told, .ref pl_first, .ref pl_gain, .ref pl_custom, .ref pl_ruled, .int pl_deeds, .ref pl_deedHour, .ref pl_deedPerson, .ref pl_deedClock])), (pl_gain, .inl (k_pl_gain, 10, .inl f_pl_gain))] t.heap ∧ va_D A [(co, .inr (0, [.ref pl, .int co_hour, .int co_passings, .ref co_last, .ref co_passed, .ref co_keptCount, .int co_watched, .int co_widest, .int co_deed, .int co_week, .ref co_off, .ref co_since, .ref co_kept, .ref co_sorted])), (co_off, .inl (k_co_off, 10, .inl f_co_off)), (co_since, .inl (k_co_since, 10, .inl f_co_since)), (pl, .inr (3, [.ref pl_told, .ref pl_first, .ref pl_gain, .ref pl_custom, .ref pl_ruled, .int pl_deeds, .ref pl_deedHour, .ref pl_deedPerson, .ref pl_deedClock])), (pl_gain, .inl (k_pl_gain, 10, .inl f_pl_gain))]) A
set_option maxHeartbeats 4000000 in
set_option maxRecDepth 100000 in
theorem c_X0_offNow (l : Launch) (dC : Nat → ClassId) (dI : Nat → Nat → Nat) (sz : Nat) (co : Nat) (vs : Int32) (pl : Nat) (co_hour : Int32) (co_passings : Int32) (co_last : Nat) (co_passed : Nat) (co_keptCount : Nat) (co_watched : Int32) (co_widest : Int32) (co_deed : Int32) (co_week : Int32) (co_off : Nat) (co_since : Nat) (co_kept : Nat) (co_sorted : Nat) (k_co_off : ClassId) (f_co_off : Nat → Int32) (k_co_since : ClassId) (f_co_since : Nat → Int32) (pl_told : Nat) (pl_first : Nat) (pl_gain : Nat) (pl_custom : Nat) (pl_ruled : Nat) (pl_deeds : Int32) (pl_deedHour : Nat) (pl_deedPerson : Nat) (pl_deedClock : Nat) (k_pl_gain : ClassId) (f_pl_gain : Nat → Int32) (h_co_hour : 0 ≤ co_hour.toInt ∧ co_hour.toInt ≤ 2000) (h_co_watched : 0 ≤ co_watched.toInt ∧ co_watched.toInt ≤ 1) (h_co_deed : 0 ≤ co_deed.toInt ∧ co_deed.toInt ≤ 16) (h_pl_deeds : 0 ≤ pl_deeds.toInt ∧ pl_deeds.toInt ≤ 16) (h_vs : 0 ≤ vs.toInt ∧ vs.toInt ≤ 9) : Met l yX0_offNow (pw_w yX0_offNow cX0_offNow 2 (some .int)) ({ frames := 2, cells := 0, slots := 0, locals := 43 }) (va_Pc [.ref co, .int vs] (fun U => U.heap.size = sz ∧ va_P (dC, dI) vwCl [(co, .inr (0, [.ref pl, .int co_hour, .int co_passings, .ref co_last, .ref co_passed, .ref co_keptCount, .int co_watched, .int co_widest, .int co_deed, .int co_week, .ref co_off, .ref co_since, .ref co_kept, .ref co_sorted])), (co_off, .inl (k_co_off, 10, .inl f_co_off)), (co_since, .inl (k_co_since, 10, .inl f_co_since)), (pl, .inr (3, [.ref pl_told, .ref pl_first, .ref pl_gain, .ref pl_custom, .ref pl_ruled, .int pl_deeds, .ref pl_deedHour, .ref pl_deedPerson, .ref pl_deedClock])), (pl_gain, .inl (k_pl_gain, 10, .inl f_pl_gain))] U.heap ∧ va_K (dC, dI) vwCl [(k_co_off, .int), (k_co_since, .int), (k_pl_gain, .int)] U ∧ va_D (fun _ => True) [(co, .inr (0, [.ref pl, .int co_hour, .int co_passings, .ref co_last, .ref co_passed, .ref co_keptCount, .int co_watched, .int co_widest, .int co_deed, .int co_week, .ref co_off, .ref co_since, .ref co_kept, .ref co_sorted])), (co_off, .inl (k_co_off, 10, .inl f_co_off)), (co_since, .inl (k_co_since, 10, .inl f_co_since)), (pl, .inr (3, [.ref pl_told, .ref pl_first, .ref pl_gain, .ref pl_custom, .ref pl_ruled, .int pl_deeds, .ref pl_deedHour, .ref pl_deedPerson, .ref pl_deedClock])), (pl_gain, .inl (k_pl_gain, 10, .inl f_pl_gain))])) (q_X0_offNow dC dI (va_A [(co, .inr (0, [.ref pl, .int co_hour, .int co_passings, .ref co_last, .ref co_passed, .ref co_keptCount, .int co_watched, .int co_widest, .int co_deed, .int co_week, .ref co_off, .ref co_since, .ref co_kept, .ref co_sorted])), (co_off, .inl (k_co_off, 10, .inl f_co_off)), (co_since, .inl (k_co_since, 10, .inl f_co_since)), (pl, .inr (3, [.ref pl_told, .ref pl_first, .ref pl_gain, .ref pl_custom, .ref pl_ruled, .int pl_deeds, .ref pl_deedHour, .ref pl_deedPerson, .ref pl_deedClock])), (pl_gain, .inl (k_pl_gain, 10, .inl f_pl_gain))] sz) co vs pl co_hour co_passings co_last co_passed co_keptCount co_watched co_widest co_deed co_week co_off co_since co_kept co_sorted k_co_off f_co_off k_co_since f_co_since pl_told pl_first pl_gain pl_custom pl_ruled pl_deeds pl_deedHour pl_deedPerson pl_deedClock k_pl_gain f_pl_gain) 0 0 (va_A [(co, .inr (0, [.ref pl, .int co_hour, .int co_passings, .ref co_last, .ref co_passed, .ref co_keptCount, .int co_watched, .int co_widest, .int co_deed, .int co_week, .ref co_off, .ref co_since, .ref co_kept, .ref co_sorted])), (co_off, .inl (k_co_off, 10, .inl f_co_off)), (co_since, .inl (k_co_since, 10, .inl f_co_since)), (pl, .inr (3, [.ref pl_told, .ref pl_first, .ref pl_gain, .ref pl_custom, .ref pl_ruled, .int pl_deeds, .ref pl_deedHour, .ref pl_deedPerson, .ref pl_deedClock])), (pl_gain, .inl (k_pl_gain, 10, .inl f_pl_gain))] sz) := by
  refine Met.ofW (cc := cX0_offNow) (maxL := 2) (ret := (some .int)) (by decide) rfl ?_
  intro p e s m args below meth c s₁ B hml hv
  obtain ⟨rfl, hsz, hP, hK, hD0⟩ := hv
  have hx := B.exec
  have hb := B.bytes
  have hr := B.returns
  have hts := atoms_spec (ws := (pw_w yX0_offNow cX0_offNow 2 (some .int))) B.pre
  have hT : ∀ w ∈ pw_T, w.before _ s = true := fun w h => hts w (List.mem_cons_of_mem _ h)
  have hown : s.vm.findClass RX0 = some m.cls := findClass_of_methodNamed B.named
  have hlocks := B.notSynchronized
  subst hsz
  have hD := hD0.self (sz := s.heap.size)
  generalize hAe : va_A [(co, .inr (0, [.ref pl, .int co_hour, .int co_passings, .ref co_last, .ref co_passed, .ref co_keptCount, .int co_watched, .int co_widest, .int co_deed, .int co_week, .ref co_off, .ref co_since, .ref co_kept, .ref co_sorted])), (co_off, .inl (k_co_off, 10, .inl f_co_off)), (co_since, .inl (k_co_since, 10, .inl f_co_since)), (pl, .inr (3, [.ref pl_told, .ref pl_first, .ref pl_gain, .ref pl_custom, .ref pl_ruled, .int pl_deeds, .ref pl_deedHour, .ref pl_deedPerson, .ref pl_deedClock])), (pl_gain, .inl (k_pl_gain, 10, .inl f_pl_gain))] s.heap.size = A at hD ⊢
  have hA : ∀ q : Nat, s.heap.size ≤ q → A q := fun q h => by rw [← hAe]; exact Or.inr h
  have hS : va_S A s.heap s.heap [] := va_S.rf
  have hP : va_P (dC, dI) vwCl [(co, .inr (0, [.ref pl, .int co_hour, .int co_passings, .ref co_last, .ref co_passed, .ref co_keptCount, .int co_watched, .int co_widest, .int co_deed, .int co_week, .ref co_off, .ref co_since, .ref co_kept, .ref co_sorted])), (co_off, .inl (k_co_off, 10, .inl f_co_off)), (co_since, .inl (k_co_since, 10, .inl f_co_since)), (pl, .inr (3, [.ref pl_told, .ref pl_first, .ref pl_gain, .ref pl_custom, .ref pl_ruled, .int pl_deeds, .ref pl_deedHour, .ref pl_deedPerson, .ref pl_deedClock])), (pl_gain, .inl (k_pl_gain, 10, .inl f_pl_gain))] s.heap := hP
  have hl := lv_entry ([.ref co, .int vs]) (n := 2) (Nat.le_of_ble_eq_true rfl)
  rw [lg_entry_eq]
  generalize (lg_sl ([.ref co, .int vs]) ++ List.replicate (2 - (lg_sl ([.ref co, .int vs])).length) Slot.unset).toArray = ls at hl ⊢
  have hl : lv_has ls 2 [(0, .ref co), (1, .int vs)] := hl
  refine lv_aload_n hx hb dX0_offNow_0 rfl (lv_at hl 0 rfl) ?_
  refine lv_iload_n hx hb dX0_offNow_1 rfl (lv_at hl 1 rfl) ?_
  refine lv_aload_n hx hb dX0_offNow_2 rfl (lv_at hl 0 rfl) ?_
  refine va_get (D := (dC, dI)) (ci := 0) (v := .int co_hour) (C := RX0) (T := TX0) (N := 14) hx hb hT inX0 hown hK hP 0 rfl rfl 1 (by decide) (hT _ mw_2_108) (fun _ h9 => h9) rfl dX0_offNow_3 ?_
  refine lv_if_le (tgt := 18) hx hb dX0_offNow_6 (by decide) (fun c_1 => ?_) (fun c_1 => ?_)
  · have kc_1 := il_le c_1
    have := (by decide : (0 : Int32).toInt = 0)
    refine lv_iconst (v := 0) hx hb dX0_offNow_18 (by decide) ?_
    have hPc := hP.sub (ws' := [(co, .inr (0, [.ref pl, .int co_hour, .int co_passings, .ref co_last, .ref co_passed, .ref co_keptCount, .int co_watched, .int co_widest, .int co_deed, .int co_week, .ref co_off, .ref co_since, .ref co_kept, .ref co_sorted])), (co_off, .inl (k_co_off, 10, .inl f_co_off)), (co_since, .inl (k_co_since, 10, .inl f_co_since)), (pl, .inr (3, [.ref pl_told, .ref pl_first, .ref pl_gain, .ref pl_custom, .ref pl_ruled, .int pl_deeds, .ref pl_deedHour, .ref pl_deedPerson, .ref pl_deedClock])), (pl_gain, .inl (k_pl_gain, 10, .inl f_pl_gain))]) [0, 1, 2, 3, 4] rfl
    have hDc := hD.sub (ws' := [(co, .inr (0, [.ref pl, .int co_hour, .int co_passings, .ref co_last, .ref co_passed, .ref co_keptCount, .int co_watched, .int co_widest, .int co_deed, .int co_week, .ref co_off, .ref co_since, .ref co_kept, .ref co_sorted])), (co_off, .inl (k_co_off, 10, .inl f_co_off)), (co_since, .inl (k_co_since, 10, .inl f_co_since)), (pl, .inr (3, [.ref pl_told, .ref pl_first, .ref pl_gain, .ref pl_custom, .ref pl_ruled, .int pl_deeds, .ref pl_deedHour, .ref pl_deedPerson, .ref pl_deedClock])), (pl_gain, .inl (k_pl_gain, 10, .inl f_pl_gain))]) [0, 1, 2, 3, 4] (by decide) rfl
    have hKc := hK.sub (tys' := [(k_co_off, .int), (k_co_since, .int), (k_pl_gain, .int)]) [0, 1, 2] rfl
    have hFc := va_free (wc := [(co, .inr (0, [.ref pl, .int co_hour, .int co_passings, .ref co_last, .ref co_passed, .ref co_keptCount, .int co_watched, .int co_widest, .int co_deed, .int co_week, .ref co_off, .ref co_since, .ref co_kept, .ref co_sorted])), (co_off, .inl (k_co_off, 10, .inl f_co_off)), (co_since, .inl (k_co_since, 10, .inl f_co_since)), (pl, .inr (3, [.ref pl_told, .ref pl_first, .ref pl_gain, .ref pl_custom, .ref pl_ruled, .int pl_deeds, .ref pl_deedHour, .ref pl_deedPerson, .ref pl_deedClock])), (pl_gain, .inl (k_pl_gain, 10, .inl f_pl_gain))]) hD hS hA [0, 1, 2, 3, 4] rfl
    refine va_calli (va_runV (As := [.int vs, .int 0]) (rest := []) ⟨hx, hb, hml, hown, hT⟩ (c_X0_offAt l dC dI s.heap.size co vs (0 : Int32) pl co_hour co_passings co_last co_passed co_keptCount co_watched co_widest co_deed co_week co_off co_since co_kept co_sorted k_co_off f_co_off k_co_since f_co_since pl_told pl_first pl_gain pl_custom pl_ruled pl_deeds pl_deedHour pl_deedPerson pl_deedClock k_pl_gain f_pl_gain (by omega) (by omega) (by omega) (by omega) (by omega)) (cwV 2 hT (gwV mw_4_69 mw_4_71 mp_3_1 mw_1_11 mw_4_72) rfl rfl rfl (by decide +kernel) ⟨Nat.le_of_ble_eq_true rfl, Nat.le_of_ble_eq_true rfl⟩) ⟨fun a U g mk q => by obtain ⟨q0, q1, qP, qK, qD⟩ := q; exact ⟨q0, q1, qP, va_K.moved (u := U) (U := U.calling g mk a) (Vm.Alike.refl U.vm) qK, qD⟩, va_recv hK hP (ci := 0) (q0 := 0) rfl rfl, fun U hU hW => ⟨rfl, by rw [hU], by rw [hU]; exact hPc, va_K.moved hW.alike hKc, hDc.weaken (fun _ _ _ _ => trivial)⟩⟩ rfl rfl hl.1 rfl (lv_room (Nat.le_of_ble_eq_true rfl)) dX0_offNow_19 ⟨Nat.le_of_ble_eq_true rfl, Nat.le_of_ble_eq_true rfl⟩) hS (fun q _ h => hFc q h) hFc (fun r_2 u t H1 locs ht hvm hw hB hz1 hk1 hS => ?_)
    obtain ⟨hP1, hD1⟩ := hB
    rw [ht] at hP1
    obtain ⟨hP, hD⟩ := va_join (wr := []) (w1 := [(co, .inr (0, [.ref pl, .int co_hour, .int co_passings, .ref co_last, .ref co_passed, .ref co_keptCount, .int co_watched, .int co_widest, .int co_deed, .int co_week, .ref co_off, .ref co_since, .ref co_kept, .ref co_sorted])), (co_off, .inl (k_co_off, 10, .inl f_co_off)), (co_since, .inl (k_co_since, 10, .inl f_co_since)), (pl, .inr (3, [.ref pl_told, .ref pl_first, .ref pl_gain, .ref pl_custom, .ref pl_ruled, .int pl_deeds, .ref pl_deedHour, .ref pl_deedPerson, .ref pl_deedClock])), (pl_gain, .inl (k_pl_gain, 10, .inl f_pl_gain))]) hP hD [0, 1, 2, 3, 4] [] rfl rfl (by decide) (by decide) hk1 hFc hP1 hD1
    generalize H1 = H at hP hS ⊢
    have hP : va_P (dC, dI) vwCl [(co, .inr (0, [.ref pl, .int co_hour, .int co_passings, .ref co_last, .ref co_passed, .ref co_keptCount, .int co_watched, .int co_widest, .int co_deed, .int co_week, .ref co_off, .ref co_since, .ref co_kept, .ref co_sorted])), (co_off, .inl (k_co_off, 10, .inl f_co_off)), (co_since, .inl (k_co_since, 10, .inl f_co_since)), (pl, .inr (3, [.ref pl_told, .ref pl_first, .ref pl_gain, .ref pl_custom, .ref pl_ruled, .int pl_deeds, .ref pl_deedHour, .ref pl_deedPerson, .ref pl_deedClock])), (pl_gain, .inl (k_pl_gain, 10, .inl f_pl_gain))] H := hP
    have hD : va_D A [(co, .inr (0, [.ref pl, .int co_hour, .int co_passings, .ref co_last, .ref co_passed, .ref co_keptCount, .int co_watched, .int co_widest, .int co_deed, .int co_week, .ref co_off, .ref co_since, .ref co_kept, .ref co_sorted])), (co_off, .inl (k_co_off, 10, .inl f_co_off)), (co_since, .inl (k_co_since, 10, .inl f_co_since)), (pl, .inr (3, [.ref pl_told, .ref pl_first, .ref pl_gain, .ref pl_custom, .ref pl_ruled, .int pl_deeds, .ref pl_deedHour, .ref pl_deedPerson, .ref pl_deedClock])), (pl_gain, .inl (k_pl_gain, 10, .inl f_pl_gain))] := hD
    clear hPc hDc hKc hFc hP1 hD1 hk1 hz1 ht hvm
    have hwr_2 : True := hw
    clear hw
    clear hwr_2
    have hP9 := hP.sub (ws' := [(co, .inr (0, [.ref pl, .int co_hour, .int co_passings, .ref co_last, .ref co_passed, .ref co_keptCount, .int co_watched, .int co_widest, .int co_deed, .int co_week, .ref co_off, .ref co_since, .ref co_kept, .ref co_sorted])), (co_off, .inl (k_co_off, 10, .inl f_co_off)), (co_since, .inl (k_co_since, 10, .inl f_co_since)), (pl, .inr (3, [.ref pl_told, .ref pl_first, .ref pl_gain, .ref pl_custom, .ref pl_ruled, .int pl_deeds, .ref pl_deedHour, .ref pl_deedPerson, .ref pl_deedClock])), (pl_gain, .inl (k_pl_gain, 10, .inl f_pl_gain))]) [0, 1, 2, 3, 4] rfl
    have hD9 := hD.sub (ws' := [(co, .inr (0, [.ref pl, .int co_hour, .int co_passings, .ref co_last, .ref co_passed, .ref co_keptCount, .int co_watched, .int co_widest, .int co_deed, .int co_week, .ref co_off, .ref co_since, .ref co_kept, .ref co_sorted])), (co_off, .inl (k_co_off, 10, .inl f_co_off)), (co_since, .inl (k_co_since, 10, .inl f_co_since)), (pl, .inr (3, [.ref pl_told, .ref pl_first, .ref pl_gain, .ref pl_custom, .ref pl_ruled, .int pl_deeds, .ref pl_deedHour, .ref pl_deedPerson, .ref pl_deedClock])), (pl_gain, .inl (k_pl_gain, 10, .inl f_pl_gain))]) [0, 1, 2, 3, 4] (by decide) rfl
    exact W.iret (v := r_2) hx hb hr (fun t ht hW => ⟨⟨r_2, (), rfl, trivial, by rw [ht]; exact hP9, hD9⟩, hS.F ht⟩) hS.2.2 dX0_offNow_22
  · have kc_1 := il_nle c_1
    have := (by decide : (0 : Int32).toInt = 0)
    refine lv_aload_n hx hb dX0_offNow_9 rfl (lv_at hl 0 rfl) ?_
    refine va_get (D := (dC, dI)) (ci := 0) (v := .int co_hour) (C := RX0) (T := TX0) (N := 14) hx hb hT inX0 hown hK hP 0 rfl rfl 1 (by decide) (hT _ mw_2_108) (fun _ h9 => h9) rfl dX0_offNow_10 ?_
    refine lv_iconst (v := 1) hx hb dX0_offNow_13 (by decide) ?_
    refine lv_isub hx hb dX0_offNow_14 ?_
    refine lv_topi (fun z_3 ez_3 => ?_)
    have kz_3 : z_3.toInt = co_hour.toInt - 1 := ti_sub ez_3 rfl (by decide) (by omega) (by omega)
    clear ez_3
    refine lv_goto (tgt := 19) hx hb dX0_offNow_15 (by decide) ?_
    have hPc := hP.sub (ws' := [(co, .inr (0, [.ref pl, .int co_hour, .int co_passings, .ref co_last, .ref co_passed, .ref co_keptCount, .int co_watched, .int co_widest, .int co_deed, .int co_week, .ref co_off, .ref co_since, .ref co_kept, .ref co_sorted])), (co_off, .inl (k_co_off, 10, .inl f_co_off)), (co_since, .inl (k_co_since, 10, .inl f_co_since)), (pl, .inr (3, [.ref pl_told, .ref pl_first, .ref pl_gain, .ref pl_custom, .ref pl_ruled, .int pl_deeds, .ref pl_deedHour, .ref pl_deedPerson, .ref pl_deedClock])), (pl_gain, .inl (k_pl_gain, 10, .inl f_pl_gain))]) [0, 1, 2, 3, 4] rfl
    have hDc := hD.sub (ws' := [(co, .inr (0, [.ref pl, .int co_hour, .int co_passings, .ref co_last, .ref co_passed, .ref co_keptCount, .int co_watched, .int co_widest, .int co_deed, .int co_week, .ref co_off, .ref co_since, .ref co_kept, .ref co_sorted])), (co_off, .inl (k_co_off, 10, .inl f_co_off)), (co_since, .inl (k_co_since, 10, .inl f_co_since)), (pl, .inr (3, [.ref pl_told, .ref pl_first, .ref pl_gain, .ref pl_custom, .ref pl_ruled, .int pl_deeds, .ref pl_deedHour, .ref pl_deedPerson, .ref pl_deedClock])), (pl_gain, .inl (k_pl_gain, 10, .inl f_pl_gain))]) [0, 1, 2, 3, 4] (by decide) rfl
    have hKc := hK.sub (tys' := [(k_co_off, .int), (k_co_since, .int), (k_pl_gain, .int)]) [0, 1, 2] rfl
    have hFc := va_free (wc := [(co, .inr (0, [.ref pl, .int co_hour, .int co_passings, .ref co_last, .ref co_passed, .ref co_keptCount, .int co_watched, .int co_widest, .int co_deed, .int co_week, .ref co_off, .ref co_since, .ref co_kept, .ref co_sorted])), (co_off, .inl (k_co_off, 10, .inl f_co_off)), (co_since, .inl (k_co_since, 10, .inl f_co_since)), (pl, .inr (3, [.ref pl_told, .ref pl_first, .ref pl_gain, .ref pl_custom, .ref pl_ruled, .int pl_deeds, .ref pl_deedHour, .ref pl_deedPerson, .ref pl_deedClock])), (pl_gain, .inl (k_pl_gain, 10, .inl f_pl_gain))]) hD hS hA [0, 1, 2, 3, 4] rfl
    refine va_calli (va_runV (As := [.int vs, .int z_3]) (rest := []) ⟨hx, hb, hml, hown, hT⟩ (c_X0_offAt l dC dI s.heap.size co vs z_3 pl co_hour co_passings co_last co_passed co_keptCount co_watched co_widest co_deed co_week co_off co_since co_kept co_sorted k_co_off f_co_off k_co_since f_co_since pl_told pl_first pl_gain pl_custom pl_ruled pl_deeds pl_deedHour pl_deedPerson pl_deedClock k_pl_gain f_pl_gain (by omega) (by omega) (by omega) (by omega) (by omega)) (cwV 2 hT (gwV mw_4_69 mw_4_71 mp_3_1 mw_1_11 mw_4_72) rfl rfl rfl (by decide +kernel) ⟨Nat.le_of_ble_eq_true rfl, Nat.le_of_ble_eq_true rfl⟩) ⟨fun a U g mk q => by obtain ⟨q0, q1, qP, qK, qD⟩ := q; exact ⟨q0, q1, qP, va_K.moved (u := U) (U := U.calling g mk a) (Vm.Alike.refl U.vm) qK, qD⟩, va_recv hK hP (ci := 0) (q0 := 0) rfl rfl, fun U hU hW => ⟨rfl, by rw [hU], by rw [hU]; exact hPc, va_K.moved hW.alike hKc, hDc.weaken (fun _ _ _ _ => trivial)⟩⟩ rfl rfl hl.1 rfl (lv_room (Nat.le_of_ble_eq_true rfl)) dX0_offNow_19 ⟨Nat.le_of_ble_eq_true rfl, Nat.le_of_ble_eq_true rfl⟩) hS (fun q _ h => hFc q h) hFc (fun r_4 u t H1 locs ht hvm hw hB hz1 hk1 hS => ?_)
    obtain ⟨hP1, hD1⟩ := hB
    rw [ht] at hP1
    obtain ⟨hP, hD⟩ := va_join (wr := []) (w1 := [(co, .inr (0, [.ref pl, .int co_hour, .int co_passings, .ref co_last, .ref co_passed, .ref co_keptCount, .int co_watched, .int co_widest, .int co_deed, .int co_week, .ref co_off, .ref co_since, .ref co_kept, .ref co_sorted])), (co_off, .inl (k_co_off, 10, .inl f_co_off)), (co_since, .inl (k_co_since, 10, .inl f_co_since)), (pl, .inr (3, [.ref pl_told, .ref pl_first, .ref pl_gain, .ref pl_custom, .ref pl_ruled, .int pl_deeds, .ref pl_deedHour, .ref pl_deedPerson, .ref pl_deedClock])), (pl_gain, .inl (k_pl_gain, 10, .inl f_pl_gain))]) hP hD [0, 1, 2, 3, 4] [] rfl rfl (by decide) (by decide) hk1 hFc hP1 hD1
    generalize H1 = H at hP hS ⊢
    have hP : va_P (dC, dI) vwCl [(co, .inr (0, [.ref pl, .int co_hour, .int co_passings, .ref co_last, .ref co_passed, .ref co_keptCount, .int co_watched, .int co_widest, .int co_deed, .int co_week, .ref co_off, .ref co_since, .ref co_kept, .ref co_sorted])), (co_off, .inl (k_co_off, 10, .inl f_co_off)), (co_since, .inl (k_co_since, 10, .inl f_co_since)), (pl, .inr (3, [.ref pl_told, .ref pl_first, .ref pl_gain, .ref pl_custom, .ref pl_ruled, .int pl_deeds, .ref pl_deedHour, .ref pl_deedPerson, .ref pl_deedClock])), (pl_gain, .inl (k_pl_gain, 10, .inl f_pl_gain))] H := hP
    have hD : va_D A [(co, .inr (0, [.ref pl, .int co_hour, .int co_passings, .ref co_last, .ref co_passed, .ref co_keptCount, .int co_watched, .int co_widest, .int co_deed, .int co_week, .ref co_off, .ref co_since, .ref co_kept, .ref co_sorted])), (co_off, .inl (k_co_off, 10, .inl f_co_off)), (co_since, .inl (k_co_since, 10, .inl f_co_since)), (pl, .inr (3, [.ref pl_told, .ref pl_first, .ref pl_gain, .ref pl_custom, .ref pl_ruled, .int pl_deeds, .ref pl_deedHour, .ref pl_deedPerson, .ref pl_deedClock])), (pl_gain, .inl (k_pl_gain, 10, .inl f_pl_gain))] := hD
    clear hPc hDc hKc hFc hP1 hD1 hk1 hz1 ht hvm
    have hwr_4 : True := hw
    clear hw
    clear hwr_4
    have hP9 := hP.sub (ws' := [(co, .inr (0, [.ref pl, .int co_hour, .int co_passings, .ref co_last, .ref co_passed, .ref co_keptCount, .int co_watched, .int co_widest, .int co_deed, .int co_week, .ref co_off, .ref co_since, .ref co_kept, .ref co_sorted])), (co_off, .inl (k_co_off, 10, .inl f_co_off)), (co_since, .inl (k_co_since, 10, .inl f_co_since)), (pl, .inr (3, [.ref pl_told, .ref pl_first, .ref pl_gain, .ref pl_custom, .ref pl_ruled, .int pl_deeds, .ref pl_deedHour, .ref pl_deedPerson, .ref pl_deedClock])), (pl_gain, .inl (k_pl_gain, 10, .inl f_pl_gain))]) [0, 1, 2, 3, 4] rfl
    have hD9 := hD.sub (ws' := [(co, .inr (0, [.ref pl, .int co_hour, .int co_passings, .ref co_last, .ref co_passed, .ref co_keptCount, .int co_watched, .int co_widest, .int co_deed, .int co_week, .ref co_off, .ref co_since, .ref co_kept, .ref co_sorted])), (co_off, .inl (k_co_off, 10, .inl f_co_off)), (co_since, .inl (k_co_since, 10, .inl f_co_since)), (pl, .inr (3, [.ref pl_told, .ref pl_first, .ref pl_gain, .ref pl_custom, .ref pl_ruled, .int pl_deeds, .ref pl_deedHour, .ref pl_deedPerson, .ref pl_deedClock])), (pl_gain, .inl (k_pl_gain, 10, .inl f_pl_gain))]) [0, 1, 2, 3, 4] (by decide) rfl
    exact W.iret (v := r_4) hx hb hr (fun t ht hW => ⟨⟨r_4, (), rfl, trivial, by rw [ht]; exact hP9, hD9⟩, hS.F ht⟩) hS.2.2 dX0_offNow_22
abbrev q_X0_noteWidest (dC : Nat → ClassId) (dI : Nat → Nat → Nat) (A : Nat → Prop) (co : Nat) (v0 : Int32) (co_plan : Nat) (co_hour : Int32) (co_passings : Int32) (co_last : Nat) (co_passed : Nat) (co_keptCount : Nat) (co_watched : Int32) (co_widest : Int32) (co_deed : Int32) (co_week : Int32) (co_off : Nat) (co_since : Nat) (co_kept : Nat) (co_sorted : Nat) : Array Value → State → Outcome → State → Prop := va_Qv (fun _ : Unit => True) (fun (_ : Unit) (t : State) => ∃ (e_co_widest : Int32), va_P (dC, dI) vwCl [(co, .inr (0, [.ref co_plan, .int co_hour, .int co_passings, .ref co_last, .ref co_passed, .ref co_keptCount, .int co_watched, .int e_co_widest, .int co_deed, .int co_week, .ref co_off, .ref co_since, .ref co_kept, .ref co_sorted]))] t.heap ∧ va_D A [(co, .inr (0, [.ref co_plan, .int co_hour, .int co_passings, .ref co_last, .ref co_passed, .ref co_keptCount, .int co_watched, .int e_co_widest, .int co_deed, .int co_week, .ref co_off, .ref co_since, .ref co_kept, .ref co_sorted]))]) A
set_option maxHeartbeats 4000000 in
set_option maxRecDepth 100000 in
theorem c_X0_noteWidest (l : Launch) (dC : Nat → ClassId) (dI : Nat → Nat → Nat) (sz : Nat) (co : Nat) (v0 : Int32) (co_plan : Nat) (co_hour : Int32) (co_passings : Int32) (co_last : Nat) (co_passed : Nat) (co_keptCount : Nat) (co_watched : Int32) (co_widest : Int32) (co_deed : Int32) (co_week : Int32) (co_off : Nat) (co_since : Nat) (co_kept : Nat) (co_sorted : Nat) (h_co_hour : 0 ≤ co_hour.toInt ∧ co_hour.toInt ≤ 2000) (h_co_watched : 0 ≤ co_watched.toInt ∧ co_watched.toInt ≤ 1) (h_co_deed : 0 ≤ co_deed.toInt ∧ co_deed.toInt ≤ 16) : Met l yX0_noteWidest (pw_w yX0_noteWidest cX0_noteWidest 3 none) ({ frames := 0, cells := 0, slots := 0, locals := 0 }) (va_Pc [.ref co, .int v0] (fun U => U.heap.size = sz ∧ va_P (dC, dI) vwCl [(co, .inr (0, [.ref co_plan, .int co_hour, .int co_passings, .ref co_last, .ref co_passed, .ref co_keptCount, .int co_watched, .int co_widest, .int co_deed, .int co_week, .ref co_off, .ref co_since, .ref co_kept, .ref co_sorted]))] U.heap ∧ va_K (dC, dI) vwCl [] U ∧ va_D (fun _ => True) [(co, .inr (0, [.ref co_plan, .int co_hour, .int co_passings, .ref co_last, .ref co_passed, .ref co_keptCount, .int co_watched, .int co_widest, .int co_deed, .int co_week, .ref co_off, .ref co_since, .ref co_kept, .ref co_sorted]))])) (q_X0_noteWidest dC dI (va_A [(co, .inr (0, [.ref co_plan, .int co_hour, .int co_passings, .ref co_last, .ref co_passed, .ref co_keptCount, .int co_watched, .int co_widest, .int co_deed, .int co_week, .ref co_off, .ref co_since, .ref co_kept, .ref co_sorted]))] sz) co v0 co_plan co_hour co_passings co_last co_passed co_keptCount co_watched co_widest co_deed co_week co_off co_since co_kept co_sorted) 0 0 (va_A [(co, .inr (0, [.ref co_plan, .int co_hour, .int co_passings, .ref co_last, .ref co_passed, .ref co_keptCount, .int co_watched, .int co_widest, .int co_deed, .int co_week, .ref co_off, .ref co_since, .ref co_kept, .ref co_sorted]))] sz) := by
  refine Met.ofW (cc := cX0_noteWidest) (maxL := 3) (ret := none) (by decide) rfl ?_
  intro p e s m args below meth c s₁ B hml hv
  obtain ⟨rfl, hsz, hP, hK, hD0⟩ := hv
  have hx := B.exec
  have hb := B.bytes
  have hr := B.returns
  have hts := atoms_spec (ws := (pw_w yX0_noteWidest cX0_noteWidest 3 none)) B.pre
  have hT : ∀ w ∈ pw_T, w.before _ s = true := fun w h => hts w (List.mem_cons_of_mem _ h)
  have hown : s.vm.findClass RX0 = some m.cls := findClass_of_methodNamed B.named
  have hlocks := B.notSynchronized
  subst hsz
  have hD := hD0.self (sz := s.heap.size)
  generalize hAe : va_A [(co, .inr (0, [.ref co_plan, .int co_hour, .int co_passings, .ref co_last, .ref co_passed, .ref co_keptCount, .int co_watched, .int co_widest, .int co_deed, .int co_week, .ref co_off, .ref co_since, .ref co_kept, .ref co_sorted]))] s.heap.size = A at hD ⊢
  have hA : ∀ q : Nat, s.heap.size ≤ q → A q := fun q h => by rw [← hAe]; exact Or.inr h
  have hS : va_S A s.heap s.heap [] := va_S.rf
  have hP : va_P (dC, dI) vwCl [(co, .inr (0, [.ref co_plan, .int co_hour, .int co_passings, .ref co_last, .ref co_passed, .ref co_keptCount, .int co_watched, .int co_widest, .int co_deed, .int co_week, .ref co_off, .ref co_since, .ref co_kept, .ref co_sorted]))] s.heap := hP
  have hl := lv_entry ([.ref co, .int v0]) (n := 3) (Nat.le_of_ble_eq_true rfl)
  rw [lg_entry_eq]
  generalize (lg_sl ([.ref co, .int v0]) ++ List.replicate (3 - (lg_sl ([.ref co, .int v0])).length) Slot.unset).toArray = ls at hl ⊢
  have hl : lv_has ls 3 [(0, .ref co), (1, .int v0)] := hl
  refine lv_iload_n hx hb dX0_noteWidest_0 rfl (lv_at hl 1 rfl) ?_
  have join_5 : ∀ (g_4_s0 : Int32), ∀ (H : Heap) (locs : List Loc), va_P (dC, dI) vwCl [(co, .inr (0, [.ref co_plan, .int co_hour, .int co_passings, .ref co_last, .ref co_passed, .ref co_keptCount, .int co_watched, .int co_widest, .int co_deed, .int co_week, .ref co_off, .ref co_since, .ref co_kept, .ref co_sorted]))] H → va_D A [(co, .inr (0, [.ref co_plan, .int co_hour, .int co_passings, .ref co_last, .ref co_passed, .ref co_keptCount, .int co_watched, .int co_widest, .int co_deed, .int co_week, .ref co_off, .ref co_since, .ref co_kept, .ref co_sorted]))] → va_S A s.heap H locs → ∀ (ls : Array Slot), lv_has ls 3 [(0, .ref co), (1, .int v0)] → W p l e (headSpec (pw_w yX0_noteWidest cX0_noteWidest 3 none) ({ frames := 0, cells := 0, slots := 0, locals := 0 })).room s m ([.ref co, .int v0] : List Value).toArray below meth c H locs 0 0 (MQ below (q_X0_noteWidest dC dI A co v0 co_plan co_hour co_passings co_last co_passed co_keptCount co_watched co_widest co_deed co_week co_off co_since co_kept co_sorted) ([.ref co, .int v0] : List Value).toArray s 0 0 A) (F0 m 10 ls [.int g_4_s0]) := by
    intro g_4_s0 H locs hP hD hS ls hl
    refine lv_istore_n (lv' := [(2, .int g_4_s0), (0, .ref co), (1, .int v0)]) hx hb dX0_noteWidest_10 rfl hl (by decide) rfl (fun ls hl => ?_)
    refine lv_iload_n hx hb dX0_noteWidest_11 rfl (lv_at hl 0 rfl) ?_
    refine lv_aload_n hx hb dX0_noteWidest_12 rfl (lv_at hl 1 rfl) ?_
    refine va_get (D := (dC, dI)) (ci := 0) (v := .int co_widest) (C := RX0) (T := TX0) (N := 14) hx hb hT inX0 hown hK hP 0 rfl rfl 7 (by decide) (hT _ mw_2_120) (fun _ h9 => h9) rfl dX0_noteWidest_13 ?_
    refine lv_icmp_le (tgt := 24) hx hb dX0_noteWidest_16 (by decide) (fun c_6 => ?_) (fun c_6 => ?_)
    · have kc_6 := il_le c_6
      have := Int32.toInt_lt g_4_s0; have := Int32.le_toInt g_4_s0
      have := Int32.toInt_lt co_widest; have := Int32.le_toInt co_widest
      have hP9 := hP.sub (ws' := [(co, .inr (0, [.ref co_plan, .int co_hour, .int co_passings, .ref co_last, .ref co_passed, .ref co_keptCount, .int co_watched, .int co_widest, .int co_deed, .int co_week, .ref co_off, .ref co_since, .ref co_kept, .ref co_sorted]))]) [0] rfl
      have hD9 := hD.sub (ws' := [(co, .inr (0, [.ref co_plan, .int co_hour, .int co_passings, .ref co_last, .ref co_passed, .ref co_keptCount, .int co_watched, .int co_widest, .int co_deed, .int co_week, .ref co_off, .ref co_since, .ref co_kept, .ref co_sorted]))]) [0] (by decide) rfl
      exact W.vret hx hb hr (fun t ht hW => ⟨⟨(), rfl, trivial, co_widest, by rw [ht]; exact hP9, hD9⟩, hS.F ht⟩) hS.2.2 dX0_noteWidest_24
    · have kc_6 := il_nle c_6
      have := Int32.toInt_lt g_4_s0; have := Int32.le_toInt g_4_s0
      have := Int32.toInt_lt co_widest; have := Int32.le_toInt co_widest
      refine lv_aload_n hx hb dX0_noteWidest_19 rfl (lv_at hl 1 rfl) ?_
      refine lv_iload_n hx hb dX0_noteWidest_20 rfl (lv_at hl 0 rfl) ?_
      refine va_put (D := (dC, dI)) (ci := 0) (v := .int g_4_s0) (ty := .int) (C := RX0) (T := TX0) (N := 14) hx hb hT inX0 tyX0 tyX0_ok nmX0 hown hK hP hD hS 0 rfl rfl 7 (by decide) (hT _ mw_2_120) (fun _ h9 => h9) rfl (by decide +kernel) rfl rfl (Nat.le_of_ble_eq_true rfl) dX0_noteWidest_21 (fun H locs hP hD hS => ?_)
      have hP : va_P (dC, dI) vwCl [(co, .inr (0, [.ref co_plan, .int co_hour, .int co_passings, .ref co_last, .ref co_passed, .ref co_keptCount, .int co_watched, .int g_4_s0, .int co_deed, .int co_week, .ref co_off, .ref co_since, .ref co_kept, .ref co_sorted]))] H := hP
      have hD : va_D A [(co, .inr (0, [.ref co_plan, .int co_hour, .int co_passings, .ref co_last, .ref co_passed, .ref co_keptCount, .int co_watched, .int g_4_s0, .int co_deed, .int co_week, .ref co_off, .ref co_since, .ref co_kept, .ref co_sorted]))] := hD
      have hP9 := hP.sub (ws' := [(co, .inr (0, [.ref co_plan, .int co_hour, .int co_passings, .ref co_last, .ref co_passed, .ref co_keptCount, .int co_watched, .int g_4_s0, .int co_deed, .int co_week, .ref co_off, .ref co_since, .ref co_kept, .ref co_sorted]))]) [0] rfl
      have hD9 := hD.sub (ws' := [(co, .inr (0, [.ref co_plan, .int co_hour, .int co_passings, .ref co_last, .ref co_passed, .ref co_keptCount, .int co_watched, .int g_4_s0, .int co_deed, .int co_week, .ref co_off, .ref co_since, .ref co_kept, .ref co_sorted]))]) [0] (by decide) rfl
      exact W.vret hx hb hr (fun t ht hW => ⟨⟨(), rfl, trivial, g_4_s0, by rw [ht]; exact hP9, hD9⟩, hS.F ht⟩) hS.2.2 dX0_noteWidest_24
  refine lv_if_ge (tgt := 9) hx hb dX0_noteWidest_1 (by decide) (fun c_7 => ?_) (fun c_7 => ?_)
  · have kc_7 := il_le c_7
    have := (by decide : (0 : Int32).toInt = 0)
    refine lv_iload_n hx hb dX0_noteWidest_9 rfl (lv_at hl 1 rfl) ?_
    exact join_5 v0 _ _ (hP.sub [0] rfl) (hD.sub [0] (by decide) rfl) hS _ (lv_sub hl [0, 1] rfl)
  · have kc_7 := il_nle c_7
    have := (by decide : (0 : Int32).toInt = 0)
    refine lv_iload_n hx hb dX0_noteWidest_4 rfl (lv_at hl 1 rfl) ?_
    refine lv_ineg hx hb dX0_noteWidest_5 ?_
    refine lv_topi (fun z_8 ez_8 => ?_)
    clear ez_8
    refine lv_goto (tgt := 10) hx hb dX0_noteWidest_6 (by decide) ?_
    exact join_5 z_8 _ _ (hP.sub [0] rfl) (hD.sub [0] (by decide) rfl) hS _ (lv_sub hl [0, 1] rfl)
abbrev q_X0_settle (dC : Nat → ClassId) (dI : Nat → Nat → Nat) (A : Nat → Prop) (co : Nat) (vs : Int32) (vh : Int32) (pl : Nat) (co_hour : Int32) (co_passings : Int32) (co_last : Nat) (co_passed : Nat) (co_keptCount : Nat) (co_watched : Int32) (co_widest : Int32) (co_deed : Int32) (co_week : Int32) (co_off : Nat) (co_since : Nat) (co_kept : Nat) (co_sorted : Nat) (k_co_off : ClassId) (f_co_off : Nat → Int32) (k_co_since : ClassId) (f_co_since : Nat → Int32) (pl_told : Nat) (pl_first : Nat) (pl_gain : Nat) (pl_custom : Nat) (pl_ruled : Nat) (pl_deeds : Int32) (pl_deedHour : Nat) (pl_deedPerson : Nat) (pl_deedClock : Nat) (k_pl_gain : ClassId) (f_pl_gain : Nat → Int32) : Array Value → State → Outcome → State → Prop := va_Qv (fun _ : Unit => True) (fun (_ : Unit) (t : State) => ∃ (e_co_widest : Int32), ∃ (g_co_off : Nat → Int32), ∃ (g_co_since : Nat → Int32), va_P (dC, dI) vwCl [(co, .inr (0, [.ref pl, .int co_hour, .int co_passings, .ref co_last, .ref co_passed, .ref co_keptCount, .int co_watched, .int e_co_widest, .int co_deed, .int co_week, .ref co_off, .ref co_since, .ref co_kept, .ref co_sorted])), (co_off, .inl (k_co_off, 10, .inl g_co_off)), (co_since, .inl (k_co_since, 10, .inl g_co_since)), (pl, .inr (3, [.ref pl_told, .ref pl_first, .ref pl_gain, .ref pl_custom, .ref pl_ruled, .int pl_deeds, .ref pl_deedHour, .ref pl_deedPerson, .ref pl_deedClock])), (pl_gain, .inl (k_pl_gain, 10, .inl f_pl_gain))] t.heap ∧ va_D A [(co, .inr (0, [.ref pl, .int co_hour, .int co_passings, .ref co_last, .ref co_passed, .ref co_keptCount, .int co_watched, .int e_co_widest, .int co_deed, .int co_week, .ref co_off, .ref co_since, .ref co_kept, .ref co_sorted])), (co_off, .inl (k_co_off, 10, .inl g_co_off)), (co_since, .inl (k_co_since, 10, .inl g_co_since)), (pl, .inr (3, [.ref pl_told, .ref pl_first, .ref pl_gain, .ref pl_custom, .ref pl_ruled, .int pl_deeds, .ref pl_deedHour, .ref pl_deedPerson, .ref pl_deedClock])), (pl_gain, .inl (k_pl_gain, 10, .inl f_pl_gain))]) A
set_option maxHeartbeats 4000000 in
set_option maxRecDepth 100000 in
theorem c_X0_settle (l : Launch) (dC : Nat → ClassId) (dI : Nat → Nat → Nat) (sz : Nat) (co : Nat) (vs : Int32) (vh : Int32) (pl : Nat) (co_hour : Int32) (co_passings : Int32) (co_last : Nat) (co_passed : Nat) (co_keptCount : Nat) (co_watched : Int32) (co_widest : Int32) (co_deed : Int32) (co_week : Int32) (co_off : Nat) (co_since : Nat) (co_kept : Nat) (co_sorted : Nat) (k_co_off : ClassId) (f_co_off : Nat → Int32) (k_co_since : ClassId) (f_co_since : Nat → Int32) (pl_told : Nat) (pl_first : Nat) (pl_gain : Nat) (pl_custom : Nat) (pl_ruled : Nat) (pl_deeds : Int32) (pl_deedHour : Nat) (pl_deedPerson : Nat) (pl_deedClock : Nat) (k_pl_gain : ClassId) (f_pl_gain : Nat → Int32) (h_co_hour : 0 ≤ co_hour.toInt ∧ co_hour.toInt ≤ 2000) (h_co_watched : 0 ≤ co_watched.toInt ∧ co_watched.toInt ≤ 1) (h_co_deed : 0 ≤ co_deed.toInt ∧ co_deed.toInt ≤ 16) (h_pl_deeds : 0 ≤ pl_deeds.toInt ∧ pl_deeds.toInt ≤ 16) (h_vs : 0 ≤ vs.toInt ∧ vs.toInt ≤ 9) : Met l yX0_settle (pw_w yX0_settle cX0_settle 3 none) ({ frames := 2, cells := 0, slots := 0, locals := 43 }) (va_Pc [.ref co, .int vs, .int vh] (fun U => U.heap.size = sz ∧ va_P (dC, dI) vwCl [(co, .inr (0, [.ref pl, .int co_hour, .int co_passings, .ref co_last, .ref co_passed, .ref co_keptCount, .int co_watched, .int co_widest, .int co_deed, .int co_week, .ref co_off, .ref co_since, .ref co_kept, .ref co_sorted])), (co_off, .inl (k_co_off, 10, .inl f_co_off)), (co_since, .inl (k_co_since, 10, .inl f_co_since)), (pl, .inr (3, [.ref pl_told, .ref pl_first, .ref pl_gain, .ref pl_custom, .ref pl_ruled, .int pl_deeds, .ref pl_deedHour, .ref pl_deedPerson, .ref pl_deedClock])), (pl_gain, .inl (k_pl_gain, 10, .inl f_pl_gain))] U.heap ∧ va_K (dC, dI) vwCl [(k_co_off, .int), (k_co_since, .int), (k_pl_gain, .int)] U ∧ va_D (fun _ => True) [(co, .inr (0, [.ref pl, .int co_hour, .int co_passings, .ref co_last, .ref co_passed, .ref co_keptCount, .int co_watched, .int co_widest, .int co_deed, .int co_week, .ref co_off, .ref co_since, .ref co_kept, .ref co_sorted])), (co_off, .inl (k_co_off, 10, .inl f_co_off)), (co_since, .inl (k_co_since, 10, .inl f_co_since)), (pl, .inr (3, [.ref pl_told, .ref pl_first, .ref pl_gain, .ref pl_custom, .ref pl_ruled, .int pl_deeds, .ref pl_deedHour, .ref pl_deedPerson, .ref pl_deedClock])), (pl_gain, .inl (k_pl_gain, 10, .inl f_pl_gain))])) (q_X0_settle dC dI (va_A [(co, .inr (0, [.ref pl, .int co_hour, .int co_passings, .ref co_last, .ref co_passed, .ref co_keptCount, .int co_watched, .int co_widest, .int co_deed, .int co_week, .ref co_off, .ref co_since, .ref co_kept, .ref co_sorted])), (co_off, .inl (k_co_off, 10, .inl f_co_off)), (co_since, .inl (k_co_since, 10, .inl f_co_since)), (pl, .inr (3, [.ref pl_told, .ref pl_first, .ref pl_gain, .ref pl_custom, .ref pl_ruled, .int pl_deeds, .ref pl_deedHour, .ref pl_deedPerson, .ref pl_deedClock])), (pl_gain, .inl (k_pl_gain, 10, .inl f_pl_gain))] sz) co vs vh pl co_hour co_passings co_last co_passed co_keptCount co_watched co_widest co_deed co_week co_off co_since co_kept co_sorted k_co_off f_co_off k_co_since f_co_since pl_told pl_first pl_gain pl_custom pl_ruled pl_deeds pl_deedHour pl_deedPerson pl_deedClock k_pl_gain f_pl_gain) 0 0 (va_A [(co, .inr (0, [.ref pl, .int co_hour, .int co_passings, .ref co_last, .ref co_passed, .ref co_keptCount, .int co_watched, .int co_widest, .int co_deed, .int co_week, .ref co_off, .ref co_since, .ref co_kept, .ref co_sorted])), (co_off, .inl (k_co_off, 10, .inl f_co_off)), (co_since, .inl (k_co_since, 10, .inl f_co_since)), (pl, .inr (3, [.ref pl_told, .ref pl_first, .ref pl_gain, .ref pl_custom, .ref pl_ruled, .int pl_deeds, .ref pl_deedHour, .ref pl_deedPerson, .ref pl_deedClock])), (pl_gain, .inl (k_pl_gain, 10, .inl f_pl_gain))] sz) := by
  refine Met.ofW (cc := cX0_settle) (maxL := 3) (ret := none) (by decide) rfl ?_
  intro p e s m args below meth c s₁ B hml hv
  obtain ⟨rfl, hsz, hP, hK, hD0⟩ := hv
  have hx := B.exec
  have hb := B.bytes
  have hr := B.returns
  have hts := atoms_spec (ws := (pw_w yX0_settle cX0_settle 3 none)) B.pre
  have hT : ∀ w ∈ pw_T, w.before _ s = true := fun w h => hts w (List.mem_cons_of_mem _ h)
  have hown : s.vm.findClass RX0 = some m.cls := findClass_of_methodNamed B.named
  have hlocks := B.notSynchronized
  subst hsz
  have hD := hD0.self (sz := s.heap.size)
  generalize hAe : va_A [(co, .inr (0, [.ref pl, .int co_hour, .int co_passings, .ref co_last, .ref co_passed, .ref co_keptCount, .int co_watched, .int co_widest, .int co_deed, .int co_week, .ref co_off, .ref co_since, .ref co_kept, .ref co_sorted])), (co_off, .inl (k_co_off, 10, .inl f_co_off)), (co_since, .inl (k_co_since, 10, .inl f_co_since)), (pl, .inr (3, [.ref pl_told, .ref pl_first, .ref pl_gain, .ref pl_custom, .ref pl_ruled, .int pl_deeds, .ref pl_deedHour, .ref pl_deedPerson, .ref pl_deedClock])), (pl_gain, .inl (k_pl_gain, 10, .inl f_pl_gain))] s.heap.size = A at hD ⊢
  have hA : ∀ q : Nat, s.heap.size ≤ q → A q := fun q h => by rw [← hAe]; exact Or.inr h
  have hS : va_S A s.heap s.heap [] := va_S.rf
  have hP : va_P (dC, dI) vwCl [(co, .inr (0, [.ref pl, .int co_hour, .int co_passings, .ref co_last, .ref co_passed, .ref co_keptCount, .int co_watched, .int co_widest, .int co_deed, .int co_week, .ref co_off, .ref co_since, .ref co_kept, .ref co_sorted])), (co_off, .inl (k_co_off, 10, .inl f_co_off)), (co_since, .inl (k_co_since, 10, .inl f_co_since)), (pl, .inr (3, [.ref pl_told, .ref pl_first, .ref pl_gain, .ref pl_custom, .ref pl_ruled, .int pl_deeds, .ref pl_deedHour, .ref pl_deedPerson, .ref pl_deedClock])), (pl_gain, .inl (k_pl_gain, 10, .inl f_pl_gain))] s.heap := hP
  have hl := lv_entry ([.ref co, .int vs, .int vh]) (n := 3) (Nat.le_of_ble_eq_true rfl)
  rw [lg_entry_eq]
  generalize (lg_sl ([.ref co, .int vs, .int vh]) ++ List.replicate (3 - (lg_sl ([.ref co, .int vs, .int vh])).length) Slot.unset).toArray = ls at hl ⊢
  have hl : lv_has ls 3 [(0, .ref co), (1, .int vs), (2, .int vh)] := hl
  refine lv_iload_n hx hb dX0_settle_0 rfl (lv_at hl 2 rfl) ?_
  refine lv_aload_n hx hb dX0_settle_1 rfl (lv_at hl 0 rfl) ?_
  refine va_get (D := (dC, dI)) (ci := 0) (v := .ref co_since) (C := RX0) (T := TX0) (N := 14) hx hb hT inX0 hown hK hP 0 rfl rfl 11 (by decide) (hT _ mw_2_125) (fun _ h9 => h9) rfl dX0_settle_2 ?_
  refine lv_iload_n hx hb dX0_settle_5 rfl (lv_at hl 1 rfl) ?_
  refine va_iald hx hb hK hP 2 1 rfl rfl (vp_in_iff.mpr (by omega)) dX0_settle_6 ?_
  refine lv_topi (fun z_1 ez_1 => ?_)
  refine lv_icmp_le (tgt := 58) hx hb dX0_settle_7 (by decide) (fun c_2 => ?_) (fun c_2 => ?_)
  · have kc_2 := il_le c_2
    have := Int32.toInt_lt vh; have := Int32.le_toInt vh
    have := Int32.toInt_lt z_1; have := Int32.le_toInt z_1
    have hP9 := hP.sub (ws' := [(co, .inr (0, [.ref pl, .int co_hour, .int co_passings, .ref co_last, .ref co_passed, .ref co_keptCount, .int co_watched, .int co_widest, .int co_deed, .int co_week, .ref co_off, .ref co_since, .ref co_kept, .ref co_sorted])), (co_off, .inl (k_co_off, 10, .inl f_co_off)), (co_since, .inl (k_co_since, 10, .inl f_co_since)), (pl, .inr (3, [.ref pl_told, .ref pl_first, .ref pl_gain, .ref pl_custom, .ref pl_ruled, .int pl_deeds, .ref pl_deedHour, .ref pl_deedPerson, .ref pl_deedClock])), (pl_gain, .inl (k_pl_gain, 10, .inl f_pl_gain))]) [0, 1, 2, 3, 4] rfl
    have hD9 := hD.sub (ws' := [(co, .inr (0, [.ref pl, .int co_hour, .int co_passings, .ref co_last, .ref co_passed, .ref co_keptCount, .int co_watched, .int co_widest, .int co_deed, .int co_week, .ref co_off, .ref co_since, .ref co_kept, .ref co_sorted])), (co_off, .inl (k_co_off, 10, .inl f_co_off)), (co_since, .inl (k_co_since, 10, .inl f_co_since)), (pl, .inr (3, [.ref pl_told, .ref pl_first, .ref pl_gain, .ref pl_custom, .ref pl_ruled, .int pl_deeds, .ref pl_deedHour, .ref pl_deedPerson, .ref pl_deedClock])), (pl_gain, .inl (k_pl_gain, 10, .inl f_pl_gain))]) [0, 1, 2, 3, 4] (by decide) rfl
    exact W.vret hx hb hr (fun t ht hW => ⟨⟨(), rfl, trivial, co_widest, f_co_off, f_co_since, by rw [ht]; exact hP9, hD9⟩, hS.F ht⟩) hS.2.2 dX0_settle_58
  · have kc_2 := il_nle c_2
    have := Int32.toInt_lt vh; have := Int32.le_toInt vh
    have := Int32.toInt_lt z_1; have := Int32.le_toInt z_1
    refine lv_aload_n hx hb dX0_settle_10 rfl (lv_at hl 0 rfl) ?_
    refine va_get (D := (dC, dI)) (ci := 0) (v := .int co_watched) (C := RX0) (T := TX0) (N := 14) hx hb hT inX0 hown hK hP 0 rfl rfl 6 (by decide) (hT _ mw_2_118) (fun _ h9 => h9) rfl dX0_settle_11 ?_
    have join_13 : ∀ (g_12_co_7 : Int32), ∀ (H : Heap) (locs : List Loc), va_P (dC, dI) vwCl [(co, .inr (0, [.ref pl, .int co_hour, .int co_passings, .ref co_last, .ref co_passed, .ref co_keptCount, .int co_watched, .int g_12_co_7, .int co_deed, .int co_week, .ref co_off, .ref co_since, .ref co_kept, .ref co_sorted])), (co_off, .inl (k_co_off, 10, .inl f_co_off)), (co_since, .inl (k_co_since, 10, .inl f_co_since)), (pl, .inr (3, [.ref pl_told, .ref pl_first, .ref pl_gain, .ref pl_custom, .ref pl_ruled, .int pl_deeds, .ref pl_deedHour, .ref pl_deedPerson, .ref pl_deedClock])), (pl_gain, .inl (k_pl_gain, 10, .inl f_pl_gain))] H → va_D A [(co, .inr (0, [.ref pl, .int co_hour, .int co_passings, .ref co_last, .ref co_passed, .ref co_keptCount, .int co_watched, .int g_12_co_7, .int co_deed, .int co_week, .ref co_off, .ref co_since, .ref co_kept, .ref co_sorted])), (co_off, .inl (k_co_off, 10, .inl f_co_off)), (co_since, .inl (k_co_since, 10, .inl f_co_since)), (pl, .inr (3, [.ref pl_told, .ref pl_first, .ref pl_gain, .ref pl_custom, .ref pl_ruled, .int pl_deeds, .ref pl_deedHour, .ref pl_deedPerson, .ref pl_deedClock])), (pl_gain, .inl (k_pl_gain, 10, .inl f_pl_gain))] → va_S A s.heap H locs → ∀ (ls : Array Slot), lv_has ls 3 [(0, .ref co), (1, .int vs), (2, .int vh)] → W p l e (headSpec (pw_w yX0_settle cX0_settle 3 none) ({ frames := 2, cells := 0, slots := 0, locals := 43 })).room s m ([.ref co, .int vs, .int vh] : List Value).toArray below meth c H locs 0 0 (MQ below (q_X0_settle dC dI A co vs vh pl co_hour co_passings co_last co_passed co_keptCount co_watched co_widest co_deed co_week co_off co_since co_kept co_sorted k_co_off f_co_off k_co_since f_co_since pl_told pl_first pl_gain pl_custom pl_ruled pl_deeds pl_deedHour pl_deedPerson pl_deedClock k_pl_gain f_pl_gain) ([.ref co, .int vs, .int vh] : List Value).toArray s 0 0 A) (F0 m 39 ls []) := by
      intro g_12_co_7 H locs hP hD hS ls hl
      refine lv_aload_n hx hb dX0_settle_39 rfl (lv_at hl 0 rfl) ?_
      refine va_get (D := (dC, dI)) (ci := 0) (v := .ref co_off) (C := RX0) (T := TX0) (N := 14) hx hb hT inX0 hown hK hP 0 rfl rfl 10 (by decide) (hT _ mw_2_124) (fun _ h9 => h9) rfl dX0_settle_40 ?_
      refine lv_iload_n hx hb dX0_settle_43 rfl (lv_at hl 1 rfl) ?_
      refine lv_aload_n hx hb dX0_settle_44 rfl (lv_at hl 0 rfl) ?_
      refine lv_iload_n hx hb dX0_settle_45 rfl (lv_at hl 1 rfl) ?_
      refine lv_iload_n hx hb dX0_settle_46 rfl (lv_at hl 2 rfl) ?_
      have hPc := hP.sub (ws' := [(co, .inr (0, [.ref pl, .int co_hour, .int co_passings, .ref co_last, .ref co_passed, .ref co_keptCount, .int co_watched, .int g_12_co_7, .int co_deed, .int co_week, .ref co_off, .ref co_since, .ref co_kept, .ref co_sorted])), (co_off, .inl (k_co_off, 10, .inl f_co_off)), (co_since, .inl (k_co_since, 10, .inl f_co_since)), (pl, .inr (3, [.ref pl_told, .ref pl_first, .ref pl_gain, .ref pl_custom, .ref pl_ruled, .int pl_deeds, .ref pl_deedHour, .ref pl_deedPerson, .ref pl_deedClock])), (pl_gain, .inl (k_pl_gain, 10, .inl f_pl_gain))]) [0, 1, 2, 3, 4] rfl
      have hDc := hD.sub (ws' := [(co, .inr (0, [.ref pl, .int co_hour, .int co_passings, .ref co_last, .ref co_passed, .ref co_keptCount, .int co_watched, .int g_12_co_7, .int co_deed, .int co_week, .ref co_off, .ref co_since, .ref co_kept, .ref co_sorted])), (co_off, .inl (k_co_off, 10, .inl f_co_off)), (co_since, .inl (k_co_since, 10, .inl f_co_since)), (pl, .inr (3, [.ref pl_told, .ref pl_first, .ref pl_gain, .ref pl_custom, .ref pl_ruled, .int pl_deeds, .ref pl_deedHour, .ref pl_deedPerson, .ref pl_deedClock])), (pl_gain, .inl (k_pl_gain, 10, .inl f_pl_gain))]) [0, 1, 2, 3, 4] (by decide) rfl
      have hKc := hK.sub (tys' := [(k_co_off, .int), (k_co_since, .int), (k_pl_gain, .int)]) [0, 1, 2] rfl
      have hFc := va_free (wc := [(co, .inr (0, [.ref pl, .int co_hour, .int co_passings, .ref co_last, .ref co_passed, .ref co_keptCount, .int co_watched, .int g_12_co_7, .int co_deed, .int co_week, .ref co_off, .ref co_since, .ref co_kept, .ref co_sorted])), (co_off, .inl (k_co_off, 10, .inl f_co_off)), (co_since, .inl (k_co_since, 10, .inl f_co_since)), (pl, .inr (3, [.ref pl_told, .ref pl_first, .ref pl_gain, .ref pl_custom, .ref pl_ruled, .int pl_deeds, .ref pl_deedHour, .ref pl_deedPerson, .ref pl_deedClock])), (pl_gain, .inl (k_pl_gain, 10, .inl f_pl_gain))]) hD hS hA [0, 1, 2, 3, 4] rfl
      refine va_calli (va_runV (As := [.int vs, .int vh]) (rest := [.int vs, .ref co_off]) ⟨hx, hb, hml, hown, hT⟩ (c_X0_offAt l dC dI H.size co vs vh pl co_hour co_passings co_last co_passed co_keptCount co_watched g_12_co_7 co_deed co_week co_off co_since co_kept co_sorted k_co_off f_co_off k_co_since f_co_since pl_told pl_first pl_gain pl_custom pl_ruled pl_deeds pl_deedHour pl_deedPerson pl_deedClock k_pl_gain f_pl_gain (by omega) (by omega) (by omega) (by omega) (by omega)) (cwV 2 hT (gwV mw_4_69 mw_4_71 mp_3_1 mw_1_11 mw_4_72) rfl rfl rfl (by decide +kernel) ⟨Nat.le_of_ble_eq_true rfl, Nat.le_of_ble_eq_true rfl⟩) ⟨fun a U g mk q => by obtain ⟨q0, q1, qP, qK, qD⟩ := q; exact ⟨q0, q1, qP, va_K.moved (u := U) (U := U.calling g mk a) (Vm.Alike.refl U.vm) qK, qD⟩, va_recv hK hP (ci := 0) (q0 := 0) rfl rfl, fun U hU hW => ⟨rfl, by rw [hU], by rw [hU]; exact hPc, va_K.moved hW.alike hKc, hDc.weaken (fun _ _ _ _ => trivial)⟩⟩ rfl rfl hl.1 rfl (lv_room (Nat.le_of_ble_eq_true rfl)) dX0_settle_47 ⟨Nat.le_of_ble_eq_true rfl, Nat.le_of_ble_eq_true rfl⟩) hS (fun q _ h => hFc q h) hFc (fun r_14 u t H1 locs ht hvm hw hB hz1 hk1 hS => ?_)
      obtain ⟨hP1, hD1⟩ := hB
      rw [ht] at hP1
      obtain ⟨hP, hD⟩ := va_join (wr := []) (w1 := [(co, .inr (0, [.ref pl, .int co_hour, .int co_passings, .ref co_last, .ref co_passed, .ref co_keptCount, .int co_watched, .int g_12_co_7, .int co_deed, .int co_week, .ref co_off, .ref co_since, .ref co_kept, .ref co_sorted])), (co_off, .inl (k_co_off, 10, .inl f_co_off)), (co_since, .inl (k_co_since, 10, .inl f_co_since)), (pl, .inr (3, [.ref pl_told, .ref pl_first, .ref pl_gain, .ref pl_custom, .ref pl_ruled, .int pl_deeds, .ref pl_deedHour, .ref pl_deedPerson, .ref pl_deedClock])), (pl_gain, .inl (k_pl_gain, 10, .inl f_pl_gain))]) hP hD [0, 1, 2, 3, 4] [] rfl rfl (by decide) (by decide) hk1 hFc hP1 hD1
      generalize H1 = H at hP hS ⊢
      have hP : va_P (dC, dI) vwCl [(co, .inr (0, [.ref pl, .int co_hour, .int co_passings, .ref co_last, .ref co_passed, .ref co_keptCount, .int co_watched, .int g_12_co_7, .int co_deed, .int co_week, .ref co_off, .ref co_since, .ref co_kept, .ref co_sorted])), (co_off, .inl (k_co_off, 10, .inl f_co_off)), (co_since, .inl (k_co_since, 10, .inl f_co_since)), (pl, .inr (3, [.ref pl_told, .ref pl_first, .ref pl_gain, .ref pl_custom, .ref pl_ruled, .int pl_deeds, .ref pl_deedHour, .ref pl_deedPerson, .ref pl_deedClock])), (pl_gain, .inl (k_pl_gain, 10, .inl f_pl_gain))] H := hP
      have hD : va_D A [(co, .inr (0, [.ref pl, .int co_hour, .int co_passings, .ref co_last, .ref co_passed, .ref co_keptCount, .int co_watched, .int g_12_co_7, .int co_deed, .int co_week, .ref co_off, .ref co_since, .ref co_kept, .ref co_sorted])), (co_off, .inl (k_co_off, 10, .inl f_co_off)), (co_since, .inl (k_co_since, 10, .inl f_co_since)), (pl, .inr (3, [.ref pl_told, .ref pl_first, .ref pl_gain, .ref pl_custom, .ref pl_ruled, .int pl_deeds, .ref pl_deedHour, .ref pl_deedPerson, .ref pl_deedClock])), (pl_gain, .inl (k_pl_gain, 10, .inl f_pl_gain))] := hD
      clear hPc hDc hKc hFc hP1 hD1 hk1 hz1 ht hvm
      have hwr_14 : True := hw
      clear hw
      clear hwr_14
      refine va_iast hx hb hK hP hD hS 1 0 rfl rfl (vp_in_iff.mpr (by omega)) dX0_settle_50 (fun H locs hP hD hS => ?_)
      have hP : va_P (dC, dI) vwCl [(co, .inr (0, [.ref pl, .int co_hour, .int co_passings, .ref co_last, .ref co_passed, .ref co_keptCount, .int co_watched, .int g_12_co_7, .int co_deed, .int co_week, .ref co_off, .ref co_since, .ref co_kept, .ref co_sorted])), (co_off, .inl (k_co_off, 10, .inl (upd f_co_off (vs : Int32).toNatClampNeg (r_14 : Int32)))), (co_since, .inl (k_co_since, 10, .inl f_co_since)), (pl, .inr (3, [.ref pl_told, .ref pl_first, .ref pl_gain, .ref pl_custom, .ref pl_ruled, .int pl_deeds, .ref pl_deedHour, .ref pl_deedPerson, .ref pl_deedClock])), (pl_gain, .inl (k_pl_gain, 10, .inl f_pl_gain))] H := hP
      have hD : va_D A [(co, .inr (0, [.ref pl, .int co_hour, .int co_passings, .ref co_last, .ref co_passed, .ref co_keptCount, .int co_watched, .int g_12_co_7, .int co_deed, .int co_week, .ref co_off, .ref co_since, .ref co_kept, .ref co_sorted])), (co_off, .inl (k_co_off, 10, .inl (upd f_co_off (vs : Int32).toNatClampNeg (r_14 : Int32)))), (co_since, .inl (k_co_since, 10, .inl f_co_since)), (pl, .inr (3, [.ref pl_told, .ref pl_first, .ref pl_gain, .ref pl_custom, .ref pl_ruled, .int pl_deeds, .ref pl_deedHour, .ref pl_deedPerson, .ref pl_deedClock])), (pl_gain, .inl (k_pl_gain, 10, .inl f_pl_gain))] := hD
      obtain ⟨f_15, ef_15⟩ : ∃ g : Nat → Int32, (upd f_co_off (vs : Int32).toNatClampNeg (r_14 : Int32)) = g := ⟨_, rfl⟩
      rw [ef_15] at hP hD
      clear ef_15
      refine lv_aload_n hx hb dX0_settle_51 rfl (lv_at hl 0 rfl) ?_
      refine va_get (D := (dC, dI)) (ci := 0) (v := .ref co_since) (C := RX0) (T := TX0) (N := 14) hx hb hT inX0 hown hK hP 0 rfl rfl 11 (by decide) (hT _ mw_2_125) (fun _ h9 => h9) rfl dX0_settle_52 ?_
      refine lv_iload_n hx hb dX0_settle_55 rfl (lv_at hl 1 rfl) ?_
      refine lv_iload_n hx hb dX0_settle_56 rfl (lv_at hl 2 rfl) ?_
      refine va_iast hx hb hK hP hD hS 2 1 rfl rfl (vp_in_iff.mpr (by omega)) dX0_settle_57 (fun H locs hP hD hS => ?_)
      have hP : va_P (dC, dI) vwCl [(co, .inr (0, [.ref pl, .int co_hour, .int co_passings, .ref co_last, .ref co_passed, .ref co_keptCount, .int co_watched, .int g_12_co_7, .int co_deed, .int co_week, .ref co_off, .ref co_since, .ref co_kept, .ref co_sorted])), (co_off, .inl (k_co_off, 10, .inl f_15)), (co_since, .inl (k_co_since, 10, .inl (upd f_co_since (vs : Int32).toNatClampNeg (vh : Int32)))), (pl, .inr (3, [.ref pl_told, .ref pl_first, .ref pl_gain, .ref pl_custom, .ref pl_ruled, .int pl_deeds, .ref pl_deedHour, .ref pl_deedPerson, .ref pl_deedClock])), (pl_gain, .inl (k_pl_gain, 10, .inl f_pl_gain))] H := hP
      have hD : va_D A [(co, .inr (0, [.ref pl, .int co_hour, .int co_passings, .ref co_last, .ref co_passed, .ref co_keptCount, .int co_watched, .int g_12_co_7, .int co_deed, .int co_week, .ref co_off, .ref co_since, .ref co_kept, .ref co_sorted])), (co_off, .inl (k_co_off, 10, .inl f_15)), (co_since, .inl (k_co_since, 10, .inl (upd f_co_since (vs : Int32).toNatClampNeg (vh : Int32)))), (pl, .inr (3, [.ref pl_told, .ref pl_first, .ref pl_gain, .ref pl_custom, .ref pl_ruled, .int pl_deeds, .ref pl_deedHour, .ref pl_deedPerson, .ref pl_deedClock])), (pl_gain, .inl (k_pl_gain, 10, .inl f_pl_gain))] := hD
      obtain ⟨f_16, ef_16⟩ : ∃ g : Nat → Int32, (upd f_co_since (vs : Int32).toNatClampNeg (vh : Int32)) = g := ⟨_, rfl⟩
      rw [ef_16] at hP hD
      clear ef_16
      have hP9 := hP.sub (ws' := [(co, .inr (0, [.ref pl, .int co_hour, .int co_passings, .ref co_last, .ref co_passed, .ref co_keptCount, .int co_watched, .int g_12_co_7, .int co_deed, .int co_week, .ref co_off, .ref co_since, .ref co_kept, .ref co_sorted])), (co_off, .inl (k_co_off, 10, .inl f_15)), (co_since, .inl (k_co_since, 10, .inl f_16)), (pl, .inr (3, [.ref pl_told, .ref pl_first, .ref pl_gain, .ref pl_custom, .ref pl_ruled, .int pl_deeds, .ref pl_deedHour, .ref pl_deedPerson, .ref pl_deedClock])), (pl_gain, .inl (k_pl_gain, 10, .inl f_pl_gain))]) [0, 1, 2, 3, 4] rfl
      have hD9 := hD.sub (ws' := [(co, .inr (0, [.ref pl, .int co_hour, .int co_passings, .ref co_last, .ref co_passed, .ref co_keptCount, .int co_watched, .int g_12_co_7, .int co_deed, .int co_week, .ref co_off, .ref co_since, .ref co_kept, .ref co_sorted])), (co_off, .inl (k_co_off, 10, .inl f_15)), (co_since, .inl (k_co_since, 10, .inl f_16)), (pl, .inr (3, [.ref pl_told, .ref pl_first, .ref pl_gain, .ref pl_custom, .ref pl_ruled, .int pl_deeds, .ref pl_deedHour, .ref pl_deedPerson, .ref pl_deedClock])), (pl_gain, .inl (k_pl_gain, 10, .inl f_pl_gain))]) [0, 1, 2, 3, 4] (by decide) rfl
      exact W.vret hx hb hr (fun t ht hW => ⟨⟨(), rfl, trivial, g_12_co_7, f_15, f_16, by rw [ht]; exact hP9, hD9⟩, hS.F ht⟩) hS.2.2 dX0_settle_58
    refine lv_if_eq (tgt := 39) hx hb dX0_settle_14 (by decide) (fun c_17 => ?_) (fun c_17 => ?_)
    · have kc_17 := il_eq c_17
      have := (by decide : (0 : Int32).toInt = 0)
      exact join_13 co_widest _ _ (hP.sub [0, 1, 2, 3, 4] rfl) (hD.sub [0, 1, 2, 3, 4] (by decide) rfl) hS _ (lv_sub hl [0, 1, 2] rfl)
    · have kc_17 := il_ne c_17
      have := (by decide : (0 : Int32).toInt = 0)
      refine lv_aload_n hx hb dX0_settle_17 rfl (lv_at hl 0 rfl) ?_
      refine lv_aload_n hx hb dX0_settle_18 rfl (lv_at hl 0 rfl) ?_
      refine va_get (D := (dC, dI)) (ci := 0) (v := .ref co_off) (C := RX0) (T := TX0) (N := 14) hx hb hT inX0 hown hK hP 0 rfl rfl 10 (by decide) (hT _ mw_2_124) (fun _ h9 => h9) rfl dX0_settle_19 ?_
      refine lv_iload_n hx hb dX0_settle_22 rfl (lv_at hl 1 rfl) ?_
      refine va_iald hx hb hK hP 1 0 rfl rfl (vp_in_iff.mpr (by omega)) dX0_settle_23 ?_
      refine lv_topi (fun z_18 ez_18 => ?_)
      have hPc := hP.sub (ws' := [(co, .inr (0, [.ref pl, .int co_hour, .int co_passings, .ref co_last, .ref co_passed, .ref co_keptCount, .int co_watched, .int co_widest, .int co_deed, .int co_week, .ref co_off, .ref co_since, .ref co_kept, .ref co_sorted]))]) [0] rfl
      have hDc := hD.sub (ws' := [(co, .inr (0, [.ref pl, .int co_hour, .int co_passings, .ref co_last, .ref co_passed, .ref co_keptCount, .int co_watched, .int co_widest, .int co_deed, .int co_week, .ref co_off, .ref co_since, .ref co_kept, .ref co_sorted]))]) [0] (by decide) rfl
      have hKc := hK.sub (tys' := []) [] rfl
      have hFc := va_free (wc := [(co, .inr (0, [.ref pl, .int co_hour, .int co_passings, .ref co_last, .ref co_passed, .ref co_keptCount, .int co_watched, .int co_widest, .int co_deed, .int co_week, .ref co_off, .ref co_since, .ref co_kept, .ref co_sorted]))]) hD hS hA [0] rfl
      refine va_callv (va_runV (As := [.int z_18]) (rest := []) ⟨hx, hb, hml, hown, hT⟩ (c_X0_noteWidest l dC dI s.heap.size co z_18 pl co_hour co_passings co_last co_passed co_keptCount co_watched co_widest co_deed co_week co_off co_since co_kept co_sorted (by omega) (by omega) (by omega)) (cwV 1 hT (gwV mw_4_65 mw_4_67 mp_3_0 mw_1_11 mw_4_68) rfl rfl rfl (by decide +kernel) ⟨Nat.le_of_ble_eq_true rfl, Nat.le_of_ble_eq_true rfl⟩) ⟨fun a U g mk q => by obtain ⟨q0, q1, qP, qK, qD⟩ := q; exact ⟨q0, q1, qP, va_K.moved (u := U) (U := U.calling g mk a) (Vm.Alike.refl U.vm) qK, qD⟩, va_recv hK hP (ci := 0) (q0 := 0) rfl rfl, fun U hU hW => ⟨rfl, by rw [hU], by rw [hU]; exact hPc, va_K.moved hW.alike hKc, hDc.weaken (fun _ _ _ _ => trivial)⟩⟩ rfl rfl hl.1 rfl (lv_room (Nat.le_of_ble_eq_true rfl)) dX0_settle_24 ⟨Nat.le_of_ble_eq_true rfl, Nat.le_of_ble_eq_true rfl⟩) hS (fun q _ h => hFc q h) hFc (fun u t H1 locs ht hvm hw hB hz1 hk1 hS => ?_)
      obtain ⟨x_20, hP1, hD1⟩ := hB
      rw [ht] at hP1
      obtain ⟨hP, hD⟩ := va_join (wr := [(co_off, .inl (k_co_off, 10, .inl f_co_off)), (co_since, .inl (k_co_since, 10, .inl f_co_since)), (pl, .inr (3, [.ref pl_told, .ref pl_first, .ref pl_gain, .ref pl_custom, .ref pl_ruled, .int pl_deeds, .ref pl_deedHour, .ref pl_deedPerson, .ref pl_deedClock])), (pl_gain, .inl (k_pl_gain, 10, .inl f_pl_gain))]) (w1 := [(co, .inr (0, [.ref pl, .int co_hour, .int co_passings, .ref co_last, .ref co_passed, .ref co_keptCount, .int co_watched, .int x_20, .int co_deed, .int co_week, .ref co_off, .ref co_since, .ref co_kept, .ref co_sorted]))]) hP hD [0] [1, 2, 3, 4] rfl rfl (by decide) (by decide) hk1 hFc hP1 hD1
      generalize H1 = H at hP hS ⊢
      have hP : va_P (dC, dI) vwCl [(co_off, .inl (k_co_off, 10, .inl f_co_off)), (co_since, .inl (k_co_since, 10, .inl f_co_since)), (pl, .inr (3, [.ref pl_told, .ref pl_first, .ref pl_gain, .ref pl_custom, .ref pl_ruled, .int pl_deeds, .ref pl_deedHour, .ref pl_deedPerson, .ref pl_deedClock])), (pl_gain, .inl (k_pl_gain, 10, .inl f_pl_gain)), (co, .inr (0, [.ref pl, .int co_hour, .int co_passings, .ref co_last, .ref co_passed, .ref co_keptCount, .int co_watched, .int x_20, .int co_deed, .int co_week, .ref co_off, .ref co_since, .ref co_kept, .ref co_sorted]))] H := hP
      have hD : va_D A [(co_off, .inl (k_co_off, 10, .inl f_co_off)), (co_since, .inl (k_co_since, 10, .inl f_co_since)), (pl, .inr (3, [.ref pl_told, .ref pl_first, .ref pl_gain, .ref pl_custom, .ref pl_ruled, .int pl_deeds, .ref pl_deedHour, .ref pl_deedPerson, .ref pl_deedClock])), (pl_gain, .inl (k_pl_gain, 10, .inl f_pl_gain)), (co, .inr (0, [.ref pl, .int co_hour, .int co_passings, .ref co_last, .ref co_passed, .ref co_keptCount, .int co_watched, .int x_20, .int co_deed, .int co_week, .ref co_off, .ref co_since, .ref co_kept, .ref co_sorted]))] := hD
      clear hPc hDc hKc hFc hP1 hD1 hk1 hz1 ht hvm
      clear hw
      refine lv_aload_n hx hb dX0_settle_27 rfl (lv_at hl 0 rfl) ?_
      refine lv_aload_n hx hb dX0_settle_28 rfl (lv_at hl 0 rfl) ?_
      refine lv_iload_n hx hb dX0_settle_29 rfl (lv_at hl 1 rfl) ?_
      refine lv_iload_n hx hb dX0_settle_30 rfl (lv_at hl 2 rfl) ?_
      refine lv_iconst (v := 1) hx hb dX0_settle_31 (by decide) ?_
      refine lv_isub hx hb dX0_settle_32 ?_
      refine lv_topi (fun z_21 ez_21 => ?_)
      have kz_21 : z_21.toInt = vh.toInt - 1 := ti_sub ez_21 rfl (by decide) (by omega) (by omega)
      clear ez_21
      have hPc := hP.sub (ws' := [(co, .inr (0, [.ref pl, .int co_hour, .int co_passings, .ref co_last, .ref co_passed, .ref co_keptCount, .int co_watched, .int x_20, .int co_deed, .int co_week, .ref co_off, .ref co_since, .ref co_kept, .ref co_sorted])), (co_off, .inl (k_co_off, 10, .inl f_co_off)), (co_since, .inl (k_co_since, 10, .inl f_co_since)), (pl, .inr (3, [.ref pl_told, .ref pl_first, .ref pl_gain, .ref pl_custom, .ref pl_ruled, .int pl_deeds, .ref pl_deedHour, .ref pl_deedPerson, .ref pl_deedClock])), (pl_gain, .inl (k_pl_gain, 10, .inl f_pl_gain))]) [4, 0, 1, 2, 3] rfl
      have hDc := hD.sub (ws' := [(co, .inr (0, [.ref pl, .int co_hour, .int co_passings, .ref co_last, .ref co_passed, .ref co_keptCount, .int co_watched, .int x_20, .int co_deed, .int co_week, .ref co_off, .ref co_since, .ref co_kept, .ref co_sorted])), (co_off, .inl (k_co_off, 10, .inl f_co_off)), (co_since, .inl (k_co_since, 10, .inl f_co_since)), (pl, .inr (3, [.ref pl_told, .ref pl_first, .ref pl_gain, .ref pl_custom, .ref pl_ruled, .int pl_deeds, .ref pl_deedHour, .ref pl_deedPerson, .ref pl_deedClock])), (pl_gain, .inl (k_pl_gain, 10, .inl f_pl_gain))]) [4, 0, 1, 2, 3] (by decide) rfl
      have hKc := hK.sub (tys' := [(k_co_off, .int), (k_co_since, .int), (k_pl_gain, .int)]) [0, 1, 2] rfl
      have hFc := va_free (wc := [(co, .inr (0, [.ref pl, .int co_hour, .int co_passings, .ref co_last, .ref co_passed, .ref co_keptCount, .int co_watched, .int x_20, .int co_deed, .int co_week, .ref co_off, .ref co_since, .ref co_kept, .ref co_sorted])), (co_off, .inl (k_co_off, 10, .inl f_co_off)), (co_since, .inl (k_co_since, 10, .inl f_co_since)), (pl, .inr (3, [.ref pl_told, .ref pl_first, .ref pl_gain, .ref pl_custom, .ref pl_ruled, .int pl_deeds, .ref pl_deedHour, .ref pl_deedPerson, .ref pl_deedClock])), (pl_gain, .inl (k_pl_gain, 10, .inl f_pl_gain))]) hD hS hA [4, 0, 1, 2, 3] rfl
      refine va_calli (va_runV (As := [.int vs, .int z_21]) (rest := [.ref co]) ⟨hx, hb, hml, hown, hT⟩ (c_X0_offAt l dC dI H.size co vs z_21 pl co_hour co_passings co_last co_passed co_keptCount co_watched x_20 co_deed co_week co_off co_since co_kept co_sorted k_co_off f_co_off k_co_since f_co_since pl_told pl_first pl_gain pl_custom pl_ruled pl_deeds pl_deedHour pl_deedPerson pl_deedClock k_pl_gain f_pl_gain (by omega) (by omega) (by omega) (by omega) (by omega)) (cwV 2 hT (gwV mw_4_69 mw_4_71 mp_3_1 mw_1_11 mw_4_72) rfl rfl rfl (by decide +kernel) ⟨Nat.le_of_ble_eq_true rfl, Nat.le_of_ble_eq_true rfl⟩) ⟨fun a U g mk q => by obtain ⟨q0, q1, qP, qK, qD⟩ := q; exact ⟨q0, q1, qP, va_K.moved (u := U) (U := U.calling g mk a) (Vm.Alike.refl U.vm) qK, qD⟩, va_recv hK hP (ci := 0) (q0 := 4) rfl rfl, fun U hU hW => ⟨rfl, by rw [hU], by rw [hU]; exact hPc, va_K.moved hW.alike hKc, hDc.weaken (fun _ _ _ _ => trivial)⟩⟩ rfl rfl hl.1 rfl (lv_room (Nat.le_of_ble_eq_true rfl)) dX0_settle_33 ⟨Nat.le_of_ble_eq_true rfl, Nat.le_of_ble_eq_true rfl⟩) hS (fun q _ h => hFc q h) hFc (fun r_22 u t H1 locs ht hvm hw hB hz1 hk1 hS => ?_)
      obtain ⟨hP1, hD1⟩ := hB
      rw [ht] at hP1
      obtain ⟨hP, hD⟩ := va_join (wr := []) (w1 := [(co, .inr (0, [.ref pl, .int co_hour, .int co_passings, .ref co_last, .ref co_passed, .ref co_keptCount, .int co_watched, .int x_20, .int co_deed, .int co_week, .ref co_off, .ref co_since, .ref co_kept, .ref co_sorted])), (co_off, .inl (k_co_off, 10, .inl f_co_off)), (co_since, .inl (k_co_since, 10, .inl f_co_since)), (pl, .inr (3, [.ref pl_told, .ref pl_first, .ref pl_gain, .ref pl_custom, .ref pl_ruled, .int pl_deeds, .ref pl_deedHour, .ref pl_deedPerson, .ref pl_deedClock])), (pl_gain, .inl (k_pl_gain, 10, .inl f_pl_gain))]) hP hD [4, 0, 1, 2, 3] [] rfl rfl (by decide) (by decide) hk1 hFc hP1 hD1
      generalize H1 = H at hP hS ⊢
      have hP : va_P (dC, dI) vwCl [(co, .inr (0, [.ref pl, .int co_hour, .int co_passings, .ref co_last, .ref co_passed, .ref co_keptCount, .int co_watched, .int x_20, .int co_deed, .int co_week, .ref co_off, .ref co_since, .ref co_kept, .ref co_sorted])), (co_off, .inl (k_co_off, 10, .inl f_co_off)), (co_since, .inl (k_co_since, 10, .inl f_co_since)), (pl, .inr (3, [.ref pl_told, .ref pl_first, .ref pl_gain, .ref pl_custom, .ref pl_ruled, .int pl_deeds, .ref pl_deedHour, .ref pl_deedPerson, .ref pl_deedClock])), (pl_gain, .inl (k_pl_gain, 10, .inl f_pl_gain))] H := hP
      have hD : va_D A [(co, .inr (0, [.ref pl, .int co_hour, .int co_passings, .ref co_last, .ref co_passed, .ref co_keptCount, .int co_watched, .int x_20, .int co_deed, .int co_week, .ref co_off, .ref co_since, .ref co_kept, .ref co_sorted])), (co_off, .inl (k_co_off, 10, .inl f_co_off)), (co_since, .inl (k_co_since, 10, .inl f_co_since)), (pl, .inr (3, [.ref pl_told, .ref pl_first, .ref pl_gain, .ref pl_custom, .ref pl_ruled, .int pl_deeds, .ref pl_deedHour, .ref pl_deedPerson, .ref pl_deedClock])), (pl_gain, .inl (k_pl_gain, 10, .inl f_pl_gain))] := hD
      clear hPc hDc hKc hFc hP1 hD1 hk1 hz1 ht hvm
      have hwr_22 : True := hw
      clear hw
      clear hwr_22
      have hPc := hP.sub (ws' := [(co, .inr (0, [.ref pl, .int co_hour, .int co_passings, .ref co_last, .ref co_passed, .ref co_keptCount, .int co_watched, .int x_20, .int co_deed, .int co_week, .ref co_off, .ref co_since, .ref co_kept, .ref co_sorted]))]) [0] rfl
      have hDc := hD.sub (ws' := [(co, .inr (0, [.ref pl, .int co_hour, .int co_passings, .ref co_last, .ref co_passed, .ref co_keptCount, .int co_watched, .int x_20, .int co_deed, .int co_week, .ref co_off, .ref co_since, .ref co_kept, .ref co_sorted]))]) [0] (by decide) rfl
      have hKc := hK.sub (tys' := []) [] rfl
      have hFc := va_free (wc := [(co, .inr (0, [.ref pl, .int co_hour, .int co_passings, .ref co_last, .ref co_passed, .ref co_keptCount, .int co_watched, .int x_20, .int co_deed, .int co_week, .ref co_off, .ref co_since, .ref co_kept, .ref co_sorted]))]) hD hS hA [0] rfl
      refine va_callv (va_runV (As := [.int r_22]) (rest := []) ⟨hx, hb, hml, hown, hT⟩ (c_X0_noteWidest l dC dI H.size co r_22 pl co_hour co_passings co_last co_passed co_keptCount co_watched x_20 co_deed co_week co_off co_since co_kept co_sorted (by omega) (by omega) (by omega)) (cwV 1 hT (gwV mw_4_65 mw_4_67 mp_3_0 mw_1_11 mw_4_68) rfl rfl rfl (by decide +kernel) ⟨Nat.le_of_ble_eq_true rfl, Nat.le_of_ble_eq_true rfl⟩) ⟨fun a U g mk q => by obtain ⟨q0, q1, qP, qK, qD⟩ := q; exact ⟨q0, q1, qP, va_K.moved (u := U) (U := U.calling g mk a) (Vm.Alike.refl U.vm) qK, qD⟩, va_recv hK hP (ci := 0) (q0 := 0) rfl rfl, fun U hU hW => ⟨rfl, by rw [hU], by rw [hU]; exact hPc, va_K.moved hW.alike hKc, hDc.weaken (fun _ _ _ _ => trivial)⟩⟩ rfl rfl hl.1 rfl (lv_room (Nat.le_of_ble_eq_true rfl)) dX0_settle_36 ⟨Nat.le_of_ble_eq_true rfl, Nat.le_of_ble_eq_true rfl⟩) hS (fun q _ h => hFc q h) hFc (fun u t H1 locs ht hvm hw hB hz1 hk1 hS => ?_)
      obtain ⟨x_24, hP1, hD1⟩ := hB
      rw [ht] at hP1
      obtain ⟨hP, hD⟩ := va_join (wr := [(co_off, .inl (k_co_off, 10, .inl f_co_off)), (co_since, .inl (k_co_since, 10, .inl f_co_since)), (pl, .inr (3, [.ref pl_told, .ref pl_first, .ref pl_gain, .ref pl_custom, .ref pl_ruled, .int pl_deeds, .ref pl_deedHour, .ref pl_deedPerson, .ref pl_deedClock])), (pl_gain, .inl (k_pl_gain, 10, .inl f_pl_gain))]) (w1 := [(co, .inr (0, [.ref pl, .int co_hour, .int co_passings, .ref co_last, .ref co_passed, .ref co_keptCount, .int co_watched, .int x_24, .int co_deed, .int co_week, .ref co_off, .ref co_since, .ref co_kept, .ref co_sorted]))]) hP hD [0] [1, 2, 3, 4] rfl rfl (by decide) (by decide) hk1 hFc hP1 hD1
      generalize H1 = H at hP hS ⊢
      have hP : va_P (dC, dI) vwCl [(co_off, .inl (k_co_off, 10, .inl f_co_off)), (co_since, .inl (k_co_since, 10, .inl f_co_since)), (pl, .inr (3, [.ref pl_told, .ref pl_first, .ref pl_gain, .ref pl_custom, .ref pl_ruled, .int pl_deeds, .ref pl_deedHour, .ref pl_deedPerson, .ref pl_deedClock])), (pl_gain, .inl (k_pl_gain, 10, .inl f_pl_gain)), (co, .inr (0, [.ref pl, .int co_hour, .int co_passings, .ref co_last, .ref co_passed, .ref co_keptCount, .int co_watched, .int x_24, .int co_deed, .int co_week, .ref co_off, .ref co_since, .ref co_kept, .ref co_sorted]))] H := hP
      have hD : va_D A [(co_off, .inl (k_co_off, 10, .inl f_co_off)), (co_since, .inl (k_co_since, 10, .inl f_co_since)), (pl, .inr (3, [.ref pl_told, .ref pl_first, .ref pl_gain, .ref pl_custom, .ref pl_ruled, .int pl_deeds, .ref pl_deedHour, .ref pl_deedPerson, .ref pl_deedClock])), (pl_gain, .inl (k_pl_gain, 10, .inl f_pl_gain)), (co, .inr (0, [.ref pl, .int co_hour, .int co_passings, .ref co_last, .ref co_passed, .ref co_keptCount, .int co_watched, .int x_24, .int co_deed, .int co_week, .ref co_off, .ref co_since, .ref co_kept, .ref co_sorted]))] := hD
      clear hPc hDc hKc hFc hP1 hD1 hk1 hz1 ht hvm
      clear hw
      exact join_13 x_24 _ _ (hP.sub [4, 0, 1, 2, 3] rfl) (hD.sub [4, 0, 1, 2, 3] (by decide) rfl) hS _ (lv_sub hl [0, 1, 2] rfl)
abbrev q_X0_shoot (dC : Nat → ClassId) (dI : Nat → Nat → Nat) (A : Nat → Prop) (co : Nat) (vc : Int32) (vh : Int32) (pl : Nat) (co_hour : Int32) (co_passings : Int32) (co_last : Nat) (co_passed : Nat) (co_keptCount : Nat) (co_watched : Int32) (co_widest : Int32) (co_deed : Int32) (co_week : Int32) (co_off : Nat) (co_since : Nat) (co_kept : Nat) (co_sorted : Nat) (k_co_off : ClassId) (f_co_off : Nat → Int32) (k_co_since : ClassId) (f_co_since : Nat → Int32) (pl_told : Nat) (pl_first : Nat) (pl_gain : Nat) (pl_custom : Nat) (pl_ruled : Nat) (pl_deeds : Int32) (pl_deedHour : Nat) (pl_deedPerson : Nat) (pl_deedClock : Nat) (k_pl_gain : ClassId) (f_pl_gain : Nat → Int32) : Array Value → State → Outcome → State → Prop := va_Qv (fun _ : Unit => True) (fun (_ : Unit) (t : State) => ∃ (e_co_widest : Int32), ∃ (g_co_off : Nat → Int32), ∃ (g_co_since : Nat → Int32), va_P (dC, dI) vwCl [(co, .inr (0, [.ref pl, .int co_hour, .int co_passings, .ref co_last, .ref co_passed, .ref co_keptCount, .int co_watched, .int e_co_widest, .int co_deed, .int co_week, .ref co_off, .ref co_since, .ref co_kept, .ref co_sorted])), (co_off, .inl (k_co_off, 10, .inl g_co_off)), (co_since, .inl (k_co_since, 10, .inl g_co_since)), (pl, .inr (3, [.ref pl_told, .ref pl_first, .ref pl_gain, .ref pl_custom, .ref pl_ruled, .int pl_deeds, .ref pl_deedHour, .ref pl_deedPerson, .ref pl_deedClock])), (pl_gain, .inl (k_pl_gain, 10, .inl f_pl_gain))] t.heap ∧ va_D A [(co, .inr (0, [.ref pl, .int co_hour, .int co_passings, .ref co_last, .ref co_passed, .ref co_keptCount, .int co_watched, .int e_co_widest, .int co_deed, .int co_week, .ref co_off, .ref co_since, .ref co_kept, .ref co_sorted])), (co_off, .inl (k_co_off, 10, .inl g_co_off)), (co_since, .inl (k_co_since, 10, .inl g_co_since)), (pl, .inr (3, [.ref pl_told, .ref pl_first, .ref pl_gain, .ref pl_custom, .ref pl_ruled, .int pl_deeds, .ref pl_deedHour, .ref pl_deedPerson, .ref pl_deedClock])), (pl_gain, .inl (k_pl_gain, 10, .inl f_pl_gain))]) A
set_option maxHeartbeats 4000000 in
set_option maxRecDepth 100000 in
theorem c_X0_shoot (l : Launch) (dC : Nat → ClassId) (dI : Nat → Nat → Nat) (sz : Nat) (co : Nat) (vc : Int32) (vh : Int32) (pl : Nat) (co_hour : Int32) (co_passings : Int32) (co_last : Nat) (co_passed : Nat) (co_keptCount : Nat) (co_watched : Int32) (co_widest : Int32) (co_deed : Int32) (co_week : Int32) (co_off : Nat) (co_since : Nat) (co_kept : Nat) (co_sorted : Nat) (k_co_off : ClassId) (f_co_off : Nat → Int32) (k_co_since : ClassId) (f_co_since : Nat → Int32) (pl_told : Nat) (pl_first : Nat) (pl_gain : Nat) (pl_custom : Nat) (pl_ruled : Nat) (pl_deeds : Int32) (pl_deedHour : Nat) (pl_deedPerson : Nat) (pl_deedClock : Nat) (k_pl_gain : ClassId) (f_pl_gain : Nat → Int32) (h_co_hour : 0 ≤ co_hour.toInt ∧ co_hour.toInt ≤ 2000) (h_co_watched : 0 ≤ co_watched.toInt ∧ co_watched.toInt ≤ 1) (h_co_deed : 0 ≤ co_deed.toInt ∧ co_deed.toInt ≤ 16) (h_pl_deeds : 0 ≤ pl_deeds.toInt ∧ pl_deeds.toInt ≤ 16) (h_vc : 0 ≤ vc.toInt ∧ vc.toInt ≤ 4) : Met l yX0_shoot (pw_w yX0_shoot cX0_shoot 3 none) ({ frames := 3, cells := 0, slots := 0, locals := 65 }) (va_Pc [.ref co, .int vc, .int vh] (fun U => U.heap.size = sz ∧ va_P (dC, dI) vwCl [(co, .inr (0, [.ref pl, .int co_hour, .int co_passings, .ref co_last, .ref co_passed, .ref co_keptCount, .int co_watched, .int co_widest, .int co_deed, .int co_week, .ref co_off, .ref co_since, .ref co_kept, .ref co_sorted])), (co_off, .inl (k_co_off, 10, .inl f_co_off)), (co_since, .inl (k_co_since, 10, .inl f_co_since)), (pl, .inr (3, [.ref pl_told, .ref pl_first, .ref pl_gain, .ref pl_custom, .ref pl_ruled, .int pl_deeds, .ref pl_deedHour, .ref pl_deedPerson, .ref pl_deedClock])), (pl_gain, .inl (k_pl_gain, 10, .inl f_pl_gain))] U.heap ∧ va_K (dC, dI) vwCl [(k_co_off, .int), (k_co_since, .int), (k_pl_gain, .int)] U ∧ va_D (fun _ => True) [(co, .inr (0, [.ref pl, .int co_hour, .int co_passings, .ref co_last, .ref co_passed, .ref co_keptCount, .int co_watched, .int co_widest, .int co_deed, .int co_week, .ref co_off, .ref co_since, .ref co_kept, .ref co_sorted])), (co_off, .inl (k_co_off, 10, .inl f_co_off)), (co_since, .inl (k_co_since, 10, .inl f_co_since)), (pl, .inr (3, [.ref pl_told, .ref pl_first, .ref pl_gain, .ref pl_custom, .ref pl_ruled, .int pl_deeds, .ref pl_deedHour, .ref pl_deedPerson, .ref pl_deedClock])), (pl_gain, .inl (k_pl_gain, 10, .inl f_pl_gain))])) (q_X0_shoot dC dI (va_A [(co, .inr (0, [.ref pl, .int co_hour, .int co_passings, .ref co_last, .ref co_passed, .ref co_keptCount, .int co_watched, .int co_widest, .int co_deed, .int co_week, .ref co_off, .ref co_since, .ref co_kept, .ref co_sorted])), (co_off, .inl (k_co_off, 10, .inl f_co_off)), (co_since, .inl (k_co_since, 10, .inl f_co_since)), (pl, .inr (3, [.ref pl_told, .ref pl_first, .ref pl_gain, .ref pl_custom, .ref pl_ruled, .int pl_deeds, .ref pl_deedHour, .ref pl_deedPerson, .ref pl_deedClock])), (pl_gain, .inl (k_pl_gain, 10, .inl f_pl_gain))] sz) co vc vh pl co_hour co_passings co_last co_passed co_keptCount co_watched co_widest co_deed co_week co_off co_since co_kept co_sorted k_co_off f_co_off k_co_since f_co_since pl_told pl_first pl_gain pl_custom pl_ruled pl_deeds pl_deedHour pl_deedPerson pl_deedClock k_pl_gain f_pl_gain) 0 0 (va_A [(co, .inr (0, [.ref pl, .int co_hour, .int co_passings, .ref co_last, .ref co_passed, .ref co_keptCount, .int co_watched, .int co_widest, .int co_deed, .int co_week, .ref co_off, .ref co_since, .ref co_kept, .ref co_sorted])), (co_off, .inl (k_co_off, 10, .inl f_co_off)), (co_since, .inl (k_co_since, 10, .inl f_co_since)), (pl, .inr (3, [.ref pl_told, .ref pl_first, .ref pl_gain, .ref pl_custom, .ref pl_ruled, .int pl_deeds, .ref pl_deedHour, .ref pl_deedPerson, .ref pl_deedClock])), (pl_gain, .inl (k_pl_gain, 10, .inl f_pl_gain))] sz) := by
  refine Met.ofW (cc := cX0_shoot) (maxL := 3) (ret := none) (by decide) rfl ?_
  intro p e s m args below meth c s₁ B hml hv
  obtain ⟨rfl, hsz, hP, hK, hD0⟩ := hv
  have hx := B.exec
  have hb := B.bytes
  have hr := B.returns
  have hts := atoms_spec (ws := (pw_w yX0_shoot cX0_shoot 3 none)) B.pre
  have hT : ∀ w ∈ pw_T, w.before _ s = true := fun w h => hts w (List.mem_cons_of_mem _ h)
  have hown : s.vm.findClass RX0 = some m.cls := findClass_of_methodNamed B.named
  have hlocks := B.notSynchronized
  subst hsz
  have hD := hD0.self (sz := s.heap.size)
  generalize hAe : va_A [(co, .inr (0, [.ref pl, .int co_hour, .int co_passings, .ref co_last, .ref co_passed, .ref co_keptCount, .int co_watched, .int co_widest, .int co_deed, .int co_week, .ref co_off, .ref co_since, .ref co_kept, .ref co_sorted])), (co_off, .inl (k_co_off, 10, .inl f_co_off)), (co_since, .inl (k_co_since, 10, .inl f_co_since)), (pl, .inr (3, [.ref pl_told, .ref pl_first, .ref pl_gain, .ref pl_custom, .ref pl_ruled, .int pl_deeds, .ref pl_deedHour, .ref pl_deedPerson, .ref pl_deedClock])), (pl_gain, .inl (k_pl_gain, 10, .inl f_pl_gain))] s.heap.size = A at hD ⊢
  have hA : ∀ q : Nat, s.heap.size ≤ q → A q := fun q h => by rw [← hAe]; exact Or.inr h
  have hS : va_S A s.heap s.heap [] := va_S.rf
  have hP : va_P (dC, dI) vwCl [(co, .inr (0, [.ref pl, .int co_hour, .int co_passings, .ref co_last, .ref co_passed, .ref co_keptCount, .int co_watched, .int co_widest, .int co_deed, .int co_week, .ref co_off, .ref co_since, .ref co_kept, .ref co_sorted])), (co_off, .inl (k_co_off, 10, .inl f_co_off)), (co_since, .inl (k_co_since, 10, .inl f_co_since)), (pl, .inr (3, [.ref pl_told, .ref pl_first, .ref pl_gain, .ref pl_custom, .ref pl_ruled, .int pl_deeds, .ref pl_deedHour, .ref pl_deedPerson, .ref pl_deedClock])), (pl_gain, .inl (k_pl_gain, 10, .inl f_pl_gain))] s.heap := hP
  have hl := lv_entry ([.ref co, .int vc, .int vh]) (n := 3) (Nat.le_of_ble_eq_true rfl)
  rw [lg_entry_eq]
  generalize (lg_sl ([.ref co, .int vc, .int vh]) ++ List.replicate (3 - (lg_sl ([.ref co, .int vc, .int vh])).length) Slot.unset).toArray = ls at hl ⊢
  have hl : lv_has ls 3 [(0, .ref co), (1, .int vc), (2, .int vh)] := hl
  refine lv_aload_n hx hb dX0_shoot_0 rfl (lv_at hl 0 rfl) ?_
  refine lv_iload_n hx hb dX0_shoot_1 rfl (lv_at hl 1 rfl) ?_
  refine lv_iload_n hx hb dX0_shoot_2 rfl (lv_at hl 2 rfl) ?_
  have hPc := hP.sub (ws' := [(co, .inr (0, [.ref pl, .int co_hour, .int co_passings, .ref co_last, .ref co_passed, .ref co_keptCount, .int co_watched, .int co_widest, .int co_deed, .int co_week, .ref co_off, .ref co_since, .ref co_kept, .ref co_sorted])), (co_off, .inl (k_co_off, 10, .inl f_co_off)), (co_since, .inl (k_co_since, 10, .inl f_co_since)), (pl, .inr (3, [.ref pl_told, .ref pl_first, .ref pl_gain, .ref pl_custom, .ref pl_ruled, .int pl_deeds, .ref pl_deedHour, .ref pl_deedPerson, .ref pl_deedClock])), (pl_gain, .inl (k_pl_gain, 10, .inl f_pl_gain))]) [0, 1, 2, 3, 4] rfl
  have hDc := hD.sub (ws' := [(co, .inr (0, [.ref pl, .int co_hour, .int co_passings, .ref co_last, .ref co_passed, .ref co_keptCount, .int co_watched, .int co_widest, .int co_deed, .int co_week, .ref co_off, .ref co_since, .ref co_kept, .ref co_sorted])), (co_off, .inl (k_co_off, 10, .inl f_co_off)), (co_since, .inl (k_co_since, 10, .inl f_co_since)), (pl, .inr (3, [.ref pl_told, .ref pl_first, .ref pl_gain, .ref pl_custom, .ref pl_ruled, .int pl_deeds, .ref pl_deedHour, .ref pl_deedPerson, .ref pl_deedClock])), (pl_gain, .inl (k_pl_gain, 10, .inl f_pl_gain))]) [0, 1, 2, 3, 4] (by decide) rfl
  have hKc := hK.sub (tys' := [(k_co_off, .int), (k_co_since, .int), (k_pl_gain, .int)]) [0, 1, 2] rfl
  have hFc := va_free (wc := [(co, .inr (0, [.ref pl, .int co_hour, .int co_passings, .ref co_last, .ref co_passed, .ref co_keptCount, .int co_watched, .int co_widest, .int co_deed, .int co_week, .ref co_off, .ref co_since, .ref co_kept, .ref co_sorted])), (co_off, .inl (k_co_off, 10, .inl f_co_off)), (co_since, .inl (k_co_since, 10, .inl f_co_since)), (pl, .inr (3, [.ref pl_told, .ref pl_first, .ref pl_gain, .ref pl_custom, .ref pl_ruled, .int pl_deeds, .ref pl_deedHour, .ref pl_deedPerson, .ref pl_deedClock])), (pl_gain, .inl (k_pl_gain, 10, .inl f_pl_gain))]) hD hS hA [0, 1, 2, 3, 4] rfl
  refine va_callv (va_runV (As := [.int vc, .int vh]) (rest := []) ⟨hx, hb, hml, hown, hT⟩ (c_X0_settle l dC dI s.heap.size co vc vh pl co_hour co_passings co_last co_passed co_keptCount co_watched co_widest co_deed co_week co_off co_since co_kept co_sorted k_co_off f_co_off k_co_since f_co_since pl_told pl_first pl_gain pl_custom pl_ruled pl_deeds pl_deedHour pl_deedPerson pl_deedClock k_pl_gain f_pl_gain (by omega) (by omega) (by omega) (by omega) (by omega)) (cwV 2 hT (gwV mw_4_61 mw_4_63 mp_2_15 mw_1_11 mw_4_64) rfl rfl rfl (by decide +kernel) ⟨Nat.le_of_ble_eq_true rfl, Nat.le_of_ble_eq_true rfl⟩) ⟨fun a U g mk q => by obtain ⟨q0, q1, qP, qK, qD⟩ := q; exact ⟨q0, q1, qP, va_K.moved (u := U) (U := U.calling g mk a) (Vm.Alike.refl U.vm) qK, qD⟩, va_recv hK hP (ci := 0) (q0 := 0) rfl rfl, fun U hU hW => ⟨rfl, by rw [hU], by rw [hU]; exact hPc, va_K.moved hW.alike hKc, hDc.weaken (fun _ _ _ _ => trivial)⟩⟩ rfl rfl hl.1 rfl (lv_room (Nat.le_of_ble_eq_true rfl)) dX0_shoot_3 ⟨Nat.le_of_ble_eq_true rfl, Nat.le_of_ble_eq_true rfl⟩) hS (fun q _ h => hFc q h) hFc (fun u t H1 locs ht hvm hw hB hz1 hk1 hS => ?_)
  obtain ⟨x_2, x_3, x_4, hP1, hD1⟩ := hB
  rw [ht] at hP1
  obtain ⟨hP, hD⟩ := va_join (wr := []) (w1 := [(co, .inr (0, [.ref pl, .int co_hour, .int co_passings, .ref co_last, .ref co_passed, .ref co_keptCount, .int co_watched, .int x_2, .int co_deed, .int co_week, .ref co_off, .ref co_since, .ref co_kept, .ref co_sorted])), (co_off, .inl (k_co_off, 10, .inl x_3)), (co_since, .inl (k_co_since, 10, .inl x_4)), (pl, .inr (3, [.ref pl_told, .ref pl_first, .ref pl_gain, .ref pl_custom, .ref pl_ruled, .int pl_deeds, .ref pl_deedHour, .ref pl_deedPerson, .ref pl_deedClock])), (pl_gain, .inl (k_pl_gain, 10, .inl f_pl_gain))]) hP hD [0, 1, 2, 3, 4] [] rfl rfl (by decide) (by decide) hk1 hFc hP1 hD1
  generalize H1 = H at hP hS ⊢
  have hP : va_P (dC, dI) vwCl [(co, .inr (0, [.ref pl, .int co_hour, .int co_passings, .ref co_last, .ref co_passed, .ref co_keptCount, .int co_watched, .int x_2, .int co_deed, .int co_week, .ref co_off, .ref co_since, .ref co_kept, .ref co_sorted])), (co_off, .inl (k_co_off, 10, .inl x_3)), (co_since, .inl (k_co_since, 10, .inl x_4)), (pl, .inr (3, [.ref pl_told, .ref pl_first, .ref pl_gain, .ref pl_custom, .ref pl_ruled, .int pl_deeds, .ref pl_deedHour, .ref pl_deedPerson, .ref pl_deedClock])), (pl_gain, .inl (k_pl_gain, 10, .inl f_pl_gain))] H := hP
  have hD : va_D A [(co, .inr (0, [.ref pl, .int co_hour, .int co_passings, .ref co_last, .ref co_passed, .ref co_keptCount, .int co_watched, .int x_2, .int co_deed, .int co_week, .ref co_off, .ref co_since, .ref co_kept, .ref co_sorted])), (co_off, .inl (k_co_off, 10, .inl x_3)), (co_since, .inl (k_co_since, 10, .inl x_4)), (pl, .inr (3, [.ref pl_told, .ref pl_first, .ref pl_gain, .ref pl_custom, .ref pl_ruled, .int pl_deeds, .ref pl_deedHour, .ref pl_deedPerson, .ref pl_deedClock])), (pl_gain, .inl (k_pl_gain, 10, .inl f_pl_gain))] := hD
  clear hPc hDc hKc hFc hP1 hD1 hk1 hz1 ht hvm
  clear hw
  refine lv_aload_n hx hb dX0_shoot_6 rfl (lv_at hl 0 rfl) ?_
  refine va_get (D := (dC, dI)) (ci := 0) (v := .ref co_off) (C := RX0) (T := TX0) (N := 14) hx hb hT inX0 hown hK hP 0 rfl rfl 10 (by decide) (hT _ mw_2_124) (fun _ h9 => h9) rfl dX0_shoot_7 ?_
  refine lv_iload_n hx hb dX0_shoot_10 rfl (lv_at hl 1 rfl) ?_
  refine lv_iconst (v := 0) hx hb dX0_shoot_11 (by decide) ?_
  refine va_iast hx hb hK hP hD hS 1 0 rfl rfl (vp_in_iff.mpr (by omega)) dX0_shoot_12 (fun H locs hP hD hS => ?_)
  have hP : va_P (dC, dI) vwCl [(co, .inr (0, [.ref pl, .int co_hour, .int co_passings, .ref co_last, .ref co_passed, .ref co_keptCount, .int co_watched, .int x_2, .int co_deed, .int co_week, .ref co_off, .ref co_since, .ref co_kept, .ref co_sorted])), (co_off, .inl (k_co_off, 10, .inl (upd x_3 (vc : Int32).toNatClampNeg (0 : Int32)))), (co_since, .inl (k_co_since, 10, .inl x_4)), (pl, .inr (3, [.ref pl_told, .ref pl_first, .ref pl_gain, .ref pl_custom, .ref pl_ruled, .int pl_deeds, .ref pl_deedHour, .ref pl_deedPerson, .ref pl_deedClock])), (pl_gain, .inl (k_pl_gain, 10, .inl f_pl_gain))] H := hP
  have hD : va_D A [(co, .inr (0, [.ref pl, .int co_hour, .int co_passings, .ref co_last, .ref co_passed, .ref co_keptCount, .int co_watched, .int x_2, .int co_deed, .int co_week, .ref co_off, .ref co_since, .ref co_kept, .ref co_sorted])), (co_off, .inl (k_co_off, 10, .inl (upd x_3 (vc : Int32).toNatClampNeg (0 : Int32)))), (co_since, .inl (k_co_since, 10, .inl x_4)), (pl, .inr (3, [.ref pl_told, .ref pl_first, .ref pl_gain, .ref pl_custom, .ref pl_ruled, .int pl_deeds, .ref pl_deedHour, .ref pl_deedPerson, .ref pl_deedClock])), (pl_gain, .inl (k_pl_gain, 10, .inl f_pl_gain))] := hD
  obtain ⟨f_5, ef_5⟩ : ∃ g : Nat → Int32, (upd x_3 (vc : Int32).toNatClampNeg (0 : Int32)) = g := ⟨_, rfl⟩
  rw [ef_5] at hP hD
  clear ef_5
  have hP9 := hP.sub (ws' := [(co, .inr (0, [.ref pl, .int co_hour, .int co_passings, .ref co_last, .ref co_passed, .ref co_keptCount, .int co_watched, .int x_2, .int co_deed, .int co_week, .ref co_off, .ref co_since, .ref co_kept, .ref co_sorted])), (co_off, .inl (k_co_off, 10, .inl f_5)), (co_since, .inl (k_co_since, 10, .inl x_4)), (pl, .inr (3, [.ref pl_told, .ref pl_first, .ref pl_gain, .ref pl_custom, .ref pl_ruled, .int pl_deeds, .ref pl_deedHour, .ref pl_deedPerson, .ref pl_deedClock])), (pl_gain, .inl (k_pl_gain, 10, .inl f_pl_gain))]) [0, 1, 2, 3, 4] rfl
  have hD9 := hD.sub (ws' := [(co, .inr (0, [.ref pl, .int co_hour, .int co_passings, .ref co_last, .ref co_passed, .ref co_keptCount, .int co_watched, .int x_2, .int co_deed, .int co_week, .ref co_off, .ref co_since, .ref co_kept, .ref co_sorted])), (co_off, .inl (k_co_off, 10, .inl f_5)), (co_since, .inl (k_co_since, 10, .inl x_4)), (pl, .inr (3, [.ref pl_told, .ref pl_first, .ref pl_gain, .ref pl_custom, .ref pl_ruled, .int pl_deeds, .ref pl_deedHour, .ref pl_deedPerson, .ref pl_deedClock])), (pl_gain, .inl (k_pl_gain, 10, .inl f_pl_gain))]) [0, 1, 2, 3, 4] (by decide) rfl
  exact W.vret hx hb hr (fun t ht hW => ⟨⟨(), rfl, trivial, x_2, f_5, x_4, by rw [ht]; exact hP9, hD9⟩, hS.F ht⟩) hS.2.2 dX0_shoot_13
abbrev q_X0_shift (dC : Nat → ClassId) (dI : Nat → Nat → Nat) (A : Nat → Prop) (co : Nat) (vs : Int32) (vh : Int32) (co_plan : Nat) (co_hour : Int32) (co_passings : Int32) (co_last : Nat) (co_passed : Nat) (co_keptCount : Nat) (co_watched : Int32) (co_widest : Int32) (co_deed : Int32) (co_week : Int32) (co_off : Nat) (co_since : Nat) (co_kept : Nat) (co_sorted : Nat) (k_co_off : ClassId) (f_co_off : Nat → Int32) : Array Value → State → Outcome → State → Prop := va_Qv (fun _ : Unit => True) (fun (_ : Unit) (t : State) => ∃ (g_co_off : Nat → Int32), va_P (dC, dI) vwCl [(co, .inr (0, [.ref co_plan, .int co_hour, .int co_passings, .ref co_last, .ref co_passed, .ref co_keptCount, .int co_watched, .int co_widest, .int co_deed, .int co_week, .ref co_off, .ref co_since, .ref co_kept, .ref co_sorted])), (co_off, .inl (k_co_off, 10, .inl g_co_off))] t.heap ∧ va_D A [(co, .inr (0, [.ref co_plan, .int co_hour, .int co_passings, .ref co_last, .ref co_passed, .ref co_keptCount, .int co_watched, .int co_widest, .int co_deed, .int co_week, .ref co_off, .ref co_since, .ref co_kept, .ref co_sorted])), (co_off, .inl (k_co_off, 10, .inl g_co_off))]) A
set_option maxHeartbeats 4000000 in
set_option maxRecDepth 100000 in
theorem c_X0_shift (l : Launch) (dC : Nat → ClassId) (dI : Nat → Nat → Nat) (sz : Nat) (co : Nat) (vs : Int32) (vh : Int32) (co_plan : Nat) (co_hour : Int32) (co_passings : Int32) (co_last : Nat) (co_passed : Nat) (co_keptCount : Nat) (co_watched : Int32) (co_widest : Int32) (co_deed : Int32) (co_week : Int32) (co_off : Nat) (co_since : Nat) (co_kept : Nat) (co_sorted : Nat) (k_co_off : ClassId) (f_co_off : Nat → Int32) (h_co_hour : 0 ≤ co_hour.toInt ∧ co_hour.toInt ≤ 2000) (h_co_watched : 0 ≤ co_watched.toInt ∧ co_watched.toInt ≤ 1) (h_co_deed : 0 ≤ co_deed.toInt ∧ co_deed.toInt ≤ 16) (h_vs : 0 ≤ vs.toInt ∧ vs.toInt ≤ 9) : Met l yX0_shift (pw_w yX0_shift cX0_shift 3 none) ({ frames := 0, cells := 0, slots := 0, locals := 0 }) (va_Pc [.ref co, .int vs, .int vh] (fun U => U.heap.size = sz ∧ va_P (dC, dI) vwCl [(co, .inr (0, [.ref co_plan, .int co_hour, .int co_passings, .ref co_last, .ref co_passed, .ref co_keptCount, .int co_watched, .int co_widest, .int co_deed, .int co_week, .ref co_off, .ref co_since, .ref co_kept, .ref co_sorted])), (co_off, .inl (k_co_off, 10, .inl f_co_off))] U.heap ∧ va_K (dC, dI) vwCl [(k_co_off, .int)] U ∧ va_D (fun _ => True) [(co, .inr (0, [.ref co_plan, .int co_hour, .int co_passings, .ref co_last, .ref co_passed, .ref co_keptCount, .int co_watched, .int co_widest, .int co_deed, .int co_week, .ref co_off, .ref co_since, .ref co_kept, .ref co_sorted])), (co_off, .inl (k_co_off, 10, .inl f_co_off))])) (q_X0_shift dC dI (va_A [(co, .inr (0, [.ref co_plan, .int co_hour, .int co_passings, .ref co_last, .ref co_passed, .ref co_keptCount, .int co_watched, .int co_widest, .int co_deed, .int co_week, .ref co_off, .ref co_since, .ref co_kept, .ref co_sorted])), (co_off, .inl (k_co_off, 10, .inl f_co_off))] sz) co vs vh co_plan co_hour co_passings co_last co_passed co_keptCount co_watched co_widest co_deed co_week co_off co_since co_kept co_sorted k_co_off f_co_off) 0 0 (va_A [(co, .inr (0, [.ref co_plan, .int co_hour, .int co_passings, .ref co_last, .ref co_passed, .ref co_keptCount, .int co_watched, .int co_widest, .int co_deed, .int co_week, .ref co_off, .ref co_since, .ref co_kept, .ref co_sorted])), (co_off, .inl (k_co_off, 10, .inl f_co_off))] sz) := by
  refine Met.ofW (cc := cX0_shift) (maxL := 3) (ret := none) (by decide) rfl ?_
  intro p e s m args below meth c s₁ B hml hv
  obtain ⟨rfl, hsz, hP, hK, hD0⟩ := hv
  have hx := B.exec
  have hb := B.bytes
  have hr := B.returns
  have hts := atoms_spec (ws := (pw_w yX0_shift cX0_shift 3 none)) B.pre
  have hT : ∀ w ∈ pw_T, w.before _ s = true := fun w h => hts w (List.mem_cons_of_mem _ h)
  have hown : s.vm.findClass RX0 = some m.cls := findClass_of_methodNamed B.named
  have hlocks := B.notSynchronized
  subst hsz
  have hD := hD0.self (sz := s.heap.size)
  generalize hAe : va_A [(co, .inr (0, [.ref co_plan, .int co_hour, .int co_passings, .ref co_last, .ref co_passed, .ref co_keptCount, .int co_watched, .int co_widest, .int co_deed, .int co_week, .ref co_off, .ref co_since, .ref co_kept, .ref co_sorted])), (co_off, .inl (k_co_off, 10, .inl f_co_off))] s.heap.size = A at hD ⊢
  have hA : ∀ q : Nat, s.heap.size ≤ q → A q := fun q h => by rw [← hAe]; exact Or.inr h
  have hS : va_S A s.heap s.heap [] := va_S.rf
  have hP : va_P (dC, dI) vwCl [(co, .inr (0, [.ref co_plan, .int co_hour, .int co_passings, .ref co_last, .ref co_passed, .ref co_keptCount, .int co_watched, .int co_widest, .int co_deed, .int co_week, .ref co_off, .ref co_since, .ref co_kept, .ref co_sorted])), (co_off, .inl (k_co_off, 10, .inl f_co_off))] s.heap := hP
  have hl := lv_entry ([.ref co, .int vs, .int vh]) (n := 3) (Nat.le_of_ble_eq_true rfl)
  rw [lg_entry_eq]
  generalize (lg_sl ([.ref co, .int vs, .int vh]) ++ List.replicate (3 - (lg_sl ([.ref co, .int vs, .int vh])).length) Slot.unset).toArray = ls at hl ⊢
  have hl : lv_has ls 3 [(0, .ref co), (1, .int vs), (2, .int vh)] := hl
  refine lv_aload_n hx hb dX0_shift_0 rfl (lv_at hl 0 rfl) ?_
  refine va_get (D := (dC, dI)) (ci := 0) (v := .ref co_off) (C := RX0) (T := TX0) (N := 14) hx hb hT inX0 hown hK hP 0 rfl rfl 10 (by decide) (hT _ mw_2_124) (fun _ h9 => h9) rfl dX0_shift_1 ?_
  refine lv_iload_n hx hb dX0_shift_4 rfl (lv_at hl 1 rfl) ?_
  refine lv_dup2_11 hx hb dX0_shift_5 rfl rfl ?_
  refine va_iald hx hb hK hP 1 0 rfl rfl (vp_in_iff.mpr (by omega)) dX0_shift_6 ?_
  refine lv_topi (fun z_1 ez_1 => ?_)
  refine lv_iload_n hx hb dX0_shift_7 rfl (lv_at hl 2 rfl) ?_
  refine lv_iadd hx hb dX0_shift_8 ?_
  refine lv_topi (fun z_2 ez_2 => ?_)
  clear ez_2
  refine va_iast hx hb hK hP hD hS 1 0 rfl rfl (vp_in_iff.mpr (by omega)) dX0_shift_9 (fun H locs hP hD hS => ?_)
  have hP : va_P (dC, dI) vwCl [(co, .inr (0, [.ref co_plan, .int co_hour, .int co_passings, .ref co_last, .ref co_passed, .ref co_keptCount, .int co_watched, .int co_widest, .int co_deed, .int co_week, .ref co_off, .ref co_since, .ref co_kept, .ref co_sorted])), (co_off, .inl (k_co_off, 10, .inl (upd f_co_off (vs : Int32).toNatClampNeg (z_2 : Int32))))] H := hP
  have hD : va_D A [(co, .inr (0, [.ref co_plan, .int co_hour, .int co_passings, .ref co_last, .ref co_passed, .ref co_keptCount, .int co_watched, .int co_widest, .int co_deed, .int co_week, .ref co_off, .ref co_since, .ref co_kept, .ref co_sorted])), (co_off, .inl (k_co_off, 10, .inl (upd f_co_off (vs : Int32).toNatClampNeg (z_2 : Int32))))] := hD
  obtain ⟨f_3, ef_3⟩ : ∃ g : Nat → Int32, (upd f_co_off (vs : Int32).toNatClampNeg (z_2 : Int32)) = g := ⟨_, rfl⟩
  rw [ef_3] at hP hD
  clear ef_3
  have hP9 := hP.sub (ws' := [(co, .inr (0, [.ref co_plan, .int co_hour, .int co_passings, .ref co_last, .ref co_passed, .ref co_keptCount, .int co_watched, .int co_widest, .int co_deed, .int co_week, .ref co_off, .ref co_since, .ref co_kept, .ref co_sorted])), (co_off, .inl (k_co_off, 10, .inl f_3))]) [0, 1] rfl
  have hD9 := hD.sub (ws' := [(co, .inr (0, [.ref co_plan, .int co_hour, .int co_passings, .ref co_last, .ref co_passed, .ref co_keptCount, .int co_watched, .int co_widest, .int co_deed, .int co_week, .ref co_off, .ref co_since, .ref co_kept, .ref co_sorted])), (co_off, .inl (k_co_off, 10, .inl f_3))]) [0, 1] (by decide) rfl
  exact W.vret hx hb hr (fun t ht hW => ⟨⟨(), rfl, trivial, f_3, by rw [ht]; exact hP9, hD9⟩, hS.F ht⟩) hS.2.2 dX0_shift_10
abbrev q_X0_partOf (dC : Nat → ClassId) (dI : Nat → Nat → Nat) (A : Nat → Prop) (co : Nat) (vp : Int32) (va : Int32) (pl : Nat) (co_hour : Int32) (co_passings : Int32) (co_last : Nat) (co_passed : Nat) (co_keptCount : Nat) (co_watched : Int32) (co_widest : Int32) (co_deed : Int32) (co_week : Int32) (co_off : Nat) (co_since : Nat) (co_kept : Nat) (co_sorted : Nat) (td : Nat) (pl_first : Nat) (pl_gain : Nat) (pl_custom : Nat) (pl_ruled : Nat) (pl_deeds : Int32) (pl_deedHour : Nat) (pl_deedPerson : Nat) (pl_deedClock : Nat) (td_clocks : Int32) (td_people : Int32) (td_rounds : Int32) (td_guns : Int32) (td_lines : Int32) (td_name : Nat) (td_first : Nat) (td_gain : Nat) (td_rough : Nat) (td_custom : Nat) (td_part : Nat) (td_whole : Nat) (td_roundPerson : Nat) (td_roundClock : Nat) (td_roundHour : Nat) (td_gunClock : Nat) (td_gunHour : Nat) (td_rules : Nat) (k_td_part : ClassId) (f_td_part : Nat → Int32) (k_td_whole : ClassId) (f_td_whole : Nat → Int32) : Array Value → State → Outcome → State → Prop := va_Qi (fun (r : Int32) (_ : Unit) => True) (fun (_ : Unit) (t : State) => va_P (dC, dI) vwCl [(co, .inr (0, [.ref pl, .int co_hour, .int co_passings, .ref co_last, .ref co_passed, .ref co_keptCount, .int co_watched, .int co_widest, .int co_deed, .int co_week, .ref co_off, .ref co_since, .ref co_kept, .ref co_sorted])), (pl, .inr (3, [.ref td, .ref pl_first, .ref pl_gain, .ref pl_custom, .ref pl_ruled, .int pl_deeds, .ref pl_deedHour, .ref pl_deedPerson, .ref pl_deedClock])), (td, .inr (8, [.int td_clocks, .int td_people, .int td_rounds, .int td_guns, .int td_lines, .ref td_name, .ref td_first, .ref td_gain, .ref td_rough, .ref td_custom, .ref td_part, .ref td_whole, .ref td_roundPerson, .ref td_roundClock, .ref td_roundHour, .ref td_gunClock, .ref td_gunHour, .ref td_rules])), (td_part, .inl (k_td_part, 5, .inl f_td_part)), (td_whole, .inl (k_td_whole, 5, .inl f_td_whole))] t.heap ∧ va_D A [(co, .inr (0, [.ref pl, .int co_hour, .int co_passings, .ref co_last, .ref co_passed, .ref co_keptCount, .int co_watched, .int co_widest, .int co_deed, .int co_week, .ref co_off, .ref co_since, .ref co_kept, .ref co_sorted])), (pl, .inr (3, [.ref td, .ref pl_first, .ref pl_gain, .ref pl_custom, .ref pl_ruled, .int pl_deeds, .ref pl_deedHour, .ref pl_deedPerson, .ref pl_deedClock])), (td, .inr (8, [.int td_clocks, .int td_people, .int td_rounds, .int td_guns, .int td_lines, .ref td_name, .ref td_first, .ref td_gain, .ref td_rough, .ref td_custom, .ref td_part, .ref td_whole, .ref td_roundPerson, .ref td_roundClock, .ref td_roundHour, .ref td_gunClock, .ref td_gunHour, .ref td_rules])), (td_part, .inl (k_td_part, 5, .inl f_td_part)), (td_whole, .inl (k_td_whole, 5, .inl f_td_whole))]) A
set_option maxHeartbeats 4000000 in
set_option maxRecDepth 100000 in
theorem c_X0_partOf (l : Launch) (dC : Nat → ClassId) (dI : Nat → Nat → Nat) (sz : Nat) (co : Nat) (vp : Int32) (va : Int32) (pl : Nat) (co_hour : Int32) (co_passings : Int32) (co_last : Nat) (co_passed : Nat) (co_keptCount : Nat) (co_watched : Int32) (co_widest : Int32) (co_deed : Int32) (co_week : Int32) (co_off : Nat) (co_since : Nat) (co_kept : Nat) (co_sorted : Nat) (td : Nat) (pl_first : Nat) (pl_gain : Nat) (pl_custom : Nat) (pl_ruled : Nat) (pl_deeds : Int32) (pl_deedHour : Nat) (pl_deedPerson : Nat) (pl_deedClock : Nat) (td_clocks : Int32) (td_people : Int32) (td_rounds : Int32) (td_guns : Int32) (td_lines : Int32) (td_name : Nat) (td_first : Nat) (td_gain : Nat) (td_rough : Nat) (td_custom : Nat) (td_part : Nat) (td_whole : Nat) (td_roundPerson : Nat) (td_roundClock : Nat) (td_roundHour : Nat) (td_gunClock : Nat) (td_gunHour : Nat) (td_rules : Nat) (k_td_part : ClassId) (f_td_part : Nat → Int32) (k_td_whole : ClassId) (f_td_whole : Nat → Int32) (h_co_hour : 0 ≤ co_hour.toInt ∧ co_hour.toInt ≤ 2000) (h_co_watched : 0 ≤ co_watched.toInt ∧ co_watched.toInt ≤ 1) (h_co_deed : 0 ≤ co_deed.toInt ∧ co_deed.toInt ≤ 16) (h_pl_deeds : 0 ≤ pl_deeds.toInt ∧ pl_deeds.toInt ≤ 16) (h_td_clocks : 0 ≤ td_clocks.toInt ∧ td_clocks.toInt ≤ 5) (h_td_people : 0 ≤ td_people.toInt ∧ td_people.toInt ≤ 5) (h_td_rounds : 0 ≤ td_rounds.toInt ∧ td_rounds.toInt ≤ 12) (h_td_guns : 0 ≤ td_guns.toInt ∧ td_guns.toInt ≤ 3) (h_vp : 0 ≤ vp.toInt ∧ vp.toInt ≤ 4) : Met l yX0_partOf (pw_w yX0_partOf cX0_partOf 4 (some .int)) ({ frames := 0, cells := 0, slots := 0, locals := 0 }) (va_Pc [.ref co, .int vp, .int va] (fun U => U.heap.size = sz ∧ va_P (dC, dI) vwCl [(co, .inr (0, [.ref pl, .int co_hour, .int co_passings, .ref co_last, .ref co_passed, .ref co_keptCount, .int co_watched, .int co_widest, .int co_deed, .int co_week, .ref co_off, .ref co_since, .ref co_kept, .ref co_sorted])), (pl, .inr (3, [.ref td, .ref pl_first, .ref pl_gain, .ref pl_custom, .ref pl_ruled, .int pl_deeds, .ref pl_deedHour, .ref pl_deedPerson, .ref pl_deedClock])), (td, .inr (8, [.int td_clocks, .int td_people, .int td_rounds, .int td_guns, .int td_lines, .ref td_name, .ref td_first, .ref td_gain, .ref td_rough, .ref td_custom, .ref td_part, .ref td_whole, .ref td_roundPerson, .ref td_roundClock, .ref td_roundHour, .ref td_gunClock, .ref td_gunHour, .ref td_rules])), (td_part, .inl (k_td_part, 5, .inl f_td_part)), (td_whole, .inl (k_td_whole, 5, .inl f_td_whole))] U.heap ∧ va_K (dC, dI) vwCl [(k_td_part, .int), (k_td_whole, .int)] U ∧ va_D (fun _ => True) [(co, .inr (0, [.ref pl, .int co_hour, .int co_passings, .ref co_last, .ref co_passed, .ref co_keptCount, .int co_watched, .int co_widest, .int co_deed, .int co_week, .ref co_off, .ref co_since, .ref co_kept, .ref co_sorted])), (pl, .inr (3, [.ref td, .ref pl_first, .ref pl_gain, .ref pl_custom, .ref pl_ruled, .int pl_deeds, .ref pl_deedHour, .ref pl_deedPerson, .ref pl_deedClock])), (td, .inr (8, [.int td_clocks, .int td_people, .int td_rounds, .int td_guns, .int td_lines, .ref td_name, .ref td_first, .ref td_gain, .ref td_rough, .ref td_custom, .ref td_part, .ref td_whole, .ref td_roundPerson, .ref td_roundClock, .ref td_roundHour, .ref td_gunClock, .ref td_gunHour, .ref td_rules])), (td_part, .inl (k_td_part, 5, .inl f_td_part)), (td_whole, .inl (k_td_whole, 5, .inl f_td_whole))])) (q_X0_partOf dC dI (va_A [(co, .inr (0, [.ref pl, .int co_hour, .int co_passings, .ref co_last, .ref co_passed, .ref co_keptCount, .int co_watched, .int co_widest, .int co_deed, .int co_week, .ref co_off, .ref co_since, .ref co_kept, .ref co_sorted])), (pl, .inr (3, [.ref td, .ref pl_first, .ref pl_gain, .ref pl_custom, .ref pl_ruled, .int pl_deeds, .ref pl_deedHour, .ref pl_deedPerson, .ref pl_deedClock])), (td, .inr (8, [.int td_clocks, .int td_people, .int td_rounds, .int td_guns, .int td_lines, .ref td_name, .ref td_first, .ref td_gain, .ref td_rough, .ref td_custom, .ref td_part, .ref td_whole, .ref td_roundPerson, .ref td_roundClock, .ref td_roundHour, .ref td_gunClock, .ref td_gunHour, .ref td_rules])), (td_part, .inl (k_td_part, 5, .inl f_td_part)), (td_whole, .inl (k_td_whole, 5, .inl f_td_whole))] sz) co vp va pl co_hour co_passings co_last co_passed co_keptCount co_watched co_widest co_deed co_week co_off co_since co_kept co_sorted td pl_first pl_gain pl_custom pl_ruled pl_deeds pl_deedHour pl_deedPerson pl_deedClock td_clocks td_people td_rounds td_guns td_lines td_name td_first td_gain td_rough td_custom td_part td_whole td_roundPerson td_roundClock td_roundHour td_gunClock td_gunHour td_rules k_td_part f_td_part k_td_whole f_td_whole) 0 0 (va_A [(co, .inr (0, [.ref pl, .int co_hour, .int co_passings, .ref co_last, .ref co_passed, .ref co_keptCount, .int co_watched, .int co_widest, .int co_deed, .int co_week, .ref co_off, .ref co_since, .ref co_kept, .ref co_sorted])), (pl, .inr (3, [.ref td, .ref pl_first, .ref pl_gain, .ref pl_custom, .ref pl_ruled, .int pl_deeds, .ref pl_deedHour, .ref pl_deedPerson, .ref pl_deedClock])), (td, .inr (8, [.int td_clocks, .int td_people, .int td_rounds, .int td_guns, .int td_lines, .ref td_name, .ref td_first, .ref td_gain, .ref td_rough, .ref td_custom, .ref td_part, .ref td_whole, .ref td_roundPerson, .ref td_roundClock, .ref td_roundHour, .ref td_gunClock, .ref td_gunHour, .ref td_rules])), (td_part, .inl (k_td_part, 5, .inl f_td_part)), (td_whole, .inl (k_td_whole, 5, .inl f_td_whole))] sz) := by
  refine Met.ofW (cc := cX0_partOf) (maxL := 4) (ret := (some .int)) (by decide) rfl ?_
  intro p e s m args below meth c s₁ B hml hv
  obtain ⟨rfl, hsz, hP, hK, hD0⟩ := hv
  have hx := B.exec
  have hb := B.bytes
  have hr := B.returns
  have hts := atoms_spec (ws := (pw_w yX0_partOf cX0_partOf 4 (some .int))) B.pre
  have hT : ∀ w ∈ pw_T, w.before _ s = true := fun w h => hts w (List.mem_cons_of_mem _ h)
  have hown : s.vm.findClass RX0 = some m.cls := findClass_of_methodNamed B.named
  have hlocks := B.notSynchronized
  subst hsz
  have hD := hD0.self (sz := s.heap.size)
  generalize hAe : va_A [(co, .inr (0, [.ref pl, .int co_hour, .int co_passings, .ref co_last, .ref co_passed, .ref co_keptCount, .int co_watched, .int co_widest, .int co_deed, .int co_week, .ref co_off, .ref co_since, .ref co_kept, .ref co_sorted])), (pl, .inr (3, [.ref td, .ref pl_first, .ref pl_gain, .ref pl_custom, .ref pl_ruled, .int pl_deeds, .ref pl_deedHour, .ref pl_deedPerson, .ref pl_deedClock])), (td, .inr (8, [.int td_clocks, .int td_people, .int td_rounds, .int td_guns, .int td_lines, .ref td_name, .ref td_first, .ref td_gain, .ref td_rough, .ref td_custom, .ref td_part, .ref td_whole, .ref td_roundPerson, .ref td_roundClock, .ref td_roundHour, .ref td_gunClock, .ref td_gunHour, .ref td_rules])), (td_part, .inl (k_td_part, 5, .inl f_td_part)), (td_whole, .inl (k_td_whole, 5, .inl f_td_whole))] s.heap.size = A at hD ⊢
  have hA : ∀ q : Nat, s.heap.size ≤ q → A q := fun q h => by rw [← hAe]; exact Or.inr h
  have hS : va_S A s.heap s.heap [] := va_S.rf
  have hP : va_P (dC, dI) vwCl [(co, .inr (0, [.ref pl, .int co_hour, .int co_passings, .ref co_last, .ref co_passed, .ref co_keptCount, .int co_watched, .int co_widest, .int co_deed, .int co_week, .ref co_off, .ref co_since, .ref co_kept, .ref co_sorted])), (pl, .inr (3, [.ref td, .ref pl_first, .ref pl_gain, .ref pl_custom, .ref pl_ruled, .int pl_deeds, .ref pl_deedHour, .ref pl_deedPerson, .ref pl_deedClock])), (td, .inr (8, [.int td_clocks, .int td_people, .int td_rounds, .int td_guns, .int td_lines, .ref td_name, .ref td_first, .ref td_gain, .ref td_rough, .ref td_custom, .ref td_part, .ref td_whole, .ref td_roundPerson, .ref td_roundClock, .ref td_roundHour, .ref td_gunClock, .ref td_gunHour, .ref td_rules])), (td_part, .inl (k_td_part, 5, .inl f_td_part)), (td_whole, .inl (k_td_whole, 5, .inl f_td_whole))] s.heap := hP
  have hl := lv_entry ([.ref co, .int vp, .int va]) (n := 4) (Nat.le_of_ble_eq_true rfl)
  rw [lg_entry_eq]
  generalize (lg_sl ([.ref co, .int vp, .int va]) ++ List.replicate (4 - (lg_sl ([.ref co, .int vp, .int va])).length) Slot.unset).toArray = ls at hl ⊢
  have hl : lv_has ls 4 [(0, .ref co), (1, .int vp), (2, .int va)] := hl
  refine lv_aload_n hx hb dX0_partOf_0 rfl (lv_at hl 0 rfl) ?_
  refine va_get (D := (dC, dI)) (ci := 0) (v := .ref pl) (C := RX0) (T := TX0) (N := 14) hx hb hT inX0 hown hK hP 0 rfl rfl 0 (by decide) (hT _ mw_2_104) (fun _ h9 => h9) rfl dX0_partOf_1 ?_
  refine va_get (D := (dC, dI)) (ci := 3) (v := .ref td) (C := RX3) (T := TX3) (N := 9) hx hb hT inX3 hown hK hP 1 rfl rfl 0 (by decide) (hT _ mw_2_61) (fun _ h9 => h9) rfl dX0_partOf_4 ?_
  refine va_get (D := (dC, dI)) (ci := 8) (v := .ref td_whole) (C := RX8) (T := TX8) (N := 18) hx hb hT inX8 hown hK hP 2 rfl rfl 11 (by decide) (hT _ mw_1_230) (fun _ h9 => h9) rfl dX0_partOf_7 ?_
  refine lv_iload_n hx hb dX0_partOf_10 rfl (lv_at hl 1 rfl) ?_
  refine va_iald hx hb hK hP 4 1 rfl rfl (vp_in_iff.mpr (by omega)) dX0_partOf_11 ?_
  refine lv_topi (fun z_1 ez_1 => ?_)
  refine lv_istore_n (lv' := [(3, .int z_1), (0, .ref co), (1, .int vp), (2, .int va)]) hx hb dX0_partOf_12 rfl hl (by decide) rfl (fun ls hl => ?_)
  refine lv_iload_n hx hb dX0_partOf_13 rfl (lv_at hl 0 rfl) ?_
  refine lv_if_ne (tgt := 21) hx hb dX0_partOf_14 (by decide) (fun c_2 => ?_) (fun c_2 => ?_)
  · have kc_2 := il_ne c_2
    have := (by decide : (0 : Int32).toInt = 0)
    refine lv_aload_n hx hb dX0_partOf_21 rfl (lv_at hl 1 rfl) ?_
    refine va_get (D := (dC, dI)) (ci := 0) (v := .ref pl) (C := RX0) (T := TX0) (N := 14) hx hb hT inX0 hown hK hP 0 rfl rfl 0 (by decide) (hT _ mw_2_104) (fun _ h9 => h9) rfl dX0_partOf_22 ?_
    refine va_get (D := (dC, dI)) (ci := 3) (v := .ref td) (C := RX3) (T := TX3) (N := 9) hx hb hT inX3 hown hK hP 1 rfl rfl 0 (by decide) (hT _ mw_2_61) (fun _ h9 => h9) rfl dX0_partOf_25 ?_
    refine va_get (D := (dC, dI)) (ci := 8) (v := .ref td_part) (C := RX8) (T := TX8) (N := 18) hx hb hT inX8 hown hK hP 2 rfl rfl 10 (by decide) (hT _ mw_1_226) (fun _ h9 => h9) rfl dX0_partOf_28 ?_
    refine lv_iload_n hx hb dX0_partOf_31 rfl (lv_at hl 2 rfl) ?_
    refine va_iald hx hb hK hP 3 0 rfl rfl (vp_in_iff.mpr (by omega)) dX0_partOf_32 ?_
    refine lv_topi (fun z_3 ez_3 => ?_)
    refine lv_i2l hx hb dX0_partOf_33 rfl ?_
    refine lv_topl (fun z_4 ez_4 => ?_)
    refine lv_iload_n hx hb dX0_partOf_34 rfl (lv_at hl 3 rfl) ?_
    refine lv_i2l hx hb dX0_partOf_35 rfl ?_
    refine lv_topl (fun z_5 ez_5 => ?_)
    refine lv_lmul hx hb dX0_partOf_36 ?_
    refine lv_topl (fun z_6 ez_6 => ?_)
    clear ez_6
    refine lv_iload_n hx hb dX0_partOf_37 rfl (lv_at hl 0 rfl) ?_
    refine lv_i2l hx hb dX0_partOf_38 rfl ?_
    refine lv_topl (fun z_7 ez_7 => ?_)
    refine lv_ldiv hx hb dX0_partOf_39 (i2l_ne ez_7 (by omega)) ?_
    refine lv_topl (fun z_8 ez_8 => ?_)
    clear ez_8
    refine lv_l2i hx hb dX0_partOf_40 rfl ?_
    refine lv_topi (fun z_9 ez_9 => ?_)
    clear ez_9
    have hP9 := hP.sub (ws' := [(co, .inr (0, [.ref pl, .int co_hour, .int co_passings, .ref co_last, .ref co_passed, .ref co_keptCount, .int co_watched, .int co_widest, .int co_deed, .int co_week, .ref co_off, .ref co_since, .ref co_kept, .ref co_sorted])), (pl, .inr (3, [.ref td, .ref pl_first, .ref pl_gain, .ref pl_custom, .ref pl_ruled, .int pl_deeds, .ref pl_deedHour, .ref pl_deedPerson, .ref pl_deedClock])), (td, .inr (8, [.int td_clocks, .int td_people, .int td_rounds, .int td_guns, .int td_lines, .ref td_name, .ref td_first, .ref td_gain, .ref td_rough, .ref td_custom, .ref td_part, .ref td_whole, .ref td_roundPerson, .ref td_roundClock, .ref td_roundHour, .ref td_gunClock, .ref td_gunHour, .ref td_rules])), (td_part, .inl (k_td_part, 5, .inl f_td_part)), (td_whole, .inl (k_td_whole, 5, .inl f_td_whole))]) [0, 1, 2, 3, 4] rfl
    have hD9 := hD.sub (ws' := [(co, .inr (0, [.ref pl, .int co_hour, .int co_passings, .ref co_last, .ref co_passed, .ref co_keptCount, .int co_watched, .int co_widest, .int co_deed, .int co_week, .ref co_off, .ref co_since, .ref co_kept, .ref co_sorted])), (pl, .inr (3, [.ref td, .ref pl_first, .ref pl_gain, .ref pl_custom, .ref pl_ruled, .int pl_deeds, .ref pl_deedHour, .ref pl_deedPerson, .ref pl_deedClock])), (td, .inr (8, [.int td_clocks, .int td_people, .int td_rounds, .int td_guns, .int td_lines, .ref td_name, .ref td_first, .ref td_gain, .ref td_rough, .ref td_custom, .ref td_part, .ref td_whole, .ref td_roundPerson, .ref td_roundClock, .ref td_roundHour, .ref td_gunClock, .ref td_gunHour, .ref td_rules])), (td_part, .inl (k_td_part, 5, .inl f_td_part)), (td_whole, .inl (k_td_whole, 5, .inl f_td_whole))]) [0, 1, 2, 3, 4] (by decide) rfl
    exact W.iret (v := z_9) hx hb hr (fun t ht hW => ⟨⟨z_9, (), rfl, trivial, by rw [ht]; exact hP9, hD9⟩, hS.F ht⟩) hS.2.2 dX0_partOf_41
  · have kc_2 := il_eq c_2
    have := (by decide : (0 : Int32).toInt = 0)
    refine lv_iconst (v := 0) hx hb dX0_partOf_17 (by decide) ?_
    refine lv_goto (tgt := 41) hx hb dX0_partOf_18 (by decide) ?_
    have hP9 := hP.sub (ws' := [(co, .inr (0, [.ref pl, .int co_hour, .int co_passings, .ref co_last, .ref co_passed, .ref co_keptCount, .int co_watched, .int co_widest, .int co_deed, .int co_week, .ref co_off, .ref co_since, .ref co_kept, .ref co_sorted])), (pl, .inr (3, [.ref td, .ref pl_first, .ref pl_gain, .ref pl_custom, .ref pl_ruled, .int pl_deeds, .ref pl_deedHour, .ref pl_deedPerson, .ref pl_deedClock])), (td, .inr (8, [.int td_clocks, .int td_people, .int td_rounds, .int td_guns, .int td_lines, .ref td_name, .ref td_first, .ref td_gain, .ref td_rough, .ref td_custom, .ref td_part, .ref td_whole, .ref td_roundPerson, .ref td_roundClock, .ref td_roundHour, .ref td_gunClock, .ref td_gunHour, .ref td_rules])), (td_part, .inl (k_td_part, 5, .inl f_td_part)), (td_whole, .inl (k_td_whole, 5, .inl f_td_whole))]) [0, 1, 2, 3, 4] rfl
    have hD9 := hD.sub (ws' := [(co, .inr (0, [.ref pl, .int co_hour, .int co_passings, .ref co_last, .ref co_passed, .ref co_keptCount, .int co_watched, .int co_widest, .int co_deed, .int co_week, .ref co_off, .ref co_since, .ref co_kept, .ref co_sorted])), (pl, .inr (3, [.ref td, .ref pl_first, .ref pl_gain, .ref pl_custom, .ref pl_ruled, .int pl_deeds, .ref pl_deedHour, .ref pl_deedPerson, .ref pl_deedClock])), (td, .inr (8, [.int td_clocks, .int td_people, .int td_rounds, .int td_guns, .int td_lines, .ref td_name, .ref td_first, .ref td_gain, .ref td_rough, .ref td_custom, .ref td_part, .ref td_whole, .ref td_roundPerson, .ref td_roundClock, .ref td_roundHour, .ref td_gunClock, .ref td_gunHour, .ref td_rules])), (td_part, .inl (k_td_part, 5, .inl f_td_part)), (td_whole, .inl (k_td_whole, 5, .inl f_td_whole))]) [0, 1, 2, 3, 4] (by decide) rfl
    have := (by decide : (0 : Int32).toInt = 0)
    exact W.iret (v := 0) hx hb hr (fun t ht hW => ⟨⟨0, (), rfl, trivial, by rw [ht]; exact hP9, hD9⟩, hS.F ht⟩) hS.2.2 dX0_partOf_41
abbrev q_X0_keepAhead (dC : Nat → ClassId) (dI : Nat → Nat → Nat) (A : Nat → Prop) (co : Nat) (vp : Int32) (va : Int32) (pl : Nat) (co_hour : Int32) (co_passings : Int32) (co_last : Nat) (co_passed : Nat) (co_keptCount : Nat) (co_watched : Int32) (co_widest : Int32) (co_deed : Int32) (co_week : Int32) (co_off : Nat) (co_since : Nat) (co_kept : Nat) (co_sorted : Nat) (k_co_keptCount : ClassId) (f_co_keptCount : Nat → Int32) (k_co_kept : ClassId) (f_co_kept : Nat → Int32) (td : Nat) (pl_first : Nat) (pl_gain : Nat) (pl_custom : Nat) (pl_ruled : Nat) (pl_deeds : Int32) (pl_deedHour : Nat) (pl_deedPerson : Nat) (pl_deedClock : Nat) (td_clocks : Int32) (td_people : Int32) (td_rounds : Int32) (td_guns : Int32) (td_lines : Int32) (td_name : Nat) (td_first : Nat) (td_gain : Nat) (td_rough : Nat) (td_custom : Nat) (td_part : Nat) (td_whole : Nat) (td_roundPerson : Nat) (td_roundClock : Nat) (td_roundHour : Nat) (td_gunClock : Nat) (td_gunHour : Nat) (td_rules : Nat) (k_td_part : ClassId) (f_td_part : Nat → Int32) : Array Value → State → Outcome → State → Prop := va_Qv (fun _ : Unit => True) (fun (_ : Unit) (t : State) => ∃ (g_co_keptCount : Nat → Int32), ∃ (g_co_kept : Nat → Int32), (Rg g_co_keptCount 0 5) ∧ va_P (dC, dI) vwCl [(co, .inr (0, [.ref pl, .int co_hour, .int co_passings, .ref co_last, .ref co_passed, .ref co_keptCount, .int co_watched, .int co_widest, .int co_deed, .int co_week, .ref co_off, .ref co_since, .ref co_kept, .ref co_sorted])), (co_keptCount, .inl (k_co_keptCount, 5, .inl g_co_keptCount)), (co_kept, .inl (k_co_kept, 25, .inl g_co_kept)), (pl, .inr (3, [.ref td, .ref pl_first, .ref pl_gain, .ref pl_custom, .ref pl_ruled, .int pl_deeds, .ref pl_deedHour, .ref pl_deedPerson, .ref pl_deedClock])), (td, .inr (8, [.int td_clocks, .int td_people, .int td_rounds, .int td_guns, .int td_lines, .ref td_name, .ref td_first, .ref td_gain, .ref td_rough, .ref td_custom, .ref td_part, .ref td_whole, .ref td_roundPerson, .ref td_roundClock, .ref td_roundHour, .ref td_gunClock, .ref td_gunHour, .ref td_rules])), (td_part, .inl (k_td_part, 5, .inl f_td_part))] t.heap ∧ va_D A [(co, .inr (0, [.ref pl, .int co_hour, .int co_passings, .ref co_last, .ref co_passed, .ref co_keptCount, .int co_watched, .int co_widest, .int co_deed, .int co_week, .ref co_off, .ref co_since, .ref co_kept, .ref co_sorted])), (co_keptCount, .inl (k_co_keptCount, 5, .inl g_co_keptCount)), (co_kept, .inl (k_co_kept, 25, .inl g_co_kept)), (pl, .inr (3, [.ref td, .ref pl_first, .ref pl_gain, .ref pl_custom, .ref pl_ruled, .int pl_deeds, .ref pl_deedHour, .ref pl_deedPerson, .ref pl_deedClock])), (td, .inr (8, [.int td_clocks, .int td_people, .int td_rounds, .int td_guns, .int td_lines, .ref td_name, .ref td_first, .ref td_gain, .ref td_rough, .ref td_custom, .ref td_part, .ref td_whole, .ref td_roundPerson, .ref td_roundClock, .ref td_roundHour, .ref td_gunClock, .ref td_gunHour, .ref td_rules])), (td_part, .inl (k_td_part, 5, .inl f_td_part))]) A
set_option maxHeartbeats 4000000 in
set_option maxRecDepth 100000 in
theorem c_X0_keepAhead (l : Launch) (dC : Nat → ClassId) (dI : Nat → Nat → Nat) (sz : Nat) (co : Nat) (vp : Int32) (va : Int32) (pl : Nat) (co_hour : Int32) (co_passings : Int32) (co_last : Nat) (co_passed : Nat) (co_keptCount : Nat) (co_watched : Int32) (co_widest : Int32) (co_deed : Int32) (co_week : Int32) (co_off : Nat) (co_since : Nat) (co_kept : Nat) (co_sorted : Nat) (k_co_keptCount : ClassId) (f_co_keptCount : Nat → Int32) (k_co_kept : ClassId) (f_co_kept : Nat → Int32) (td : Nat) (pl_first : Nat) (pl_gain : Nat) (pl_custom : Nat) (pl_ruled : Nat) (pl_deeds : Int32) (pl_deedHour : Nat) (pl_deedPerson : Nat) (pl_deedClock : Nat) (td_clocks : Int32) (td_people : Int32) (td_rounds : Int32) (td_guns : Int32) (td_lines : Int32) (td_name : Nat) (td_first : Nat) (td_gain : Nat) (td_rough : Nat) (td_custom : Nat) (td_part : Nat) (td_whole : Nat) (td_roundPerson : Nat) (td_roundClock : Nat) (td_roundHour : Nat) (td_gunClock : Nat) (td_gunHour : Nat) (td_rules : Nat) (k_td_part : ClassId) (f_td_part : Nat → Int32) (h_co_hour : 0 ≤ co_hour.toInt ∧ co_hour.toInt ≤ 2000) (h_co_watched : 0 ≤ co_watched.toInt ∧ co_watched.toInt ≤ 1) (h_co_deed : 0 ≤ co_deed.toInt ∧ co_deed.toInt ≤ 16) (h_f_co_keptCount : Rg f_co_keptCount 0 5) (h_pl_deeds : 0 ≤ pl_deeds.toInt ∧ pl_deeds.toInt ≤ 16) (h_td_clocks : 0 ≤ td_clocks.toInt ∧ td_clocks.toInt ≤ 5) (h_td_people : 0 ≤ td_people.toInt ∧ td_people.toInt ≤ 5) (h_td_rounds : 0 ≤ td_rounds.toInt ∧ td_rounds.toInt ≤ 12) (h_td_guns : 0 ≤ td_guns.toInt ∧ td_guns.toInt ≤ 3) (h_vp : 0 ≤ vp.toInt ∧ vp.toInt ≤ 4) (hpp : 1 ≤ (f_td_part vp.toNatClampNeg).toInt ∧ (f_td_part vp.toNatClampNeg).toInt ≤ 5) : Met l yX0_keepAhead (pw_w yX0_keepAhead cX0_keepAhead 5 none) ({ frames := 1, cells := 0, slots := 0, locals := 64 }) (va_Pc [.ref co, .int vp, .int va] (fun U => U.heap.size = sz ∧ va_P (dC, dI) vwCl [(co, .inr (0, [.ref pl, .int co_hour, .int co_passings, .ref co_last, .ref co_passed, .ref co_keptCount, .int co_watched, .int co_widest, .int co_deed, .int co_week, .ref co_off, .ref co_since, .ref co_kept, .ref co_sorted])), (co_keptCount, .inl (k_co_keptCount, 5, .inl f_co_keptCount)), (co_kept, .inl (k_co_kept, 25, .inl f_co_kept)), (pl, .inr (3, [.ref td, .ref pl_first, .ref pl_gain, .ref pl_custom, .ref pl_ruled, .int pl_deeds, .ref pl_deedHour, .ref pl_deedPerson, .ref pl_deedClock])), (td, .inr (8, [.int td_clocks, .int td_people, .int td_rounds, .int td_guns, .int td_lines, .ref td_name, .ref td_first, .ref td_gain, .ref td_rough, .ref td_custom, .ref td_part, .ref td_whole, .ref td_roundPerson, .ref td_roundClock, .ref td_roundHour, .ref td_gunClock, .ref td_gunHour, .ref td_rules])), (td_part, .inl (k_td_part, 5, .inl f_td_part))] U.heap ∧ va_K (dC, dI) vwCl [(k_co_keptCount, .int), (k_co_kept, .int), (k_td_part, .int)] U ∧ va_D (fun _ => True) [(co, .inr (0, [.ref pl, .int co_hour, .int co_passings, .ref co_last, .ref co_passed, .ref co_keptCount, .int co_watched, .int co_widest, .int co_deed, .int co_week, .ref co_off, .ref co_since, .ref co_kept, .ref co_sorted])), (co_keptCount, .inl (k_co_keptCount, 5, .inl f_co_keptCount)), (co_kept, .inl (k_co_kept, 25, .inl f_co_kept)), (pl, .inr (3, [.ref td, .ref pl_first, .ref pl_gain, .ref pl_custom, .ref pl_ruled, .int pl_deeds, .ref pl_deedHour, .ref pl_deedPerson, .ref pl_deedClock])), (td, .inr (8, [.int td_clocks, .int td_people, .int td_rounds, .int td_guns, .int td_lines, .ref td_name, .ref td_first, .ref td_gain, .ref td_rough, .ref td_custom, .ref td_part, .ref td_whole, .ref td_roundPerson, .ref td_roundClock, .ref td_roundHour, .ref td_gunClock, .ref td_gunHour, .ref td_rules])), (td_part, .inl (k_td_part, 5, .inl f_td_part))])) (q_X0_keepAhead dC dI (va_A [(co, .inr (0, [.ref pl, .int co_hour, .int co_passings, .ref co_last, .ref co_passed, .ref co_keptCount, .int co_watched, .int co_widest, .int co_deed, .int co_week, .ref co_off, .ref co_since, .ref co_kept, .ref co_sorted])), (co_keptCount, .inl (k_co_keptCount, 5, .inl f_co_keptCount)), (co_kept, .inl (k_co_kept, 25, .inl f_co_kept)), (pl, .inr (3, [.ref td, .ref pl_first, .ref pl_gain, .ref pl_custom, .ref pl_ruled, .int pl_deeds, .ref pl_deedHour, .ref pl_deedPerson, .ref pl_deedClock])), (td, .inr (8, [.int td_clocks, .int td_people, .int td_rounds, .int td_guns, .int td_lines, .ref td_name, .ref td_first, .ref td_gain, .ref td_rough, .ref td_custom, .ref td_part, .ref td_whole, .ref td_roundPerson, .ref td_roundClock, .ref td_roundHour, .ref td_gunClock, .ref td_gunHour, .ref td_rules])), (td_part, .inl (k_td_part, 5, .inl f_td_part))] sz) co vp va pl co_hour co_passings co_last co_passed co_keptCount co_watched co_widest co_deed co_week co_off co_since co_kept co_sorted k_co_keptCount f_co_keptCount k_co_kept f_co_kept td pl_first pl_gain pl_custom pl_ruled pl_deeds pl_deedHour pl_deedPerson pl_deedClock td_clocks td_people td_rounds td_guns td_lines td_name td_first td_gain td_rough td_custom td_part td_whole td_roundPerson td_roundClock td_roundHour td_gunClock td_gunHour td_rules k_td_part f_td_part) 0 0 (va_A [(co, .inr (0, [.ref pl, .int co_hour, .int co_passings, .ref co_last, .ref co_passed, .ref co_keptCount, .int co_watched, .int co_widest, .int co_deed, .int co_week, .ref co_off, .ref co_since, .ref co_kept, .ref co_sorted])), (co_keptCount, .inl (k_co_keptCount, 5, .inl f_co_keptCount)), (co_kept, .inl (k_co_kept, 25, .inl f_co_kept)), (pl, .inr (3, [.ref td, .ref pl_first, .ref pl_gain, .ref pl_custom, .ref pl_ruled, .int pl_deeds, .ref pl_deedHour, .ref pl_deedPerson, .ref pl_deedClock])), (td, .inr (8, [.int td_clocks, .int td_people, .int td_rounds, .int td_guns, .int td_lines, .ref td_name, .ref td_first, .ref td_gain, .ref td_rough, .ref td_custom, .ref td_part, .ref td_whole, .ref td_roundPerson, .ref td_roundClock, .ref td_roundHour, .ref td_gunClock, .ref td_gunHour, .ref td_rules])), (td_part, .inl (k_td_part, 5, .inl f_td_part))] sz) := by
  refine Met.ofW (cc := cX0_keepAhead) (maxL := 5) (ret := none) (by decide) rfl ?_
  intro p e s m args below meth c s₁ B hml hv
  obtain ⟨rfl, hsz, hP, hK, hD0⟩ := hv
  have hx := B.exec
  have hb := B.bytes
  have hr := B.returns
  have hts := atoms_spec (ws := (pw_w yX0_keepAhead cX0_keepAhead 5 none)) B.pre
  have hT : ∀ w ∈ pw_T, w.before _ s = true := fun w h => hts w (List.mem_cons_of_mem _ h)
  have hown : s.vm.findClass RX0 = some m.cls := findClass_of_methodNamed B.named
  have hlocks := B.notSynchronized
  subst hsz
  have hD := hD0.self (sz := s.heap.size)
  generalize hAe : va_A [(co, .inr (0, [.ref pl, .int co_hour, .int co_passings, .ref co_last, .ref co_passed, .ref co_keptCount, .int co_watched, .int co_widest, .int co_deed, .int co_week, .ref co_off, .ref co_since, .ref co_kept, .ref co_sorted])), (co_keptCount, .inl (k_co_keptCount, 5, .inl f_co_keptCount)), (co_kept, .inl (k_co_kept, 25, .inl f_co_kept)), (pl, .inr (3, [.ref td, .ref pl_first, .ref pl_gain, .ref pl_custom, .ref pl_ruled, .int pl_deeds, .ref pl_deedHour, .ref pl_deedPerson, .ref pl_deedClock])), (td, .inr (8, [.int td_clocks, .int td_people, .int td_rounds, .int td_guns, .int td_lines, .ref td_name, .ref td_first, .ref td_gain, .ref td_rough, .ref td_custom, .ref td_part, .ref td_whole, .ref td_roundPerson, .ref td_roundClock, .ref td_roundHour, .ref td_gunClock, .ref td_gunHour, .ref td_rules])), (td_part, .inl (k_td_part, 5, .inl f_td_part))] s.heap.size = A at hD ⊢
  have hA : ∀ q : Nat, s.heap.size ≤ q → A q := fun q h => by rw [← hAe]; exact Or.inr h
  have hS : va_S A s.heap s.heap [] := va_S.rf
  have hP : va_P (dC, dI) vwCl [(co, .inr (0, [.ref pl, .int co_hour, .int co_passings, .ref co_last, .ref co_passed, .ref co_keptCount, .int co_watched, .int co_widest, .int co_deed, .int co_week, .ref co_off, .ref co_since, .ref co_kept, .ref co_sorted])), (co_keptCount, .inl (k_co_keptCount, 5, .inl f_co_keptCount)), (co_kept, .inl (k_co_kept, 25, .inl f_co_kept)), (pl, .inr (3, [.ref td, .ref pl_first, .ref pl_gain, .ref pl_custom, .ref pl_ruled, .int pl_deeds, .ref pl_deedHour, .ref pl_deedPerson, .ref pl_deedClock])), (td, .inr (8, [.int td_clocks, .int td_people, .int td_rounds, .int td_guns, .int td_lines, .ref td_name, .ref td_first, .ref td_gain, .ref td_rough, .ref td_custom, .ref td_part, .ref td_whole, .ref td_roundPerson, .ref td_roundClock, .ref td_roundHour, .ref td_gunClock, .ref td_gunHour, .ref td_rules])), (td_part, .inl (k_td_part, 5, .inl f_td_part))] s.heap := hP
  have hl := lv_entry ([.ref co, .int vp, .int va]) (n := 5) (Nat.le_of_ble_eq_true rfl)
  rw [lg_entry_eq]
  generalize (lg_sl ([.ref co, .int vp, .int va]) ++ List.replicate (5 - (lg_sl ([.ref co, .int vp, .int va])).length) Slot.unset).toArray = ls at hl ⊢
  have hl : lv_has ls 5 [(0, .ref co), (1, .int vp), (2, .int va)] := hl
  refine lv_iload_n hx hb dX0_keepAhead_0 rfl (lv_at hl 1 rfl) ?_
  refine lv_iconst (v := 5) hx hb dX0_keepAhead_1 (by decide) ?_
  refine lv_imul hx hb dX0_keepAhead_2 ?_
  refine lv_topi (fun z_1 ez_1 => ?_)
  have kz_1 : z_1.toInt = vp.toInt * 5 := ti_mul ez_1 rfl (by decide) (by omega) (by omega)
  clear ez_1
  refine lv_istore_n (lv' := [(3, .int z_1), (0, .ref co), (1, .int vp), (2, .int va)]) hx hb dX0_keepAhead_3 rfl hl (by decide) rfl (fun ls hl => ?_)
  refine lv_aload_n hx hb dX0_keepAhead_4 rfl (lv_at hl 1 rfl) ?_
  refine va_get (D := (dC, dI)) (ci := 0) (v := .ref co_keptCount) (C := RX0) (T := TX0) (N := 14) hx hb hT inX0 hown hK hP 0 rfl rfl 5 (by decide) (hT _ mw_2_116) (fun _ h9 => h9) rfl dX0_keepAhead_5 ?_
  refine lv_iload_n hx hb dX0_keepAhead_8 rfl (lv_at hl 2 rfl) ?_
  refine va_iald hx hb hK hP 1 0 rfl rfl (vp_in_iff.mpr (by omega)) dX0_keepAhead_9 ?_
  refine lv_topi (fun z_2 ez_2 => ?_)
  have kz_2 : 0 ≤ z_2.toInt ∧ z_2.toInt ≤ 5 := by rw [ez_2]; exact h_f_co_keptCount _
  refine lv_istore (lv' := [(4, .int z_2), (3, .int z_1), (0, .ref co), (1, .int vp), (2, .int va)]) hx hb dX0_keepAhead_10 hl (by decide) rfl (fun ls hl => ?_)
  refine lv_iload hx hb dX0_keepAhead_12 (lv_at hl 0 rfl) ?_
  refine lv_aload_n hx hb dX0_keepAhead_14 rfl (lv_at hl 2 rfl) ?_
  refine va_get (D := (dC, dI)) (ci := 0) (v := .ref pl) (C := RX0) (T := TX0) (N := 14) hx hb hT inX0 hown hK hP 0 rfl rfl 0 (by decide) (hT _ mw_2_104) (fun _ h9 => h9) rfl dX0_keepAhead_15 ?_
  refine va_get (D := (dC, dI)) (ci := 3) (v := .ref td) (C := RX3) (T := TX3) (N := 9) hx hb hT inX3 hown hK hP 3 rfl rfl 0 (by decide) (hT _ mw_2_61) (fun _ h9 => h9) rfl dX0_keepAhead_18 ?_
  refine va_get (D := (dC, dI)) (ci := 8) (v := .ref td_part) (C := RX8) (T := TX8) (N := 18) hx hb hT inX8 hown hK hP 4 rfl rfl 10 (by decide) (hT _ mw_1_226) (fun _ h9 => h9) rfl dX0_keepAhead_21 ?_
  refine lv_iload_n hx hb dX0_keepAhead_24 rfl (lv_at hl 3 rfl) ?_
  refine va_iald hx hb hK hP 5 2 rfl rfl (vp_in_iff.mpr (by omega)) dX0_keepAhead_25 ?_
  refine lv_topi (fun z_3 ez_3 => ?_)
  have kz_3 : 1 ≤ z_3.toInt ∧ z_3.toInt ≤ 5 := by rw [ez_3]; exact hpp
  clear ez_3
  refine lv_icmp_lt (tgt := 48) hx hb dX0_keepAhead_26 (by decide) (fun c_4 => ?_) (fun c_4 => ?_)
  · have kc_4 := il_lt c_4
    refine lv_aload_n hx hb dX0_keepAhead_48 rfl (lv_at hl 2 rfl) ?_
    refine va_get (D := (dC, dI)) (ci := 0) (v := .ref co_kept) (C := RX0) (T := TX0) (N := 14) hx hb hT inX0 hown hK hP 0 rfl rfl 12 (by decide) (hT _ mw_2_126) (fun _ h9 => h9) rfl dX0_keepAhead_49 ?_
    refine lv_iload_n hx hb dX0_keepAhead_52 rfl (lv_at hl 1 rfl) ?_
    refine lv_iload hx hb dX0_keepAhead_53 (lv_at hl 0 rfl) ?_
    refine lv_iadd hx hb dX0_keepAhead_55 ?_
    refine lv_topi (fun z_5 ez_5 => ?_)
    have kz_5 : z_5.toInt = z_1.toInt + z_2.toInt := ti_add ez_5 rfl rfl (by omega) (by omega)
    clear ez_5
    refine lv_iload_n hx hb dX0_keepAhead_56 rfl (lv_at hl 4 rfl) ?_
    refine va_iast hx hb hK hP hD hS 2 1 rfl rfl (vp_in_iff.mpr (by omega)) dX0_keepAhead_57 (fun H locs hP hD hS => ?_)
    have hP : va_P (dC, dI) vwCl [(co, .inr (0, [.ref pl, .int co_hour, .int co_passings, .ref co_last, .ref co_passed, .ref co_keptCount, .int co_watched, .int co_widest, .int co_deed, .int co_week, .ref co_off, .ref co_since, .ref co_kept, .ref co_sorted])), (co_keptCount, .inl (k_co_keptCount, 5, .inl f_co_keptCount)), (co_kept, .inl (k_co_kept, 25, .inl (upd f_co_kept (z_5 : Int32).toNatClampNeg (va : Int32)))), (pl, .inr (3, [.ref td, .ref pl_first, .ref pl_gain, .ref pl_custom, .ref pl_ruled, .int pl_deeds, .ref pl_deedHour, .ref pl_deedPerson, .ref pl_deedClock])), (td, .inr (8, [.int td_clocks, .int td_people, .int td_rounds, .int td_guns, .int td_lines, .ref td_name, .ref td_first, .ref td_gain, .ref td_rough, .ref td_custom, .ref td_part, .ref td_whole, .ref td_roundPerson, .ref td_roundClock, .ref td_roundHour, .ref td_gunClock, .ref td_gunHour, .ref td_rules])), (td_part, .inl (k_td_part, 5, .inl f_td_part))] H := hP
    have hD : va_D A [(co, .inr (0, [.ref pl, .int co_hour, .int co_passings, .ref co_last, .ref co_passed, .ref co_keptCount, .int co_watched, .int co_widest, .int co_deed, .int co_week, .ref co_off, .ref co_since, .ref co_kept, .ref co_sorted])), (co_keptCount, .inl (k_co_keptCount, 5, .inl f_co_keptCount)), (co_kept, .inl (k_co_kept, 25, .inl (upd f_co_kept (z_5 : Int32).toNatClampNeg (va : Int32)))), (pl, .inr (3, [.ref td, .ref pl_first, .ref pl_gain, .ref pl_custom, .ref pl_ruled, .int pl_deeds, .ref pl_deedHour, .ref pl_deedPerson, .ref pl_deedClock])), (td, .inr (8, [.int td_clocks, .int td_people, .int td_rounds, .int td_guns, .int td_lines, .ref td_name, .ref td_first, .ref td_gain, .ref td_rough, .ref td_custom, .ref td_part, .ref td_whole, .ref td_roundPerson, .ref td_roundClock, .ref td_roundHour, .ref td_gunClock, .ref td_gunHour, .ref td_rules])), (td_part, .inl (k_td_part, 5, .inl f_td_part))] := hD
    obtain ⟨f_6, ef_6⟩ : ∃ g : Nat → Int32, (upd f_co_kept (z_5 : Int32).toNatClampNeg (va : Int32)) = g := ⟨_, rfl⟩
    rw [ef_6] at hP hD
    clear ef_6
    refine lv_aload_n hx hb dX0_keepAhead_58 rfl (lv_at hl 2 rfl) ?_
    refine va_get (D := (dC, dI)) (ci := 0) (v := .ref co_keptCount) (C := RX0) (T := TX0) (N := 14) hx hb hT inX0 hown hK hP 0 rfl rfl 5 (by decide) (hT _ mw_2_116) (fun _ h9 => h9) rfl dX0_keepAhead_59 ?_
    refine lv_iload_n hx hb dX0_keepAhead_62 rfl (lv_at hl 3 rfl) ?_
    refine lv_iload hx hb dX0_keepAhead_63 (lv_at hl 0 rfl) ?_
    refine lv_iconst (v := 1) hx hb dX0_keepAhead_65 (by decide) ?_
    refine lv_iadd hx hb dX0_keepAhead_66 ?_
    refine lv_topi (fun z_7 ez_7 => ?_)
    have kz_7 : z_7.toInt = z_2.toInt + 1 := ti_add ez_7 rfl (by decide) (by omega) (by omega)
    clear ez_7
    refine va_iast hx hb hK hP hD hS 1 0 rfl rfl (vp_in_iff.mpr (by omega)) dX0_keepAhead_67 (fun H locs hP hD hS => ?_)
    have hP : va_P (dC, dI) vwCl [(co, .inr (0, [.ref pl, .int co_hour, .int co_passings, .ref co_last, .ref co_passed, .ref co_keptCount, .int co_watched, .int co_widest, .int co_deed, .int co_week, .ref co_off, .ref co_since, .ref co_kept, .ref co_sorted])), (co_keptCount, .inl (k_co_keptCount, 5, .inl (upd f_co_keptCount (vp : Int32).toNatClampNeg (z_7 : Int32)))), (co_kept, .inl (k_co_kept, 25, .inl f_6)), (pl, .inr (3, [.ref td, .ref pl_first, .ref pl_gain, .ref pl_custom, .ref pl_ruled, .int pl_deeds, .ref pl_deedHour, .ref pl_deedPerson, .ref pl_deedClock])), (td, .inr (8, [.int td_clocks, .int td_people, .int td_rounds, .int td_guns, .int td_lines, .ref td_name, .ref td_first, .ref td_gain, .ref td_rough, .ref td_custom, .ref td_part, .ref td_whole, .ref td_roundPerson, .ref td_roundClock, .ref td_roundHour, .ref td_gunClock, .ref td_gunHour, .ref td_rules])), (td_part, .inl (k_td_part, 5, .inl f_td_part))] H := hP
    have hD : va_D A [(co, .inr (0, [.ref pl, .int co_hour, .int co_passings, .ref co_last, .ref co_passed, .ref co_keptCount, .int co_watched, .int co_widest, .int co_deed, .int co_week, .ref co_off, .ref co_since, .ref co_kept, .ref co_sorted])), (co_keptCount, .inl (k_co_keptCount, 5, .inl (upd f_co_keptCount (vp : Int32).toNatClampNeg (z_7 : Int32)))), (co_kept, .inl (k_co_kept, 25, .inl f_6)), (pl, .inr (3, [.ref td, .ref pl_first, .ref pl_gain, .ref pl_custom, .ref pl_ruled, .int pl_deeds, .ref pl_deedHour, .ref pl_deedPerson, .ref pl_deedClock])), (td, .inr (8, [.int td_clocks, .int td_people, .int td_rounds, .int td_guns, .int td_lines, .ref td_name, .ref td_first, .ref td_gain, .ref td_rough, .ref td_custom, .ref td_part, .ref td_whole, .ref td_roundPerson, .ref td_roundClock, .ref td_roundHour, .ref td_gunClock, .ref td_gunHour, .ref td_rules])), (td_part, .inl (k_td_part, 5, .inl f_td_part))] := hD
    obtain ⟨f_8, hf_8, ef_8⟩ : ∃ g : Nat → Int32, Rg g 0 5 ∧ (upd f_co_keptCount (vp : Int32).toNatClampNeg (z_7 : Int32)) = g := ⟨_, Rg_upd h_f_co_keptCount (by omega), rfl⟩
    rw [ef_8] at hP hD
    clear ef_8
    have hP9 := hP.sub (ws' := [(co, .inr (0, [.ref pl, .int co_hour, .int co_passings, .ref co_last, .ref co_passed, .ref co_keptCount, .int co_watched, .int co_widest, .int co_deed, .int co_week, .ref co_off, .ref co_since, .ref co_kept, .ref co_sorted])), (co_keptCount, .inl (k_co_keptCount, 5, .inl f_8)), (co_kept, .inl (k_co_kept, 25, .inl f_6)), (pl, .inr (3, [.ref td, .ref pl_first, .ref pl_gain, .ref pl_custom, .ref pl_ruled, .int pl_deeds, .ref pl_deedHour, .ref pl_deedPerson, .ref pl_deedClock])), (td, .inr (8, [.int td_clocks, .int td_people, .int td_rounds, .int td_guns, .int td_lines, .ref td_name, .ref td_first, .ref td_gain, .ref td_rough, .ref td_custom, .ref td_part, .ref td_whole, .ref td_roundPerson, .ref td_roundClock, .ref td_roundHour, .ref td_gunClock, .ref td_gunHour, .ref td_rules])), (td_part, .inl (k_td_part, 5, .inl f_td_part))]) [0, 1, 2, 3, 4, 5] rfl
    have hD9 := hD.sub (ws' := [(co, .inr (0, [.ref pl, .int co_hour, .int co_passings, .ref co_last, .ref co_passed, .ref co_keptCount, .int co_watched, .int co_widest, .int co_deed, .int co_week, .ref co_off, .ref co_since, .ref co_kept, .ref co_sorted])), (co_keptCount, .inl (k_co_keptCount, 5, .inl f_8)), (co_kept, .inl (k_co_kept, 25, .inl f_6)), (pl, .inr (3, [.ref td, .ref pl_first, .ref pl_gain, .ref pl_custom, .ref pl_ruled, .int pl_deeds, .ref pl_deedHour, .ref pl_deedPerson, .ref pl_deedClock])), (td, .inr (8, [.int td_clocks, .int td_people, .int td_rounds, .int td_guns, .int td_lines, .ref td_name, .ref td_first, .ref td_gain, .ref td_rough, .ref td_custom, .ref td_part, .ref td_whole, .ref td_roundPerson, .ref td_roundClock, .ref td_roundHour, .ref td_gunClock, .ref td_gunHour, .ref td_rules])), (td_part, .inl (k_td_part, 5, .inl f_td_part))]) [0, 1, 2, 3, 4, 5] (by decide) rfl
    exact W.vret hx hb hr (fun t ht hW => ⟨⟨(), rfl, trivial, f_8, f_6, hf_8, by rw [ht]; exact hP9, hD9⟩, hS.F ht⟩) hS.2.2 dX0_keepAhead_68
  · have kc_4 := il_nlt c_4
    refine lv_aload_n hx hb dX0_keepAhead_29 rfl (lv_at hl 2 rfl) ?_
    refine va_get (D := (dC, dI)) (ci := 0) (v := .ref co_kept) (C := RX0) (T := TX0) (N := 14) hx hb hT inX0 hown hK hP 0 rfl rfl 12 (by decide) (hT _ mw_2_126) (fun _ h9 => h9) rfl dX0_keepAhead_30 ?_
    refine lv_iload_n hx hb dX0_keepAhead_33 rfl (lv_at hl 1 rfl) ?_
    refine lv_iconst (v := 1) hx hb dX0_keepAhead_34 (by decide) ?_
    refine lv_iadd hx hb dX0_keepAhead_35 ?_
    refine lv_topi (fun z_9 ez_9 => ?_)
    have kz_9 : z_9.toInt = z_1.toInt + 1 := ti_add ez_9 rfl (by decide) (by omega) (by omega)
    clear ez_9
    refine lv_aload_n hx hb dX0_keepAhead_36 rfl (lv_at hl 2 rfl) ?_
    refine va_get (D := (dC, dI)) (ci := 0) (v := .ref co_kept) (C := RX0) (T := TX0) (N := 14) hx hb hT inX0 hown hK hP 0 rfl rfl 12 (by decide) (hT _ mw_2_126) (fun _ h9 => h9) rfl dX0_keepAhead_37 ?_
    refine lv_iload_n hx hb dX0_keepAhead_40 rfl (lv_at hl 1 rfl) ?_
    refine lv_iconst (v := 4) hx hb dX0_keepAhead_41 (by decide) ?_
    have := (by decide : (4 : Int32).toInt = 4)
    refine va_copyi hx hb (by rw [hml]; exact hl.1.symm) hown (hT _ mw_4_13) (hT _ mw_3_232) (hT _ mw_3_231) (hT _ mw_1_19) hK hP hD hS 2 2 1 1 rfl rfl rfl rfl rfl (cp_nn (by omega)) (cp_nn (by omega)) (cp_nn (by omega)) (cp_le (by omega) (by omega) (by omega)) (cp_le (by omega) (by omega) (by omega)) (fun _ _ => rfl) (Nat.le_of_ble_eq_true rfl) (Nat.le_of_ble_eq_true rfl) dX0_keepAhead_42 (fun H locs hP hD hS => ?_)
    have hP : va_P (dC, dI) vwCl [(co, .inr (0, [.ref pl, .int co_hour, .int co_passings, .ref co_last, .ref co_passed, .ref co_keptCount, .int co_watched, .int co_widest, .int co_deed, .int co_week, .ref co_off, .ref co_since, .ref co_kept, .ref co_sorted])), (co_keptCount, .inl (k_co_keptCount, 5, .inl f_co_keptCount)), (co_kept, .inl (k_co_kept, 25, .inl (va_cpy f_co_kept f_co_kept (z_9 : Int32).toNatClampNeg (z_1 : Int32).toNatClampNeg (4 : Int32).toNatClampNeg))), (pl, .inr (3, [.ref td, .ref pl_first, .ref pl_gain, .ref pl_custom, .ref pl_ruled, .int pl_deeds, .ref pl_deedHour, .ref pl_deedPerson, .ref pl_deedClock])), (td, .inr (8, [.int td_clocks, .int td_people, .int td_rounds, .int td_guns, .int td_lines, .ref td_name, .ref td_first, .ref td_gain, .ref td_rough, .ref td_custom, .ref td_part, .ref td_whole, .ref td_roundPerson, .ref td_roundClock, .ref td_roundHour, .ref td_gunClock, .ref td_gunHour, .ref td_rules])), (td_part, .inl (k_td_part, 5, .inl f_td_part))] H := hP
    have hD : va_D A [(co, .inr (0, [.ref pl, .int co_hour, .int co_passings, .ref co_last, .ref co_passed, .ref co_keptCount, .int co_watched, .int co_widest, .int co_deed, .int co_week, .ref co_off, .ref co_since, .ref co_kept, .ref co_sorted])), (co_keptCount, .inl (k_co_keptCount, 5, .inl f_co_keptCount)), (co_kept, .inl (k_co_kept, 25, .inl (va_cpy f_co_kept f_co_kept (z_9 : Int32).toNatClampNeg (z_1 : Int32).toNatClampNeg (4 : Int32).toNatClampNeg))), (pl, .inr (3, [.ref td, .ref pl_first, .ref pl_gain, .ref pl_custom, .ref pl_ruled, .int pl_deeds, .ref pl_deedHour, .ref pl_deedPerson, .ref pl_deedClock])), (td, .inr (8, [.int td_clocks, .int td_people, .int td_rounds, .int td_guns, .int td_lines, .ref td_name, .ref td_first, .ref td_gain, .ref td_rough, .ref td_custom, .ref td_part, .ref td_whole, .ref td_roundPerson, .ref td_roundClock, .ref td_roundHour, .ref td_gunClock, .ref td_gunHour, .ref td_rules])), (td_part, .inl (k_td_part, 5, .inl f_td_part))] := hD
    obtain ⟨f_10, ef_10⟩ : ∃ g : Nat → Int32, (va_cpy f_co_kept f_co_kept (z_9 : Int32).toNatClampNeg (z_1 : Int32).toNatClampNeg (4 : Int32).toNatClampNeg) = g := ⟨_, rfl⟩
    rw [ef_10] at hP hD
    clear ef_10
    obtain ⟨z_11, ez_11⟩ : ∃ y : Int32, y = z_2 + Int32.ofInt (-1) := ⟨_, rfl⟩
    have kz_11 : z_11.toInt = z_2.toInt + (-1) := ti_add ez_11 rfl (by decide) (by omega) (by omega)
    refine lv_iinc (v := z_11) (lv' := [(4, .int z_11), (3, .int z_1), (0, .ref co), (1, .int vp), (2, .int va)]) hx hb dX0_keepAhead_45 hl (k := 0) rfl (ez_11.symm) (by decide) rfl (fun ls hl => ?_)
    clear ez_11
    refine lv_aload_n hx hb dX0_keepAhead_48 rfl (lv_at hl 2 rfl) ?_
    refine va_get (D := (dC, dI)) (ci := 0) (v := .ref co_kept) (C := RX0) (T := TX0) (N := 14) hx hb hT inX0 hown hK hP 0 rfl rfl 12 (by decide) (hT _ mw_2_126) (fun _ h9 => h9) rfl dX0_keepAhead_49 ?_
    refine lv_iload_n hx hb dX0_keepAhead_52 rfl (lv_at hl 1 rfl) ?_
    refine lv_iload hx hb dX0_keepAhead_53 (lv_at hl 0 rfl) ?_
    refine lv_iadd hx hb dX0_keepAhead_55 ?_
    refine lv_topi (fun z_12 ez_12 => ?_)
    have kz_12 : z_12.toInt = z_1.toInt + z_11.toInt := ti_add ez_12 rfl rfl (by omega) (by omega)
    clear ez_12
    refine lv_iload_n hx hb dX0_keepAhead_56 rfl (lv_at hl 4 rfl) ?_
    refine va_iast hx hb hK hP hD hS 2 1 rfl rfl (vp_in_iff.mpr (by omega)) dX0_keepAhead_57 (fun H locs hP hD hS => ?_)
    have hP : va_P (dC, dI) vwCl [(co, .inr (0, [.ref pl, .int co_hour, .int co_passings, .ref co_last, .ref co_passed, .ref co_keptCount, .int co_watched, .int co_widest, .int co_deed, .int co_week, .ref co_off, .ref co_since, .ref co_kept, .ref co_sorted])), (co_keptCount, .inl (k_co_keptCount, 5, .inl f_co_keptCount)), (co_kept, .inl (k_co_kept, 25, .inl (upd f_10 (z_12 : Int32).toNatClampNeg (va : Int32)))), (pl, .inr (3, [.ref td, .ref pl_first, .ref pl_gain, .ref pl_custom, .ref pl_ruled, .int pl_deeds, .ref pl_deedHour, .ref pl_deedPerson, .ref pl_deedClock])), (td, .inr (8, [.int td_clocks, .int td_people, .int td_rounds, .int td_guns, .int td_lines, .ref td_name, .ref td_first, .ref td_gain, .ref td_rough, .ref td_custom, .ref td_part, .ref td_whole, .ref td_roundPerson, .ref td_roundClock, .ref td_roundHour, .ref td_gunClock, .ref td_gunHour, .ref td_rules])), (td_part, .inl (k_td_part, 5, .inl f_td_part))] H := hP
    have hD : va_D A [(co, .inr (0, [.ref pl, .int co_hour, .int co_passings, .ref co_last, .ref co_passed, .ref co_keptCount, .int co_watched, .int co_widest, .int co_deed, .int co_week, .ref co_off, .ref co_since, .ref co_kept, .ref co_sorted])), (co_keptCount, .inl (k_co_keptCount, 5, .inl f_co_keptCount)), (co_kept, .inl (k_co_kept, 25, .inl (upd f_10 (z_12 : Int32).toNatClampNeg (va : Int32)))), (pl, .inr (3, [.ref td, .ref pl_first, .ref pl_gain, .ref pl_custom, .ref pl_ruled, .int pl_deeds, .ref pl_deedHour, .ref pl_deedPerson, .ref pl_deedClock])), (td, .inr (8, [.int td_clocks, .int td_people, .int td_rounds, .int td_guns, .int td_lines, .ref td_name, .ref td_first, .ref td_gain, .ref td_rough, .ref td_custom, .ref td_part, .ref td_whole, .ref td_roundPerson, .ref td_roundClock, .ref td_roundHour, .ref td_gunClock, .ref td_gunHour, .ref td_rules])), (td_part, .inl (k_td_part, 5, .inl f_td_part))] := hD
    obtain ⟨f_13, ef_13⟩ : ∃ g : Nat → Int32, (upd f_10 (z_12 : Int32).toNatClampNeg (va : Int32)) = g := ⟨_, rfl⟩
    rw [ef_13] at hP hD
    clear ef_13
    refine lv_aload_n hx hb dX0_keepAhead_58 rfl (lv_at hl 2 rfl) ?_
    refine va_get (D := (dC, dI)) (ci := 0) (v := .ref co_keptCount) (C := RX0) (T := TX0) (N := 14) hx hb hT inX0 hown hK hP 0 rfl rfl 5 (by decide) (hT _ mw_2_116) (fun _ h9 => h9) rfl dX0_keepAhead_59 ?_
    refine lv_iload_n hx hb dX0_keepAhead_62 rfl (lv_at hl 3 rfl) ?_
    refine lv_iload hx hb dX0_keepAhead_63 (lv_at hl 0 rfl) ?_
    refine lv_iconst (v := 1) hx hb dX0_keepAhead_65 (by decide) ?_
    refine lv_iadd hx hb dX0_keepAhead_66 ?_
    refine lv_topi (fun z_14 ez_14 => ?_)
    have kz_14 : z_14.toInt = z_11.toInt + 1 := ti_add ez_14 rfl (by decide) (by omega) (by omega)
    clear ez_14
    refine va_iast hx hb hK hP hD hS 1 0 rfl rfl (vp_in_iff.mpr (by omega)) dX0_keepAhead_67 (fun H locs hP hD hS => ?_)
    have hP : va_P (dC, dI) vwCl [(co, .inr (0, [.ref pl, .int co_hour, .int co_passings, .ref co_last, .ref co_passed, .ref co_keptCount, .int co_watched, .int co_widest, .int co_deed, .int co_week, .ref co_off, .ref co_since, .ref co_kept, .ref co_sorted])), (co_keptCount, .inl (k_co_keptCount, 5, .inl (upd f_co_keptCount (vp : Int32).toNatClampNeg (z_14 : Int32)))), (co_kept, .inl (k_co_kept, 25, .inl f_13)), (pl, .inr (3, [.ref td, .ref pl_first, .ref pl_gain, .ref pl_custom, .ref pl_ruled, .int pl_deeds, .ref pl_deedHour, .ref pl_deedPerson, .ref pl_deedClock])), (td, .inr (8, [.int td_clocks, .int td_people, .int td_rounds, .int td_guns, .int td_lines, .ref td_name, .ref td_first, .ref td_gain, .ref td_rough, .ref td_custom, .ref td_part, .ref td_whole, .ref td_roundPerson, .ref td_roundClock, .ref td_roundHour, .ref td_gunClock, .ref td_gunHour, .ref td_rules])), (td_part, .inl (k_td_part, 5, .inl f_td_part))] H := hP
    have hD : va_D A [(co, .inr (0, [.ref pl, .int co_hour, .int co_passings, .ref co_last, .ref co_passed, .ref co_keptCount, .int co_watched, .int co_widest, .int co_deed, .int co_week, .ref co_off, .ref co_since, .ref co_kept, .ref co_sorted])), (co_keptCount, .inl (k_co_keptCount, 5, .inl (upd f_co_keptCount (vp : Int32).toNatClampNeg (z_14 : Int32)))), (co_kept, .inl (k_co_kept, 25, .inl f_13)), (pl, .inr (3, [.ref td, .ref pl_first, .ref pl_gain, .ref pl_custom, .ref pl_ruled, .int pl_deeds, .ref pl_deedHour, .ref pl_deedPerson, .ref pl_deedClock])), (td, .inr (8, [.int td_clocks, .int td_people, .int td_rounds, .int td_guns, .int td_lines, .ref td_name, .ref td_first, .ref td_gain, .ref td_rough, .ref td_custom, .ref td_part, .ref td_whole, .ref td_roundPerson, .ref td_roundClock, .ref td_roundHour, .ref td_gunClock, .ref td_gunHour, .ref td_rules])), (td_part, .inl (k_td_part, 5, .inl f_td_part))] := hD
    obtain ⟨f_15, hf_15, ef_15⟩ : ∃ g : Nat → Int32, Rg g 0 5 ∧ (upd f_co_keptCount (vp : Int32).toNatClampNeg (z_14 : Int32)) = g := ⟨_, Rg_upd h_f_co_keptCount (by omega), rfl⟩
    rw [ef_15] at hP hD
    clear ef_15
    have hP9 := hP.sub (ws' := [(co, .inr (0, [.ref pl, .int co_hour, .int co_passings, .ref co_last, .ref co_passed, .ref co_keptCount, .int co_watched, .int co_widest, .int co_deed, .int co_week, .ref co_off, .ref co_since, .ref co_kept, .ref co_sorted])), (co_keptCount, .inl (k_co_keptCount, 5, .inl f_15)), (co_kept, .inl (k_co_kept, 25, .inl f_13)), (pl, .inr (3, [.ref td, .ref pl_first, .ref pl_gain, .ref pl_custom, .ref pl_ruled, .int pl_deeds, .ref pl_deedHour, .ref pl_deedPerson, .ref pl_deedClock])), (td, .inr (8, [.int td_clocks, .int td_people, .int td_rounds, .int td_guns, .int td_lines, .ref td_name, .ref td_first, .ref td_gain, .ref td_rough, .ref td_custom, .ref td_part, .ref td_whole, .ref td_roundPerson, .ref td_roundClock, .ref td_roundHour, .ref td_gunClock, .ref td_gunHour, .ref td_rules])), (td_part, .inl (k_td_part, 5, .inl f_td_part))]) [0, 1, 2, 3, 4, 5] rfl
    have hD9 := hD.sub (ws' := [(co, .inr (0, [.ref pl, .int co_hour, .int co_passings, .ref co_last, .ref co_passed, .ref co_keptCount, .int co_watched, .int co_widest, .int co_deed, .int co_week, .ref co_off, .ref co_since, .ref co_kept, .ref co_sorted])), (co_keptCount, .inl (k_co_keptCount, 5, .inl f_15)), (co_kept, .inl (k_co_kept, 25, .inl f_13)), (pl, .inr (3, [.ref td, .ref pl_first, .ref pl_gain, .ref pl_custom, .ref pl_ruled, .int pl_deeds, .ref pl_deedHour, .ref pl_deedPerson, .ref pl_deedClock])), (td, .inr (8, [.int td_clocks, .int td_people, .int td_rounds, .int td_guns, .int td_lines, .ref td_name, .ref td_first, .ref td_gain, .ref td_rough, .ref td_custom, .ref td_part, .ref td_whole, .ref td_roundPerson, .ref td_roundClock, .ref td_roundHour, .ref td_gunClock, .ref td_gunHour, .ref td_rules])), (td_part, .inl (k_td_part, 5, .inl f_td_part))]) [0, 1, 2, 3, 4, 5] (by decide) rfl
    exact W.vret hx hb hr (fun t ht hW => ⟨⟨(), rfl, trivial, f_15, f_13, hf_15, by rw [ht]; exact hP9, hD9⟩, hS.F ht⟩) hS.2.2 dX0_keepAhead_68
abbrev q_X0_middleKept (dC : Nat → ClassId) (dI : Nat → Nat → Nat) (A : Nat → Prop) (co : Nat) (vp : Int32) (co_plan : Nat) (co_hour : Int32) (co_passings : Int32) (co_last : Nat) (co_passed : Nat) (co_keptCount : Nat) (co_watched : Int32) (co_widest : Int32) (co_deed : Int32) (co_week : Int32) (co_off : Nat) (co_since : Nat) (co_kept : Nat) (co_sorted : Nat) (k_co_keptCount : ClassId) (f_co_keptCount : Nat → Int32) (k_co_kept : ClassId) (f_co_kept : Nat → Int32) (k_co_sorted : ClassId) (f_co_sorted : Nat → Int32) : Array Value → State → Outcome → State → Prop := va_Qi (fun (r : Int32) (_ : Unit) => True) (fun (_ : Unit) (t : State) => ∃ (g_co_sorted : Nat → Int32), va_P (dC, dI) vwCl [(co, .inr (0, [.ref co_plan, .int co_hour, .int co_passings, .ref co_last, .ref co_passed, .ref co_keptCount, .int co_watched, .int co_widest, .int co_deed, .int co_week, .ref co_off, .ref co_since, .ref co_kept, .ref co_sorted])), (co_keptCount, .inl (k_co_keptCount, 5, .inl f_co_keptCount)), (co_kept, .inl (k_co_kept, 25, .inl f_co_kept)), (co_sorted, .inl (k_co_sorted, 5, .inl g_co_sorted))] t.heap ∧ va_D A [(co, .inr (0, [.ref co_plan, .int co_hour, .int co_passings, .ref co_last, .ref co_passed, .ref co_keptCount, .int co_watched, .int co_widest, .int co_deed, .int co_week, .ref co_off, .ref co_since, .ref co_kept, .ref co_sorted])), (co_keptCount, .inl (k_co_keptCount, 5, .inl f_co_keptCount)), (co_kept, .inl (k_co_kept, 25, .inl f_co_kept)), (co_sorted, .inl (k_co_sorted, 5, .inl g_co_sorted))]) A
set_option maxHeartbeats 4000000 in
set_option maxRecDepth 100000 in
theorem c_X0_middleKept (l : Launch) (dC : Nat → ClassId) (dI : Nat → Nat → Nat) (sz : Nat) (co : Nat) (vp : Int32) (co_plan : Nat) (co_hour : Int32) (co_passings : Int32) (co_last : Nat) (co_passed : Nat) (co_keptCount : Nat) (co_watched : Int32) (co_widest : Int32) (co_deed : Int32) (co_week : Int32) (co_off : Nat) (co_since : Nat) (co_kept : Nat) (co_sorted : Nat) (k_co_keptCount : ClassId) (f_co_keptCount : Nat → Int32) (k_co_kept : ClassId) (f_co_kept : Nat → Int32) (k_co_sorted : ClassId) (f_co_sorted : Nat → Int32) (h_co_hour : 0 ≤ co_hour.toInt ∧ co_hour.toInt ≤ 2000) (h_co_watched : 0 ≤ co_watched.toInt ∧ co_watched.toInt ≤ 1) (h_co_deed : 0 ≤ co_deed.toInt ∧ co_deed.toInt ≤ 16) (h_f_co_keptCount : Rg f_co_keptCount 0 5) (h_vp : 0 ≤ vp.toInt ∧ vp.toInt ≤ 4) : Met l yX0_middleKept (pw_w yX0_middleKept cX0_middleKept 6 (some .int)) ({ frames := 0, cells := 0, slots := 0, locals := 0 }) (va_Pc [.ref co, .int vp] (fun U => U.heap.size = sz ∧ va_P (dC, dI) vwCl [(co, .inr (0, [.ref co_plan, .int co_hour, .int co_passings, .ref co_last, .ref co_passed, .ref co_keptCount, .int co_watched, .int co_widest, .int co_deed, .int co_week, .ref co_off, .ref co_since, .ref co_kept, .ref co_sorted])), (co_keptCount, .inl (k_co_keptCount, 5, .inl f_co_keptCount)), (co_kept, .inl (k_co_kept, 25, .inl f_co_kept)), (co_sorted, .inl (k_co_sorted, 5, .inl f_co_sorted))] U.heap ∧ va_K (dC, dI) vwCl [(k_co_keptCount, .int), (k_co_kept, .int), (k_co_sorted, .int)] U ∧ va_D (fun _ => True) [(co, .inr (0, [.ref co_plan, .int co_hour, .int co_passings, .ref co_last, .ref co_passed, .ref co_keptCount, .int co_watched, .int co_widest, .int co_deed, .int co_week, .ref co_off, .ref co_since, .ref co_kept, .ref co_sorted])), (co_keptCount, .inl (k_co_keptCount, 5, .inl f_co_keptCount)), (co_kept, .inl (k_co_kept, 25, .inl f_co_kept)), (co_sorted, .inl (k_co_sorted, 5, .inl f_co_sorted))])) (q_X0_middleKept dC dI (va_A [(co, .inr (0, [.ref co_plan, .int co_hour, .int co_passings, .ref co_last, .ref co_passed, .ref co_keptCount, .int co_watched, .int co_widest, .int co_deed, .int co_week, .ref co_off, .ref co_since, .ref co_kept, .ref co_sorted])), (co_keptCount, .inl (k_co_keptCount, 5, .inl f_co_keptCount)), (co_kept, .inl (k_co_kept, 25, .inl f_co_kept)), (co_sorted, .inl (k_co_sorted, 5, .inl f_co_sorted))] sz) co vp co_plan co_hour co_passings co_last co_passed co_keptCount co_watched co_widest co_deed co_week co_off co_since co_kept co_sorted k_co_keptCount f_co_keptCount k_co_kept f_co_kept k_co_sorted f_co_sorted) 0 0 (va_A [(co, .inr (0, [.ref co_plan, .int co_hour, .int co_passings, .ref co_last, .ref co_passed, .ref co_keptCount, .int co_watched, .int co_widest, .int co_deed, .int co_week, .ref co_off, .ref co_since, .ref co_kept, .ref co_sorted])), (co_keptCount, .inl (k_co_keptCount, 5, .inl f_co_keptCount)), (co_kept, .inl (k_co_kept, 25, .inl f_co_kept)), (co_sorted, .inl (k_co_sorted, 5, .inl f_co_sorted))] sz) := by
  refine Met.ofW (cc := cX0_middleKept) (maxL := 6) (ret := (some .int)) (by decide) rfl ?_
  intro p e s m args below meth c s₁ B hml hv
  obtain ⟨rfl, hsz, hP, hK, hD0⟩ := hv
  have hx := B.exec
  have hb := B.bytes
  have hr := B.returns
  have hts := atoms_spec (ws := (pw_w yX0_middleKept cX0_middleKept 6 (some .int))) B.pre
  have hT : ∀ w ∈ pw_T, w.before _ s = true := fun w h => hts w (List.mem_cons_of_mem _ h)
  have hown : s.vm.findClass RX0 = some m.cls := findClass_of_methodNamed B.named
  have hlocks := B.notSynchronized
  subst hsz
  have hD := hD0.self (sz := s.heap.size)
  generalize hAe : va_A [(co, .inr (0, [.ref co_plan, .int co_hour, .int co_passings, .ref co_last, .ref co_passed, .ref co_keptCount, .int co_watched, .int co_widest, .int co_deed, .int co_week, .ref co_off, .ref co_since, .ref co_kept, .ref co_sorted])), (co_keptCount, .inl (k_co_keptCount, 5, .inl f_co_keptCount)), (co_kept, .inl (k_co_kept, 25, .inl f_co_kept)), (co_sorted, .inl (k_co_sorted, 5, .inl f_co_sorted))] s.heap.size = A at hD ⊢
  have hA : ∀ q : Nat, s.heap.size ≤ q → A q := fun q h => by rw [← hAe]; exact Or.inr h
  have hS : va_S A s.heap s.heap [] := va_S.rf
  have hP : va_P (dC, dI) vwCl [(co, .inr (0, [.ref co_plan, .int co_hour, .int co_passings, .ref co_last, .ref co_passed, .ref co_keptCount, .int co_watched, .int co_widest, .int co_deed, .int co_week, .ref co_off, .ref co_since, .ref co_kept, .ref co_sorted])), (co_keptCount, .inl (k_co_keptCount, 5, .inl f_co_keptCount)), (co_kept, .inl (k_co_kept, 25, .inl f_co_kept)), (co_sorted, .inl (k_co_sorted, 5, .inl f_co_sorted))] s.heap := hP
  have hl := lv_entry ([.ref co, .int vp]) (n := 6) (Nat.le_of_ble_eq_true rfl)
  rw [lg_entry_eq]
  generalize (lg_sl ([.ref co, .int vp]) ++ List.replicate (6 - (lg_sl ([.ref co, .int vp])).length) Slot.unset).toArray = ls at hl ⊢
  have hl : lv_has ls 6 [(0, .ref co), (1, .int vp)] := hl
  refine lv_aload_n hx hb dX0_middleKept_0 rfl (lv_at hl 0 rfl) ?_
  refine va_get (D := (dC, dI)) (ci := 0) (v := .ref co_keptCount) (C := RX0) (T := TX0) (N := 14) hx hb hT inX0 hown hK hP 0 rfl rfl 5 (by decide) (hT _ mw_2_116) (fun _ h9 => h9) rfl dX0_middleKept_1 ?_
  refine lv_iload_n hx hb dX0_middleKept_4 rfl (lv_at hl 1 rfl) ?_
  refine va_iald hx hb hK hP 1 0 rfl rfl (vp_in_iff.mpr (by omega)) dX0_middleKept_5 ?_
  refine lv_topi (fun z_1 ez_1 => ?_)
  have kz_1 : 0 ≤ z_1.toInt ∧ z_1.toInt ≤ 5 := by rw [ez_1]; exact h_f_co_keptCount _
  refine lv_istore_n (lv' := [(2, .int z_1), (0, .ref co), (1, .int vp)]) hx hb dX0_middleKept_6 rfl hl (by decide) rfl (fun ls hl => ?_)
  refine lv_iconst (v := 0) hx hb dX0_middleKept_7 (by decide) ?_
  refine lv_istore_n (lv' := [(3, .int 0), (2, .int z_1), (0, .ref co), (1, .int vp)]) hx hb dX0_middleKept_8 rfl hl (by decide) rfl (fun ls hl => ?_)
  have loop_105 : ∀ (fu : Nat), ∀ (g_104_l3 : Int32), ∀ (g_104_f3 : Nat → Int32), (0 ≤ g_104_l3.toInt ∧ g_104_l3.toInt ≤ 5) → (5 - g_104_l3.toInt < (fu : Int)) → ∀ (H : Heap) (locs : List Loc), va_P (dC, dI) vwCl [(co, .inr (0, [.ref co_plan, .int co_hour, .int co_passings, .ref co_last, .ref co_passed, .ref co_keptCount, .int co_watched, .int co_widest, .int co_deed, .int co_week, .ref co_off, .ref co_since, .ref co_kept, .ref co_sorted])), (co_keptCount, .inl (k_co_keptCount, 5, .inl f_co_keptCount)), (co_kept, .inl (k_co_kept, 25, .inl f_co_kept)), (co_sorted, .inl (k_co_sorted, 5, .inl g_104_f3))] H → va_D A [(co, .inr (0, [.ref co_plan, .int co_hour, .int co_passings, .ref co_last, .ref co_passed, .ref co_keptCount, .int co_watched, .int co_widest, .int co_deed, .int co_week, .ref co_off, .ref co_since, .ref co_kept, .ref co_sorted])), (co_keptCount, .inl (k_co_keptCount, 5, .inl f_co_keptCount)), (co_kept, .inl (k_co_kept, 25, .inl f_co_kept)), (co_sorted, .inl (k_co_sorted, 5, .inl g_104_f3))] → va_S A s.heap H locs → ∀ (ls : Array Slot), lv_has ls 6 [(3, .int g_104_l3), (2, .int z_1), (0, .ref co), (1, .int vp)] → W p l e (headSpec (pw_w yX0_middleKept cX0_middleKept 6 (some .int)) ({ frames := 0, cells := 0, slots := 0, locals := 0 })).room s m ([.ref co, .int vp] : List Value).toArray below meth c H locs 0 0 (MQ below (q_X0_middleKept dC dI A co vp co_plan co_hour co_passings co_last co_passed co_keptCount co_watched co_widest co_deed co_week co_off co_since co_kept co_sorted k_co_keptCount f_co_keptCount k_co_kept f_co_kept k_co_sorted f_co_sorted) ([.ref co, .int vp] : List Value).toArray s 0 0 A) (F0 m 9 ls []) := by
    intro fu
    induction fu with
    | zero => intro g_104_l3 g_104_f3 hg_104_l3 hfu; exact absurd hfu (by omega)
    | succ fu105 ih105 =>
      intro g_104_l3 g_104_f3 hg_104_l3 hfu105 H locs hP hD hS ls hl
      refine lv_iload_n hx hb dX0_middleKept_9 rfl (lv_at hl 0 rfl) ?_
      refine lv_iload_n hx hb dX0_middleKept_10 rfl (lv_at hl 1 rfl) ?_
      refine lv_icmp_ge (tgt := 85) hx hb dX0_middleKept_11 (by decide) (fun c_155 => ?_) (fun c_155 => ?_)
      · have kc_155 := il_le c_155
        refine lv_aload_n hx hb dX0_middleKept_85 rfl (lv_at hl 2 rfl) ?_
        refine va_get (D := (dC, dI)) (ci := 0) (v := .ref co_sorted) (C := RX0) (T := TX0) (N := 14) hx hb hT inX0 hown hK hP 0 rfl rfl 13 (by decide) (hT _ mw_2_127) (fun _ h9 => h9) rfl dX0_middleKept_86 ?_
        refine lv_iload_n hx hb dX0_middleKept_89 rfl (lv_at hl 1 rfl) ?_
        refine lv_iconst (v := 1) hx hb dX0_middleKept_90 (by decide) ?_
        refine lv_isub hx hb dX0_middleKept_91 ?_
        refine lv_topi (fun z_156 ez_156 => ?_)
        have kz_156 : z_156.toInt = z_1.toInt - 1 := ti_sub ez_156 rfl (by decide) (by omega) (by omega)
        clear ez_156
        refine lv_iconst (v := 2) hx hb dX0_middleKept_92 (by decide) ?_
        refine lv_idiv hx hb dX0_middleKept_93 (by decide) ?_
        refine lv_topi (fun z_157 ez_157 => ?_)
        have kz_157 : 0 ≤ z_157.toInt ∧ (z_156.toInt < 0 ∨ z_157.toInt = z_156.toInt / 2) ∧ (0 ≤ z_156.toInt ∨ z_157.toInt = 0) := ti_divn ez_157 rfl (by decide) (by omega) (by decide)
        clear ez_157
        refine va_iald hx hb hK hP 3 2 rfl rfl (vp_in_iff.mpr (by omega)) dX0_middleKept_94 ?_
        refine lv_topi (fun z_158 ez_158 => ?_)
        have hP9 := hP.sub (ws' := [(co, .inr (0, [.ref co_plan, .int co_hour, .int co_passings, .ref co_last, .ref co_passed, .ref co_keptCount, .int co_watched, .int co_widest, .int co_deed, .int co_week, .ref co_off, .ref co_since, .ref co_kept, .ref co_sorted])), (co_keptCount, .inl (k_co_keptCount, 5, .inl f_co_keptCount)), (co_kept, .inl (k_co_kept, 25, .inl f_co_kept)), (co_sorted, .inl (k_co_sorted, 5, .inl g_104_f3))]) [0, 1, 2, 3] rfl
        have hD9 := hD.sub (ws' := [(co, .inr (0, [.ref co_plan, .int co_hour, .int co_passings, .ref co_last, .ref co_passed, .ref co_keptCount, .int co_watched, .int co_widest, .int co_deed, .int co_week, .ref co_off, .ref co_since, .ref co_kept, .ref co_sorted])), (co_keptCount, .inl (k_co_keptCount, 5, .inl f_co_keptCount)), (co_kept, .inl (k_co_kept, 25, .inl f_co_kept)), (co_sorted, .inl (k_co_sorted, 5, .inl g_104_f3))]) [0, 1, 2, 3] (by decide) rfl
        exact W.iret (v := z_158) hx hb hr (fun t ht hW => ⟨⟨z_158, (), rfl, trivial, g_104_f3, by rw [ht]; exact hP9, hD9⟩, hS.F ht⟩) hS.2.2 dX0_middleKept_95
      · have kc_155 := il_nle c_155
        refine lv_aload_n hx hb dX0_middleKept_14 rfl (lv_at hl 2 rfl) ?_
        refine va_get (D := (dC, dI)) (ci := 0) (v := .ref co_kept) (C := RX0) (T := TX0) (N := 14) hx hb hT inX0 hown hK hP 0 rfl rfl 12 (by decide) (hT _ mw_2_126) (fun _ h9 => h9) rfl dX0_middleKept_15 ?_
        refine lv_iload_n hx hb dX0_middleKept_18 rfl (lv_at hl 3 rfl) ?_
        refine lv_iconst (v := 5) hx hb dX0_middleKept_19 (by decide) ?_
        refine lv_imul hx hb dX0_middleKept_20 ?_
        refine lv_topi (fun z_159 ez_159 => ?_)
        have kz_159 : z_159.toInt = vp.toInt * 5 := ti_mul ez_159 rfl (by decide) (by omega) (by omega)
        clear ez_159
        refine lv_iload_n hx hb dX0_middleKept_21 rfl (lv_at hl 0 rfl) ?_
        refine lv_iadd hx hb dX0_middleKept_22 ?_
        refine lv_topi (fun z_160 ez_160 => ?_)
        have kz_160 : z_160.toInt = z_159.toInt + g_104_l3.toInt := ti_add ez_160 rfl rfl (by omega) (by omega)
        clear ez_160
        refine va_iald hx hb hK hP 2 1 rfl rfl (vp_in_iff.mpr (by omega)) dX0_middleKept_23 ?_
        refine lv_topi (fun z_161 ez_161 => ?_)
        refine lv_istore (lv' := [(4, .int z_161), (3, .int g_104_l3), (2, .int z_1), (0, .ref co), (1, .int vp)]) hx hb dX0_middleKept_24 hl (by decide) rfl (fun ls hl => ?_)
        refine lv_iload_n hx hb dX0_middleKept_26 rfl (lv_at hl 1 rfl) ?_
        refine lv_istore (lv' := [(5, .int g_104_l3), (4, .int z_161), (3, .int g_104_l3), (2, .int z_1), (0, .ref co), (1, .int vp)]) hx hb dX0_middleKept_27 hl (by decide) rfl (fun ls hl => ?_)
        have loop_185 : ∀ (fu : Nat), ∀ (g_184_l5 : Int32), ∀ (g_184_f3 : Nat → Int32), (0 ≤ g_184_l5.toInt ∧ g_184_l5.toInt ≤ 4) → (g_184_l5.toInt < (fu : Int)) → ∀ (H : Heap) (locs : List Loc), va_P (dC, dI) vwCl [(co, .inr (0, [.ref co_plan, .int co_hour, .int co_passings, .ref co_last, .ref co_passed, .ref co_keptCount, .int co_watched, .int co_widest, .int co_deed, .int co_week, .ref co_off, .ref co_since, .ref co_kept, .ref co_sorted])), (co_keptCount, .inl (k_co_keptCount, 5, .inl f_co_keptCount)), (co_kept, .inl (k_co_kept, 25, .inl f_co_kept)), (co_sorted, .inl (k_co_sorted, 5, .inl g_184_f3))] H → va_D A [(co, .inr (0, [.ref co_plan, .int co_hour, .int co_passings, .ref co_last, .ref co_passed, .ref co_keptCount, .int co_watched, .int co_widest, .int co_deed, .int co_week, .ref co_off, .ref co_since, .ref co_kept, .ref co_sorted])), (co_keptCount, .inl (k_co_keptCount, 5, .inl f_co_keptCount)), (co_kept, .inl (k_co_kept, 25, .inl f_co_kept)), (co_sorted, .inl (k_co_sorted, 5, .inl g_184_f3))] → va_S A s.heap H locs → ∀ (ls : Array Slot), lv_has ls 6 [(5, .int g_184_l5), (4, .int z_161), (3, .int g_104_l3), (2, .int z_1), (0, .ref co), (1, .int vp)] → W p l e (headSpec (pw_w yX0_middleKept cX0_middleKept 6 (some .int)) ({ frames := 0, cells := 0, slots := 0, locals := 0 })).room s m ([.ref co, .int vp] : List Value).toArray below meth c H locs 0 0 (MQ below (q_X0_middleKept dC dI A co vp co_plan co_hour co_passings co_last co_passed co_keptCount co_watched co_widest co_deed co_week co_off co_since co_kept co_sorted k_co_keptCount f_co_keptCount k_co_kept f_co_kept k_co_sorted f_co_sorted) ([.ref co, .int vp] : List Value).toArray s 0 0 A) (F0 m 29 ls []) := by
          intro fu
          induction fu with
          | zero => intro g_184_l5 g_184_f3 hg_184_l5 hfu; exact absurd hfu (by omega)
          | succ fu185 ih185 =>
            intro g_184_l5 g_184_f3 hg_184_l5 hfu185 H locs hP hD hS ls hl
            refine lv_iload hx hb dX0_middleKept_29 (lv_at hl 0 rfl) ?_
            have join_196 : ∀ (H : Heap) (locs : List Loc), va_P (dC, dI) vwCl [(co, .inr (0, [.ref co_plan, .int co_hour, .int co_passings, .ref co_last, .ref co_passed, .ref co_keptCount, .int co_watched, .int co_widest, .int co_deed, .int co_week, .ref co_off, .ref co_since, .ref co_kept, .ref co_sorted])), (co_keptCount, .inl (k_co_keptCount, 5, .inl f_co_keptCount)), (co_kept, .inl (k_co_kept, 25, .inl f_co_kept)), (co_sorted, .inl (k_co_sorted, 5, .inl g_184_f3))] H → va_D A [(co, .inr (0, [.ref co_plan, .int co_hour, .int co_passings, .ref co_last, .ref co_passed, .ref co_keptCount, .int co_watched, .int co_widest, .int co_deed, .int co_week, .ref co_off, .ref co_since, .ref co_kept, .ref co_sorted])), (co_keptCount, .inl (k_co_keptCount, 5, .inl f_co_keptCount)), (co_kept, .inl (k_co_kept, 25, .inl f_co_kept)), (co_sorted, .inl (k_co_sorted, 5, .inl g_184_f3))] → va_S A s.heap H locs → ∀ (ls : Array Slot), lv_has ls 6 [(5, .int g_184_l5), (4, .int z_161), (3, .int g_104_l3), (2, .int z_1), (0, .ref co), (1, .int vp)] → W p l e (headSpec (pw_w yX0_middleKept cX0_middleKept 6 (some .int)) ({ frames := 0, cells := 0, slots := 0, locals := 0 })).room s m ([.ref co, .int vp] : List Value).toArray below meth c H locs 0 0 (MQ below (q_X0_middleKept dC dI A co vp co_plan co_hour co_passings co_last co_passed co_keptCount co_watched co_widest co_deed co_week co_off co_since co_kept co_sorted k_co_keptCount f_co_keptCount k_co_kept f_co_kept k_co_sorted f_co_sorted) ([.ref co, .int vp] : List Value).toArray s 0 0 A) (F0 m 70 ls []) := by
              intro  H locs hP hD hS ls hl
              refine lv_aload_n hx hb dX0_middleKept_70 rfl (lv_at hl 4 rfl) ?_
              refine va_get (D := (dC, dI)) (ci := 0) (v := .ref co_sorted) (C := RX0) (T := TX0) (N := 14) hx hb hT inX0 hown hK hP 0 rfl rfl 13 (by decide) (hT _ mw_2_127) (fun _ h9 => h9) rfl dX0_middleKept_71 ?_
              refine lv_iload hx hb dX0_middleKept_74 (lv_at hl 0 rfl) ?_
              refine lv_iload hx hb dX0_middleKept_76 (lv_at hl 1 rfl) ?_
              refine va_iast hx hb hK hP hD hS 3 2 rfl rfl (vp_in_iff.mpr (by omega)) dX0_middleKept_78 (fun H locs hP hD hS => ?_)
              have hP : va_P (dC, dI) vwCl [(co, .inr (0, [.ref co_plan, .int co_hour, .int co_passings, .ref co_last, .ref co_passed, .ref co_keptCount, .int co_watched, .int co_widest, .int co_deed, .int co_week, .ref co_off, .ref co_since, .ref co_kept, .ref co_sorted])), (co_keptCount, .inl (k_co_keptCount, 5, .inl f_co_keptCount)), (co_kept, .inl (k_co_kept, 25, .inl f_co_kept)), (co_sorted, .inl (k_co_sorted, 5, .inl (upd g_184_f3 (g_184_l5 : Int32).toNatClampNeg (z_161 : Int32))))] H := hP
              have hD : va_D A [(co, .inr (0, [.ref co_plan, .int co_hour, .int co_passings, .ref co_last, .ref co_passed, .ref co_keptCount, .int co_watched, .int co_widest, .int co_deed, .int co_week, .ref co_off, .ref co_since, .ref co_kept, .ref co_sorted])), (co_keptCount, .inl (k_co_keptCount, 5, .inl f_co_keptCount)), (co_kept, .inl (k_co_kept, 25, .inl f_co_kept)), (co_sorted, .inl (k_co_sorted, 5, .inl (upd g_184_f3 (g_184_l5 : Int32).toNatClampNeg (z_161 : Int32))))] := hD
              obtain ⟨f_197, ef_197⟩ : ∃ g : Nat → Int32, (upd g_184_f3 (g_184_l5 : Int32).toNatClampNeg (z_161 : Int32)) = g := ⟨_, rfl⟩
              rw [ef_197] at hP hD
              clear ef_197
              obtain ⟨z_198, ez_198⟩ : ∃ y : Int32, y = g_104_l3 + Int32.ofInt (1) := ⟨_, rfl⟩
              have kz_198 : z_198.toInt = g_104_l3.toInt + (1) := ti_add ez_198 rfl (by decide) (by omega) (by omega)
              refine lv_iinc (v := z_198) (lv' := [(3, .int z_198), (5, .int g_184_l5), (4, .int z_161), (2, .int z_1), (0, .ref co), (1, .int vp)]) hx hb dX0_middleKept_79 hl (k := 2) rfl (ez_198.symm) (by decide) rfl (fun ls hl => ?_)
              clear ez_198
              refine lv_goto (tgt := 9) hx hb dX0_middleKept_82 (by decide) ?_
              exact ih105 z_198 f_197 (by omega) (by omega) _ _ (hP.sub [0, 1, 2, 3] rfl) (hD.sub [0, 1, 2, 3] (by decide) rfl) hS _ (lv_sub hl [0, 3, 4, 5] rfl)
            refine lv_if_le (tgt := 70) hx hb dX0_middleKept_31 (by decide) (fun c_199 => ?_) (fun c_199 => ?_)
            · have kc_199 := il_le c_199
              have := (by decide : (0 : Int32).toInt = 0)
              exact join_196  _ _ (hP.sub [0, 1, 2, 3] rfl) (hD.sub [0, 1, 2, 3] (by decide) rfl) hS _ (lv_sub hl [0, 1, 2, 3, 4, 5] rfl)
            · have kc_199 := il_nle c_199
              have := (by decide : (0 : Int32).toInt = 0)
              refine lv_aload_n hx hb dX0_middleKept_34 rfl (lv_at hl 4 rfl) ?_
              refine va_get (D := (dC, dI)) (ci := 0) (v := .ref co_sorted) (C := RX0) (T := TX0) (N := 14) hx hb hT inX0 hown hK hP 0 rfl rfl 13 (by decide) (hT _ mw_2_127) (fun _ h9 => h9) rfl dX0_middleKept_35 ?_
              refine lv_iload hx hb dX0_middleKept_38 (lv_at hl 0 rfl) ?_
              refine lv_iconst (v := 1) hx hb dX0_middleKept_40 (by decide) ?_
              refine lv_isub hx hb dX0_middleKept_41 ?_
              refine lv_topi (fun z_200 ez_200 => ?_)
              have kz_200 : z_200.toInt = g_184_l5.toInt - 1 := ti_sub ez_200 rfl (by decide) (by omega) (by omega)
              clear ez_200
              refine va_iald hx hb hK hP 3 2 rfl rfl (vp_in_iff.mpr (by omega)) dX0_middleKept_42 ?_
              refine lv_topi (fun z_201 ez_201 => ?_)
              refine lv_iload hx hb dX0_middleKept_43 (lv_at hl 1 rfl) ?_
              refine lv_icmp_le (tgt := 70) hx hb dX0_middleKept_45 (by decide) (fun c_202 => ?_) (fun c_202 => ?_)
              · have kc_202 := il_le c_202
                have := Int32.toInt_lt z_201; have := Int32.le_toInt z_201
                have := Int32.toInt_lt z_161; have := Int32.le_toInt z_161
                exact join_196  _ _ (hP.sub [0, 1, 2, 3] rfl) (hD.sub [0, 1, 2, 3] (by decide) rfl) hS _ (lv_sub hl [0, 1, 2, 3, 4, 5] rfl)
              · have kc_202 := il_nle c_202
                have := Int32.toInt_lt z_201; have := Int32.le_toInt z_201
                have := Int32.toInt_lt z_161; have := Int32.le_toInt z_161
                refine lv_aload_n hx hb dX0_middleKept_48 rfl (lv_at hl 4 rfl) ?_
                refine va_get (D := (dC, dI)) (ci := 0) (v := .ref co_sorted) (C := RX0) (T := TX0) (N := 14) hx hb hT inX0 hown hK hP 0 rfl rfl 13 (by decide) (hT _ mw_2_127) (fun _ h9 => h9) rfl dX0_middleKept_49 ?_
                refine lv_iload hx hb dX0_middleKept_52 (lv_at hl 0 rfl) ?_
                refine lv_aload_n hx hb dX0_middleKept_54 rfl (lv_at hl 4 rfl) ?_
                refine va_get (D := (dC, dI)) (ci := 0) (v := .ref co_sorted) (C := RX0) (T := TX0) (N := 14) hx hb hT inX0 hown hK hP 0 rfl rfl 13 (by decide) (hT _ mw_2_127) (fun _ h9 => h9) rfl dX0_middleKept_55 ?_
                refine lv_iload hx hb dX0_middleKept_58 (lv_at hl 0 rfl) ?_
                refine lv_iconst (v := 1) hx hb dX0_middleKept_60 (by decide) ?_
                refine lv_isub hx hb dX0_middleKept_61 ?_
                refine lv_topi (fun z_203 ez_203 => ?_)
                have kz_203 : z_203.toInt = g_184_l5.toInt - 1 := ti_sub ez_203 rfl (by decide) (by omega) (by omega)
                clear ez_203
                refine va_iald hx hb hK hP 3 2 rfl rfl (vp_in_iff.mpr (by omega)) dX0_middleKept_62 ?_
                refine lv_topi (fun z_204 ez_204 => ?_)
                refine va_iast hx hb hK hP hD hS 3 2 rfl rfl (vp_in_iff.mpr (by omega)) dX0_middleKept_63 (fun H locs hP hD hS => ?_)
                have hP : va_P (dC, dI) vwCl [(co, .inr (0, [.ref co_plan, .int co_hour, .int co_passings, .ref co_last, .ref co_passed, .ref co_keptCount, .int co_watched, .int co_widest, .int co_deed, .int co_week, .ref co_off, .ref co_since, .ref co_kept, .ref co_sorted])), (co_keptCount, .inl (k_co_keptCount, 5, .inl f_co_keptCount)), (co_kept, .inl (k_co_kept, 25, .inl f_co_kept)), (co_sorted, .inl (k_co_sorted, 5, .inl (upd g_184_f3 (g_184_l5 : Int32).toNatClampNeg (z_204 : Int32))))] H := hP
                have hD : va_D A [(co, .inr (0, [.ref co_plan, .int co_hour, .int co_passings, .ref co_last, .ref co_passed, .ref co_keptCount, .int co_watched, .int co_widest, .int co_deed, .int co_week, .ref co_off, .ref co_since, .ref co_kept, .ref co_sorted])), (co_keptCount, .inl (k_co_keptCount, 5, .inl f_co_keptCount)), (co_kept, .inl (k_co_kept, 25, .inl f_co_kept)), (co_sorted, .inl (k_co_sorted, 5, .inl (upd g_184_f3 (g_184_l5 : Int32).toNatClampNeg (z_204 : Int32))))] := hD
                obtain ⟨f_205, ef_205⟩ : ∃ g : Nat → Int32, (upd g_184_f3 (g_184_l5 : Int32).toNatClampNeg (z_204 : Int32)) = g := ⟨_, rfl⟩
                rw [ef_205] at hP hD
                clear ef_205
                obtain ⟨z_206, ez_206⟩ : ∃ y : Int32, y = g_184_l5 + Int32.ofInt (-1) := ⟨_, rfl⟩
                have kz_206 : z_206.toInt = g_184_l5.toInt + (-1) := ti_add ez_206 rfl (by decide) (by omega) (by omega)
                refine lv_iinc (v := z_206) (lv' := [(5, .int z_206), (4, .int z_161), (3, .int g_104_l3), (2, .int z_1), (0, .ref co), (1, .int vp)]) hx hb dX0_middleKept_64 hl (k := 0) rfl (ez_206.symm) (by decide) rfl (fun ls hl => ?_)
                clear ez_206
                refine lv_goto (tgt := 29) hx hb dX0_middleKept_67 (by decide) ?_
                exact ih185 z_206 f_205 (by omega) (by omega) _ _ (hP.sub [0, 1, 2, 3] rfl) (hD.sub [0, 1, 2, 3] (by decide) rfl) hS _ (lv_sub hl [0, 1, 2, 3, 4, 5] rfl)
        exact loop_185 4294967296 g_104_l3 g_104_f3 (by omega) (by omega) _ _ (hP.sub [0, 1, 2, 3] rfl) (hD.sub [0, 1, 2, 3] (by decide) rfl) hS _ (lv_sub hl [0, 1, 2, 3, 4, 5] rfl)
  have := (by decide : (0 : Int32).toInt = 0)
  exact loop_105 4294967296 (0 : Int32) f_co_sorted (by decide) (by omega) _ _ (hP.sub [0, 1, 2, 3] rfl) (hD.sub [0, 1, 2, 3] (by decide) rfl) hS _ (lv_sub hl [0, 1, 2, 3] rfl)
