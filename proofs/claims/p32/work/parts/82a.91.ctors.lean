theorem dX6_init_0 : decode cX6_init 0 = .ok (.aload_n 0, 1) := by decide +kernel
theorem dX6_init_1 : decode cX6_init 1 = .ok (.invokespecial 3, 3) := by decide +kernel
theorem dX6_init_4 : decode cX6_init 4 = .ok (.aload_n 0, 1) := by decide +kernel
theorem dX6_init_5 : decode cX6_init 5 = .ok (.bipush 64, 2) := by decide +kernel
theorem dX6_init_7 : decode cX6_init 7 = .ok (.newarray .int, 2) := by decide +kernel
theorem dX6_init_9 : decode cX6_init 9 = .ok (.putfield 9, 3) := by decide +kernel
theorem dX6_init_12 : decode cX6_init 12 = .ok (.aload_n 0, 1) := by decide +kernel
theorem dX6_init_13 : decode cX6_init 13 = .ok (.bipush 64, 2) := by decide +kernel
theorem dX6_init_15 : decode cX6_init 15 = .ok (.newarray .int, 2) := by decide +kernel
theorem dX6_init_17 : decode cX6_init 17 = .ok (.putfield 15, 3) := by decide +kernel
theorem dX6_init_20 : decode cX6_init 20 = .ok (.aload_n 0, 1) := by decide +kernel
theorem dX6_init_21 : decode cX6_init 21 = .ok (.iconst 5, 1) := by decide +kernel
theorem dX6_init_22 : decode cX6_init 22 = .ok (.newarray .int, 2) := by decide +kernel
theorem dX6_init_24 : decode cX6_init 24 = .ok (.putfield 18, 3) := by decide +kernel
theorem dX6_init_27 : decode cX6_init 27 = .ok (.aload_n 0, 1) := by decide +kernel
theorem dX6_init_28 : decode cX6_init 28 = .ok (.iconst 5, 1) := by decide +kernel
theorem dX6_init_29 : decode cX6_init 29 = .ok (.newarray .int, 2) := by decide +kernel
theorem dX6_init_31 : decode cX6_init 31 = .ok (.putfield 21, 3) := by decide +kernel
theorem dX6_init_34 : decode cX6_init 34 = .ok (.aload_n 0, 1) := by decide +kernel
theorem dX6_init_35 : decode cX6_init 35 = .ok (.iconst 5, 1) := by decide +kernel
theorem dX6_init_36 : decode cX6_init 36 = .ok (.newarray .long, 2) := by decide +kernel
theorem dX6_init_38 : decode cX6_init 38 = .ok (.putfield 24, 3) := by decide +kernel
theorem dX6_init_41 : decode cX6_init 41 = .ok (.aload_n 0, 1) := by decide +kernel
theorem dX6_init_42 : decode cX6_init 42 = .ok (.bipush 64, 2) := by decide +kernel
theorem dX6_init_44 : decode cX6_init 44 = .ok (.newarray .long, 2) := by decide +kernel
theorem dX6_init_46 : decode cX6_init 46 = .ok (.putfield 28, 3) := by decide +kernel
theorem dX6_init_49 : decode cX6_init 49 = .ok (.return_, 1) := by decide +kernel
theorem dX3_init_0 : decode cX3_init 0 = .ok (.aload_n 0, 1) := by decide +kernel
theorem dX3_init_1 : decode cX3_init 1 = .ok (.invokespecial 3, 3) := by decide +kernel
theorem dX3_init_4 : decode cX3_init 4 = .ok (.aload_n 0, 1) := by decide +kernel
theorem dX3_init_5 : decode cX3_init 5 = .ok (.bipush 10, 2) := by decide +kernel
theorem dX3_init_7 : decode cX3_init 7 = .ok (.newarray .int, 2) := by decide +kernel
theorem dX3_init_9 : decode cX3_init 9 = .ok (.putfield 9, 3) := by decide +kernel
theorem dX3_init_12 : decode cX3_init 12 = .ok (.aload_n 0, 1) := by decide +kernel
theorem dX3_init_13 : decode cX3_init 13 = .ok (.bipush 10, 2) := by decide +kernel
theorem dX3_init_15 : decode cX3_init 15 = .ok (.newarray .int, 2) := by decide +kernel
theorem dX3_init_17 : decode cX3_init 17 = .ok (.putfield 15, 3) := by decide +kernel
theorem dX3_init_20 : decode cX3_init 20 = .ok (.aload_n 0, 1) := by decide +kernel
theorem dX3_init_21 : decode cX3_init 21 = .ok (.iconst 5, 1) := by decide +kernel
theorem dX3_init_22 : decode cX3_init 22 = .ok (.newarray .int, 2) := by decide +kernel
theorem dX3_init_24 : decode cX3_init 24 = .ok (.putfield 18, 3) := by decide +kernel
theorem dX3_init_27 : decode cX3_init 27 = .ok (.aload_n 0, 1) := by decide +kernel
theorem dX3_init_28 : decode cX3_init 28 = .ok (.iconst 5, 1) := by decide +kernel
theorem dX3_init_29 : decode cX3_init 29 = .ok (.newarray .boolean, 2) := by decide +kernel
theorem dX3_init_31 : decode cX3_init 31 = .ok (.putfield 21, 3) := by decide +kernel
theorem dX3_init_34 : decode cX3_init 34 = .ok (.aload_n 0, 1) := by decide +kernel
theorem dX3_init_35 : decode cX3_init 35 = .ok (.bipush 16, 2) := by decide +kernel
theorem dX3_init_37 : decode cX3_init 37 = .ok (.newarray .int, 2) := by decide +kernel
theorem dX3_init_39 : decode cX3_init 39 = .ok (.putfield 25, 3) := by decide +kernel
theorem dX3_init_42 : decode cX3_init 42 = .ok (.aload_n 0, 1) := by decide +kernel
theorem dX3_init_43 : decode cX3_init 43 = .ok (.bipush 16, 2) := by decide +kernel
theorem dX3_init_45 : decode cX3_init 45 = .ok (.newarray .int, 2) := by decide +kernel
theorem dX3_init_47 : decode cX3_init 47 = .ok (.putfield 28, 3) := by decide +kernel
theorem dX3_init_50 : decode cX3_init 50 = .ok (.aload_n 0, 1) := by decide +kernel
theorem dX3_init_51 : decode cX3_init 51 = .ok (.bipush 16, 2) := by decide +kernel
theorem dX3_init_53 : decode cX3_init 53 = .ok (.newarray .int, 2) := by decide +kernel
theorem dX3_init_55 : decode cX3_init 55 = .ok (.putfield 31, 3) := by decide +kernel
theorem dX3_init_58 : decode cX3_init 58 = .ok (.aload_n 0, 1) := by decide +kernel
theorem dX3_init_59 : decode cX3_init 59 = .ok (.aload_n 1, 1) := by decide +kernel
theorem dX3_init_60 : decode cX3_init 60 = .ok (.putfield 34, 3) := by decide +kernel
theorem dX3_init_63 : decode cX3_init 63 = .ok (.return_, 1) := by decide +kernel
theorem dX0_init_0 : decode cX0_init 0 = .ok (.aload_n 0, 1) := by decide +kernel
theorem dX0_init_1 : decode cX0_init 1 = .ok (.invokespecial 3, 3) := by decide +kernel
theorem dX0_init_4 : decode cX0_init 4 = .ok (.aload_n 0, 1) := by decide +kernel
theorem dX0_init_5 : decode cX0_init 5 = .ok (.iconst 5, 1) := by decide +kernel
theorem dX0_init_6 : decode cX0_init 6 = .ok (.newarray .int, 2) := by decide +kernel
theorem dX0_init_8 : decode cX0_init 8 = .ok (.putfield 9, 3) := by decide +kernel
theorem dX0_init_11 : decode cX0_init 11 = .ok (.aload_n 0, 1) := by decide +kernel
theorem dX0_init_12 : decode cX0_init 12 = .ok (.iconst 5, 1) := by decide +kernel
theorem dX0_init_13 : decode cX0_init 13 = .ok (.newarray .int, 2) := by decide +kernel
theorem dX0_init_15 : decode cX0_init 15 = .ok (.putfield 15, 3) := by decide +kernel
theorem dX0_init_18 : decode cX0_init 18 = .ok (.aload_n 0, 1) := by decide +kernel
theorem dX0_init_19 : decode cX0_init 19 = .ok (.iconst 5, 1) := by decide +kernel
theorem dX0_init_20 : decode cX0_init 20 = .ok (.newarray .int, 2) := by decide +kernel
theorem dX0_init_22 : decode cX0_init 22 = .ok (.putfield 18, 3) := by decide +kernel
theorem dX0_init_25 : decode cX0_init 25 = .ok (.aload_n 0, 1) := by decide +kernel
theorem dX0_init_26 : decode cX0_init 26 = .ok (.bipush 10, 2) := by decide +kernel
theorem dX0_init_28 : decode cX0_init 28 = .ok (.newarray .int, 2) := by decide +kernel
theorem dX0_init_30 : decode cX0_init 30 = .ok (.putfield 21, 3) := by decide +kernel
theorem dX0_init_33 : decode cX0_init 33 = .ok (.aload_n 0, 1) := by decide +kernel
theorem dX0_init_34 : decode cX0_init 34 = .ok (.bipush 10, 2) := by decide +kernel
theorem dX0_init_36 : decode cX0_init 36 = .ok (.newarray .int, 2) := by decide +kernel
theorem dX0_init_38 : decode cX0_init 38 = .ok (.putfield 24, 3) := by decide +kernel
theorem dX0_init_41 : decode cX0_init 41 = .ok (.aload_n 0, 1) := by decide +kernel
theorem dX0_init_42 : decode cX0_init 42 = .ok (.bipush 25, 2) := by decide +kernel
theorem dX0_init_44 : decode cX0_init 44 = .ok (.newarray .int, 2) := by decide +kernel
theorem dX0_init_46 : decode cX0_init 46 = .ok (.putfield 27, 3) := by decide +kernel
theorem dX0_init_49 : decode cX0_init 49 = .ok (.aload_n 0, 1) := by decide +kernel
theorem dX0_init_50 : decode cX0_init 50 = .ok (.iconst 5, 1) := by decide +kernel
theorem dX0_init_51 : decode cX0_init 51 = .ok (.newarray .int, 2) := by decide +kernel
theorem dX0_init_53 : decode cX0_init 53 = .ok (.putfield 30, 3) := by decide +kernel
theorem dX0_init_56 : decode cX0_init 56 = .ok (.aload_n 0, 1) := by decide +kernel
theorem dX0_init_57 : decode cX0_init 57 = .ok (.aload_n 1, 1) := by decide +kernel
theorem dX0_init_58 : decode cX0_init 58 = .ok (.putfield 33, 3) := by decide +kernel
theorem dX0_init_61 : decode cX0_init 61 = .ok (.return_, 1) := by decide +kernel
theorem dX2_init_0 : decode cX2_init 0 = .ok (.aload_n 0, 1) := by decide +kernel
theorem dX2_init_1 : decode cX2_init 1 = .ok (.invokespecial 3, 3) := by decide +kernel
theorem dX2_init_4 : decode cX2_init 4 = .ok (.aload_n 0, 1) := by decide +kernel
theorem dX2_init_5 : decode cX2_init 5 = .ok (.sipush 20000, 3) := by decide +kernel
theorem dX2_init_8 : decode cX2_init 8 = .ok (.newarray .int, 2) := by decide +kernel
theorem dX2_init_10 : decode cX2_init 10 = .ok (.putfield 9, 3) := by decide +kernel
theorem dX2_init_13 : decode cX2_init 13 = .ok (.aload_n 0, 1) := by decide +kernel
theorem dX2_init_14 : decode cX2_init 14 = .ok (.sipush 2000, 3) := by decide +kernel
theorem dX2_init_17 : decode cX2_init 17 = .ok (.newarray .int, 2) := by decide +kernel
theorem dX2_init_19 : decode cX2_init 19 = .ok (.putfield 15, 3) := by decide +kernel
theorem dX2_init_22 : decode cX2_init 22 = .ok (.return_, 1) := by decide +kernel
theorem dX5_init_0 : decode cX5_init 0 = .ok (.aload_n 0, 1) := by decide +kernel
theorem dX5_init_1 : decode cX5_init 1 = .ok (.invokespecial 3, 3) := by decide +kernel
theorem dX5_init_4 : decode cX5_init 4 = .ok (.aload_n 0, 1) := by decide +kernel
theorem dX5_init_5 : decode cX5_init 5 = .ok (.iconst (-1), 1) := by decide +kernel
theorem dX5_init_6 : decode cX5_init 6 = .ok (.putfield 9, 3) := by decide +kernel
theorem dX5_init_9 : decode cX5_init 9 = .ok (.aload_n 0, 1) := by decide +kernel
theorem dX5_init_10 : decode cX5_init 10 = .ok (.bipush 30, 2) := by decide +kernel
theorem dX5_init_12 : decode cX5_init 12 = .ok (.newarray .int, 2) := by decide +kernel
theorem dX5_init_14 : decode cX5_init 14 = .ok (.putfield 15, 3) := by decide +kernel
theorem dX5_init_17 : decode cX5_init 17 = .ok (.aload_n 0, 1) := by decide +kernel
theorem dX5_init_18 : decode cX5_init 18 = .ok (.bipush 30, 2) := by decide +kernel
theorem dX5_init_20 : decode cX5_init 20 = .ok (.newarray .int, 2) := by decide +kernel
theorem dX5_init_22 : decode cX5_init 22 = .ok (.putfield 19, 3) := by decide +kernel
theorem dX5_init_25 : decode cX5_init 25 = .ok (.aload_n 0, 1) := by decide +kernel
theorem dX5_init_26 : decode cX5_init 26 = .ok (.bipush 30, 2) := by decide +kernel
theorem dX5_init_28 : decode cX5_init 28 = .ok (.newarray .int, 2) := by decide +kernel
theorem dX5_init_30 : decode cX5_init 30 = .ok (.putfield 22, 3) := by decide +kernel
theorem dX5_init_33 : decode cX5_init 33 = .ok (.aload_n 0, 1) := by decide +kernel
theorem dX5_init_34 : decode cX5_init 34 = .ok (.bipush 30, 2) := by decide +kernel
theorem dX5_init_36 : decode cX5_init 36 = .ok (.newarray .int, 2) := by decide +kernel
theorem dX5_init_38 : decode cX5_init 38 = .ok (.putfield 25, 3) := by decide +kernel
theorem dX5_init_41 : decode cX5_init 41 = .ok (.aload_n 0, 1) := by decide +kernel
theorem dX5_init_42 : decode cX5_init 42 = .ok (.bipush 30, 2) := by decide +kernel
theorem dX5_init_44 : decode cX5_init 44 = .ok (.newarray .int, 2) := by decide +kernel
theorem dX5_init_46 : decode cX5_init 46 = .ok (.putfield 28, 3) := by decide +kernel
theorem dX5_init_49 : decode cX5_init 49 = .ok (.return_, 1) := by decide +kernel
theorem dX9_init_0 : decode cX9_init 0 = .ok (.aload_n 0, 1) := by decide +kernel
theorem dX9_init_1 : decode cX9_init 1 = .ok (.invokespecial 3, 3) := by decide +kernel
theorem dX9_init_4 : decode cX9_init 4 = .ok (.aload_n 0, 1) := by decide +kernel
theorem dX9_init_5 : decode cX9_init 5 = .ok (.iconst (-1), 1) := by decide +kernel
theorem dX9_init_6 : decode cX9_init 6 = .ok (.putfield 9, 3) := by decide +kernel
theorem dX9_init_9 : decode cX9_init 9 = .ok (.aload_n 0, 1) := by decide +kernel
theorem dX9_init_10 : decode cX9_init 10 = .ok (.bipush 121, 2) := by decide +kernel
theorem dX9_init_12 : decode cX9_init 12 = .ok (.newarray .int, 2) := by decide +kernel
theorem dX9_init_14 : decode cX9_init 14 = .ok (.putfield 15, 3) := by decide +kernel
theorem dX9_init_17 : decode cX9_init 17 = .ok (.return_, 1) := by decide +kernel
theorem dX1_init_0 : decode cX1_init 0 = .ok (.aload_n 0, 1) := by decide +kernel
theorem dX1_init_1 : decode cX1_init 1 = .ok (.invokespecial 3, 3) := by decide +kernel
theorem dX1_init_4 : decode cX1_init 4 = .ok (.aload_n 0, 1) := by decide +kernel
theorem dX1_init_5 : decode cX1_init 5 = .ok (.bipush 10, 2) := by decide +kernel
theorem dX1_init_7 : decode cX1_init 7 = .ok (.newarray .int, 2) := by decide +kernel
theorem dX1_init_9 : decode cX1_init 9 = .ok (.putfield 9, 3) := by decide +kernel
theorem dX1_init_12 : decode cX1_init 12 = .ok (.aload_n 0, 1) := by decide +kernel
theorem dX1_init_13 : decode cX1_init 13 = .ok (.bipush 10, 2) := by decide +kernel
theorem dX1_init_15 : decode cX1_init 15 = .ok (.newarray .int, 2) := by decide +kernel
theorem dX1_init_17 : decode cX1_init 17 = .ok (.putfield 15, 3) := by decide +kernel
theorem dX1_init_20 : decode cX1_init 20 = .ok (.aload_n 0, 1) := by decide +kernel
theorem dX1_init_21 : decode cX1_init 21 = .ok (.bipush 10, 2) := by decide +kernel
theorem dX1_init_23 : decode cX1_init 23 = .ok (.newarray .int, 2) := by decide +kernel
theorem dX1_init_25 : decode cX1_init 25 = .ok (.putfield 18, 3) := by decide +kernel
theorem dX1_init_28 : decode cX1_init 28 = .ok (.aload_n 0, 1) := by decide +kernel
theorem dX1_init_29 : decode cX1_init 29 = .ok (.bipush 10, 2) := by decide +kernel
theorem dX1_init_31 : decode cX1_init 31 = .ok (.newarray .int, 2) := by decide +kernel
theorem dX1_init_33 : decode cX1_init 33 = .ok (.putfield 21, 3) := by decide +kernel
theorem dX1_init_36 : decode cX1_init 36 = .ok (.aload_n 0, 1) := by decide +kernel
theorem dX1_init_37 : decode cX1_init 37 = .ok (.iconst (-1), 1) := by decide +kernel
theorem dX1_init_38 : decode cX1_init 38 = .ok (.putfield 24, 3) := by decide +kernel
theorem dX1_init_41 : decode cX1_init 41 = .ok (.aload_n 0, 1) := by decide +kernel
theorem dX1_init_42 : decode cX1_init 42 = .ok (.iconst (-1), 1) := by decide +kernel
theorem dX1_init_43 : decode cX1_init 43 = .ok (.putfield 28, 3) := by decide +kernel
theorem dX1_init_46 : decode cX1_init 46 = .ok (.aload_n 0, 1) := by decide +kernel
theorem dX1_init_47 : decode cX1_init 47 = .ok (.iconst (-1), 1) := by decide +kernel
theorem dX1_init_48 : decode cX1_init 48 = .ok (.putfield 31, 3) := by decide +kernel
theorem dX1_init_51 : decode cX1_init 51 = .ok (.return_, 1) := by decide +kernel
theorem dX8_init_0 : decode cX8_init 0 = .ok (.aload_n 0, 1) := by decide +kernel
theorem dX8_init_1 : decode cX8_init 1 = .ok (.invokespecial 3, 3) := by decide +kernel
theorem dX8_init_4 : decode cX8_init 4 = .ok (.aload_n 0, 1) := by decide +kernel
theorem dX8_init_5 : decode cX8_init 5 = .ok (.bipush 10, 2) := by decide +kernel
theorem dX8_init_7 : decode cX8_init 7 = .ok (.newarray .int, 2) := by decide +kernel
theorem dX8_init_9 : decode cX8_init 9 = .ok (.putfield 9, 3) := by decide +kernel
theorem dX8_init_12 : decode cX8_init 12 = .ok (.aload_n 0, 1) := by decide +kernel
theorem dX8_init_13 : decode cX8_init 13 = .ok (.bipush 10, 2) := by decide +kernel
theorem dX8_init_15 : decode cX8_init 15 = .ok (.newarray .int, 2) := by decide +kernel
theorem dX8_init_17 : decode cX8_init 17 = .ok (.putfield 15, 3) := by decide +kernel
theorem dX8_init_20 : decode cX8_init 20 = .ok (.aload_n 0, 1) := by decide +kernel
theorem dX8_init_21 : decode cX8_init 21 = .ok (.bipush 10, 2) := by decide +kernel
theorem dX8_init_23 : decode cX8_init 23 = .ok (.newarray .int, 2) := by decide +kernel
theorem dX8_init_25 : decode cX8_init 25 = .ok (.putfield 18, 3) := by decide +kernel
theorem dX8_init_28 : decode cX8_init 28 = .ok (.aload_n 0, 1) := by decide +kernel
theorem dX8_init_29 : decode cX8_init 29 = .ok (.bipush 10, 2) := by decide +kernel
theorem dX8_init_31 : decode cX8_init 31 = .ok (.newarray .int, 2) := by decide +kernel
theorem dX8_init_33 : decode cX8_init 33 = .ok (.putfield 21, 3) := by decide +kernel
theorem dX8_init_36 : decode cX8_init 36 = .ok (.aload_n 0, 1) := by decide +kernel
theorem dX8_init_37 : decode cX8_init 37 = .ok (.iconst 5, 1) := by decide +kernel
theorem dX8_init_38 : decode cX8_init 38 = .ok (.newarray .int, 2) := by decide +kernel
theorem dX8_init_40 : decode cX8_init 40 = .ok (.putfield 24, 3) := by decide +kernel
theorem dX8_init_43 : decode cX8_init 43 = .ok (.aload_n 0, 1) := by decide +kernel
theorem dX8_init_44 : decode cX8_init 44 = .ok (.iconst 5, 1) := by decide +kernel
theorem dX8_init_45 : decode cX8_init 45 = .ok (.newarray .int, 2) := by decide +kernel
theorem dX8_init_47 : decode cX8_init 47 = .ok (.putfield 27, 3) := by decide +kernel
theorem dX8_init_50 : decode cX8_init 50 = .ok (.aload_n 0, 1) := by decide +kernel
theorem dX8_init_51 : decode cX8_init 51 = .ok (.iconst 5, 1) := by decide +kernel
theorem dX8_init_52 : decode cX8_init 52 = .ok (.newarray .int, 2) := by decide +kernel
theorem dX8_init_54 : decode cX8_init 54 = .ok (.putfield 30, 3) := by decide +kernel
theorem dX8_init_57 : decode cX8_init 57 = .ok (.aload_n 0, 1) := by decide +kernel
theorem dX8_init_58 : decode cX8_init 58 = .ok (.bipush 12, 2) := by decide +kernel
theorem dX8_init_60 : decode cX8_init 60 = .ok (.newarray .int, 2) := by decide +kernel
theorem dX8_init_62 : decode cX8_init 62 = .ok (.putfield 33, 3) := by decide +kernel
theorem dX8_init_65 : decode cX8_init 65 = .ok (.aload_n 0, 1) := by decide +kernel
theorem dX8_init_66 : decode cX8_init 66 = .ok (.bipush 12, 2) := by decide +kernel
theorem dX8_init_68 : decode cX8_init 68 = .ok (.newarray .int, 2) := by decide +kernel
theorem dX8_init_70 : decode cX8_init 70 = .ok (.putfield 36, 3) := by decide +kernel
theorem dX8_init_73 : decode cX8_init 73 = .ok (.aload_n 0, 1) := by decide +kernel
theorem dX8_init_74 : decode cX8_init 74 = .ok (.bipush 12, 2) := by decide +kernel
theorem dX8_init_76 : decode cX8_init 76 = .ok (.newarray .int, 2) := by decide +kernel
theorem dX8_init_78 : decode cX8_init 78 = .ok (.putfield 39, 3) := by decide +kernel
theorem dX8_init_81 : decode cX8_init 81 = .ok (.aload_n 0, 1) := by decide +kernel
theorem dX8_init_82 : decode cX8_init 82 = .ok (.iconst 3, 1) := by decide +kernel
theorem dX8_init_83 : decode cX8_init 83 = .ok (.newarray .int, 2) := by decide +kernel
theorem dX8_init_85 : decode cX8_init 85 = .ok (.putfield 42, 3) := by decide +kernel
theorem dX8_init_88 : decode cX8_init 88 = .ok (.aload_n 0, 1) := by decide +kernel
theorem dX8_init_89 : decode cX8_init 89 = .ok (.iconst 3, 1) := by decide +kernel
theorem dX8_init_90 : decode cX8_init 90 = .ok (.newarray .int, 2) := by decide +kernel
theorem dX8_init_92 : decode cX8_init 92 = .ok (.putfield 45, 3) := by decide +kernel
theorem dX8_init_95 : decode cX8_init 95 = .ok (.aload_n 0, 1) := by decide +kernel
theorem dX8_init_96 : decode cX8_init 96 = .ok (.new 48, 3) := by decide +kernel
theorem dX8_init_99 : decode cX8_init 99 = .ok (.dup, 1) := by decide +kernel
theorem dX8_init_100 : decode cX8_init 100 = .ok (.invokespecial 50, 3) := by decide +kernel
theorem dX8_init_103 : decode cX8_init 103 = .ok (.putfield 51, 3) := by decide +kernel
theorem dX8_init_106 : decode cX8_init 106 = .ok (.return_, 1) := by decide +kernel
abbrev q_X6_init (dC : Nat → ClassId) (dI : Nat → Nat → Nat) (A : Nat → Prop) (ob : Nat) : Array Value → State → Outcome → State → Prop := va_Qv (fun _ : Unit => True) (fun (_ : Unit) (t : State) => ∃ (b_kind : Nat), ∃ (b_number : Nat), ∃ (b_from : Nat), ∃ (b_until : Nat), ∃ (b_names : Nat), ∃ (b_stack : Nat), ∃ (kb_kind : ClassId), ∃ (kb_number : ClassId), ∃ (kb_from : ClassId), ∃ (kb_until : ClassId), ∃ (kb_names : ClassId), ∃ (kb_stack : ClassId), va_K (dC, dI) vwCl [(kb_kind, .int), (kb_number, .int), (kb_from, .int), (kb_until, .int), (kb_names, .long), (kb_stack, .long)] t ∧ va_P (dC, dI) vwCl [(ob, .inr (6, [.int 0, .ref b_kind, .ref b_number, .ref b_from, .ref b_until, .ref b_names, .ref b_stack])), (b_kind, .inl (kb_kind, 64, .inl (fun _ => 0))), (b_number, .inl (kb_number, 64, .inl (fun _ => 0))), (b_from, .inl (kb_from, 5, .inl (fun _ => 0))), (b_until, .inl (kb_until, 5, .inl (fun _ => 0))), (b_names, .inl (kb_names, 5, .inr (.inl (fun _ => 0)))), (b_stack, .inl (kb_stack, 64, .inr (.inl (fun _ => 0))))] t.heap ∧ va_D A [(ob, .inr (6, [.int 0, .ref b_kind, .ref b_number, .ref b_from, .ref b_until, .ref b_names, .ref b_stack])), (b_kind, .inl (kb_kind, 64, .inl (fun _ => 0))), (b_number, .inl (kb_number, 64, .inl (fun _ => 0))), (b_from, .inl (kb_from, 5, .inl (fun _ => 0))), (b_until, .inl (kb_until, 5, .inl (fun _ => 0))), (b_names, .inl (kb_names, 5, .inr (.inl (fun _ => 0)))), (b_stack, .inl (kb_stack, 64, .inr (.inl (fun _ => 0))))]) A
set_option maxHeartbeats 4000000 in
set_option maxRecDepth 100000 in
theorem c_X6_init (l : Launch) (dC : Nat → ClassId) (dI : Nat → Nat → Nat) (sz : Nat) (ob : Nat)  : Met l yX6_init (pw_w yX6_init cX6_init 1 none) ({ frames := 1, cells := 6, slots := 207, locals := 20 }) (va_Pc [.ref ob] (fun U => U.heap.size = sz ∧ va_P (dC, dI) vwCl [(ob, .inr (6, [.int 0, .null, .null, .null, .null, .null, .null]))] U.heap ∧ va_K (dC, dI) vwCl [] U ∧ va_D (fun _ => True) [(ob, .inr (6, [.int 0, .null, .null, .null, .null, .null, .null]))])) (q_X6_init dC dI (va_A [(ob, .inr (6, [.int 0, .null, .null, .null, .null, .null, .null]))] sz) ob) 6 207 (va_A [(ob, .inr (6, [.int 0, .null, .null, .null, .null, .null, .null]))] sz) := by
  refine Met.ofW (cc := cX6_init) (maxL := 1) (ret := none) (by decide) rfl ?_
  intro p e s m args below meth c s₁ B hml hv
  obtain ⟨rfl, hsz, hP, hK, hD0⟩ := hv
  have hx := B.exec
  have hb := B.bytes
  have hr := B.returns
  have hts := atoms_spec (ws := (pw_w yX6_init cX6_init 1 none)) B.pre
  have hT : ∀ w ∈ pw_T, w.before _ s = true := fun w h => hts w (List.mem_cons_of_mem _ h)
  have hown : s.vm.findClass RX6 = some m.cls := findClass_of_methodNamed B.named
  have hlocks := B.notSynchronized
  have hin : meth.name = "<init>" := (name_of_methodNamed B.named B.method).1
  subst hsz
  have hD := hD0.self (sz := s.heap.size)
  generalize hAe : va_A [(ob, .inr (6, [.int 0, .null, .null, .null, .null, .null, .null]))] s.heap.size = A at hD ⊢
  have hA : ∀ q : Nat, s.heap.size ≤ q → A q := fun q h => by rw [← hAe]; exact Or.inr h
  have hS : va_S A s.heap s.heap [] := va_S.rf
  have hP : va_P (dC, dI) vwCl [(ob, .inr (6, [.int 0, .null, .null, .null, .null, .null, .null]))] s.heap := hP
  have hl := lv_entry ([.ref ob]) (n := 1) (Nat.le_of_ble_eq_true rfl)
  rw [lg_entry_eq]
  generalize (lg_sl ([.ref ob]) ++ List.replicate (1 - (lg_sl ([.ref ob])).length) Slot.unset).toArray = ls at hl ⊢
  have hl : lv_has ls 1 [(0, .ref ob)] := hl
  refine lv_aload_n hx hb dX6_init_0 rfl (lv_at hl 0 rfl) ?_
  refine W.objInit hx hb hown (hT _ mw_1_162) (hT _ mw_1_32) (hT _ mw_1_33) rfl (by rw [hml]; exact hl.1) rfl dX6_init_1 (Nat.le_of_ble_eq_true rfl) (Nat.le_of_ble_eq_true rfl) ?_
  refine W.eq (g2 := F0 m 4 ls []) rfl ?_
  refine lv_aload_n hx hb dX6_init_4 rfl (lv_at hl 0 rfl) ?_
  refine lv_bipush (v := 64) hx hb dX6_init_5 (by decide) ?_
  refine va_newa (atype := .int) (ty := .int) (a0 := (64, .inl (fun _ => 0))) hx hb (hT _ mw_1_122) rfl hK hP hD hS hA (fun _ => rfl) (by decide) (by decide) (by decide) (Nat.le_of_ble_eq_true rfl) (Nat.le_of_ble_eq_true rfl) dX6_init_7 (fun q_1 cA_2 H hK hP hD hS => ?_)
  have hP : va_P (dC, dI) vwCl [(ob, .inr (6, [.int 0, .null, .null, .null, .null, .null, .null])), (q_1, .inl (cA_2, 64, .inl (fun _ => 0)))] H := hP
  have hD : va_D A [(ob, .inr (6, [.int 0, .null, .null, .null, .null, .null, .null])), (q_1, .inl (cA_2, 64, .inl (fun _ => 0)))] := hD
  have hK : va_K (dC, dI) vwCl [(cA_2, .int)] s := hK
  refine W.widen (k := 1) (n := 64) (Nat.le_of_ble_eq_true rfl) (Nat.le_of_ble_eq_true rfl) ?_
  refine va_putF (D := (dC, dI)) (ci := 6) (v := .ref q_1) (ty := (.array .int)) (C := RX6) (T := TX6) (N := 7) hx hb hT inX6 tyX6 tyX6_ok nmX6 hown hK hP hD hS 0 rfl rfl 1 (by decide) (hT _ mw_1_166) (fun _ h9 => h9) rfl hin rfl (by decide +kernel) rfl rfl (Nat.le_of_ble_eq_true rfl) dX6_init_9 (fun H locs hP hD hS => ?_)
  have hP : va_P (dC, dI) vwCl [(ob, .inr (6, [.int 0, .ref q_1, .null, .null, .null, .null, .null])), (q_1, .inl (cA_2, 64, .inl (fun _ => 0)))] H := hP
  have hD : va_D A [(ob, .inr (6, [.int 0, .ref q_1, .null, .null, .null, .null, .null])), (q_1, .inl (cA_2, 64, .inl (fun _ => 0)))] := hD
  refine lv_aload_n hx hb dX6_init_12 rfl (lv_at hl 0 rfl) ?_
  refine lv_bipush (v := 64) hx hb dX6_init_13 (by decide) ?_
  refine va_newa (atype := .int) (ty := .int) (a0 := (64, .inl (fun _ => 0))) hx hb (hT _ mw_1_122) rfl hK hP hD hS hA (fun _ => rfl) (by decide) (by decide) (by decide) (Nat.le_of_ble_eq_true rfl) (Nat.le_of_ble_eq_true rfl) dX6_init_15 (fun q_3 cA_4 H hK hP hD hS => ?_)
  have hP : va_P (dC, dI) vwCl [(ob, .inr (6, [.int 0, .ref q_1, .null, .null, .null, .null, .null])), (q_1, .inl (cA_2, 64, .inl (fun _ => 0))), (q_3, .inl (cA_4, 64, .inl (fun _ => 0)))] H := hP
  have hD : va_D A [(ob, .inr (6, [.int 0, .ref q_1, .null, .null, .null, .null, .null])), (q_1, .inl (cA_2, 64, .inl (fun _ => 0))), (q_3, .inl (cA_4, 64, .inl (fun _ => 0)))] := hD
  have hK : va_K (dC, dI) vwCl [(cA_2, .int), (cA_4, .int)] s := hK
  refine W.widen (k := 2) (n := 128) (Nat.le_of_ble_eq_true rfl) (Nat.le_of_ble_eq_true rfl) ?_
  refine va_putF (D := (dC, dI)) (ci := 6) (v := .ref q_3) (ty := (.array .int)) (C := RX6) (T := TX6) (N := 7) hx hb hT inX6 tyX6 tyX6_ok nmX6 hown hK hP hD hS 0 rfl rfl 2 (by decide) (hT _ mw_1_167) (fun _ h9 => h9) rfl hin rfl (by decide +kernel) rfl rfl (Nat.le_of_ble_eq_true rfl) dX6_init_17 (fun H locs hP hD hS => ?_)
  have hP : va_P (dC, dI) vwCl [(ob, .inr (6, [.int 0, .ref q_1, .ref q_3, .null, .null, .null, .null])), (q_1, .inl (cA_2, 64, .inl (fun _ => 0))), (q_3, .inl (cA_4, 64, .inl (fun _ => 0)))] H := hP
  have hD : va_D A [(ob, .inr (6, [.int 0, .ref q_1, .ref q_3, .null, .null, .null, .null])), (q_1, .inl (cA_2, 64, .inl (fun _ => 0))), (q_3, .inl (cA_4, 64, .inl (fun _ => 0)))] := hD
  refine lv_aload_n hx hb dX6_init_20 rfl (lv_at hl 0 rfl) ?_
  refine lv_iconst (v := 5) hx hb dX6_init_21 (by decide) ?_
  refine va_newa (atype := .int) (ty := .int) (a0 := (5, .inl (fun _ => 0))) hx hb (hT _ mw_1_122) rfl hK hP hD hS hA (fun _ => rfl) (by decide) (by decide) (by decide) (Nat.le_of_ble_eq_true rfl) (Nat.le_of_ble_eq_true rfl) dX6_init_22 (fun q_5 cA_6 H hK hP hD hS => ?_)
  have hP : va_P (dC, dI) vwCl [(ob, .inr (6, [.int 0, .ref q_1, .ref q_3, .null, .null, .null, .null])), (q_1, .inl (cA_2, 64, .inl (fun _ => 0))), (q_3, .inl (cA_4, 64, .inl (fun _ => 0))), (q_5, .inl (cA_6, 5, .inl (fun _ => 0)))] H := hP
  have hD : va_D A [(ob, .inr (6, [.int 0, .ref q_1, .ref q_3, .null, .null, .null, .null])), (q_1, .inl (cA_2, 64, .inl (fun _ => 0))), (q_3, .inl (cA_4, 64, .inl (fun _ => 0))), (q_5, .inl (cA_6, 5, .inl (fun _ => 0)))] := hD
  have hK : va_K (dC, dI) vwCl [(cA_2, .int), (cA_4, .int), (cA_6, .int)] s := hK
  refine W.widen (k := 3) (n := 133) (Nat.le_of_ble_eq_true rfl) (Nat.le_of_ble_eq_true rfl) ?_
  refine va_putF (D := (dC, dI)) (ci := 6) (v := .ref q_5) (ty := (.array .int)) (C := RX6) (T := TX6) (N := 7) hx hb hT inX6 tyX6 tyX6_ok nmX6 hown hK hP hD hS 0 rfl rfl 3 (by decide) (hT _ mw_1_168) (fun _ h9 => h9) rfl hin rfl (by decide +kernel) rfl rfl (Nat.le_of_ble_eq_true rfl) dX6_init_24 (fun H locs hP hD hS => ?_)
  have hP : va_P (dC, dI) vwCl [(ob, .inr (6, [.int 0, .ref q_1, .ref q_3, .ref q_5, .null, .null, .null])), (q_1, .inl (cA_2, 64, .inl (fun _ => 0))), (q_3, .inl (cA_4, 64, .inl (fun _ => 0))), (q_5, .inl (cA_6, 5, .inl (fun _ => 0)))] H := hP
  have hD : va_D A [(ob, .inr (6, [.int 0, .ref q_1, .ref q_3, .ref q_5, .null, .null, .null])), (q_1, .inl (cA_2, 64, .inl (fun _ => 0))), (q_3, .inl (cA_4, 64, .inl (fun _ => 0))), (q_5, .inl (cA_6, 5, .inl (fun _ => 0)))] := hD
  refine lv_aload_n hx hb dX6_init_27 rfl (lv_at hl 0 rfl) ?_
  refine lv_iconst (v := 5) hx hb dX6_init_28 (by decide) ?_
  refine va_newa (atype := .int) (ty := .int) (a0 := (5, .inl (fun _ => 0))) hx hb (hT _ mw_1_122) rfl hK hP hD hS hA (fun _ => rfl) (by decide) (by decide) (by decide) (Nat.le_of_ble_eq_true rfl) (Nat.le_of_ble_eq_true rfl) dX6_init_29 (fun q_7 cA_8 H hK hP hD hS => ?_)
  have hP : va_P (dC, dI) vwCl [(ob, .inr (6, [.int 0, .ref q_1, .ref q_3, .ref q_5, .null, .null, .null])), (q_1, .inl (cA_2, 64, .inl (fun _ => 0))), (q_3, .inl (cA_4, 64, .inl (fun _ => 0))), (q_5, .inl (cA_6, 5, .inl (fun _ => 0))), (q_7, .inl (cA_8, 5, .inl (fun _ => 0)))] H := hP
  have hD : va_D A [(ob, .inr (6, [.int 0, .ref q_1, .ref q_3, .ref q_5, .null, .null, .null])), (q_1, .inl (cA_2, 64, .inl (fun _ => 0))), (q_3, .inl (cA_4, 64, .inl (fun _ => 0))), (q_5, .inl (cA_6, 5, .inl (fun _ => 0))), (q_7, .inl (cA_8, 5, .inl (fun _ => 0)))] := hD
  have hK : va_K (dC, dI) vwCl [(cA_2, .int), (cA_4, .int), (cA_6, .int), (cA_8, .int)] s := hK
  refine W.widen (k := 4) (n := 138) (Nat.le_of_ble_eq_true rfl) (Nat.le_of_ble_eq_true rfl) ?_
  refine va_putF (D := (dC, dI)) (ci := 6) (v := .ref q_7) (ty := (.array .int)) (C := RX6) (T := TX6) (N := 7) hx hb hT inX6 tyX6 tyX6_ok nmX6 hown hK hP hD hS 0 rfl rfl 4 (by decide) (hT _ mw_1_170) (fun _ h9 => h9) rfl hin rfl (by decide +kernel) rfl rfl (Nat.le_of_ble_eq_true rfl) dX6_init_31 (fun H locs hP hD hS => ?_)
  have hP : va_P (dC, dI) vwCl [(ob, .inr (6, [.int 0, .ref q_1, .ref q_3, .ref q_5, .ref q_7, .null, .null])), (q_1, .inl (cA_2, 64, .inl (fun _ => 0))), (q_3, .inl (cA_4, 64, .inl (fun _ => 0))), (q_5, .inl (cA_6, 5, .inl (fun _ => 0))), (q_7, .inl (cA_8, 5, .inl (fun _ => 0)))] H := hP
  have hD : va_D A [(ob, .inr (6, [.int 0, .ref q_1, .ref q_3, .ref q_5, .ref q_7, .null, .null])), (q_1, .inl (cA_2, 64, .inl (fun _ => 0))), (q_3, .inl (cA_4, 64, .inl (fun _ => 0))), (q_5, .inl (cA_6, 5, .inl (fun _ => 0))), (q_7, .inl (cA_8, 5, .inl (fun _ => 0)))] := hD
  refine lv_aload_n hx hb dX6_init_34 rfl (lv_at hl 0 rfl) ?_
  refine lv_iconst (v := 5) hx hb dX6_init_35 (by decide) ?_
  refine va_newa (atype := .long) (ty := .long) (a0 := (5, .inr (.inl (fun _ => 0)))) hx hb (hT _ mw_1_189) rfl hK hP hD hS hA (fun _ => rfl) (by decide) (by decide) (by decide) (Nat.le_of_ble_eq_true rfl) (Nat.le_of_ble_eq_true rfl) dX6_init_36 (fun q_9 cA_10 H hK hP hD hS => ?_)
  have hP : va_P (dC, dI) vwCl [(ob, .inr (6, [.int 0, .ref q_1, .ref q_3, .ref q_5, .ref q_7, .null, .null])), (q_1, .inl (cA_2, 64, .inl (fun _ => 0))), (q_3, .inl (cA_4, 64, .inl (fun _ => 0))), (q_5, .inl (cA_6, 5, .inl (fun _ => 0))), (q_7, .inl (cA_8, 5, .inl (fun _ => 0))), (q_9, .inl (cA_10, 5, .inr (.inl (fun _ => 0))))] H := hP
  have hD : va_D A [(ob, .inr (6, [.int 0, .ref q_1, .ref q_3, .ref q_5, .ref q_7, .null, .null])), (q_1, .inl (cA_2, 64, .inl (fun _ => 0))), (q_3, .inl (cA_4, 64, .inl (fun _ => 0))), (q_5, .inl (cA_6, 5, .inl (fun _ => 0))), (q_7, .inl (cA_8, 5, .inl (fun _ => 0))), (q_9, .inl (cA_10, 5, .inr (.inl (fun _ => 0))))] := hD
  have hK : va_K (dC, dI) vwCl [(cA_2, .int), (cA_4, .int), (cA_6, .int), (cA_8, .int), (cA_10, .long)] s := hK
  refine W.widen (k := 5) (n := 143) (Nat.le_of_ble_eq_true rfl) (Nat.le_of_ble_eq_true rfl) ?_
  refine va_putF (D := (dC, dI)) (ci := 6) (v := .ref q_9) (ty := (.array .long)) (C := RX6) (T := TX6) (N := 7) hx hb hT inX6 tyX6 tyX6_ok nmX6 hown hK hP hD hS 0 rfl rfl 5 (by decide) (hT _ mw_1_172) (fun _ h9 => h9) rfl hin rfl (by decide +kernel) rfl rfl (Nat.le_of_ble_eq_true rfl) dX6_init_38 (fun H locs hP hD hS => ?_)
  have hP : va_P (dC, dI) vwCl [(ob, .inr (6, [.int 0, .ref q_1, .ref q_3, .ref q_5, .ref q_7, .ref q_9, .null])), (q_1, .inl (cA_2, 64, .inl (fun _ => 0))), (q_3, .inl (cA_4, 64, .inl (fun _ => 0))), (q_5, .inl (cA_6, 5, .inl (fun _ => 0))), (q_7, .inl (cA_8, 5, .inl (fun _ => 0))), (q_9, .inl (cA_10, 5, .inr (.inl (fun _ => 0))))] H := hP
  have hD : va_D A [(ob, .inr (6, [.int 0, .ref q_1, .ref q_3, .ref q_5, .ref q_7, .ref q_9, .null])), (q_1, .inl (cA_2, 64, .inl (fun _ => 0))), (q_3, .inl (cA_4, 64, .inl (fun _ => 0))), (q_5, .inl (cA_6, 5, .inl (fun _ => 0))), (q_7, .inl (cA_8, 5, .inl (fun _ => 0))), (q_9, .inl (cA_10, 5, .inr (.inl (fun _ => 0))))] := hD
  refine lv_aload_n hx hb dX6_init_41 rfl (lv_at hl 0 rfl) ?_
  refine lv_bipush (v := 64) hx hb dX6_init_42 (by decide) ?_
  refine va_newa (atype := .long) (ty := .long) (a0 := (64, .inr (.inl (fun _ => 0)))) hx hb (hT _ mw_1_189) rfl hK hP hD hS hA (fun _ => rfl) (by decide) (by decide) (by decide) (Nat.le_of_ble_eq_true rfl) (Nat.le_of_ble_eq_true rfl) dX6_init_44 (fun q_11 cA_12 H hK hP hD hS => ?_)
  have hP : va_P (dC, dI) vwCl [(ob, .inr (6, [.int 0, .ref q_1, .ref q_3, .ref q_5, .ref q_7, .ref q_9, .null])), (q_1, .inl (cA_2, 64, .inl (fun _ => 0))), (q_3, .inl (cA_4, 64, .inl (fun _ => 0))), (q_5, .inl (cA_6, 5, .inl (fun _ => 0))), (q_7, .inl (cA_8, 5, .inl (fun _ => 0))), (q_9, .inl (cA_10, 5, .inr (.inl (fun _ => 0)))), (q_11, .inl (cA_12, 64, .inr (.inl (fun _ => 0))))] H := hP
  have hD : va_D A [(ob, .inr (6, [.int 0, .ref q_1, .ref q_3, .ref q_5, .ref q_7, .ref q_9, .null])), (q_1, .inl (cA_2, 64, .inl (fun _ => 0))), (q_3, .inl (cA_4, 64, .inl (fun _ => 0))), (q_5, .inl (cA_6, 5, .inl (fun _ => 0))), (q_7, .inl (cA_8, 5, .inl (fun _ => 0))), (q_9, .inl (cA_10, 5, .inr (.inl (fun _ => 0)))), (q_11, .inl (cA_12, 64, .inr (.inl (fun _ => 0))))] := hD
  have hK : va_K (dC, dI) vwCl [(cA_2, .int), (cA_4, .int), (cA_6, .int), (cA_8, .int), (cA_10, .long), (cA_12, .long)] s := hK
  refine W.widen (k := 6) (n := 207) (Nat.le_of_ble_eq_true rfl) (Nat.le_of_ble_eq_true rfl) ?_
  refine va_putF (D := (dC, dI)) (ci := 6) (v := .ref q_11) (ty := (.array .long)) (C := RX6) (T := TX6) (N := 7) hx hb hT inX6 tyX6 tyX6_ok nmX6 hown hK hP hD hS 0 rfl rfl 6 (by decide) (hT _ mw_1_173) (fun _ h9 => h9) rfl hin rfl (by decide +kernel) rfl rfl (Nat.le_of_ble_eq_true rfl) dX6_init_46 (fun H locs hP hD hS => ?_)
  have hP : va_P (dC, dI) vwCl [(ob, .inr (6, [.int 0, .ref q_1, .ref q_3, .ref q_5, .ref q_7, .ref q_9, .ref q_11])), (q_1, .inl (cA_2, 64, .inl (fun _ => 0))), (q_3, .inl (cA_4, 64, .inl (fun _ => 0))), (q_5, .inl (cA_6, 5, .inl (fun _ => 0))), (q_7, .inl (cA_8, 5, .inl (fun _ => 0))), (q_9, .inl (cA_10, 5, .inr (.inl (fun _ => 0)))), (q_11, .inl (cA_12, 64, .inr (.inl (fun _ => 0))))] H := hP
  have hD : va_D A [(ob, .inr (6, [.int 0, .ref q_1, .ref q_3, .ref q_5, .ref q_7, .ref q_9, .ref q_11])), (q_1, .inl (cA_2, 64, .inl (fun _ => 0))), (q_3, .inl (cA_4, 64, .inl (fun _ => 0))), (q_5, .inl (cA_6, 5, .inl (fun _ => 0))), (q_7, .inl (cA_8, 5, .inl (fun _ => 0))), (q_9, .inl (cA_10, 5, .inr (.inl (fun _ => 0)))), (q_11, .inl (cA_12, 64, .inr (.inl (fun _ => 0))))] := hD
  have hP9 := hP.sub (ws' := [(ob, .inr (6, [.int 0, .ref q_1, .ref q_3, .ref q_5, .ref q_7, .ref q_9, .ref q_11])), (q_1, .inl (cA_2, 64, .inl (fun _ => 0))), (q_3, .inl (cA_4, 64, .inl (fun _ => 0))), (q_5, .inl (cA_6, 5, .inl (fun _ => 0))), (q_7, .inl (cA_8, 5, .inl (fun _ => 0))), (q_9, .inl (cA_10, 5, .inr (.inl (fun _ => 0)))), (q_11, .inl (cA_12, 64, .inr (.inl (fun _ => 0))))]) [0, 1, 2, 3, 4, 5, 6] rfl
  have hD9 := hD.sub (ws' := [(ob, .inr (6, [.int 0, .ref q_1, .ref q_3, .ref q_5, .ref q_7, .ref q_9, .ref q_11])), (q_1, .inl (cA_2, 64, .inl (fun _ => 0))), (q_3, .inl (cA_4, 64, .inl (fun _ => 0))), (q_5, .inl (cA_6, 5, .inl (fun _ => 0))), (q_7, .inl (cA_8, 5, .inl (fun _ => 0))), (q_9, .inl (cA_10, 5, .inr (.inl (fun _ => 0)))), (q_11, .inl (cA_12, 64, .inr (.inl (fun _ => 0))))]) [0, 1, 2, 3, 4, 5, 6] (by decide) rfl
  have hK9 := hK.sub (tys' := [(cA_2, .int), (cA_4, .int), (cA_6, .int), (cA_8, .int), (cA_10, .long), (cA_12, .long)]) [0, 1, 2, 3, 4, 5] rfl
  refine W.widen (k := 6) (n := 207) (Nat.le_of_ble_eq_true rfl) (Nat.le_of_ble_eq_true rfl) ?_
  exact W.vret hx hb hr (fun t ht hW => ⟨⟨(), rfl, trivial, q_1, q_3, q_5, q_7, q_9, q_11, cA_2, cA_4, cA_6, cA_8, cA_10, cA_12, va_K.moved hW.alike hK9, by rw [ht]; exact hP9, hD9⟩, hS.F ht⟩) hS.2.2 dX6_init_49
abbrev q_X3_init (dC : Nat → ClassId) (dI : Nat → Nat → Nat) (A : Nat → Prop) (ob : Nat) (td : Nat) : Array Value → State → Outcome → State → Prop := va_Qv (fun _ : Unit => True) (fun (_ : Unit) (t : State) => ∃ (b_first : Nat), ∃ (b_gain : Nat), ∃ (b_custom : Nat), ∃ (b_ruled : Nat), ∃ (b_deedHour : Nat), ∃ (b_deedPerson : Nat), ∃ (b_deedClock : Nat), ∃ (kb_first : ClassId), ∃ (kb_gain : ClassId), ∃ (kb_custom : ClassId), ∃ (kb_ruled : ClassId), ∃ (kb_deedHour : ClassId), ∃ (kb_deedPerson : ClassId), ∃ (kb_deedClock : ClassId), va_K (dC, dI) vwCl [(kb_first, .int), (kb_gain, .int), (kb_custom, .int), (kb_ruled, .boolean), (kb_deedHour, .int), (kb_deedPerson, .int), (kb_deedClock, .int)] t ∧ va_P (dC, dI) vwCl [(ob, .inr (3, [.ref td, .ref b_first, .ref b_gain, .ref b_custom, .ref b_ruled, .int 0, .ref b_deedHour, .ref b_deedPerson, .ref b_deedClock])), (b_first, .inl (kb_first, 10, .inl (fun _ => 0))), (b_gain, .inl (kb_gain, 10, .inl (fun _ => 0))), (b_custom, .inl (kb_custom, 5, .inl (fun _ => 0))), (b_ruled, .inl (kb_ruled, 5, .inl (fun _ => 0))), (b_deedHour, .inl (kb_deedHour, 16, .inl (fun _ => 0))), (b_deedPerson, .inl (kb_deedPerson, 16, .inl (fun _ => 0))), (b_deedClock, .inl (kb_deedClock, 16, .inl (fun _ => 0)))] t.heap ∧ va_D A [(ob, .inr (3, [.ref td, .ref b_first, .ref b_gain, .ref b_custom, .ref b_ruled, .int 0, .ref b_deedHour, .ref b_deedPerson, .ref b_deedClock])), (b_first, .inl (kb_first, 10, .inl (fun _ => 0))), (b_gain, .inl (kb_gain, 10, .inl (fun _ => 0))), (b_custom, .inl (kb_custom, 5, .inl (fun _ => 0))), (b_ruled, .inl (kb_ruled, 5, .inl (fun _ => 0))), (b_deedHour, .inl (kb_deedHour, 16, .inl (fun _ => 0))), (b_deedPerson, .inl (kb_deedPerson, 16, .inl (fun _ => 0))), (b_deedClock, .inl (kb_deedClock, 16, .inl (fun _ => 0)))]) A
set_option maxHeartbeats 4000000 in
set_option maxRecDepth 100000 in
theorem c_X3_init (l : Launch) (dC : Nat → ClassId) (dI : Nat → Nat → Nat) (sz : Nat) (ob : Nat) (td : Nat)  : Met l yX3_init (pw_w yX3_init cX3_init 2 none) ({ frames := 1, cells := 7, slots := 78, locals := 20 }) (va_Pc [.ref ob, .ref td] (fun U => U.heap.size = sz ∧ va_P (dC, dI) vwCl [(ob, .inr (3, [.null, .null, .null, .null, .null, .int 0, .null, .null, .null]))] U.heap ∧ va_K (dC, dI) vwCl [] U ∧ va_D (fun _ => True) [(ob, .inr (3, [.null, .null, .null, .null, .null, .int 0, .null, .null, .null]))])) (q_X3_init dC dI (va_A [(ob, .inr (3, [.null, .null, .null, .null, .null, .int 0, .null, .null, .null]))] sz) ob td) 7 78 (va_A [(ob, .inr (3, [.null, .null, .null, .null, .null, .int 0, .null, .null, .null]))] sz) := by
  refine Met.ofW (cc := cX3_init) (maxL := 2) (ret := none) (by decide) rfl ?_
  intro p e s m args below meth c s₁ B hml hv
  obtain ⟨rfl, hsz, hP, hK, hD0⟩ := hv
  have hx := B.exec
  have hb := B.bytes
  have hr := B.returns
  have hts := atoms_spec (ws := (pw_w yX3_init cX3_init 2 none)) B.pre
  have hT : ∀ w ∈ pw_T, w.before _ s = true := fun w h => hts w (List.mem_cons_of_mem _ h)
  have hown : s.vm.findClass RX3 = some m.cls := findClass_of_methodNamed B.named
  have hlocks := B.notSynchronized
  have hin : meth.name = "<init>" := (name_of_methodNamed B.named B.method).1
  subst hsz
  have hD := hD0.self (sz := s.heap.size)
  generalize hAe : va_A [(ob, .inr (3, [.null, .null, .null, .null, .null, .int 0, .null, .null, .null]))] s.heap.size = A at hD ⊢
  have hA : ∀ q : Nat, s.heap.size ≤ q → A q := fun q h => by rw [← hAe]; exact Or.inr h
  have hS : va_S A s.heap s.heap [] := va_S.rf
  have hP : va_P (dC, dI) vwCl [(ob, .inr (3, [.null, .null, .null, .null, .null, .int 0, .null, .null, .null]))] s.heap := hP
  have hl := lv_entry ([.ref ob, .ref td]) (n := 2) (Nat.le_of_ble_eq_true rfl)
  rw [lg_entry_eq]
  generalize (lg_sl ([.ref ob, .ref td]) ++ List.replicate (2 - (lg_sl ([.ref ob, .ref td])).length) Slot.unset).toArray = ls at hl ⊢
  have hl : lv_has ls 2 [(0, .ref ob), (1, .ref td)] := hl
  refine lv_aload_n hx hb dX3_init_0 rfl (lv_at hl 0 rfl) ?_
  refine W.objInit hx hb hown (hT _ mw_2_57) (hT _ mw_1_32) (hT _ mw_1_33) rfl (by rw [hml]; exact hl.1) rfl dX3_init_1 (Nat.le_of_ble_eq_true rfl) (Nat.le_of_ble_eq_true rfl) ?_
  refine W.eq (g2 := F0 m 4 ls []) rfl ?_
  refine lv_aload_n hx hb dX3_init_4 rfl (lv_at hl 0 rfl) ?_
  refine lv_bipush (v := 10) hx hb dX3_init_5 (by decide) ?_
  refine va_newa (atype := .int) (ty := .int) (a0 := (10, .inl (fun _ => 0))) hx hb (hT _ mw_1_122) rfl hK hP hD hS hA (fun _ => rfl) (by decide) (by decide) (by decide) (Nat.le_of_ble_eq_true rfl) (Nat.le_of_ble_eq_true rfl) dX3_init_7 (fun q_1 cA_2 H hK hP hD hS => ?_)
  have hP : va_P (dC, dI) vwCl [(ob, .inr (3, [.null, .null, .null, .null, .null, .int 0, .null, .null, .null])), (q_1, .inl (cA_2, 10, .inl (fun _ => 0)))] H := hP
  have hD : va_D A [(ob, .inr (3, [.null, .null, .null, .null, .null, .int 0, .null, .null, .null])), (q_1, .inl (cA_2, 10, .inl (fun _ => 0)))] := hD
  have hK : va_K (dC, dI) vwCl [(cA_2, .int)] s := hK
  refine W.widen (k := 1) (n := 10) (Nat.le_of_ble_eq_true rfl) (Nat.le_of_ble_eq_true rfl) ?_
  refine va_putF (D := (dC, dI)) (ci := 3) (v := .ref q_1) (ty := (.array .int)) (C := RX3) (T := TX3) (N := 9) hx hb hT inX3 tyX3 tyX3_ok nmX3 hown hK hP hD hS 0 rfl rfl 1 (by decide) (hT _ mw_2_62) (fun _ h9 => h9) rfl hin rfl (by decide +kernel) rfl rfl (Nat.le_of_ble_eq_true rfl) dX3_init_9 (fun H locs hP hD hS => ?_)
  have hP : va_P (dC, dI) vwCl [(ob, .inr (3, [.null, .ref q_1, .null, .null, .null, .int 0, .null, .null, .null])), (q_1, .inl (cA_2, 10, .inl (fun _ => 0)))] H := hP
  have hD : va_D A [(ob, .inr (3, [.null, .ref q_1, .null, .null, .null, .int 0, .null, .null, .null])), (q_1, .inl (cA_2, 10, .inl (fun _ => 0)))] := hD
  refine lv_aload_n hx hb dX3_init_12 rfl (lv_at hl 0 rfl) ?_
  refine lv_bipush (v := 10) hx hb dX3_init_13 (by decide) ?_
  refine va_newa (atype := .int) (ty := .int) (a0 := (10, .inl (fun _ => 0))) hx hb (hT _ mw_1_122) rfl hK hP hD hS hA (fun _ => rfl) (by decide) (by decide) (by decide) (Nat.le_of_ble_eq_true rfl) (Nat.le_of_ble_eq_true rfl) dX3_init_15 (fun q_3 cA_4 H hK hP hD hS => ?_)
  have hP : va_P (dC, dI) vwCl [(ob, .inr (3, [.null, .ref q_1, .null, .null, .null, .int 0, .null, .null, .null])), (q_1, .inl (cA_2, 10, .inl (fun _ => 0))), (q_3, .inl (cA_4, 10, .inl (fun _ => 0)))] H := hP
  have hD : va_D A [(ob, .inr (3, [.null, .ref q_1, .null, .null, .null, .int 0, .null, .null, .null])), (q_1, .inl (cA_2, 10, .inl (fun _ => 0))), (q_3, .inl (cA_4, 10, .inl (fun _ => 0)))] := hD
  have hK : va_K (dC, dI) vwCl [(cA_2, .int), (cA_4, .int)] s := hK
  refine W.widen (k := 2) (n := 20) (Nat.le_of_ble_eq_true rfl) (Nat.le_of_ble_eq_true rfl) ?_
  refine va_putF (D := (dC, dI)) (ci := 3) (v := .ref q_3) (ty := (.array .int)) (C := RX3) (T := TX3) (N := 9) hx hb hT inX3 tyX3 tyX3_ok nmX3 hown hK hP hD hS 0 rfl rfl 2 (by decide) (hT _ mw_2_64) (fun _ h9 => h9) rfl hin rfl (by decide +kernel) rfl rfl (Nat.le_of_ble_eq_true rfl) dX3_init_17 (fun H locs hP hD hS => ?_)
  have hP : va_P (dC, dI) vwCl [(ob, .inr (3, [.null, .ref q_1, .ref q_3, .null, .null, .int 0, .null, .null, .null])), (q_1, .inl (cA_2, 10, .inl (fun _ => 0))), (q_3, .inl (cA_4, 10, .inl (fun _ => 0)))] H := hP
  have hD : va_D A [(ob, .inr (3, [.null, .ref q_1, .ref q_3, .null, .null, .int 0, .null, .null, .null])), (q_1, .inl (cA_2, 10, .inl (fun _ => 0))), (q_3, .inl (cA_4, 10, .inl (fun _ => 0)))] := hD
  refine lv_aload_n hx hb dX3_init_20 rfl (lv_at hl 0 rfl) ?_
  refine lv_iconst (v := 5) hx hb dX3_init_21 (by decide) ?_
  refine va_newa (atype := .int) (ty := .int) (a0 := (5, .inl (fun _ => 0))) hx hb (hT _ mw_1_122) rfl hK hP hD hS hA (fun _ => rfl) (by decide) (by decide) (by decide) (Nat.le_of_ble_eq_true rfl) (Nat.le_of_ble_eq_true rfl) dX3_init_22 (fun q_5 cA_6 H hK hP hD hS => ?_)
  have hP : va_P (dC, dI) vwCl [(ob, .inr (3, [.null, .ref q_1, .ref q_3, .null, .null, .int 0, .null, .null, .null])), (q_1, .inl (cA_2, 10, .inl (fun _ => 0))), (q_3, .inl (cA_4, 10, .inl (fun _ => 0))), (q_5, .inl (cA_6, 5, .inl (fun _ => 0)))] H := hP
  have hD : va_D A [(ob, .inr (3, [.null, .ref q_1, .ref q_3, .null, .null, .int 0, .null, .null, .null])), (q_1, .inl (cA_2, 10, .inl (fun _ => 0))), (q_3, .inl (cA_4, 10, .inl (fun _ => 0))), (q_5, .inl (cA_6, 5, .inl (fun _ => 0)))] := hD
  have hK : va_K (dC, dI) vwCl [(cA_2, .int), (cA_4, .int), (cA_6, .int)] s := hK
  refine W.widen (k := 3) (n := 25) (Nat.le_of_ble_eq_true rfl) (Nat.le_of_ble_eq_true rfl) ?_
  refine va_putF (D := (dC, dI)) (ci := 3) (v := .ref q_5) (ty := (.array .int)) (C := RX3) (T := TX3) (N := 9) hx hb hT inX3 tyX3 tyX3_ok nmX3 hown hK hP hD hS 0 rfl rfl 3 (by decide) (hT _ mw_2_66) (fun _ h9 => h9) rfl hin rfl (by decide +kernel) rfl rfl (Nat.le_of_ble_eq_true rfl) dX3_init_24 (fun H locs hP hD hS => ?_)
  have hP : va_P (dC, dI) vwCl [(ob, .inr (3, [.null, .ref q_1, .ref q_3, .ref q_5, .null, .int 0, .null, .null, .null])), (q_1, .inl (cA_2, 10, .inl (fun _ => 0))), (q_3, .inl (cA_4, 10, .inl (fun _ => 0))), (q_5, .inl (cA_6, 5, .inl (fun _ => 0)))] H := hP
  have hD : va_D A [(ob, .inr (3, [.null, .ref q_1, .ref q_3, .ref q_5, .null, .int 0, .null, .null, .null])), (q_1, .inl (cA_2, 10, .inl (fun _ => 0))), (q_3, .inl (cA_4, 10, .inl (fun _ => 0))), (q_5, .inl (cA_6, 5, .inl (fun _ => 0)))] := hD
  refine lv_aload_n hx hb dX3_init_27 rfl (lv_at hl 0 rfl) ?_
  refine lv_iconst (v := 5) hx hb dX3_init_28 (by decide) ?_
  refine va_newa (atype := .boolean) (ty := .boolean) (a0 := (5, .inl (fun _ => 0))) hx hb (hT _ mw_2_97) rfl hK hP hD hS hA (fun _ => rfl) (by decide) (by decide) (by decide) (Nat.le_of_ble_eq_true rfl) (Nat.le_of_ble_eq_true rfl) dX3_init_29 (fun q_7 cA_8 H hK hP hD hS => ?_)
  have hP : va_P (dC, dI) vwCl [(ob, .inr (3, [.null, .ref q_1, .ref q_3, .ref q_5, .null, .int 0, .null, .null, .null])), (q_1, .inl (cA_2, 10, .inl (fun _ => 0))), (q_3, .inl (cA_4, 10, .inl (fun _ => 0))), (q_5, .inl (cA_6, 5, .inl (fun _ => 0))), (q_7, .inl (cA_8, 5, .inl (fun _ => 0)))] H := hP
  have hD : va_D A [(ob, .inr (3, [.null, .ref q_1, .ref q_3, .ref q_5, .null, .int 0, .null, .null, .null])), (q_1, .inl (cA_2, 10, .inl (fun _ => 0))), (q_3, .inl (cA_4, 10, .inl (fun _ => 0))), (q_5, .inl (cA_6, 5, .inl (fun _ => 0))), (q_7, .inl (cA_8, 5, .inl (fun _ => 0)))] := hD
  have hK : va_K (dC, dI) vwCl [(cA_2, .int), (cA_4, .int), (cA_6, .int), (cA_8, .boolean)] s := hK
  refine W.widen (k := 4) (n := 30) (Nat.le_of_ble_eq_true rfl) (Nat.le_of_ble_eq_true rfl) ?_
  refine va_putF (D := (dC, dI)) (ci := 3) (v := .ref q_7) (ty := (.array .boolean)) (C := RX3) (T := TX3) (N := 9) hx hb hT inX3 tyX3 tyX3_ok nmX3 hown hK hP hD hS 0 rfl rfl 4 (by decide) (hT _ mw_2_68) (fun _ h9 => h9) rfl hin rfl (by decide +kernel) rfl rfl (Nat.le_of_ble_eq_true rfl) dX3_init_31 (fun H locs hP hD hS => ?_)
  have hP : va_P (dC, dI) vwCl [(ob, .inr (3, [.null, .ref q_1, .ref q_3, .ref q_5, .ref q_7, .int 0, .null, .null, .null])), (q_1, .inl (cA_2, 10, .inl (fun _ => 0))), (q_3, .inl (cA_4, 10, .inl (fun _ => 0))), (q_5, .inl (cA_6, 5, .inl (fun _ => 0))), (q_7, .inl (cA_8, 5, .inl (fun _ => 0)))] H := hP
  have hD : va_D A [(ob, .inr (3, [.null, .ref q_1, .ref q_3, .ref q_5, .ref q_7, .int 0, .null, .null, .null])), (q_1, .inl (cA_2, 10, .inl (fun _ => 0))), (q_3, .inl (cA_4, 10, .inl (fun _ => 0))), (q_5, .inl (cA_6, 5, .inl (fun _ => 0))), (q_7, .inl (cA_8, 5, .inl (fun _ => 0)))] := hD
  refine lv_aload_n hx hb dX3_init_34 rfl (lv_at hl 0 rfl) ?_
  refine lv_bipush (v := 16) hx hb dX3_init_35 (by decide) ?_
  refine va_newa (atype := .int) (ty := .int) (a0 := (16, .inl (fun _ => 0))) hx hb (hT _ mw_1_122) rfl hK hP hD hS hA (fun _ => rfl) (by decide) (by decide) (by decide) (Nat.le_of_ble_eq_true rfl) (Nat.le_of_ble_eq_true rfl) dX3_init_37 (fun q_9 cA_10 H hK hP hD hS => ?_)
  have hP : va_P (dC, dI) vwCl [(ob, .inr (3, [.null, .ref q_1, .ref q_3, .ref q_5, .ref q_7, .int 0, .null, .null, .null])), (q_1, .inl (cA_2, 10, .inl (fun _ => 0))), (q_3, .inl (cA_4, 10, .inl (fun _ => 0))), (q_5, .inl (cA_6, 5, .inl (fun _ => 0))), (q_7, .inl (cA_8, 5, .inl (fun _ => 0))), (q_9, .inl (cA_10, 16, .inl (fun _ => 0)))] H := hP
  have hD : va_D A [(ob, .inr (3, [.null, .ref q_1, .ref q_3, .ref q_5, .ref q_7, .int 0, .null, .null, .null])), (q_1, .inl (cA_2, 10, .inl (fun _ => 0))), (q_3, .inl (cA_4, 10, .inl (fun _ => 0))), (q_5, .inl (cA_6, 5, .inl (fun _ => 0))), (q_7, .inl (cA_8, 5, .inl (fun _ => 0))), (q_9, .inl (cA_10, 16, .inl (fun _ => 0)))] := hD
  have hK : va_K (dC, dI) vwCl [(cA_2, .int), (cA_4, .int), (cA_6, .int), (cA_8, .boolean), (cA_10, .int)] s := hK
  refine W.widen (k := 5) (n := 46) (Nat.le_of_ble_eq_true rfl) (Nat.le_of_ble_eq_true rfl) ?_
  refine va_putF (D := (dC, dI)) (ci := 3) (v := .ref q_9) (ty := (.array .int)) (C := RX3) (T := TX3) (N := 9) hx hb hT inX3 tyX3 tyX3_ok nmX3 hown hK hP hD hS 0 rfl rfl 6 (by decide) (hT _ mw_2_72) (fun _ h9 => h9) rfl hin rfl (by decide +kernel) rfl rfl (Nat.le_of_ble_eq_true rfl) dX3_init_39 (fun H locs hP hD hS => ?_)
  have hP : va_P (dC, dI) vwCl [(ob, .inr (3, [.null, .ref q_1, .ref q_3, .ref q_5, .ref q_7, .int 0, .ref q_9, .null, .null])), (q_1, .inl (cA_2, 10, .inl (fun _ => 0))), (q_3, .inl (cA_4, 10, .inl (fun _ => 0))), (q_5, .inl (cA_6, 5, .inl (fun _ => 0))), (q_7, .inl (cA_8, 5, .inl (fun _ => 0))), (q_9, .inl (cA_10, 16, .inl (fun _ => 0)))] H := hP
  have hD : va_D A [(ob, .inr (3, [.null, .ref q_1, .ref q_3, .ref q_5, .ref q_7, .int 0, .ref q_9, .null, .null])), (q_1, .inl (cA_2, 10, .inl (fun _ => 0))), (q_3, .inl (cA_4, 10, .inl (fun _ => 0))), (q_5, .inl (cA_6, 5, .inl (fun _ => 0))), (q_7, .inl (cA_8, 5, .inl (fun _ => 0))), (q_9, .inl (cA_10, 16, .inl (fun _ => 0)))] := hD
  refine lv_aload_n hx hb dX3_init_42 rfl (lv_at hl 0 rfl) ?_
  refine lv_bipush (v := 16) hx hb dX3_init_43 (by decide) ?_
  refine va_newa (atype := .int) (ty := .int) (a0 := (16, .inl (fun _ => 0))) hx hb (hT _ mw_1_122) rfl hK hP hD hS hA (fun _ => rfl) (by decide) (by decide) (by decide) (Nat.le_of_ble_eq_true rfl) (Nat.le_of_ble_eq_true rfl) dX3_init_45 (fun q_11 cA_12 H hK hP hD hS => ?_)
  have hP : va_P (dC, dI) vwCl [(ob, .inr (3, [.null, .ref q_1, .ref q_3, .ref q_5, .ref q_7, .int 0, .ref q_9, .null, .null])), (q_1, .inl (cA_2, 10, .inl (fun _ => 0))), (q_3, .inl (cA_4, 10, .inl (fun _ => 0))), (q_5, .inl (cA_6, 5, .inl (fun _ => 0))), (q_7, .inl (cA_8, 5, .inl (fun _ => 0))), (q_9, .inl (cA_10, 16, .inl (fun _ => 0))), (q_11, .inl (cA_12, 16, .inl (fun _ => 0)))] H := hP
  have hD : va_D A [(ob, .inr (3, [.null, .ref q_1, .ref q_3, .ref q_5, .ref q_7, .int 0, .ref q_9, .null, .null])), (q_1, .inl (cA_2, 10, .inl (fun _ => 0))), (q_3, .inl (cA_4, 10, .inl (fun _ => 0))), (q_5, .inl (cA_6, 5, .inl (fun _ => 0))), (q_7, .inl (cA_8, 5, .inl (fun _ => 0))), (q_9, .inl (cA_10, 16, .inl (fun _ => 0))), (q_11, .inl (cA_12, 16, .inl (fun _ => 0)))] := hD
  have hK : va_K (dC, dI) vwCl [(cA_2, .int), (cA_4, .int), (cA_6, .int), (cA_8, .boolean), (cA_10, .int), (cA_12, .int)] s := hK
  refine W.widen (k := 6) (n := 62) (Nat.le_of_ble_eq_true rfl) (Nat.le_of_ble_eq_true rfl) ?_
  refine va_putF (D := (dC, dI)) (ci := 3) (v := .ref q_11) (ty := (.array .int)) (C := RX3) (T := TX3) (N := 9) hx hb hT inX3 tyX3 tyX3_ok nmX3 hown hK hP hD hS 0 rfl rfl 7 (by decide) (hT _ mw_2_74) (fun _ h9 => h9) rfl hin rfl (by decide +kernel) rfl rfl (Nat.le_of_ble_eq_true rfl) dX3_init_47 (fun H locs hP hD hS => ?_)
  have hP : va_P (dC, dI) vwCl [(ob, .inr (3, [.null, .ref q_1, .ref q_3, .ref q_5, .ref q_7, .int 0, .ref q_9, .ref q_11, .null])), (q_1, .inl (cA_2, 10, .inl (fun _ => 0))), (q_3, .inl (cA_4, 10, .inl (fun _ => 0))), (q_5, .inl (cA_6, 5, .inl (fun _ => 0))), (q_7, .inl (cA_8, 5, .inl (fun _ => 0))), (q_9, .inl (cA_10, 16, .inl (fun _ => 0))), (q_11, .inl (cA_12, 16, .inl (fun _ => 0)))] H := hP
  have hD : va_D A [(ob, .inr (3, [.null, .ref q_1, .ref q_3, .ref q_5, .ref q_7, .int 0, .ref q_9, .ref q_11, .null])), (q_1, .inl (cA_2, 10, .inl (fun _ => 0))), (q_3, .inl (cA_4, 10, .inl (fun _ => 0))), (q_5, .inl (cA_6, 5, .inl (fun _ => 0))), (q_7, .inl (cA_8, 5, .inl (fun _ => 0))), (q_9, .inl (cA_10, 16, .inl (fun _ => 0))), (q_11, .inl (cA_12, 16, .inl (fun _ => 0)))] := hD
  refine lv_aload_n hx hb dX3_init_50 rfl (lv_at hl 0 rfl) ?_
  refine lv_bipush (v := 16) hx hb dX3_init_51 (by decide) ?_
  refine va_newa (atype := .int) (ty := .int) (a0 := (16, .inl (fun _ => 0))) hx hb (hT _ mw_1_122) rfl hK hP hD hS hA (fun _ => rfl) (by decide) (by decide) (by decide) (Nat.le_of_ble_eq_true rfl) (Nat.le_of_ble_eq_true rfl) dX3_init_53 (fun q_13 cA_14 H hK hP hD hS => ?_)
  have hP : va_P (dC, dI) vwCl [(ob, .inr (3, [.null, .ref q_1, .ref q_3, .ref q_5, .ref q_7, .int 0, .ref q_9, .ref q_11, .null])), (q_1, .inl (cA_2, 10, .inl (fun _ => 0))), (q_3, .inl (cA_4, 10, .inl (fun _ => 0))), (q_5, .inl (cA_6, 5, .inl (fun _ => 0))), (q_7, .inl (cA_8, 5, .inl (fun _ => 0))), (q_9, .inl (cA_10, 16, .inl (fun _ => 0))), (q_11, .inl (cA_12, 16, .inl (fun _ => 0))), (q_13, .inl (cA_14, 16, .inl (fun _ => 0)))] H := hP
  have hD : va_D A [(ob, .inr (3, [.null, .ref q_1, .ref q_3, .ref q_5, .ref q_7, .int 0, .ref q_9, .ref q_11, .null])), (q_1, .inl (cA_2, 10, .inl (fun _ => 0))), (q_3, .inl (cA_4, 10, .inl (fun _ => 0))), (q_5, .inl (cA_6, 5, .inl (fun _ => 0))), (q_7, .inl (cA_8, 5, .inl (fun _ => 0))), (q_9, .inl (cA_10, 16, .inl (fun _ => 0))), (q_11, .inl (cA_12, 16, .inl (fun _ => 0))), (q_13, .inl (cA_14, 16, .inl (fun _ => 0)))] := hD
  have hK : va_K (dC, dI) vwCl [(cA_2, .int), (cA_4, .int), (cA_6, .int), (cA_8, .boolean), (cA_10, .int), (cA_12, .int), (cA_14, .int)] s := hK
  refine W.widen (k := 7) (n := 78) (Nat.le_of_ble_eq_true rfl) (Nat.le_of_ble_eq_true rfl) ?_
  refine va_putF (D := (dC, dI)) (ci := 3) (v := .ref q_13) (ty := (.array .int)) (C := RX3) (T := TX3) (N := 9) hx hb hT inX3 tyX3 tyX3_ok nmX3 hown hK hP hD hS 0 rfl rfl 8 (by decide) (hT _ mw_2_76) (fun _ h9 => h9) rfl hin rfl (by decide +kernel) rfl rfl (Nat.le_of_ble_eq_true rfl) dX3_init_55 (fun H locs hP hD hS => ?_)
  have hP : va_P (dC, dI) vwCl [(ob, .inr (3, [.null, .ref q_1, .ref q_3, .ref q_5, .ref q_7, .int 0, .ref q_9, .ref q_11, .ref q_13])), (q_1, .inl (cA_2, 10, .inl (fun _ => 0))), (q_3, .inl (cA_4, 10, .inl (fun _ => 0))), (q_5, .inl (cA_6, 5, .inl (fun _ => 0))), (q_7, .inl (cA_8, 5, .inl (fun _ => 0))), (q_9, .inl (cA_10, 16, .inl (fun _ => 0))), (q_11, .inl (cA_12, 16, .inl (fun _ => 0))), (q_13, .inl (cA_14, 16, .inl (fun _ => 0)))] H := hP
  have hD : va_D A [(ob, .inr (3, [.null, .ref q_1, .ref q_3, .ref q_5, .ref q_7, .int 0, .ref q_9, .ref q_11, .ref q_13])), (q_1, .inl (cA_2, 10, .inl (fun _ => 0))), (q_3, .inl (cA_4, 10, .inl (fun _ => 0))), (q_5, .inl (cA_6, 5, .inl (fun _ => 0))), (q_7, .inl (cA_8, 5, .inl (fun _ => 0))), (q_9, .inl (cA_10, 16, .inl (fun _ => 0))), (q_11, .inl (cA_12, 16, .inl (fun _ => 0))), (q_13, .inl (cA_14, 16, .inl (fun _ => 0)))] := hD
  refine lv_aload_n hx hb dX3_init_58 rfl (lv_at hl 0 rfl) ?_
  refine lv_aload_n hx hb dX3_init_59 rfl (lv_at hl 1 rfl) ?_
  refine va_put (D := (dC, dI)) (ci := 3) (v := .ref td) (ty := (.object "PassedClocks$Told")) (C := RX3) (T := TX3) (N := 9) hx hb hT inX3 tyX3 tyX3_ok nmX3 hown hK hP hD hS 0 rfl rfl 0 (by decide) (hT _ mw_2_58) (fun _ h9 => h9) rfl (by decide +kernel) rfl rfl (Nat.le_of_ble_eq_true rfl) dX3_init_60 (fun H locs hP hD hS => ?_)
  have hP : va_P (dC, dI) vwCl [(ob, .inr (3, [.ref td, .ref q_1, .ref q_3, .ref q_5, .ref q_7, .int 0, .ref q_9, .ref q_11, .ref q_13])), (q_1, .inl (cA_2, 10, .inl (fun _ => 0))), (q_3, .inl (cA_4, 10, .inl (fun _ => 0))), (q_5, .inl (cA_6, 5, .inl (fun _ => 0))), (q_7, .inl (cA_8, 5, .inl (fun _ => 0))), (q_9, .inl (cA_10, 16, .inl (fun _ => 0))), (q_11, .inl (cA_12, 16, .inl (fun _ => 0))), (q_13, .inl (cA_14, 16, .inl (fun _ => 0)))] H := hP
  have hD : va_D A [(ob, .inr (3, [.ref td, .ref q_1, .ref q_3, .ref q_5, .ref q_7, .int 0, .ref q_9, .ref q_11, .ref q_13])), (q_1, .inl (cA_2, 10, .inl (fun _ => 0))), (q_3, .inl (cA_4, 10, .inl (fun _ => 0))), (q_5, .inl (cA_6, 5, .inl (fun _ => 0))), (q_7, .inl (cA_8, 5, .inl (fun _ => 0))), (q_9, .inl (cA_10, 16, .inl (fun _ => 0))), (q_11, .inl (cA_12, 16, .inl (fun _ => 0))), (q_13, .inl (cA_14, 16, .inl (fun _ => 0)))] := hD
  have hP9 := hP.sub (ws' := [(ob, .inr (3, [.ref td, .ref q_1, .ref q_3, .ref q_5, .ref q_7, .int 0, .ref q_9, .ref q_11, .ref q_13])), (q_1, .inl (cA_2, 10, .inl (fun _ => 0))), (q_3, .inl (cA_4, 10, .inl (fun _ => 0))), (q_5, .inl (cA_6, 5, .inl (fun _ => 0))), (q_7, .inl (cA_8, 5, .inl (fun _ => 0))), (q_9, .inl (cA_10, 16, .inl (fun _ => 0))), (q_11, .inl (cA_12, 16, .inl (fun _ => 0))), (q_13, .inl (cA_14, 16, .inl (fun _ => 0)))]) [0, 1, 2, 3, 4, 5, 6, 7] rfl
  have hD9 := hD.sub (ws' := [(ob, .inr (3, [.ref td, .ref q_1, .ref q_3, .ref q_5, .ref q_7, .int 0, .ref q_9, .ref q_11, .ref q_13])), (q_1, .inl (cA_2, 10, .inl (fun _ => 0))), (q_3, .inl (cA_4, 10, .inl (fun _ => 0))), (q_5, .inl (cA_6, 5, .inl (fun _ => 0))), (q_7, .inl (cA_8, 5, .inl (fun _ => 0))), (q_9, .inl (cA_10, 16, .inl (fun _ => 0))), (q_11, .inl (cA_12, 16, .inl (fun _ => 0))), (q_13, .inl (cA_14, 16, .inl (fun _ => 0)))]) [0, 1, 2, 3, 4, 5, 6, 7] (by decide) rfl
  have hK9 := hK.sub (tys' := [(cA_2, .int), (cA_4, .int), (cA_6, .int), (cA_8, .boolean), (cA_10, .int), (cA_12, .int), (cA_14, .int)]) [0, 1, 2, 3, 4, 5, 6] rfl
  refine W.widen (k := 7) (n := 78) (Nat.le_of_ble_eq_true rfl) (Nat.le_of_ble_eq_true rfl) ?_
  exact W.vret hx hb hr (fun t ht hW => ⟨⟨(), rfl, trivial, q_1, q_3, q_5, q_7, q_9, q_11, q_13, cA_2, cA_4, cA_6, cA_8, cA_10, cA_12, cA_14, va_K.moved hW.alike hK9, by rw [ht]; exact hP9, hD9⟩, hS.F ht⟩) hS.2.2 dX3_init_63
abbrev q_X0_init (dC : Nat → ClassId) (dI : Nat → Nat → Nat) (A : Nat → Prop) (ob : Nat) (pl : Nat) : Array Value → State → Outcome → State → Prop := va_Qv (fun _ : Unit => True) (fun (_ : Unit) (t : State) => ∃ (b_last : Nat), ∃ (b_passed : Nat), ∃ (b_keptCount : Nat), ∃ (b_off : Nat), ∃ (b_since : Nat), ∃ (b_kept : Nat), ∃ (b_sorted : Nat), ∃ (kb_last : ClassId), ∃ (kb_passed : ClassId), ∃ (kb_keptCount : ClassId), ∃ (kb_off : ClassId), ∃ (kb_since : ClassId), ∃ (kb_kept : ClassId), ∃ (kb_sorted : ClassId), va_K (dC, dI) vwCl [(kb_last, .int), (kb_passed, .int), (kb_keptCount, .int), (kb_off, .int), (kb_since, .int), (kb_kept, .int), (kb_sorted, .int)] t ∧ va_P (dC, dI) vwCl [(ob, .inr (0, [.ref pl, .int 0, .int 0, .ref b_last, .ref b_passed, .ref b_keptCount, .int 0, .int 0, .int 0, .int 0, .ref b_off, .ref b_since, .ref b_kept, .ref b_sorted])), (b_last, .inl (kb_last, 5, .inl (fun _ => 0))), (b_passed, .inl (kb_passed, 5, .inl (fun _ => 0))), (b_keptCount, .inl (kb_keptCount, 5, .inl (fun _ => 0))), (b_off, .inl (kb_off, 10, .inl (fun _ => 0))), (b_since, .inl (kb_since, 10, .inl (fun _ => 0))), (b_kept, .inl (kb_kept, 25, .inl (fun _ => 0))), (b_sorted, .inl (kb_sorted, 5, .inl (fun _ => 0)))] t.heap ∧ va_D A [(ob, .inr (0, [.ref pl, .int 0, .int 0, .ref b_last, .ref b_passed, .ref b_keptCount, .int 0, .int 0, .int 0, .int 0, .ref b_off, .ref b_since, .ref b_kept, .ref b_sorted])), (b_last, .inl (kb_last, 5, .inl (fun _ => 0))), (b_passed, .inl (kb_passed, 5, .inl (fun _ => 0))), (b_keptCount, .inl (kb_keptCount, 5, .inl (fun _ => 0))), (b_off, .inl (kb_off, 10, .inl (fun _ => 0))), (b_since, .inl (kb_since, 10, .inl (fun _ => 0))), (b_kept, .inl (kb_kept, 25, .inl (fun _ => 0))), (b_sorted, .inl (kb_sorted, 5, .inl (fun _ => 0)))]) A
set_option maxHeartbeats 4000000 in
set_option maxRecDepth 100000 in
theorem c_X0_init (l : Launch) (dC : Nat → ClassId) (dI : Nat → Nat → Nat) (sz : Nat) (ob : Nat) (pl : Nat)  : Met l yX0_init (pw_w yX0_init cX0_init 2 none) ({ frames := 1, cells := 7, slots := 65, locals := 20 }) (va_Pc [.ref ob, .ref pl] (fun U => U.heap.size = sz ∧ va_P (dC, dI) vwCl [(ob, .inr (0, [.null, .int 0, .int 0, .null, .null, .null, .int 0, .int 0, .int 0, .int 0, .null, .null, .null, .null]))] U.heap ∧ va_K (dC, dI) vwCl [] U ∧ va_D (fun _ => True) [(ob, .inr (0, [.null, .int 0, .int 0, .null, .null, .null, .int 0, .int 0, .int 0, .int 0, .null, .null, .null, .null]))])) (q_X0_init dC dI (va_A [(ob, .inr (0, [.null, .int 0, .int 0, .null, .null, .null, .int 0, .int 0, .int 0, .int 0, .null, .null, .null, .null]))] sz) ob pl) 7 65 (va_A [(ob, .inr (0, [.null, .int 0, .int 0, .null, .null, .null, .int 0, .int 0, .int 0, .int 0, .null, .null, .null, .null]))] sz) := by
  refine Met.ofW (cc := cX0_init) (maxL := 2) (ret := none) (by decide) rfl ?_
  intro p e s m args below meth c s₁ B hml hv
  obtain ⟨rfl, hsz, hP, hK, hD0⟩ := hv
  have hx := B.exec
  have hb := B.bytes
  have hr := B.returns
  have hts := atoms_spec (ws := (pw_w yX0_init cX0_init 2 none)) B.pre
  have hT : ∀ w ∈ pw_T, w.before _ s = true := fun w h => hts w (List.mem_cons_of_mem _ h)
  have hown : s.vm.findClass RX0 = some m.cls := findClass_of_methodNamed B.named
  have hlocks := B.notSynchronized
  have hin : meth.name = "<init>" := (name_of_methodNamed B.named B.method).1
  subst hsz
  have hD := hD0.self (sz := s.heap.size)
  generalize hAe : va_A [(ob, .inr (0, [.null, .int 0, .int 0, .null, .null, .null, .int 0, .int 0, .int 0, .int 0, .null, .null, .null, .null]))] s.heap.size = A at hD ⊢
  have hA : ∀ q : Nat, s.heap.size ≤ q → A q := fun q h => by rw [← hAe]; exact Or.inr h
  have hS : va_S A s.heap s.heap [] := va_S.rf
  have hP : va_P (dC, dI) vwCl [(ob, .inr (0, [.null, .int 0, .int 0, .null, .null, .null, .int 0, .int 0, .int 0, .int 0, .null, .null, .null, .null]))] s.heap := hP
  have hl := lv_entry ([.ref ob, .ref pl]) (n := 2) (Nat.le_of_ble_eq_true rfl)
  rw [lg_entry_eq]
  generalize (lg_sl ([.ref ob, .ref pl]) ++ List.replicate (2 - (lg_sl ([.ref ob, .ref pl])).length) Slot.unset).toArray = ls at hl ⊢
  have hl : lv_has ls 2 [(0, .ref ob), (1, .ref pl)] := hl
  refine lv_aload_n hx hb dX0_init_0 rfl (lv_at hl 0 rfl) ?_
  refine W.objInit hx hb hown (hT _ mw_2_103) (hT _ mw_1_32) (hT _ mw_1_33) rfl (by rw [hml]; exact hl.1) rfl dX0_init_1 (Nat.le_of_ble_eq_true rfl) (Nat.le_of_ble_eq_true rfl) ?_
  refine W.eq (g2 := F0 m 4 ls []) rfl ?_
  refine lv_aload_n hx hb dX0_init_4 rfl (lv_at hl 0 rfl) ?_
  refine lv_iconst (v := 5) hx hb dX0_init_5 (by decide) ?_
  refine va_newa (atype := .int) (ty := .int) (a0 := (5, .inl (fun _ => 0))) hx hb (hT _ mw_1_122) rfl hK hP hD hS hA (fun _ => rfl) (by decide) (by decide) (by decide) (Nat.le_of_ble_eq_true rfl) (Nat.le_of_ble_eq_true rfl) dX0_init_6 (fun q_1 cA_2 H hK hP hD hS => ?_)
  have hP : va_P (dC, dI) vwCl [(ob, .inr (0, [.null, .int 0, .int 0, .null, .null, .null, .int 0, .int 0, .int 0, .int 0, .null, .null, .null, .null])), (q_1, .inl (cA_2, 5, .inl (fun _ => 0)))] H := hP
  have hD : va_D A [(ob, .inr (0, [.null, .int 0, .int 0, .null, .null, .null, .int 0, .int 0, .int 0, .int 0, .null, .null, .null, .null])), (q_1, .inl (cA_2, 5, .inl (fun _ => 0)))] := hD
  have hK : va_K (dC, dI) vwCl [(cA_2, .int)] s := hK
  refine W.widen (k := 1) (n := 5) (Nat.le_of_ble_eq_true rfl) (Nat.le_of_ble_eq_true rfl) ?_
  refine va_putF (D := (dC, dI)) (ci := 0) (v := .ref q_1) (ty := (.array .int)) (C := RX0) (T := TX0) (N := 14) hx hb hT inX0 tyX0 tyX0_ok nmX0 hown hK hP hD hS 0 rfl rfl 3 (by decide) (hT _ mw_2_112) (fun _ h9 => h9) rfl hin rfl (by decide +kernel) rfl rfl (Nat.le_of_ble_eq_true rfl) dX0_init_8 (fun H locs hP hD hS => ?_)
  have hP : va_P (dC, dI) vwCl [(ob, .inr (0, [.null, .int 0, .int 0, .ref q_1, .null, .null, .int 0, .int 0, .int 0, .int 0, .null, .null, .null, .null])), (q_1, .inl (cA_2, 5, .inl (fun _ => 0)))] H := hP
  have hD : va_D A [(ob, .inr (0, [.null, .int 0, .int 0, .ref q_1, .null, .null, .int 0, .int 0, .int 0, .int 0, .null, .null, .null, .null])), (q_1, .inl (cA_2, 5, .inl (fun _ => 0)))] := hD
  refine lv_aload_n hx hb dX0_init_11 rfl (lv_at hl 0 rfl) ?_
  refine lv_iconst (v := 5) hx hb dX0_init_12 (by decide) ?_
  refine va_newa (atype := .int) (ty := .int) (a0 := (5, .inl (fun _ => 0))) hx hb (hT _ mw_1_122) rfl hK hP hD hS hA (fun _ => rfl) (by decide) (by decide) (by decide) (Nat.le_of_ble_eq_true rfl) (Nat.le_of_ble_eq_true rfl) dX0_init_13 (fun q_3 cA_4 H hK hP hD hS => ?_)
  have hP : va_P (dC, dI) vwCl [(ob, .inr (0, [.null, .int 0, .int 0, .ref q_1, .null, .null, .int 0, .int 0, .int 0, .int 0, .null, .null, .null, .null])), (q_1, .inl (cA_2, 5, .inl (fun _ => 0))), (q_3, .inl (cA_4, 5, .inl (fun _ => 0)))] H := hP
  have hD : va_D A [(ob, .inr (0, [.null, .int 0, .int 0, .ref q_1, .null, .null, .int 0, .int 0, .int 0, .int 0, .null, .null, .null, .null])), (q_1, .inl (cA_2, 5, .inl (fun _ => 0))), (q_3, .inl (cA_4, 5, .inl (fun _ => 0)))] := hD
  have hK : va_K (dC, dI) vwCl [(cA_2, .int), (cA_4, .int)] s := hK
  refine W.widen (k := 2) (n := 10) (Nat.le_of_ble_eq_true rfl) (Nat.le_of_ble_eq_true rfl) ?_
  refine va_putF (D := (dC, dI)) (ci := 0) (v := .ref q_3) (ty := (.array .int)) (C := RX0) (T := TX0) (N := 14) hx hb hT inX0 tyX0 tyX0_ok nmX0 hown hK hP hD hS 0 rfl rfl 4 (by decide) (hT _ mw_2_114) (fun _ h9 => h9) rfl hin rfl (by decide +kernel) rfl rfl (Nat.le_of_ble_eq_true rfl) dX0_init_15 (fun H locs hP hD hS => ?_)
  have hP : va_P (dC, dI) vwCl [(ob, .inr (0, [.null, .int 0, .int 0, .ref q_1, .ref q_3, .null, .int 0, .int 0, .int 0, .int 0, .null, .null, .null, .null])), (q_1, .inl (cA_2, 5, .inl (fun _ => 0))), (q_3, .inl (cA_4, 5, .inl (fun _ => 0)))] H := hP
  have hD : va_D A [(ob, .inr (0, [.null, .int 0, .int 0, .ref q_1, .ref q_3, .null, .int 0, .int 0, .int 0, .int 0, .null, .null, .null, .null])), (q_1, .inl (cA_2, 5, .inl (fun _ => 0))), (q_3, .inl (cA_4, 5, .inl (fun _ => 0)))] := hD
  refine lv_aload_n hx hb dX0_init_18 rfl (lv_at hl 0 rfl) ?_
  refine lv_iconst (v := 5) hx hb dX0_init_19 (by decide) ?_
  refine va_newa (atype := .int) (ty := .int) (a0 := (5, .inl (fun _ => 0))) hx hb (hT _ mw_1_122) rfl hK hP hD hS hA (fun _ => rfl) (by decide) (by decide) (by decide) (Nat.le_of_ble_eq_true rfl) (Nat.le_of_ble_eq_true rfl) dX0_init_20 (fun q_5 cA_6 H hK hP hD hS => ?_)
  have hP : va_P (dC, dI) vwCl [(ob, .inr (0, [.null, .int 0, .int 0, .ref q_1, .ref q_3, .null, .int 0, .int 0, .int 0, .int 0, .null, .null, .null, .null])), (q_1, .inl (cA_2, 5, .inl (fun _ => 0))), (q_3, .inl (cA_4, 5, .inl (fun _ => 0))), (q_5, .inl (cA_6, 5, .inl (fun _ => 0)))] H := hP
  have hD : va_D A [(ob, .inr (0, [.null, .int 0, .int 0, .ref q_1, .ref q_3, .null, .int 0, .int 0, .int 0, .int 0, .null, .null, .null, .null])), (q_1, .inl (cA_2, 5, .inl (fun _ => 0))), (q_3, .inl (cA_4, 5, .inl (fun _ => 0))), (q_5, .inl (cA_6, 5, .inl (fun _ => 0)))] := hD
  have hK : va_K (dC, dI) vwCl [(cA_2, .int), (cA_4, .int), (cA_6, .int)] s := hK
  refine W.widen (k := 3) (n := 15) (Nat.le_of_ble_eq_true rfl) (Nat.le_of_ble_eq_true rfl) ?_
  refine va_putF (D := (dC, dI)) (ci := 0) (v := .ref q_5) (ty := (.array .int)) (C := RX0) (T := TX0) (N := 14) hx hb hT inX0 tyX0 tyX0_ok nmX0 hown hK hP hD hS 0 rfl rfl 5 (by decide) (hT _ mw_2_116) (fun _ h9 => h9) rfl hin rfl (by decide +kernel) rfl rfl (Nat.le_of_ble_eq_true rfl) dX0_init_22 (fun H locs hP hD hS => ?_)
  have hP : va_P (dC, dI) vwCl [(ob, .inr (0, [.null, .int 0, .int 0, .ref q_1, .ref q_3, .ref q_5, .int 0, .int 0, .int 0, .int 0, .null, .null, .null, .null])), (q_1, .inl (cA_2, 5, .inl (fun _ => 0))), (q_3, .inl (cA_4, 5, .inl (fun _ => 0))), (q_5, .inl (cA_6, 5, .inl (fun _ => 0)))] H := hP
  have hD : va_D A [(ob, .inr (0, [.null, .int 0, .int 0, .ref q_1, .ref q_3, .ref q_5, .int 0, .int 0, .int 0, .int 0, .null, .null, .null, .null])), (q_1, .inl (cA_2, 5, .inl (fun _ => 0))), (q_3, .inl (cA_4, 5, .inl (fun _ => 0))), (q_5, .inl (cA_6, 5, .inl (fun _ => 0)))] := hD
  refine lv_aload_n hx hb dX0_init_25 rfl (lv_at hl 0 rfl) ?_
  refine lv_bipush (v := 10) hx hb dX0_init_26 (by decide) ?_
  refine va_newa (atype := .int) (ty := .int) (a0 := (10, .inl (fun _ => 0))) hx hb (hT _ mw_1_122) rfl hK hP hD hS hA (fun _ => rfl) (by decide) (by decide) (by decide) (Nat.le_of_ble_eq_true rfl) (Nat.le_of_ble_eq_true rfl) dX0_init_28 (fun q_7 cA_8 H hK hP hD hS => ?_)
  have hP : va_P (dC, dI) vwCl [(ob, .inr (0, [.null, .int 0, .int 0, .ref q_1, .ref q_3, .ref q_5, .int 0, .int 0, .int 0, .int 0, .null, .null, .null, .null])), (q_1, .inl (cA_2, 5, .inl (fun _ => 0))), (q_3, .inl (cA_4, 5, .inl (fun _ => 0))), (q_5, .inl (cA_6, 5, .inl (fun _ => 0))), (q_7, .inl (cA_8, 10, .inl (fun _ => 0)))] H := hP
  have hD : va_D A [(ob, .inr (0, [.null, .int 0, .int 0, .ref q_1, .ref q_3, .ref q_5, .int 0, .int 0, .int 0, .int 0, .null, .null, .null, .null])), (q_1, .inl (cA_2, 5, .inl (fun _ => 0))), (q_3, .inl (cA_4, 5, .inl (fun _ => 0))), (q_5, .inl (cA_6, 5, .inl (fun _ => 0))), (q_7, .inl (cA_8, 10, .inl (fun _ => 0)))] := hD
  have hK : va_K (dC, dI) vwCl [(cA_2, .int), (cA_4, .int), (cA_6, .int), (cA_8, .int)] s := hK
  refine W.widen (k := 4) (n := 25) (Nat.le_of_ble_eq_true rfl) (Nat.le_of_ble_eq_true rfl) ?_
  refine va_putF (D := (dC, dI)) (ci := 0) (v := .ref q_7) (ty := (.array .int)) (C := RX0) (T := TX0) (N := 14) hx hb hT inX0 tyX0 tyX0_ok nmX0 hown hK hP hD hS 0 rfl rfl 10 (by decide) (hT _ mw_2_124) (fun _ h9 => h9) rfl hin rfl (by decide +kernel) rfl rfl (Nat.le_of_ble_eq_true rfl) dX0_init_30 (fun H locs hP hD hS => ?_)
  have hP : va_P (dC, dI) vwCl [(ob, .inr (0, [.null, .int 0, .int 0, .ref q_1, .ref q_3, .ref q_5, .int 0, .int 0, .int 0, .int 0, .ref q_7, .null, .null, .null])), (q_1, .inl (cA_2, 5, .inl (fun _ => 0))), (q_3, .inl (cA_4, 5, .inl (fun _ => 0))), (q_5, .inl (cA_6, 5, .inl (fun _ => 0))), (q_7, .inl (cA_8, 10, .inl (fun _ => 0)))] H := hP
  have hD : va_D A [(ob, .inr (0, [.null, .int 0, .int 0, .ref q_1, .ref q_3, .ref q_5, .int 0, .int 0, .int 0, .int 0, .ref q_7, .null, .null, .null])), (q_1, .inl (cA_2, 5, .inl (fun _ => 0))), (q_3, .inl (cA_4, 5, .inl (fun _ => 0))), (q_5, .inl (cA_6, 5, .inl (fun _ => 0))), (q_7, .inl (cA_8, 10, .inl (fun _ => 0)))] := hD
  refine lv_aload_n hx hb dX0_init_33 rfl (lv_at hl 0 rfl) ?_
  refine lv_bipush (v := 10) hx hb dX0_init_34 (by decide) ?_
  refine va_newa (atype := .int) (ty := .int) (a0 := (10, .inl (fun _ => 0))) hx hb (hT _ mw_1_122) rfl hK hP hD hS hA (fun _ => rfl) (by decide) (by decide) (by decide) (Nat.le_of_ble_eq_true rfl) (Nat.le_of_ble_eq_true rfl) dX0_init_36 (fun q_9 cA_10 H hK hP hD hS => ?_)
  have hP : va_P (dC, dI) vwCl [(ob, .inr (0, [.null, .int 0, .int 0, .ref q_1, .ref q_3, .ref q_5, .int 0, .int 0, .int 0, .int 0, .ref q_7, .null, .null, .null])), (q_1, .inl (cA_2, 5, .inl (fun _ => 0))), (q_3, .inl (cA_4, 5, .inl (fun _ => 0))), (q_5, .inl (cA_6, 5, .inl (fun _ => 0))), (q_7, .inl (cA_8, 10, .inl (fun _ => 0))), (q_9, .inl (cA_10, 10, .inl (fun _ => 0)))] H := hP
  have hD : va_D A [(ob, .inr (0, [.null, .int 0, .int 0, .ref q_1, .ref q_3, .ref q_5, .int 0, .int 0, .int 0, .int 0, .ref q_7, .null, .null, .null])), (q_1, .inl (cA_2, 5, .inl (fun _ => 0))), (q_3, .inl (cA_4, 5, .inl (fun _ => 0))), (q_5, .inl (cA_6, 5, .inl (fun _ => 0))), (q_7, .inl (cA_8, 10, .inl (fun _ => 0))), (q_9, .inl (cA_10, 10, .inl (fun _ => 0)))] := hD
  have hK : va_K (dC, dI) vwCl [(cA_2, .int), (cA_4, .int), (cA_6, .int), (cA_8, .int), (cA_10, .int)] s := hK
  refine W.widen (k := 5) (n := 35) (Nat.le_of_ble_eq_true rfl) (Nat.le_of_ble_eq_true rfl) ?_
  refine va_putF (D := (dC, dI)) (ci := 0) (v := .ref q_9) (ty := (.array .int)) (C := RX0) (T := TX0) (N := 14) hx hb hT inX0 tyX0 tyX0_ok nmX0 hown hK hP hD hS 0 rfl rfl 11 (by decide) (hT _ mw_2_125) (fun _ h9 => h9) rfl hin rfl (by decide +kernel) rfl rfl (Nat.le_of_ble_eq_true rfl) dX0_init_38 (fun H locs hP hD hS => ?_)
  have hP : va_P (dC, dI) vwCl [(ob, .inr (0, [.null, .int 0, .int 0, .ref q_1, .ref q_3, .ref q_5, .int 0, .int 0, .int 0, .int 0, .ref q_7, .ref q_9, .null, .null])), (q_1, .inl (cA_2, 5, .inl (fun _ => 0))), (q_3, .inl (cA_4, 5, .inl (fun _ => 0))), (q_5, .inl (cA_6, 5, .inl (fun _ => 0))), (q_7, .inl (cA_8, 10, .inl (fun _ => 0))), (q_9, .inl (cA_10, 10, .inl (fun _ => 0)))] H := hP
  have hD : va_D A [(ob, .inr (0, [.null, .int 0, .int 0, .ref q_1, .ref q_3, .ref q_5, .int 0, .int 0, .int 0, .int 0, .ref q_7, .ref q_9, .null, .null])), (q_1, .inl (cA_2, 5, .inl (fun _ => 0))), (q_3, .inl (cA_4, 5, .inl (fun _ => 0))), (q_5, .inl (cA_6, 5, .inl (fun _ => 0))), (q_7, .inl (cA_8, 10, .inl (fun _ => 0))), (q_9, .inl (cA_10, 10, .inl (fun _ => 0)))] := hD
  refine lv_aload_n hx hb dX0_init_41 rfl (lv_at hl 0 rfl) ?_
  refine lv_bipush (v := 25) hx hb dX0_init_42 (by decide) ?_
  refine va_newa (atype := .int) (ty := .int) (a0 := (25, .inl (fun _ => 0))) hx hb (hT _ mw_1_122) rfl hK hP hD hS hA (fun _ => rfl) (by decide) (by decide) (by decide) (Nat.le_of_ble_eq_true rfl) (Nat.le_of_ble_eq_true rfl) dX0_init_44 (fun q_11 cA_12 H hK hP hD hS => ?_)
  have hP : va_P (dC, dI) vwCl [(ob, .inr (0, [.null, .int 0, .int 0, .ref q_1, .ref q_3, .ref q_5, .int 0, .int 0, .int 0, .int 0, .ref q_7, .ref q_9, .null, .null])), (q_1, .inl (cA_2, 5, .inl (fun _ => 0))), (q_3, .inl (cA_4, 5, .inl (fun _ => 0))), (q_5, .inl (cA_6, 5, .inl (fun _ => 0))), (q_7, .inl (cA_8, 10, .inl (fun _ => 0))), (q_9, .inl (cA_10, 10, .inl (fun _ => 0))), (q_11, .inl (cA_12, 25, .inl (fun _ => 0)))] H := hP
  have hD : va_D A [(ob, .inr (0, [.null, .int 0, .int 0, .ref q_1, .ref q_3, .ref q_5, .int 0, .int 0, .int 0, .int 0, .ref q_7, .ref q_9, .null, .null])), (q_1, .inl (cA_2, 5, .inl (fun _ => 0))), (q_3, .inl (cA_4, 5, .inl (fun _ => 0))), (q_5, .inl (cA_6, 5, .inl (fun _ => 0))), (q_7, .inl (cA_8, 10, .inl (fun _ => 0))), (q_9, .inl (cA_10, 10, .inl (fun _ => 0))), (q_11, .inl (cA_12, 25, .inl (fun _ => 0)))] := hD
  have hK : va_K (dC, dI) vwCl [(cA_2, .int), (cA_4, .int), (cA_6, .int), (cA_8, .int), (cA_10, .int), (cA_12, .int)] s := hK
  refine W.widen (k := 6) (n := 60) (Nat.le_of_ble_eq_true rfl) (Nat.le_of_ble_eq_true rfl) ?_
  refine va_putF (D := (dC, dI)) (ci := 0) (v := .ref q_11) (ty := (.array .int)) (C := RX0) (T := TX0) (N := 14) hx hb hT inX0 tyX0 tyX0_ok nmX0 hown hK hP hD hS 0 rfl rfl 12 (by decide) (hT _ mw_2_126) (fun _ h9 => h9) rfl hin rfl (by decide +kernel) rfl rfl (Nat.le_of_ble_eq_true rfl) dX0_init_46 (fun H locs hP hD hS => ?_)
  have hP : va_P (dC, dI) vwCl [(ob, .inr (0, [.null, .int 0, .int 0, .ref q_1, .ref q_3, .ref q_5, .int 0, .int 0, .int 0, .int 0, .ref q_7, .ref q_9, .ref q_11, .null])), (q_1, .inl (cA_2, 5, .inl (fun _ => 0))), (q_3, .inl (cA_4, 5, .inl (fun _ => 0))), (q_5, .inl (cA_6, 5, .inl (fun _ => 0))), (q_7, .inl (cA_8, 10, .inl (fun _ => 0))), (q_9, .inl (cA_10, 10, .inl (fun _ => 0))), (q_11, .inl (cA_12, 25, .inl (fun _ => 0)))] H := hP
  have hD : va_D A [(ob, .inr (0, [.null, .int 0, .int 0, .ref q_1, .ref q_3, .ref q_5, .int 0, .int 0, .int 0, .int 0, .ref q_7, .ref q_9, .ref q_11, .null])), (q_1, .inl (cA_2, 5, .inl (fun _ => 0))), (q_3, .inl (cA_4, 5, .inl (fun _ => 0))), (q_5, .inl (cA_6, 5, .inl (fun _ => 0))), (q_7, .inl (cA_8, 10, .inl (fun _ => 0))), (q_9, .inl (cA_10, 10, .inl (fun _ => 0))), (q_11, .inl (cA_12, 25, .inl (fun _ => 0)))] := hD
  refine lv_aload_n hx hb dX0_init_49 rfl (lv_at hl 0 rfl) ?_
  refine lv_iconst (v := 5) hx hb dX0_init_50 (by decide) ?_
  refine va_newa (atype := .int) (ty := .int) (a0 := (5, .inl (fun _ => 0))) hx hb (hT _ mw_1_122) rfl hK hP hD hS hA (fun _ => rfl) (by decide) (by decide) (by decide) (Nat.le_of_ble_eq_true rfl) (Nat.le_of_ble_eq_true rfl) dX0_init_51 (fun q_13 cA_14 H hK hP hD hS => ?_)
  have hP : va_P (dC, dI) vwCl [(ob, .inr (0, [.null, .int 0, .int 0, .ref q_1, .ref q_3, .ref q_5, .int 0, .int 0, .int 0, .int 0, .ref q_7, .ref q_9, .ref q_11, .null])), (q_1, .inl (cA_2, 5, .inl (fun _ => 0))), (q_3, .inl (cA_4, 5, .inl (fun _ => 0))), (q_5, .inl (cA_6, 5, .inl (fun _ => 0))), (q_7, .inl (cA_8, 10, .inl (fun _ => 0))), (q_9, .inl (cA_10, 10, .inl (fun _ => 0))), (q_11, .inl (cA_12, 25, .inl (fun _ => 0))), (q_13, .inl (cA_14, 5, .inl (fun _ => 0)))] H := hP
  have hD : va_D A [(ob, .inr (0, [.null, .int 0, .int 0, .ref q_1, .ref q_3, .ref q_5, .int 0, .int 0, .int 0, .int 0, .ref q_7, .ref q_9, .ref q_11, .null])), (q_1, .inl (cA_2, 5, .inl (fun _ => 0))), (q_3, .inl (cA_4, 5, .inl (fun _ => 0))), (q_5, .inl (cA_6, 5, .inl (fun _ => 0))), (q_7, .inl (cA_8, 10, .inl (fun _ => 0))), (q_9, .inl (cA_10, 10, .inl (fun _ => 0))), (q_11, .inl (cA_12, 25, .inl (fun _ => 0))), (q_13, .inl (cA_14, 5, .inl (fun _ => 0)))] := hD
  have hK : va_K (dC, dI) vwCl [(cA_2, .int), (cA_4, .int), (cA_6, .int), (cA_8, .int), (cA_10, .int), (cA_12, .int), (cA_14, .int)] s := hK
  refine W.widen (k := 7) (n := 65) (Nat.le_of_ble_eq_true rfl) (Nat.le_of_ble_eq_true rfl) ?_
  refine va_putF (D := (dC, dI)) (ci := 0) (v := .ref q_13) (ty := (.array .int)) (C := RX0) (T := TX0) (N := 14) hx hb hT inX0 tyX0 tyX0_ok nmX0 hown hK hP hD hS 0 rfl rfl 13 (by decide) (hT _ mw_2_127) (fun _ h9 => h9) rfl hin rfl (by decide +kernel) rfl rfl (Nat.le_of_ble_eq_true rfl) dX0_init_53 (fun H locs hP hD hS => ?_)
  have hP : va_P (dC, dI) vwCl [(ob, .inr (0, [.null, .int 0, .int 0, .ref q_1, .ref q_3, .ref q_5, .int 0, .int 0, .int 0, .int 0, .ref q_7, .ref q_9, .ref q_11, .ref q_13])), (q_1, .inl (cA_2, 5, .inl (fun _ => 0))), (q_3, .inl (cA_4, 5, .inl (fun _ => 0))), (q_5, .inl (cA_6, 5, .inl (fun _ => 0))), (q_7, .inl (cA_8, 10, .inl (fun _ => 0))), (q_9, .inl (cA_10, 10, .inl (fun _ => 0))), (q_11, .inl (cA_12, 25, .inl (fun _ => 0))), (q_13, .inl (cA_14, 5, .inl (fun _ => 0)))] H := hP
  have hD : va_D A [(ob, .inr (0, [.null, .int 0, .int 0, .ref q_1, .ref q_3, .ref q_5, .int 0, .int 0, .int 0, .int 0, .ref q_7, .ref q_9, .ref q_11, .ref q_13])), (q_1, .inl (cA_2, 5, .inl (fun _ => 0))), (q_3, .inl (cA_4, 5, .inl (fun _ => 0))), (q_5, .inl (cA_6, 5, .inl (fun _ => 0))), (q_7, .inl (cA_8, 10, .inl (fun _ => 0))), (q_9, .inl (cA_10, 10, .inl (fun _ => 0))), (q_11, .inl (cA_12, 25, .inl (fun _ => 0))), (q_13, .inl (cA_14, 5, .inl (fun _ => 0)))] := hD
  refine lv_aload_n hx hb dX0_init_56 rfl (lv_at hl 0 rfl) ?_
  refine lv_aload_n hx hb dX0_init_57 rfl (lv_at hl 1 rfl) ?_
  refine va_put (D := (dC, dI)) (ci := 0) (v := .ref pl) (ty := (.object "PassedClocks$Plan")) (C := RX0) (T := TX0) (N := 14) hx hb hT inX0 tyX0 tyX0_ok nmX0 hown hK hP hD hS 0 rfl rfl 0 (by decide) (hT _ mw_2_104) (fun _ h9 => h9) rfl (by decide +kernel) rfl rfl (Nat.le_of_ble_eq_true rfl) dX0_init_58 (fun H locs hP hD hS => ?_)
  have hP : va_P (dC, dI) vwCl [(ob, .inr (0, [.ref pl, .int 0, .int 0, .ref q_1, .ref q_3, .ref q_5, .int 0, .int 0, .int 0, .int 0, .ref q_7, .ref q_9, .ref q_11, .ref q_13])), (q_1, .inl (cA_2, 5, .inl (fun _ => 0))), (q_3, .inl (cA_4, 5, .inl (fun _ => 0))), (q_5, .inl (cA_6, 5, .inl (fun _ => 0))), (q_7, .inl (cA_8, 10, .inl (fun _ => 0))), (q_9, .inl (cA_10, 10, .inl (fun _ => 0))), (q_11, .inl (cA_12, 25, .inl (fun _ => 0))), (q_13, .inl (cA_14, 5, .inl (fun _ => 0)))] H := hP
  have hD : va_D A [(ob, .inr (0, [.ref pl, .int 0, .int 0, .ref q_1, .ref q_3, .ref q_5, .int 0, .int 0, .int 0, .int 0, .ref q_7, .ref q_9, .ref q_11, .ref q_13])), (q_1, .inl (cA_2, 5, .inl (fun _ => 0))), (q_3, .inl (cA_4, 5, .inl (fun _ => 0))), (q_5, .inl (cA_6, 5, .inl (fun _ => 0))), (q_7, .inl (cA_8, 10, .inl (fun _ => 0))), (q_9, .inl (cA_10, 10, .inl (fun _ => 0))), (q_11, .inl (cA_12, 25, .inl (fun _ => 0))), (q_13, .inl (cA_14, 5, .inl (fun _ => 0)))] := hD
  have hP9 := hP.sub (ws' := [(ob, .inr (0, [.ref pl, .int 0, .int 0, .ref q_1, .ref q_3, .ref q_5, .int 0, .int 0, .int 0, .int 0, .ref q_7, .ref q_9, .ref q_11, .ref q_13])), (q_1, .inl (cA_2, 5, .inl (fun _ => 0))), (q_3, .inl (cA_4, 5, .inl (fun _ => 0))), (q_5, .inl (cA_6, 5, .inl (fun _ => 0))), (q_7, .inl (cA_8, 10, .inl (fun _ => 0))), (q_9, .inl (cA_10, 10, .inl (fun _ => 0))), (q_11, .inl (cA_12, 25, .inl (fun _ => 0))), (q_13, .inl (cA_14, 5, .inl (fun _ => 0)))]) [0, 1, 2, 3, 4, 5, 6, 7] rfl
  have hD9 := hD.sub (ws' := [(ob, .inr (0, [.ref pl, .int 0, .int 0, .ref q_1, .ref q_3, .ref q_5, .int 0, .int 0, .int 0, .int 0, .ref q_7, .ref q_9, .ref q_11, .ref q_13])), (q_1, .inl (cA_2, 5, .inl (fun _ => 0))), (q_3, .inl (cA_4, 5, .inl (fun _ => 0))), (q_5, .inl (cA_6, 5, .inl (fun _ => 0))), (q_7, .inl (cA_8, 10, .inl (fun _ => 0))), (q_9, .inl (cA_10, 10, .inl (fun _ => 0))), (q_11, .inl (cA_12, 25, .inl (fun _ => 0))), (q_13, .inl (cA_14, 5, .inl (fun _ => 0)))]) [0, 1, 2, 3, 4, 5, 6, 7] (by decide) rfl
  have hK9 := hK.sub (tys' := [(cA_2, .int), (cA_4, .int), (cA_6, .int), (cA_8, .int), (cA_10, .int), (cA_12, .int), (cA_14, .int)]) [0, 1, 2, 3, 4, 5, 6] rfl
  refine W.widen (k := 7) (n := 65) (Nat.le_of_ble_eq_true rfl) (Nat.le_of_ble_eq_true rfl) ?_
  exact W.vret hx hb hr (fun t ht hW => ⟨⟨(), rfl, trivial, q_1, q_3, q_5, q_7, q_9, q_11, q_13, cA_2, cA_4, cA_6, cA_8, cA_10, cA_12, cA_14, va_K.moved hW.alike hK9, by rw [ht]; exact hP9, hD9⟩, hS.F ht⟩) hS.2.2 dX0_init_61
abbrev q_X2_init (dC : Nat → ClassId) (dI : Nat → Nat → Nat) (A : Nat → Prop) (ob : Nat) : Array Value → State → Outcome → State → Prop := va_Qv (fun _ : Unit => True) (fun (_ : Unit) (t : State) => ∃ (b_off : Nat), ∃ (b_apart : Nat), ∃ (kb_off : ClassId), ∃ (kb_apart : ClassId), va_K (dC, dI) vwCl [(kb_off, .int), (kb_apart, .int)] t ∧ va_P (dC, dI) vwCl [(ob, .inr (2, [.ref b_off, .ref b_apart])), (b_off, .inl (kb_off, 20000, .inl (fun _ => 0))), (b_apart, .inl (kb_apart, 2000, .inl (fun _ => 0)))] t.heap ∧ va_D A [(ob, .inr (2, [.ref b_off, .ref b_apart])), (b_off, .inl (kb_off, 20000, .inl (fun _ => 0))), (b_apart, .inl (kb_apart, 2000, .inl (fun _ => 0)))]) A
set_option maxHeartbeats 4000000 in
set_option maxRecDepth 100000 in
theorem c_X2_init (l : Launch) (dC : Nat → ClassId) (dI : Nat → Nat → Nat) (sz : Nat) (ob : Nat)  : Met l yX2_init (pw_w yX2_init cX2_init 1 none) ({ frames := 1, cells := 2, slots := 22000, locals := 20 }) (va_Pc [.ref ob] (fun U => U.heap.size = sz ∧ va_P (dC, dI) vwCl [(ob, .inr (2, [.null, .null]))] U.heap ∧ va_K (dC, dI) vwCl [] U ∧ va_D (fun _ => True) [(ob, .inr (2, [.null, .null]))])) (q_X2_init dC dI (va_A [(ob, .inr (2, [.null, .null]))] sz) ob) 2 22000 (va_A [(ob, .inr (2, [.null, .null]))] sz) := by
  refine Met.ofW (cc := cX2_init) (maxL := 1) (ret := none) (by decide) rfl ?_
  intro p e s m args below meth c s₁ B hml hv
  obtain ⟨rfl, hsz, hP, hK, hD0⟩ := hv
  have hx := B.exec
  have hb := B.bytes
  have hr := B.returns
  have hts := atoms_spec (ws := (pw_w yX2_init cX2_init 1 none)) B.pre
  have hT : ∀ w ∈ pw_T, w.before _ s = true := fun w h => hts w (List.mem_cons_of_mem _ h)
  have hown : s.vm.findClass RX2 = some m.cls := findClass_of_methodNamed B.named
  have hlocks := B.notSynchronized
  have hin : meth.name = "<init>" := (name_of_methodNamed B.named B.method).1
  subst hsz
  have hD := hD0.self (sz := s.heap.size)
  generalize hAe : va_A [(ob, .inr (2, [.null, .null]))] s.heap.size = A at hD ⊢
  have hA : ∀ q : Nat, s.heap.size ≤ q → A q := fun q h => by rw [← hAe]; exact Or.inr h
  have hS : va_S A s.heap s.heap [] := va_S.rf
  have hP : va_P (dC, dI) vwCl [(ob, .inr (2, [.null, .null]))] s.heap := hP
  have hl := lv_entry ([.ref ob]) (n := 1) (Nat.le_of_ble_eq_true rfl)
  rw [lg_entry_eq]
  generalize (lg_sl ([.ref ob]) ++ List.replicate (1 - (lg_sl ([.ref ob])).length) Slot.unset).toArray = ls at hl ⊢
  have hl : lv_has ls 1 [(0, .ref ob)] := hl
  refine lv_aload_n hx hb dX2_init_0 rfl (lv_at hl 0 rfl) ?_
  refine W.objInit hx hb hown (hT _ mw_2_162) (hT _ mw_1_32) (hT _ mw_1_33) rfl (by rw [hml]; exact hl.1) rfl dX2_init_1 (Nat.le_of_ble_eq_true rfl) (Nat.le_of_ble_eq_true rfl) ?_
  refine W.eq (g2 := F0 m 4 ls []) rfl ?_
  refine lv_aload_n hx hb dX2_init_4 rfl (lv_at hl 0 rfl) ?_
  refine lv_sipush (v := 20000) hx hb dX2_init_5 (by decide) ?_
  refine va_newa (atype := .int) (ty := .int) (a0 := (20000, .inl (fun _ => 0))) hx hb (hT _ mw_1_122) rfl hK hP hD hS hA (fun _ => rfl) (by decide) (by decide) (by decide) (Nat.le_of_ble_eq_true rfl) (Nat.le_of_ble_eq_true rfl) dX2_init_8 (fun q_1 cA_2 H hK hP hD hS => ?_)
  have hP : va_P (dC, dI) vwCl [(ob, .inr (2, [.null, .null])), (q_1, .inl (cA_2, 20000, .inl (fun _ => 0)))] H := hP
  have hD : va_D A [(ob, .inr (2, [.null, .null])), (q_1, .inl (cA_2, 20000, .inl (fun _ => 0)))] := hD
  have hK : va_K (dC, dI) vwCl [(cA_2, .int)] s := hK
  refine W.widen (k := 1) (n := 20000) (Nat.le_of_ble_eq_true rfl) (Nat.le_of_ble_eq_true rfl) ?_
  refine va_putF (D := (dC, dI)) (ci := 2) (v := .ref q_1) (ty := (.array .int)) (C := RX2) (T := TX2) (N := 2) hx hb hT inX2 tyX2 tyX2_ok nmX2 hown hK hP hD hS 0 rfl rfl 0 (by decide) (hT _ mw_2_163) (fun _ h9 => h9) rfl hin rfl (by decide +kernel) rfl rfl (Nat.le_of_ble_eq_true rfl) dX2_init_10 (fun H locs hP hD hS => ?_)
  have hP : va_P (dC, dI) vwCl [(ob, .inr (2, [.ref q_1, .null])), (q_1, .inl (cA_2, 20000, .inl (fun _ => 0)))] H := hP
  have hD : va_D A [(ob, .inr (2, [.ref q_1, .null])), (q_1, .inl (cA_2, 20000, .inl (fun _ => 0)))] := hD
  refine lv_aload_n hx hb dX2_init_13 rfl (lv_at hl 0 rfl) ?_
  refine lv_sipush (v := 2000) hx hb dX2_init_14 (by decide) ?_
  refine va_newa (atype := .int) (ty := .int) (a0 := (2000, .inl (fun _ => 0))) hx hb (hT _ mw_1_122) rfl hK hP hD hS hA (fun _ => rfl) (by decide) (by decide) (by decide) (Nat.le_of_ble_eq_true rfl) (Nat.le_of_ble_eq_true rfl) dX2_init_17 (fun q_3 cA_4 H hK hP hD hS => ?_)
  have hP : va_P (dC, dI) vwCl [(ob, .inr (2, [.ref q_1, .null])), (q_1, .inl (cA_2, 20000, .inl (fun _ => 0))), (q_3, .inl (cA_4, 2000, .inl (fun _ => 0)))] H := hP
  have hD : va_D A [(ob, .inr (2, [.ref q_1, .null])), (q_1, .inl (cA_2, 20000, .inl (fun _ => 0))), (q_3, .inl (cA_4, 2000, .inl (fun _ => 0)))] := hD
  have hK : va_K (dC, dI) vwCl [(cA_2, .int), (cA_4, .int)] s := hK
  refine W.widen (k := 2) (n := 22000) (Nat.le_of_ble_eq_true rfl) (Nat.le_of_ble_eq_true rfl) ?_
  refine va_putF (D := (dC, dI)) (ci := 2) (v := .ref q_3) (ty := (.array .int)) (C := RX2) (T := TX2) (N := 2) hx hb hT inX2 tyX2 tyX2_ok nmX2 hown hK hP hD hS 0 rfl rfl 1 (by decide) (hT _ mw_2_165) (fun _ h9 => h9) rfl hin rfl (by decide +kernel) rfl rfl (Nat.le_of_ble_eq_true rfl) dX2_init_19 (fun H locs hP hD hS => ?_)
  have hP : va_P (dC, dI) vwCl [(ob, .inr (2, [.ref q_1, .ref q_3])), (q_1, .inl (cA_2, 20000, .inl (fun _ => 0))), (q_3, .inl (cA_4, 2000, .inl (fun _ => 0)))] H := hP
  have hD : va_D A [(ob, .inr (2, [.ref q_1, .ref q_3])), (q_1, .inl (cA_2, 20000, .inl (fun _ => 0))), (q_3, .inl (cA_4, 2000, .inl (fun _ => 0)))] := hD
  have hP9 := hP.sub (ws' := [(ob, .inr (2, [.ref q_1, .ref q_3])), (q_1, .inl (cA_2, 20000, .inl (fun _ => 0))), (q_3, .inl (cA_4, 2000, .inl (fun _ => 0)))]) [0, 1, 2] rfl
  have hD9 := hD.sub (ws' := [(ob, .inr (2, [.ref q_1, .ref q_3])), (q_1, .inl (cA_2, 20000, .inl (fun _ => 0))), (q_3, .inl (cA_4, 2000, .inl (fun _ => 0)))]) [0, 1, 2] (by decide) rfl
  have hK9 := hK.sub (tys' := [(cA_2, .int), (cA_4, .int)]) [0, 1] rfl
  refine W.widen (k := 2) (n := 22000) (Nat.le_of_ble_eq_true rfl) (Nat.le_of_ble_eq_true rfl) ?_
  exact W.vret hx hb hr (fun t ht hW => ⟨⟨(), rfl, trivial, q_1, q_3, cA_2, cA_4, va_K.moved hW.alike hK9, by rw [ht]; exact hP9, hD9⟩, hS.F ht⟩) hS.2.2 dX2_init_22
abbrev q_X5_init (dC : Nat → ClassId) (dI : Nat → Nat → Nat) (A : Nat → Prop) (ob : Nat) : Array Value → State → Outcome → State → Prop := va_Qv (fun _ : Unit => True) (fun (_ : Unit) (t : State) => ∃ (b_slot : Nat), ∃ (b_hour : Nat), ∃ (b_low : Nat), ∃ (b_high : Nat), ∃ (b_byHour : Nat), ∃ (kb_slot : ClassId), ∃ (kb_hour : ClassId), ∃ (kb_low : ClassId), ∃ (kb_high : ClassId), ∃ (kb_byHour : ClassId), va_K (dC, dI) vwCl [(kb_slot, .int), (kb_hour, .int), (kb_low, .int), (kb_high, .int), (kb_byHour, .int)] t ∧ va_P (dC, dI) vwCl [(ob, .inr (5, [.int 0, .int (-1), .ref b_slot, .ref b_hour, .ref b_low, .ref b_high, .ref b_byHour])), (b_slot, .inl (kb_slot, 30, .inl (fun _ => 0))), (b_hour, .inl (kb_hour, 30, .inl (fun _ => 0))), (b_low, .inl (kb_low, 30, .inl (fun _ => 0))), (b_high, .inl (kb_high, 30, .inl (fun _ => 0))), (b_byHour, .inl (kb_byHour, 30, .inl (fun _ => 0)))] t.heap ∧ va_D A [(ob, .inr (5, [.int 0, .int (-1), .ref b_slot, .ref b_hour, .ref b_low, .ref b_high, .ref b_byHour])), (b_slot, .inl (kb_slot, 30, .inl (fun _ => 0))), (b_hour, .inl (kb_hour, 30, .inl (fun _ => 0))), (b_low, .inl (kb_low, 30, .inl (fun _ => 0))), (b_high, .inl (kb_high, 30, .inl (fun _ => 0))), (b_byHour, .inl (kb_byHour, 30, .inl (fun _ => 0)))]) A
set_option maxHeartbeats 4000000 in
set_option maxRecDepth 100000 in
theorem c_X5_init (l : Launch) (dC : Nat → ClassId) (dI : Nat → Nat → Nat) (sz : Nat) (ob : Nat)  : Met l yX5_init (pw_w yX5_init cX5_init 1 none) ({ frames := 1, cells := 5, slots := 150, locals := 20 }) (va_Pc [.ref ob] (fun U => U.heap.size = sz ∧ va_P (dC, dI) vwCl [(ob, .inr (5, [.int 0, .int 0, .null, .null, .null, .null, .null]))] U.heap ∧ va_K (dC, dI) vwCl [] U ∧ va_D (fun _ => True) [(ob, .inr (5, [.int 0, .int 0, .null, .null, .null, .null, .null]))])) (q_X5_init dC dI (va_A [(ob, .inr (5, [.int 0, .int 0, .null, .null, .null, .null, .null]))] sz) ob) 5 150 (va_A [(ob, .inr (5, [.int 0, .int 0, .null, .null, .null, .null, .null]))] sz) := by
  refine Met.ofW (cc := cX5_init) (maxL := 1) (ret := none) (by decide) rfl ?_
  intro p e s m args below meth c s₁ B hml hv
  obtain ⟨rfl, hsz, hP, hK, hD0⟩ := hv
  have hx := B.exec
  have hb := B.bytes
  have hr := B.returns
  have hts := atoms_spec (ws := (pw_w yX5_init cX5_init 1 none)) B.pre
  have hT : ∀ w ∈ pw_T, w.before _ s = true := fun w h => hts w (List.mem_cons_of_mem _ h)
  have hown : s.vm.findClass RX5 = some m.cls := findClass_of_methodNamed B.named
  have hlocks := B.notSynchronized
  have hin : meth.name = "<init>" := (name_of_methodNamed B.named B.method).1
  subst hsz
  have hD := hD0.self (sz := s.heap.size)
  generalize hAe : va_A [(ob, .inr (5, [.int 0, .int 0, .null, .null, .null, .null, .null]))] s.heap.size = A at hD ⊢
  have hA : ∀ q : Nat, s.heap.size ≤ q → A q := fun q h => by rw [← hAe]; exact Or.inr h
  have hS : va_S A s.heap s.heap [] := va_S.rf
  have hP : va_P (dC, dI) vwCl [(ob, .inr (5, [.int 0, .int 0, .null, .null, .null, .null, .null]))] s.heap := hP
  have hl := lv_entry ([.ref ob]) (n := 1) (Nat.le_of_ble_eq_true rfl)
  rw [lg_entry_eq]
  generalize (lg_sl ([.ref ob]) ++ List.replicate (1 - (lg_sl ([.ref ob])).length) Slot.unset).toArray = ls at hl ⊢
  have hl : lv_has ls 1 [(0, .ref ob)] := hl
  refine lv_aload_n hx hb dX5_init_0 rfl (lv_at hl 0 rfl) ?_
  refine W.objInit hx hb hown (hT _ mw_2_177) (hT _ mw_1_32) (hT _ mw_1_33) rfl (by rw [hml]; exact hl.1) rfl dX5_init_1 (Nat.le_of_ble_eq_true rfl) (Nat.le_of_ble_eq_true rfl) ?_
  refine W.eq (g2 := F0 m 4 ls []) rfl ?_
  refine lv_aload_n hx hb dX5_init_4 rfl (lv_at hl 0 rfl) ?_
  refine lv_iconst (v := (-1)) hx hb dX5_init_5 (by decide) ?_
  refine va_put (D := (dC, dI)) (ci := 5) (v := .int (-1)) (ty := .int) (C := RX5) (T := TX5) (N := 7) hx hb hT inX5 tyX5 tyX5_ok nmX5 hown hK hP hD hS 0 rfl rfl 1 (by decide) (hT _ mw_2_180) (fun _ h9 => h9) rfl (by decide +kernel) rfl rfl (Nat.le_of_ble_eq_true rfl) dX5_init_6 (fun H locs hP hD hS => ?_)
  have hP : va_P (dC, dI) vwCl [(ob, .inr (5, [.int 0, .int (-1), .null, .null, .null, .null, .null]))] H := hP
  have hD : va_D A [(ob, .inr (5, [.int 0, .int (-1), .null, .null, .null, .null, .null]))] := hD
  refine lv_aload_n hx hb dX5_init_9 rfl (lv_at hl 0 rfl) ?_
  refine lv_bipush (v := 30) hx hb dX5_init_10 (by decide) ?_
  refine va_newa (atype := .int) (ty := .int) (a0 := (30, .inl (fun _ => 0))) hx hb (hT _ mw_1_122) rfl hK hP hD hS hA (fun _ => rfl) (by decide) (by decide) (by decide) (Nat.le_of_ble_eq_true rfl) (Nat.le_of_ble_eq_true rfl) dX5_init_12 (fun q_1 cA_2 H hK hP hD hS => ?_)
  have hP : va_P (dC, dI) vwCl [(ob, .inr (5, [.int 0, .int (-1), .null, .null, .null, .null, .null])), (q_1, .inl (cA_2, 30, .inl (fun _ => 0)))] H := hP
  have hD : va_D A [(ob, .inr (5, [.int 0, .int (-1), .null, .null, .null, .null, .null])), (q_1, .inl (cA_2, 30, .inl (fun _ => 0)))] := hD
  have hK : va_K (dC, dI) vwCl [(cA_2, .int)] s := hK
  refine W.widen (k := 1) (n := 30) (Nat.le_of_ble_eq_true rfl) (Nat.le_of_ble_eq_true rfl) ?_
  refine va_putF (D := (dC, dI)) (ci := 5) (v := .ref q_1) (ty := (.array .int)) (C := RX5) (T := TX5) (N := 7) hx hb hT inX5 tyX5 tyX5_ok nmX5 hown hK hP hD hS 0 rfl rfl 2 (by decide) (hT _ mw_2_182) (fun _ h9 => h9) rfl hin rfl (by decide +kernel) rfl rfl (Nat.le_of_ble_eq_true rfl) dX5_init_14 (fun H locs hP hD hS => ?_)
  have hP : va_P (dC, dI) vwCl [(ob, .inr (5, [.int 0, .int (-1), .ref q_1, .null, .null, .null, .null])), (q_1, .inl (cA_2, 30, .inl (fun _ => 0)))] H := hP
  have hD : va_D A [(ob, .inr (5, [.int 0, .int (-1), .ref q_1, .null, .null, .null, .null])), (q_1, .inl (cA_2, 30, .inl (fun _ => 0)))] := hD
  refine lv_aload_n hx hb dX5_init_17 rfl (lv_at hl 0 rfl) ?_
  refine lv_bipush (v := 30) hx hb dX5_init_18 (by decide) ?_
  refine va_newa (atype := .int) (ty := .int) (a0 := (30, .inl (fun _ => 0))) hx hb (hT _ mw_1_122) rfl hK hP hD hS hA (fun _ => rfl) (by decide) (by decide) (by decide) (Nat.le_of_ble_eq_true rfl) (Nat.le_of_ble_eq_true rfl) dX5_init_20 (fun q_3 cA_4 H hK hP hD hS => ?_)
  have hP : va_P (dC, dI) vwCl [(ob, .inr (5, [.int 0, .int (-1), .ref q_1, .null, .null, .null, .null])), (q_1, .inl (cA_2, 30, .inl (fun _ => 0))), (q_3, .inl (cA_4, 30, .inl (fun _ => 0)))] H := hP
  have hD : va_D A [(ob, .inr (5, [.int 0, .int (-1), .ref q_1, .null, .null, .null, .null])), (q_1, .inl (cA_2, 30, .inl (fun _ => 0))), (q_3, .inl (cA_4, 30, .inl (fun _ => 0)))] := hD
  have hK : va_K (dC, dI) vwCl [(cA_2, .int), (cA_4, .int)] s := hK
  refine W.widen (k := 2) (n := 60) (Nat.le_of_ble_eq_true rfl) (Nat.le_of_ble_eq_true rfl) ?_
  refine va_putF (D := (dC, dI)) (ci := 5) (v := .ref q_3) (ty := (.array .int)) (C := RX5) (T := TX5) (N := 7) hx hb hT inX5 tyX5 tyX5_ok nmX5 hown hK hP hD hS 0 rfl rfl 3 (by decide) (hT _ mw_2_183) (fun _ h9 => h9) rfl hin rfl (by decide +kernel) rfl rfl (Nat.le_of_ble_eq_true rfl) dX5_init_22 (fun H locs hP hD hS => ?_)
  have hP : va_P (dC, dI) vwCl [(ob, .inr (5, [.int 0, .int (-1), .ref q_1, .ref q_3, .null, .null, .null])), (q_1, .inl (cA_2, 30, .inl (fun _ => 0))), (q_3, .inl (cA_4, 30, .inl (fun _ => 0)))] H := hP
  have hD : va_D A [(ob, .inr (5, [.int 0, .int (-1), .ref q_1, .ref q_3, .null, .null, .null])), (q_1, .inl (cA_2, 30, .inl (fun _ => 0))), (q_3, .inl (cA_4, 30, .inl (fun _ => 0)))] := hD
  refine lv_aload_n hx hb dX5_init_25 rfl (lv_at hl 0 rfl) ?_
  refine lv_bipush (v := 30) hx hb dX5_init_26 (by decide) ?_
  refine va_newa (atype := .int) (ty := .int) (a0 := (30, .inl (fun _ => 0))) hx hb (hT _ mw_1_122) rfl hK hP hD hS hA (fun _ => rfl) (by decide) (by decide) (by decide) (Nat.le_of_ble_eq_true rfl) (Nat.le_of_ble_eq_true rfl) dX5_init_28 (fun q_5 cA_6 H hK hP hD hS => ?_)
  have hP : va_P (dC, dI) vwCl [(ob, .inr (5, [.int 0, .int (-1), .ref q_1, .ref q_3, .null, .null, .null])), (q_1, .inl (cA_2, 30, .inl (fun _ => 0))), (q_3, .inl (cA_4, 30, .inl (fun _ => 0))), (q_5, .inl (cA_6, 30, .inl (fun _ => 0)))] H := hP
  have hD : va_D A [(ob, .inr (5, [.int 0, .int (-1), .ref q_1, .ref q_3, .null, .null, .null])), (q_1, .inl (cA_2, 30, .inl (fun _ => 0))), (q_3, .inl (cA_4, 30, .inl (fun _ => 0))), (q_5, .inl (cA_6, 30, .inl (fun _ => 0)))] := hD
  have hK : va_K (dC, dI) vwCl [(cA_2, .int), (cA_4, .int), (cA_6, .int)] s := hK
  refine W.widen (k := 3) (n := 90) (Nat.le_of_ble_eq_true rfl) (Nat.le_of_ble_eq_true rfl) ?_
  refine va_putF (D := (dC, dI)) (ci := 5) (v := .ref q_5) (ty := (.array .int)) (C := RX5) (T := TX5) (N := 7) hx hb hT inX5 tyX5 tyX5_ok nmX5 hown hK hP hD hS 0 rfl rfl 4 (by decide) (hT _ mw_2_184) (fun _ h9 => h9) rfl hin rfl (by decide +kernel) rfl rfl (Nat.le_of_ble_eq_true rfl) dX5_init_30 (fun H locs hP hD hS => ?_)
  have hP : va_P (dC, dI) vwCl [(ob, .inr (5, [.int 0, .int (-1), .ref q_1, .ref q_3, .ref q_5, .null, .null])), (q_1, .inl (cA_2, 30, .inl (fun _ => 0))), (q_3, .inl (cA_4, 30, .inl (fun _ => 0))), (q_5, .inl (cA_6, 30, .inl (fun _ => 0)))] H := hP
  have hD : va_D A [(ob, .inr (5, [.int 0, .int (-1), .ref q_1, .ref q_3, .ref q_5, .null, .null])), (q_1, .inl (cA_2, 30, .inl (fun _ => 0))), (q_3, .inl (cA_4, 30, .inl (fun _ => 0))), (q_5, .inl (cA_6, 30, .inl (fun _ => 0)))] := hD
  refine lv_aload_n hx hb dX5_init_33 rfl (lv_at hl 0 rfl) ?_
  refine lv_bipush (v := 30) hx hb dX5_init_34 (by decide) ?_
  refine va_newa (atype := .int) (ty := .int) (a0 := (30, .inl (fun _ => 0))) hx hb (hT _ mw_1_122) rfl hK hP hD hS hA (fun _ => rfl) (by decide) (by decide) (by decide) (Nat.le_of_ble_eq_true rfl) (Nat.le_of_ble_eq_true rfl) dX5_init_36 (fun q_7 cA_8 H hK hP hD hS => ?_)
  have hP : va_P (dC, dI) vwCl [(ob, .inr (5, [.int 0, .int (-1), .ref q_1, .ref q_3, .ref q_5, .null, .null])), (q_1, .inl (cA_2, 30, .inl (fun _ => 0))), (q_3, .inl (cA_4, 30, .inl (fun _ => 0))), (q_5, .inl (cA_6, 30, .inl (fun _ => 0))), (q_7, .inl (cA_8, 30, .inl (fun _ => 0)))] H := hP
  have hD : va_D A [(ob, .inr (5, [.int 0, .int (-1), .ref q_1, .ref q_3, .ref q_5, .null, .null])), (q_1, .inl (cA_2, 30, .inl (fun _ => 0))), (q_3, .inl (cA_4, 30, .inl (fun _ => 0))), (q_5, .inl (cA_6, 30, .inl (fun _ => 0))), (q_7, .inl (cA_8, 30, .inl (fun _ => 0)))] := hD
  have hK : va_K (dC, dI) vwCl [(cA_2, .int), (cA_4, .int), (cA_6, .int), (cA_8, .int)] s := hK
  refine W.widen (k := 4) (n := 120) (Nat.le_of_ble_eq_true rfl) (Nat.le_of_ble_eq_true rfl) ?_
  refine va_putF (D := (dC, dI)) (ci := 5) (v := .ref q_7) (ty := (.array .int)) (C := RX5) (T := TX5) (N := 7) hx hb hT inX5 tyX5 tyX5_ok nmX5 hown hK hP hD hS 0 rfl rfl 5 (by decide) (hT _ mw_2_185) (fun _ h9 => h9) rfl hin rfl (by decide +kernel) rfl rfl (Nat.le_of_ble_eq_true rfl) dX5_init_38 (fun H locs hP hD hS => ?_)
  have hP : va_P (dC, dI) vwCl [(ob, .inr (5, [.int 0, .int (-1), .ref q_1, .ref q_3, .ref q_5, .ref q_7, .null])), (q_1, .inl (cA_2, 30, .inl (fun _ => 0))), (q_3, .inl (cA_4, 30, .inl (fun _ => 0))), (q_5, .inl (cA_6, 30, .inl (fun _ => 0))), (q_7, .inl (cA_8, 30, .inl (fun _ => 0)))] H := hP
  have hD : va_D A [(ob, .inr (5, [.int 0, .int (-1), .ref q_1, .ref q_3, .ref q_5, .ref q_7, .null])), (q_1, .inl (cA_2, 30, .inl (fun _ => 0))), (q_3, .inl (cA_4, 30, .inl (fun _ => 0))), (q_5, .inl (cA_6, 30, .inl (fun _ => 0))), (q_7, .inl (cA_8, 30, .inl (fun _ => 0)))] := hD
  refine lv_aload_n hx hb dX5_init_41 rfl (lv_at hl 0 rfl) ?_
  refine lv_bipush (v := 30) hx hb dX5_init_42 (by decide) ?_
  refine va_newa (atype := .int) (ty := .int) (a0 := (30, .inl (fun _ => 0))) hx hb (hT _ mw_1_122) rfl hK hP hD hS hA (fun _ => rfl) (by decide) (by decide) (by decide) (Nat.le_of_ble_eq_true rfl) (Nat.le_of_ble_eq_true rfl) dX5_init_44 (fun q_9 cA_10 H hK hP hD hS => ?_)
  have hP : va_P (dC, dI) vwCl [(ob, .inr (5, [.int 0, .int (-1), .ref q_1, .ref q_3, .ref q_5, .ref q_7, .null])), (q_1, .inl (cA_2, 30, .inl (fun _ => 0))), (q_3, .inl (cA_4, 30, .inl (fun _ => 0))), (q_5, .inl (cA_6, 30, .inl (fun _ => 0))), (q_7, .inl (cA_8, 30, .inl (fun _ => 0))), (q_9, .inl (cA_10, 30, .inl (fun _ => 0)))] H := hP
  have hD : va_D A [(ob, .inr (5, [.int 0, .int (-1), .ref q_1, .ref q_3, .ref q_5, .ref q_7, .null])), (q_1, .inl (cA_2, 30, .inl (fun _ => 0))), (q_3, .inl (cA_4, 30, .inl (fun _ => 0))), (q_5, .inl (cA_6, 30, .inl (fun _ => 0))), (q_7, .inl (cA_8, 30, .inl (fun _ => 0))), (q_9, .inl (cA_10, 30, .inl (fun _ => 0)))] := hD
  have hK : va_K (dC, dI) vwCl [(cA_2, .int), (cA_4, .int), (cA_6, .int), (cA_8, .int), (cA_10, .int)] s := hK
  refine W.widen (k := 5) (n := 150) (Nat.le_of_ble_eq_true rfl) (Nat.le_of_ble_eq_true rfl) ?_
  refine va_putF (D := (dC, dI)) (ci := 5) (v := .ref q_9) (ty := (.array .int)) (C := RX5) (T := TX5) (N := 7) hx hb hT inX5 tyX5 tyX5_ok nmX5 hown hK hP hD hS 0 rfl rfl 6 (by decide) (hT _ mw_2_186) (fun _ h9 => h9) rfl hin rfl (by decide +kernel) rfl rfl (Nat.le_of_ble_eq_true rfl) dX5_init_46 (fun H locs hP hD hS => ?_)
  have hP : va_P (dC, dI) vwCl [(ob, .inr (5, [.int 0, .int (-1), .ref q_1, .ref q_3, .ref q_5, .ref q_7, .ref q_9])), (q_1, .inl (cA_2, 30, .inl (fun _ => 0))), (q_3, .inl (cA_4, 30, .inl (fun _ => 0))), (q_5, .inl (cA_6, 30, .inl (fun _ => 0))), (q_7, .inl (cA_8, 30, .inl (fun _ => 0))), (q_9, .inl (cA_10, 30, .inl (fun _ => 0)))] H := hP
  have hD : va_D A [(ob, .inr (5, [.int 0, .int (-1), .ref q_1, .ref q_3, .ref q_5, .ref q_7, .ref q_9])), (q_1, .inl (cA_2, 30, .inl (fun _ => 0))), (q_3, .inl (cA_4, 30, .inl (fun _ => 0))), (q_5, .inl (cA_6, 30, .inl (fun _ => 0))), (q_7, .inl (cA_8, 30, .inl (fun _ => 0))), (q_9, .inl (cA_10, 30, .inl (fun _ => 0)))] := hD
  have hP9 := hP.sub (ws' := [(ob, .inr (5, [.int 0, .int (-1), .ref q_1, .ref q_3, .ref q_5, .ref q_7, .ref q_9])), (q_1, .inl (cA_2, 30, .inl (fun _ => 0))), (q_3, .inl (cA_4, 30, .inl (fun _ => 0))), (q_5, .inl (cA_6, 30, .inl (fun _ => 0))), (q_7, .inl (cA_8, 30, .inl (fun _ => 0))), (q_9, .inl (cA_10, 30, .inl (fun _ => 0)))]) [0, 1, 2, 3, 4, 5] rfl
  have hD9 := hD.sub (ws' := [(ob, .inr (5, [.int 0, .int (-1), .ref q_1, .ref q_3, .ref q_5, .ref q_7, .ref q_9])), (q_1, .inl (cA_2, 30, .inl (fun _ => 0))), (q_3, .inl (cA_4, 30, .inl (fun _ => 0))), (q_5, .inl (cA_6, 30, .inl (fun _ => 0))), (q_7, .inl (cA_8, 30, .inl (fun _ => 0))), (q_9, .inl (cA_10, 30, .inl (fun _ => 0)))]) [0, 1, 2, 3, 4, 5] (by decide) rfl
  have hK9 := hK.sub (tys' := [(cA_2, .int), (cA_4, .int), (cA_6, .int), (cA_8, .int), (cA_10, .int)]) [0, 1, 2, 3, 4] rfl
  refine W.widen (k := 5) (n := 150) (Nat.le_of_ble_eq_true rfl) (Nat.le_of_ble_eq_true rfl) ?_
  exact W.vret hx hb hr (fun t ht hW => ⟨⟨(), rfl, trivial, q_1, q_3, q_5, q_7, q_9, cA_2, cA_4, cA_6, cA_8, cA_10, va_K.moved hW.alike hK9, by rw [ht]; exact hP9, hD9⟩, hS.F ht⟩) hS.2.2 dX5_init_49
abbrev q_X9_init (dC : Nat → ClassId) (dI : Nat → Nat → Nat) (A : Nat → Prop) (ob : Nat) : Array Value → State → Outcome → State → Prop := va_Qv (fun _ : Unit => True) (fun (_ : Unit) (t : State) => ∃ (b_seconds : Nat), ∃ (kb_seconds : ClassId), va_K (dC, dI) vwCl [(kb_seconds, .int)] t ∧ va_P (dC, dI) vwCl [(ob, .inr (9, [.int (-1), .int 0, .ref b_seconds])), (b_seconds, .inl (kb_seconds, 121, .inl (fun _ => 0)))] t.heap ∧ va_D A [(ob, .inr (9, [.int (-1), .int 0, .ref b_seconds])), (b_seconds, .inl (kb_seconds, 121, .inl (fun _ => 0)))]) A
set_option maxHeartbeats 4000000 in
set_option maxRecDepth 100000 in
theorem c_X9_init (l : Launch) (dC : Nat → ClassId) (dI : Nat → Nat → Nat) (sz : Nat) (ob : Nat)  : Met l yX9_init (pw_w yX9_init cX9_init 1 none) ({ frames := 1, cells := 1, slots := 121, locals := 20 }) (va_Pc [.ref ob] (fun U => U.heap.size = sz ∧ va_P (dC, dI) vwCl [(ob, .inr (9, [.int 0, .int 0, .null]))] U.heap ∧ va_K (dC, dI) vwCl [] U ∧ va_D (fun _ => True) [(ob, .inr (9, [.int 0, .int 0, .null]))])) (q_X9_init dC dI (va_A [(ob, .inr (9, [.int 0, .int 0, .null]))] sz) ob) 1 121 (va_A [(ob, .inr (9, [.int 0, .int 0, .null]))] sz) := by
  refine Met.ofW (cc := cX9_init) (maxL := 1) (ret := none) (by decide) rfl ?_
  intro p e s m args below meth c s₁ B hml hv
  obtain ⟨rfl, hsz, hP, hK, hD0⟩ := hv
  have hx := B.exec
  have hb := B.bytes
  have hr := B.returns
  have hts := atoms_spec (ws := (pw_w yX9_init cX9_init 1 none)) B.pre
  have hT : ∀ w ∈ pw_T, w.before _ s = true := fun w h => hts w (List.mem_cons_of_mem _ h)
  have hown : s.vm.findClass RX9 = some m.cls := findClass_of_methodNamed B.named
  have hlocks := B.notSynchronized
  have hin : meth.name = "<init>" := (name_of_methodNamed B.named B.method).1
  subst hsz
  have hD := hD0.self (sz := s.heap.size)
  generalize hAe : va_A [(ob, .inr (9, [.int 0, .int 0, .null]))] s.heap.size = A at hD ⊢
  have hA : ∀ q : Nat, s.heap.size ≤ q → A q := fun q h => by rw [← hAe]; exact Or.inr h
  have hS : va_S A s.heap s.heap [] := va_S.rf
  have hP : va_P (dC, dI) vwCl [(ob, .inr (9, [.int 0, .int 0, .null]))] s.heap := hP
  have hl := lv_entry ([.ref ob]) (n := 1) (Nat.le_of_ble_eq_true rfl)
  rw [lg_entry_eq]
  generalize (lg_sl ([.ref ob]) ++ List.replicate (1 - (lg_sl ([.ref ob])).length) Slot.unset).toArray = ls at hl ⊢
  have hl : lv_has ls 1 [(0, .ref ob)] := hl
  refine lv_aload_n hx hb dX9_init_0 rfl (lv_at hl 0 rfl) ?_
  refine W.objInit hx hb hown (hT _ mw_2_207) (hT _ mw_1_32) (hT _ mw_1_33) rfl (by rw [hml]; exact hl.1) rfl dX9_init_1 (Nat.le_of_ble_eq_true rfl) (Nat.le_of_ble_eq_true rfl) ?_
  refine W.eq (g2 := F0 m 4 ls []) rfl ?_
  refine lv_aload_n hx hb dX9_init_4 rfl (lv_at hl 0 rfl) ?_
  refine lv_iconst (v := (-1)) hx hb dX9_init_5 (by decide) ?_
  refine va_put (D := (dC, dI)) (ci := 9) (v := .int (-1)) (ty := .int) (C := RX9) (T := TX9) (N := 3) hx hb hT inX9 tyX9 tyX9_ok nmX9 hown hK hP hD hS 0 rfl rfl 0 (by decide) (hT _ mw_2_208) (fun _ h9 => h9) rfl (by decide +kernel) rfl rfl (Nat.le_of_ble_eq_true rfl) dX9_init_6 (fun H locs hP hD hS => ?_)
  have hP : va_P (dC, dI) vwCl [(ob, .inr (9, [.int (-1), .int 0, .null]))] H := hP
  have hD : va_D A [(ob, .inr (9, [.int (-1), .int 0, .null]))] := hD
  refine lv_aload_n hx hb dX9_init_9 rfl (lv_at hl 0 rfl) ?_
  refine lv_bipush (v := 121) hx hb dX9_init_10 (by decide) ?_
  refine va_newa (atype := .int) (ty := .int) (a0 := (121, .inl (fun _ => 0))) hx hb (hT _ mw_1_122) rfl hK hP hD hS hA (fun _ => rfl) (by decide) (by decide) (by decide) (Nat.le_of_ble_eq_true rfl) (Nat.le_of_ble_eq_true rfl) dX9_init_12 (fun q_1 cA_2 H hK hP hD hS => ?_)
  have hP : va_P (dC, dI) vwCl [(ob, .inr (9, [.int (-1), .int 0, .null])), (q_1, .inl (cA_2, 121, .inl (fun _ => 0)))] H := hP
  have hD : va_D A [(ob, .inr (9, [.int (-1), .int 0, .null])), (q_1, .inl (cA_2, 121, .inl (fun _ => 0)))] := hD
  have hK : va_K (dC, dI) vwCl [(cA_2, .int)] s := hK
  refine W.widen (k := 1) (n := 121) (Nat.le_of_ble_eq_true rfl) (Nat.le_of_ble_eq_true rfl) ?_
  refine va_putF (D := (dC, dI)) (ci := 9) (v := .ref q_1) (ty := (.array .int)) (C := RX9) (T := TX9) (N := 3) hx hb hT inX9 tyX9 tyX9_ok nmX9 hown hK hP hD hS 0 rfl rfl 2 (by decide) (hT _ mw_2_212) (fun _ h9 => h9) rfl hin rfl (by decide +kernel) rfl rfl (Nat.le_of_ble_eq_true rfl) dX9_init_14 (fun H locs hP hD hS => ?_)
  have hP : va_P (dC, dI) vwCl [(ob, .inr (9, [.int (-1), .int 0, .ref q_1])), (q_1, .inl (cA_2, 121, .inl (fun _ => 0)))] H := hP
  have hD : va_D A [(ob, .inr (9, [.int (-1), .int 0, .ref q_1])), (q_1, .inl (cA_2, 121, .inl (fun _ => 0)))] := hD
  have hP9 := hP.sub (ws' := [(ob, .inr (9, [.int (-1), .int 0, .ref q_1])), (q_1, .inl (cA_2, 121, .inl (fun _ => 0)))]) [0, 1] rfl
  have hD9 := hD.sub (ws' := [(ob, .inr (9, [.int (-1), .int 0, .ref q_1])), (q_1, .inl (cA_2, 121, .inl (fun _ => 0)))]) [0, 1] (by decide) rfl
  have hK9 := hK.sub (tys' := [(cA_2, .int)]) [0] rfl
  refine W.widen (k := 1) (n := 121) (Nat.le_of_ble_eq_true rfl) (Nat.le_of_ble_eq_true rfl) ?_
  exact W.vret hx hb hr (fun t ht hW => ⟨⟨(), rfl, trivial, q_1, cA_2, va_K.moved hW.alike hK9, by rw [ht]; exact hP9, hD9⟩, hS.F ht⟩) hS.2.2 dX9_init_17
abbrev q_X1_init (dC : Nat → ClassId) (dI : Nat → Nat → Nat) (A : Nat → Prop) (ob : Nat) : Array Value → State → Outcome → State → Prop := va_Qv (fun _ : Unit => True) (fun (_ : Unit) (t : State) => ∃ (b_least : Nat), ∃ (b_leastAt : Nat), ∃ (b_most : Nat), ∃ (b_mostAt : Nat), ∃ (kb_least : ClassId), ∃ (kb_leastAt : ClassId), ∃ (kb_most : ClassId), ∃ (kb_mostAt : ClassId), va_K (dC, dI) vwCl [(kb_least, .int), (kb_leastAt, .int), (kb_most, .int), (kb_mostAt, .int)] t ∧ va_P (dC, dI) vwCl [(ob, .inr (1, [.ref b_least, .ref b_leastAt, .ref b_most, .ref b_mostAt, .int (-1), .int (-1), .int (-1)])), (b_least, .inl (kb_least, 10, .inl (fun _ => 0))), (b_leastAt, .inl (kb_leastAt, 10, .inl (fun _ => 0))), (b_most, .inl (kb_most, 10, .inl (fun _ => 0))), (b_mostAt, .inl (kb_mostAt, 10, .inl (fun _ => 0)))] t.heap ∧ va_D A [(ob, .inr (1, [.ref b_least, .ref b_leastAt, .ref b_most, .ref b_mostAt, .int (-1), .int (-1), .int (-1)])), (b_least, .inl (kb_least, 10, .inl (fun _ => 0))), (b_leastAt, .inl (kb_leastAt, 10, .inl (fun _ => 0))), (b_most, .inl (kb_most, 10, .inl (fun _ => 0))), (b_mostAt, .inl (kb_mostAt, 10, .inl (fun _ => 0)))]) A
set_option maxHeartbeats 4000000 in
set_option maxRecDepth 100000 in
theorem c_X1_init (l : Launch) (dC : Nat → ClassId) (dI : Nat → Nat → Nat) (sz : Nat) (ob : Nat)  : Met l yX1_init (pw_w yX1_init cX1_init 1 none) ({ frames := 1, cells := 4, slots := 40, locals := 20 }) (va_Pc [.ref ob] (fun U => U.heap.size = sz ∧ va_P (dC, dI) vwCl [(ob, .inr (1, [.null, .null, .null, .null, .int 0, .int 0, .int 0]))] U.heap ∧ va_K (dC, dI) vwCl [] U ∧ va_D (fun _ => True) [(ob, .inr (1, [.null, .null, .null, .null, .int 0, .int 0, .int 0]))])) (q_X1_init dC dI (va_A [(ob, .inr (1, [.null, .null, .null, .null, .int 0, .int 0, .int 0]))] sz) ob) 4 40 (va_A [(ob, .inr (1, [.null, .null, .null, .null, .int 0, .int 0, .int 0]))] sz) := by
  refine Met.ofW (cc := cX1_init) (maxL := 1) (ret := none) (by decide) rfl ?_
  intro p e s m args below meth c s₁ B hml hv
  obtain ⟨rfl, hsz, hP, hK, hD0⟩ := hv
  have hx := B.exec
  have hb := B.bytes
  have hr := B.returns
  have hts := atoms_spec (ws := (pw_w yX1_init cX1_init 1 none)) B.pre
  have hT : ∀ w ∈ pw_T, w.before _ s = true := fun w h => hts w (List.mem_cons_of_mem _ h)
  have hown : s.vm.findClass RX1 = some m.cls := findClass_of_methodNamed B.named
  have hlocks := B.notSynchronized
  have hin : meth.name = "<init>" := (name_of_methodNamed B.named B.method).1
  subst hsz
  have hD := hD0.self (sz := s.heap.size)
  generalize hAe : va_A [(ob, .inr (1, [.null, .null, .null, .null, .int 0, .int 0, .int 0]))] s.heap.size = A at hD ⊢
  have hA : ∀ q : Nat, s.heap.size ≤ q → A q := fun q h => by rw [← hAe]; exact Or.inr h
  have hS : va_S A s.heap s.heap [] := va_S.rf
  have hP : va_P (dC, dI) vwCl [(ob, .inr (1, [.null, .null, .null, .null, .int 0, .int 0, .int 0]))] s.heap := hP
  have hl := lv_entry ([.ref ob]) (n := 1) (Nat.le_of_ble_eq_true rfl)
  rw [lg_entry_eq]
  generalize (lg_sl ([.ref ob]) ++ List.replicate (1 - (lg_sl ([.ref ob])).length) Slot.unset).toArray = ls at hl ⊢
  have hl : lv_has ls 1 [(0, .ref ob)] := hl
  refine lv_aload_n hx hb dX1_init_0 rfl (lv_at hl 0 rfl) ?_
  refine W.objInit hx hb hown (hT _ mw_2_226) (hT _ mw_1_32) (hT _ mw_1_33) rfl (by rw [hml]; exact hl.1) rfl dX1_init_1 (Nat.le_of_ble_eq_true rfl) (Nat.le_of_ble_eq_true rfl) ?_
  refine W.eq (g2 := F0 m 4 ls []) rfl ?_
  refine lv_aload_n hx hb dX1_init_4 rfl (lv_at hl 0 rfl) ?_
  refine lv_bipush (v := 10) hx hb dX1_init_5 (by decide) ?_
  refine va_newa (atype := .int) (ty := .int) (a0 := (10, .inl (fun _ => 0))) hx hb (hT _ mw_1_122) rfl hK hP hD hS hA (fun _ => rfl) (by decide) (by decide) (by decide) (Nat.le_of_ble_eq_true rfl) (Nat.le_of_ble_eq_true rfl) dX1_init_7 (fun q_1 cA_2 H hK hP hD hS => ?_)
  have hP : va_P (dC, dI) vwCl [(ob, .inr (1, [.null, .null, .null, .null, .int 0, .int 0, .int 0])), (q_1, .inl (cA_2, 10, .inl (fun _ => 0)))] H := hP
  have hD : va_D A [(ob, .inr (1, [.null, .null, .null, .null, .int 0, .int 0, .int 0])), (q_1, .inl (cA_2, 10, .inl (fun _ => 0)))] := hD
  have hK : va_K (dC, dI) vwCl [(cA_2, .int)] s := hK
  refine W.widen (k := 1) (n := 10) (Nat.le_of_ble_eq_true rfl) (Nat.le_of_ble_eq_true rfl) ?_
  refine va_putF (D := (dC, dI)) (ci := 1) (v := .ref q_1) (ty := (.array .int)) (C := RX1) (T := TX1) (N := 7) hx hb hT inX1 tyX1 tyX1_ok nmX1 hown hK hP hD hS 0 rfl rfl 0 (by decide) (hT _ mw_2_227) (fun _ h9 => h9) rfl hin rfl (by decide +kernel) rfl rfl (Nat.le_of_ble_eq_true rfl) dX1_init_9 (fun H locs hP hD hS => ?_)
  have hP : va_P (dC, dI) vwCl [(ob, .inr (1, [.ref q_1, .null, .null, .null, .int 0, .int 0, .int 0])), (q_1, .inl (cA_2, 10, .inl (fun _ => 0)))] H := hP
  have hD : va_D A [(ob, .inr (1, [.ref q_1, .null, .null, .null, .int 0, .int 0, .int 0])), (q_1, .inl (cA_2, 10, .inl (fun _ => 0)))] := hD
  refine lv_aload_n hx hb dX1_init_12 rfl (lv_at hl 0 rfl) ?_
  refine lv_bipush (v := 10) hx hb dX1_init_13 (by decide) ?_
  refine va_newa (atype := .int) (ty := .int) (a0 := (10, .inl (fun _ => 0))) hx hb (hT _ mw_1_122) rfl hK hP hD hS hA (fun _ => rfl) (by decide) (by decide) (by decide) (Nat.le_of_ble_eq_true rfl) (Nat.le_of_ble_eq_true rfl) dX1_init_15 (fun q_3 cA_4 H hK hP hD hS => ?_)
  have hP : va_P (dC, dI) vwCl [(ob, .inr (1, [.ref q_1, .null, .null, .null, .int 0, .int 0, .int 0])), (q_1, .inl (cA_2, 10, .inl (fun _ => 0))), (q_3, .inl (cA_4, 10, .inl (fun _ => 0)))] H := hP
  have hD : va_D A [(ob, .inr (1, [.ref q_1, .null, .null, .null, .int 0, .int 0, .int 0])), (q_1, .inl (cA_2, 10, .inl (fun _ => 0))), (q_3, .inl (cA_4, 10, .inl (fun _ => 0)))] := hD
  have hK : va_K (dC, dI) vwCl [(cA_2, .int), (cA_4, .int)] s := hK
  refine W.widen (k := 2) (n := 20) (Nat.le_of_ble_eq_true rfl) (Nat.le_of_ble_eq_true rfl) ?_
  refine va_putF (D := (dC, dI)) (ci := 1) (v := .ref q_3) (ty := (.array .int)) (C := RX1) (T := TX1) (N := 7) hx hb hT inX1 tyX1 tyX1_ok nmX1 hown hK hP hD hS 0 rfl rfl 1 (by decide) (hT _ mw_2_229) (fun _ h9 => h9) rfl hin rfl (by decide +kernel) rfl rfl (Nat.le_of_ble_eq_true rfl) dX1_init_17 (fun H locs hP hD hS => ?_)
  have hP : va_P (dC, dI) vwCl [(ob, .inr (1, [.ref q_1, .ref q_3, .null, .null, .int 0, .int 0, .int 0])), (q_1, .inl (cA_2, 10, .inl (fun _ => 0))), (q_3, .inl (cA_4, 10, .inl (fun _ => 0)))] H := hP
  have hD : va_D A [(ob, .inr (1, [.ref q_1, .ref q_3, .null, .null, .int 0, .int 0, .int 0])), (q_1, .inl (cA_2, 10, .inl (fun _ => 0))), (q_3, .inl (cA_4, 10, .inl (fun _ => 0)))] := hD
  refine lv_aload_n hx hb dX1_init_20 rfl (lv_at hl 0 rfl) ?_
  refine lv_bipush (v := 10) hx hb dX1_init_21 (by decide) ?_
  refine va_newa (atype := .int) (ty := .int) (a0 := (10, .inl (fun _ => 0))) hx hb (hT _ mw_1_122) rfl hK hP hD hS hA (fun _ => rfl) (by decide) (by decide) (by decide) (Nat.le_of_ble_eq_true rfl) (Nat.le_of_ble_eq_true rfl) dX1_init_23 (fun q_5 cA_6 H hK hP hD hS => ?_)
  have hP : va_P (dC, dI) vwCl [(ob, .inr (1, [.ref q_1, .ref q_3, .null, .null, .int 0, .int 0, .int 0])), (q_1, .inl (cA_2, 10, .inl (fun _ => 0))), (q_3, .inl (cA_4, 10, .inl (fun _ => 0))), (q_5, .inl (cA_6, 10, .inl (fun _ => 0)))] H := hP
  have hD : va_D A [(ob, .inr (1, [.ref q_1, .ref q_3, .null, .null, .int 0, .int 0, .int 0])), (q_1, .inl (cA_2, 10, .inl (fun _ => 0))), (q_3, .inl (cA_4, 10, .inl (fun _ => 0))), (q_5, .inl (cA_6, 10, .inl (fun _ => 0)))] := hD
  have hK : va_K (dC, dI) vwCl [(cA_2, .int), (cA_4, .int), (cA_6, .int)] s := hK
  refine W.widen (k := 3) (n := 30) (Nat.le_of_ble_eq_true rfl) (Nat.le_of_ble_eq_true rfl) ?_
  refine va_putF (D := (dC, dI)) (ci := 1) (v := .ref q_5) (ty := (.array .int)) (C := RX1) (T := TX1) (N := 7) hx hb hT inX1 tyX1 tyX1_ok nmX1 hown hK hP hD hS 0 rfl rfl 2 (by decide) (hT _ mw_2_231) (fun _ h9 => h9) rfl hin rfl (by decide +kernel) rfl rfl (Nat.le_of_ble_eq_true rfl) dX1_init_25 (fun H locs hP hD hS => ?_)
  have hP : va_P (dC, dI) vwCl [(ob, .inr (1, [.ref q_1, .ref q_3, .ref q_5, .null, .int 0, .int 0, .int 0])), (q_1, .inl (cA_2, 10, .inl (fun _ => 0))), (q_3, .inl (cA_4, 10, .inl (fun _ => 0))), (q_5, .inl (cA_6, 10, .inl (fun _ => 0)))] H := hP
  have hD : va_D A [(ob, .inr (1, [.ref q_1, .ref q_3, .ref q_5, .null, .int 0, .int 0, .int 0])), (q_1, .inl (cA_2, 10, .inl (fun _ => 0))), (q_3, .inl (cA_4, 10, .inl (fun _ => 0))), (q_5, .inl (cA_6, 10, .inl (fun _ => 0)))] := hD
  refine lv_aload_n hx hb dX1_init_28 rfl (lv_at hl 0 rfl) ?_
  refine lv_bipush (v := 10) hx hb dX1_init_29 (by decide) ?_
  refine va_newa (atype := .int) (ty := .int) (a0 := (10, .inl (fun _ => 0))) hx hb (hT _ mw_1_122) rfl hK hP hD hS hA (fun _ => rfl) (by decide) (by decide) (by decide) (Nat.le_of_ble_eq_true rfl) (Nat.le_of_ble_eq_true rfl) dX1_init_31 (fun q_7 cA_8 H hK hP hD hS => ?_)
  have hP : va_P (dC, dI) vwCl [(ob, .inr (1, [.ref q_1, .ref q_3, .ref q_5, .null, .int 0, .int 0, .int 0])), (q_1, .inl (cA_2, 10, .inl (fun _ => 0))), (q_3, .inl (cA_4, 10, .inl (fun _ => 0))), (q_5, .inl (cA_6, 10, .inl (fun _ => 0))), (q_7, .inl (cA_8, 10, .inl (fun _ => 0)))] H := hP
  have hD : va_D A [(ob, .inr (1, [.ref q_1, .ref q_3, .ref q_5, .null, .int 0, .int 0, .int 0])), (q_1, .inl (cA_2, 10, .inl (fun _ => 0))), (q_3, .inl (cA_4, 10, .inl (fun _ => 0))), (q_5, .inl (cA_6, 10, .inl (fun _ => 0))), (q_7, .inl (cA_8, 10, .inl (fun _ => 0)))] := hD
  have hK : va_K (dC, dI) vwCl [(cA_2, .int), (cA_4, .int), (cA_6, .int), (cA_8, .int)] s := hK
  refine W.widen (k := 4) (n := 40) (Nat.le_of_ble_eq_true rfl) (Nat.le_of_ble_eq_true rfl) ?_
  refine va_putF (D := (dC, dI)) (ci := 1) (v := .ref q_7) (ty := (.array .int)) (C := RX1) (T := TX1) (N := 7) hx hb hT inX1 tyX1 tyX1_ok nmX1 hown hK hP hD hS 0 rfl rfl 3 (by decide) (hT _ mw_2_233) (fun _ h9 => h9) rfl hin rfl (by decide +kernel) rfl rfl (Nat.le_of_ble_eq_true rfl) dX1_init_33 (fun H locs hP hD hS => ?_)
  have hP : va_P (dC, dI) vwCl [(ob, .inr (1, [.ref q_1, .ref q_3, .ref q_5, .ref q_7, .int 0, .int 0, .int 0])), (q_1, .inl (cA_2, 10, .inl (fun _ => 0))), (q_3, .inl (cA_4, 10, .inl (fun _ => 0))), (q_5, .inl (cA_6, 10, .inl (fun _ => 0))), (q_7, .inl (cA_8, 10, .inl (fun _ => 0)))] H := hP
  have hD : va_D A [(ob, .inr (1, [.ref q_1, .ref q_3, .ref q_5, .ref q_7, .int 0, .int 0, .int 0])), (q_1, .inl (cA_2, 10, .inl (fun _ => 0))), (q_3, .inl (cA_4, 10, .inl (fun _ => 0))), (q_5, .inl (cA_6, 10, .inl (fun _ => 0))), (q_7, .inl (cA_8, 10, .inl (fun _ => 0)))] := hD
  refine lv_aload_n hx hb dX1_init_36 rfl (lv_at hl 0 rfl) ?_
  refine lv_iconst (v := (-1)) hx hb dX1_init_37 (by decide) ?_
  refine va_put (D := (dC, dI)) (ci := 1) (v := .int (-1)) (ty := .int) (C := RX1) (T := TX1) (N := 7) hx hb hT inX1 tyX1 tyX1_ok nmX1 hown hK hP hD hS 0 rfl rfl 4 (by decide) (hT _ mw_2_235) (fun _ h9 => h9) rfl (by decide +kernel) rfl rfl (Nat.le_of_ble_eq_true rfl) dX1_init_38 (fun H locs hP hD hS => ?_)
  have hP : va_P (dC, dI) vwCl [(ob, .inr (1, [.ref q_1, .ref q_3, .ref q_5, .ref q_7, .int (-1), .int 0, .int 0])), (q_1, .inl (cA_2, 10, .inl (fun _ => 0))), (q_3, .inl (cA_4, 10, .inl (fun _ => 0))), (q_5, .inl (cA_6, 10, .inl (fun _ => 0))), (q_7, .inl (cA_8, 10, .inl (fun _ => 0)))] H := hP
  have hD : va_D A [(ob, .inr (1, [.ref q_1, .ref q_3, .ref q_5, .ref q_7, .int (-1), .int 0, .int 0])), (q_1, .inl (cA_2, 10, .inl (fun _ => 0))), (q_3, .inl (cA_4, 10, .inl (fun _ => 0))), (q_5, .inl (cA_6, 10, .inl (fun _ => 0))), (q_7, .inl (cA_8, 10, .inl (fun _ => 0)))] := hD
  refine lv_aload_n hx hb dX1_init_41 rfl (lv_at hl 0 rfl) ?_
  refine lv_iconst (v := (-1)) hx hb dX1_init_42 (by decide) ?_
  refine va_put (D := (dC, dI)) (ci := 1) (v := .int (-1)) (ty := .int) (C := RX1) (T := TX1) (N := 7) hx hb hT inX1 tyX1 tyX1_ok nmX1 hown hK hP hD hS 0 rfl rfl 5 (by decide) (hT _ mw_2_236) (fun _ h9 => h9) rfl (by decide +kernel) rfl rfl (Nat.le_of_ble_eq_true rfl) dX1_init_43 (fun H locs hP hD hS => ?_)
  have hP : va_P (dC, dI) vwCl [(ob, .inr (1, [.ref q_1, .ref q_3, .ref q_5, .ref q_7, .int (-1), .int (-1), .int 0])), (q_1, .inl (cA_2, 10, .inl (fun _ => 0))), (q_3, .inl (cA_4, 10, .inl (fun _ => 0))), (q_5, .inl (cA_6, 10, .inl (fun _ => 0))), (q_7, .inl (cA_8, 10, .inl (fun _ => 0)))] H := hP
  have hD : va_D A [(ob, .inr (1, [.ref q_1, .ref q_3, .ref q_5, .ref q_7, .int (-1), .int (-1), .int 0])), (q_1, .inl (cA_2, 10, .inl (fun _ => 0))), (q_3, .inl (cA_4, 10, .inl (fun _ => 0))), (q_5, .inl (cA_6, 10, .inl (fun _ => 0))), (q_7, .inl (cA_8, 10, .inl (fun _ => 0)))] := hD
  refine lv_aload_n hx hb dX1_init_46 rfl (lv_at hl 0 rfl) ?_
  refine lv_iconst (v := (-1)) hx hb dX1_init_47 (by decide) ?_
  refine va_put (D := (dC, dI)) (ci := 1) (v := .int (-1)) (ty := .int) (C := RX1) (T := TX1) (N := 7) hx hb hT inX1 tyX1 tyX1_ok nmX1 hown hK hP hD hS 0 rfl rfl 6 (by decide) (hT _ mw_2_237) (fun _ h9 => h9) rfl (by decide +kernel) rfl rfl (Nat.le_of_ble_eq_true rfl) dX1_init_48 (fun H locs hP hD hS => ?_)
  have hP : va_P (dC, dI) vwCl [(ob, .inr (1, [.ref q_1, .ref q_3, .ref q_5, .ref q_7, .int (-1), .int (-1), .int (-1)])), (q_1, .inl (cA_2, 10, .inl (fun _ => 0))), (q_3, .inl (cA_4, 10, .inl (fun _ => 0))), (q_5, .inl (cA_6, 10, .inl (fun _ => 0))), (q_7, .inl (cA_8, 10, .inl (fun _ => 0)))] H := hP
  have hD : va_D A [(ob, .inr (1, [.ref q_1, .ref q_3, .ref q_5, .ref q_7, .int (-1), .int (-1), .int (-1)])), (q_1, .inl (cA_2, 10, .inl (fun _ => 0))), (q_3, .inl (cA_4, 10, .inl (fun _ => 0))), (q_5, .inl (cA_6, 10, .inl (fun _ => 0))), (q_7, .inl (cA_8, 10, .inl (fun _ => 0)))] := hD
  have hP9 := hP.sub (ws' := [(ob, .inr (1, [.ref q_1, .ref q_3, .ref q_5, .ref q_7, .int (-1), .int (-1), .int (-1)])), (q_1, .inl (cA_2, 10, .inl (fun _ => 0))), (q_3, .inl (cA_4, 10, .inl (fun _ => 0))), (q_5, .inl (cA_6, 10, .inl (fun _ => 0))), (q_7, .inl (cA_8, 10, .inl (fun _ => 0)))]) [0, 1, 2, 3, 4] rfl
  have hD9 := hD.sub (ws' := [(ob, .inr (1, [.ref q_1, .ref q_3, .ref q_5, .ref q_7, .int (-1), .int (-1), .int (-1)])), (q_1, .inl (cA_2, 10, .inl (fun _ => 0))), (q_3, .inl (cA_4, 10, .inl (fun _ => 0))), (q_5, .inl (cA_6, 10, .inl (fun _ => 0))), (q_7, .inl (cA_8, 10, .inl (fun _ => 0)))]) [0, 1, 2, 3, 4] (by decide) rfl
  have hK9 := hK.sub (tys' := [(cA_2, .int), (cA_4, .int), (cA_6, .int), (cA_8, .int)]) [0, 1, 2, 3] rfl
  refine W.widen (k := 4) (n := 40) (Nat.le_of_ble_eq_true rfl) (Nat.le_of_ble_eq_true rfl) ?_
  exact W.vret hx hb hr (fun t ht hW => ⟨⟨(), rfl, trivial, q_1, q_3, q_5, q_7, cA_2, cA_4, cA_6, cA_8, va_K.moved hW.alike hK9, by rw [ht]; exact hP9, hD9⟩, hS.F ht⟩) hS.2.2 dX1_init_51
abbrev q_X8_init (dC : Nat → ClassId) (dI : Nat → Nat → Nat) (A : Nat → Prop) (ob : Nat) : Array Value → State → Outcome → State → Prop := va_Qv (fun _ : Unit => True) (fun (_ : Unit) (t : State) => ∃ (b_name : Nat), ∃ (b_first : Nat), ∃ (b_gain : Nat), ∃ (b_rough : Nat), ∃ (b_custom : Nat), ∃ (b_part : Nat), ∃ (b_whole : Nat), ∃ (b_roundPerson : Nat), ∃ (b_roundClock : Nat), ∃ (b_roundHour : Nat), ∃ (b_gunClock : Nat), ∃ (b_gunHour : Nat), ∃ (b_rules : Nat), ∃ (kb_name : ClassId), ∃ (kb_first : ClassId), ∃ (kb_gain : ClassId), ∃ (kb_rough : ClassId), ∃ (kb_custom : ClassId), ∃ (kb_part : ClassId), ∃ (kb_whole : ClassId), ∃ (kb_roundPerson : ClassId), ∃ (kb_roundClock : ClassId), ∃ (kb_roundHour : ClassId), ∃ (kb_gunClock : ClassId), ∃ (kb_gunHour : ClassId), ∃ (r_kind : Nat), ∃ (r_number : Nat), ∃ (r_from : Nat), ∃ (r_until : Nat), ∃ (r_names : Nat), ∃ (r_stack : Nat), ∃ (kr_kind : ClassId), ∃ (kr_number : ClassId), ∃ (kr_from : ClassId), ∃ (kr_until : ClassId), ∃ (kr_names : ClassId), ∃ (kr_stack : ClassId), va_K (dC, dI) vwCl [(kb_name, .int), (kb_first, .int), (kb_gain, .int), (kb_rough, .int), (kb_custom, .int), (kb_part, .int), (kb_whole, .int), (kb_roundPerson, .int), (kb_roundClock, .int), (kb_roundHour, .int), (kb_gunClock, .int), (kb_gunHour, .int), (kr_kind, .int), (kr_number, .int), (kr_from, .int), (kr_until, .int), (kr_names, .long), (kr_stack, .long)] t ∧ va_P (dC, dI) vwCl [(ob, .inr (8, [.int 0, .int 0, .int 0, .int 0, .int 0, .ref b_name, .ref b_first, .ref b_gain, .ref b_rough, .ref b_custom, .ref b_part, .ref b_whole, .ref b_roundPerson, .ref b_roundClock, .ref b_roundHour, .ref b_gunClock, .ref b_gunHour, .ref b_rules])), (b_name, .inl (kb_name, 10, .inl (fun _ => 0))), (b_first, .inl (kb_first, 10, .inl (fun _ => 0))), (b_gain, .inl (kb_gain, 10, .inl (fun _ => 0))), (b_rough, .inl (kb_rough, 10, .inl (fun _ => 0))), (b_custom, .inl (kb_custom, 5, .inl (fun _ => 0))), (b_part, .inl (kb_part, 5, .inl (fun _ => 0))), (b_whole, .inl (kb_whole, 5, .inl (fun _ => 0))), (b_roundPerson, .inl (kb_roundPerson, 12, .inl (fun _ => 0))), (b_roundClock, .inl (kb_roundClock, 12, .inl (fun _ => 0))), (b_roundHour, .inl (kb_roundHour, 12, .inl (fun _ => 0))), (b_gunClock, .inl (kb_gunClock, 3, .inl (fun _ => 0))), (b_gunHour, .inl (kb_gunHour, 3, .inl (fun _ => 0))), (b_rules, .inr (6, [.int 0, .ref r_kind, .ref r_number, .ref r_from, .ref r_until, .ref r_names, .ref r_stack])), (r_kind, .inl (kr_kind, 64, .inl (fun _ => 0))), (r_number, .inl (kr_number, 64, .inl (fun _ => 0))), (r_from, .inl (kr_from, 5, .inl (fun _ => 0))), (r_until, .inl (kr_until, 5, .inl (fun _ => 0))), (r_names, .inl (kr_names, 5, .inr (.inl (fun _ => 0)))), (r_stack, .inl (kr_stack, 64, .inr (.inl (fun _ => 0))))] t.heap ∧ va_D A [(ob, .inr (8, [.int 0, .int 0, .int 0, .int 0, .int 0, .ref b_name, .ref b_first, .ref b_gain, .ref b_rough, .ref b_custom, .ref b_part, .ref b_whole, .ref b_roundPerson, .ref b_roundClock, .ref b_roundHour, .ref b_gunClock, .ref b_gunHour, .ref b_rules])), (b_name, .inl (kb_name, 10, .inl (fun _ => 0))), (b_first, .inl (kb_first, 10, .inl (fun _ => 0))), (b_gain, .inl (kb_gain, 10, .inl (fun _ => 0))), (b_rough, .inl (kb_rough, 10, .inl (fun _ => 0))), (b_custom, .inl (kb_custom, 5, .inl (fun _ => 0))), (b_part, .inl (kb_part, 5, .inl (fun _ => 0))), (b_whole, .inl (kb_whole, 5, .inl (fun _ => 0))), (b_roundPerson, .inl (kb_roundPerson, 12, .inl (fun _ => 0))), (b_roundClock, .inl (kb_roundClock, 12, .inl (fun _ => 0))), (b_roundHour, .inl (kb_roundHour, 12, .inl (fun _ => 0))), (b_gunClock, .inl (kb_gunClock, 3, .inl (fun _ => 0))), (b_gunHour, .inl (kb_gunHour, 3, .inl (fun _ => 0))), (b_rules, .inr (6, [.int 0, .ref r_kind, .ref r_number, .ref r_from, .ref r_until, .ref r_names, .ref r_stack])), (r_kind, .inl (kr_kind, 64, .inl (fun _ => 0))), (r_number, .inl (kr_number, 64, .inl (fun _ => 0))), (r_from, .inl (kr_from, 5, .inl (fun _ => 0))), (r_until, .inl (kr_until, 5, .inl (fun _ => 0))), (r_names, .inl (kr_names, 5, .inr (.inl (fun _ => 0)))), (r_stack, .inl (kr_stack, 64, .inr (.inl (fun _ => 0))))]) A
set_option maxHeartbeats 4000000 in
set_option maxRecDepth 100000 in
theorem c_X8_init (l : Launch) (dC : Nat → ClassId) (dI : Nat → Nat → Nat) (sz : Nat) (ob : Nat)  : Met l yX8_init (pw_w yX8_init cX8_init 1 none) ({ frames := 2, cells := 19, slots := 311, locals := 40 }) (va_Pc [.ref ob] (fun U => U.heap.size = sz ∧ va_P (dC, dI) vwCl [(ob, .inr (8, [.int 0, .int 0, .int 0, .int 0, .int 0, .null, .null, .null, .null, .null, .null, .null, .null, .null, .null, .null, .null, .null]))] U.heap ∧ va_K (dC, dI) vwCl [] U ∧ va_D (fun _ => True) [(ob, .inr (8, [.int 0, .int 0, .int 0, .int 0, .int 0, .null, .null, .null, .null, .null, .null, .null, .null, .null, .null, .null, .null, .null]))] ∧ (va_Nw (.methodLinkNest RX8 50 yX6_init "PassedClocks") U))) (q_X8_init dC dI (va_A [(ob, .inr (8, [.int 0, .int 0, .int 0, .int 0, .int 0, .null, .null, .null, .null, .null, .null, .null, .null, .null, .null, .null, .null, .null]))] sz) ob) 19 311 (va_A [(ob, .inr (8, [.int 0, .int 0, .int 0, .int 0, .int 0, .null, .null, .null, .null, .null, .null, .null, .null, .null, .null, .null, .null, .null]))] sz) := by
  refine Met.ofW (cc := cX8_init) (maxL := 1) (ret := none) (by decide) rfl ?_
  intro p e s m args below meth c s₁ B hml hv
  obtain ⟨rfl, hsz, hP, hK, hD0, hx0_⟩ := hv
  have hx := B.exec
  have hb := B.bytes
  have hr := B.returns
  have hts := atoms_spec (ws := (pw_w yX8_init cX8_init 1 none)) B.pre
  have hT : ∀ w ∈ pw_T, w.before _ s = true := fun w h => hts w (List.mem_cons_of_mem _ h)
  have hown : s.vm.findClass RX8 = some m.cls := findClass_of_methodNamed B.named
  have hlocks := B.notSynchronized
  have hin : meth.name = "<init>" := (name_of_methodNamed B.named B.method).1
  subst hsz
  have hD := hD0.self (sz := s.heap.size)
  generalize hAe : va_A [(ob, .inr (8, [.int 0, .int 0, .int 0, .int 0, .int 0, .null, .null, .null, .null, .null, .null, .null, .null, .null, .null, .null, .null, .null]))] s.heap.size = A at hD ⊢
  have hA : ∀ q : Nat, s.heap.size ≤ q → A q := fun q h => by rw [← hAe]; exact Or.inr h
  have hS : va_S A s.heap s.heap [] := va_S.rf
  have hP : va_P (dC, dI) vwCl [(ob, .inr (8, [.int 0, .int 0, .int 0, .int 0, .int 0, .null, .null, .null, .null, .null, .null, .null, .null, .null, .null, .null, .null, .null]))] s.heap := hP
  have hn_50 := hx0_
  have hl := lv_entry ([.ref ob]) (n := 1) (Nat.le_of_ble_eq_true rfl)
  rw [lg_entry_eq]
  generalize (lg_sl ([.ref ob]) ++ List.replicate (1 - (lg_sl ([.ref ob])).length) Slot.unset).toArray = ls at hl ⊢
  have hl : lv_has ls 1 [(0, .ref ob)] := hl
  refine lv_aload_n hx hb dX8_init_0 rfl (lv_at hl 0 rfl) ?_
  refine W.objInit hx hb hown (hT _ mw_1_156) (hT _ mw_1_32) (hT _ mw_1_33) rfl (by rw [hml]; exact hl.1) rfl dX8_init_1 (Nat.le_of_ble_eq_true rfl) (Nat.le_of_ble_eq_true rfl) ?_
  refine W.eq (g2 := F0 m 4 ls []) rfl ?_
  refine lv_aload_n hx hb dX8_init_4 rfl (lv_at hl 0 rfl) ?_
  refine lv_bipush (v := 10) hx hb dX8_init_5 (by decide) ?_
  refine va_newa (atype := .int) (ty := .int) (a0 := (10, .inl (fun _ => 0))) hx hb (hT _ mw_1_122) rfl hK hP hD hS hA (fun _ => rfl) (by decide) (by decide) (by decide) (Nat.le_of_ble_eq_true rfl) (Nat.le_of_ble_eq_true rfl) dX8_init_7 (fun q_1 cA_2 H hK hP hD hS => ?_)
  have hP : va_P (dC, dI) vwCl [(ob, .inr (8, [.int 0, .int 0, .int 0, .int 0, .int 0, .null, .null, .null, .null, .null, .null, .null, .null, .null, .null, .null, .null, .null])), (q_1, .inl (cA_2, 10, .inl (fun _ => 0)))] H := hP
  have hD : va_D A [(ob, .inr (8, [.int 0, .int 0, .int 0, .int 0, .int 0, .null, .null, .null, .null, .null, .null, .null, .null, .null, .null, .null, .null, .null])), (q_1, .inl (cA_2, 10, .inl (fun _ => 0)))] := hD
  have hK : va_K (dC, dI) vwCl [(cA_2, .int)] s := hK
  refine W.widen (k := 1) (n := 10) (Nat.le_of_ble_eq_true rfl) (Nat.le_of_ble_eq_true rfl) ?_
  refine va_putF (D := (dC, dI)) (ci := 8) (v := .ref q_1) (ty := (.array .int)) (C := RX8) (T := TX8) (N := 18) hx hb hT inX8 tyX8 tyX8_ok nmX8 hown hK hP hD hS 0 rfl rfl 5 (by decide) (hT _ mw_1_207) (fun _ h9 => h9) rfl hin rfl (by decide +kernel) rfl rfl (Nat.le_of_ble_eq_true rfl) dX8_init_9 (fun H locs hP hD hS => ?_)
  have hP : va_P (dC, dI) vwCl [(ob, .inr (8, [.int 0, .int 0, .int 0, .int 0, .int 0, .ref q_1, .null, .null, .null, .null, .null, .null, .null, .null, .null, .null, .null, .null])), (q_1, .inl (cA_2, 10, .inl (fun _ => 0)))] H := hP
  have hD : va_D A [(ob, .inr (8, [.int 0, .int 0, .int 0, .int 0, .int 0, .ref q_1, .null, .null, .null, .null, .null, .null, .null, .null, .null, .null, .null, .null])), (q_1, .inl (cA_2, 10, .inl (fun _ => 0)))] := hD
  refine lv_aload_n hx hb dX8_init_12 rfl (lv_at hl 0 rfl) ?_
  refine lv_bipush (v := 10) hx hb dX8_init_13 (by decide) ?_
  refine va_newa (atype := .int) (ty := .int) (a0 := (10, .inl (fun _ => 0))) hx hb (hT _ mw_1_122) rfl hK hP hD hS hA (fun _ => rfl) (by decide) (by decide) (by decide) (Nat.le_of_ble_eq_true rfl) (Nat.le_of_ble_eq_true rfl) dX8_init_15 (fun q_3 cA_4 H hK hP hD hS => ?_)
  have hP : va_P (dC, dI) vwCl [(ob, .inr (8, [.int 0, .int 0, .int 0, .int 0, .int 0, .ref q_1, .null, .null, .null, .null, .null, .null, .null, .null, .null, .null, .null, .null])), (q_1, .inl (cA_2, 10, .inl (fun _ => 0))), (q_3, .inl (cA_4, 10, .inl (fun _ => 0)))] H := hP
  have hD : va_D A [(ob, .inr (8, [.int 0, .int 0, .int 0, .int 0, .int 0, .ref q_1, .null, .null, .null, .null, .null, .null, .null, .null, .null, .null, .null, .null])), (q_1, .inl (cA_2, 10, .inl (fun _ => 0))), (q_3, .inl (cA_4, 10, .inl (fun _ => 0)))] := hD
  have hK : va_K (dC, dI) vwCl [(cA_2, .int), (cA_4, .int)] s := hK
  refine W.widen (k := 2) (n := 20) (Nat.le_of_ble_eq_true rfl) (Nat.le_of_ble_eq_true rfl) ?_
  refine va_putF (D := (dC, dI)) (ci := 8) (v := .ref q_3) (ty := (.array .int)) (C := RX8) (T := TX8) (N := 18) hx hb hT inX8 tyX8 tyX8_ok nmX8 hown hK hP hD hS 0 rfl rfl 6 (by decide) (hT _ mw_1_209) (fun _ h9 => h9) rfl hin rfl (by decide +kernel) rfl rfl (Nat.le_of_ble_eq_true rfl) dX8_init_17 (fun H locs hP hD hS => ?_)
  have hP : va_P (dC, dI) vwCl [(ob, .inr (8, [.int 0, .int 0, .int 0, .int 0, .int 0, .ref q_1, .ref q_3, .null, .null, .null, .null, .null, .null, .null, .null, .null, .null, .null])), (q_1, .inl (cA_2, 10, .inl (fun _ => 0))), (q_3, .inl (cA_4, 10, .inl (fun _ => 0)))] H := hP
  have hD : va_D A [(ob, .inr (8, [.int 0, .int 0, .int 0, .int 0, .int 0, .ref q_1, .ref q_3, .null, .null, .null, .null, .null, .null, .null, .null, .null, .null, .null])), (q_1, .inl (cA_2, 10, .inl (fun _ => 0))), (q_3, .inl (cA_4, 10, .inl (fun _ => 0)))] := hD
  refine lv_aload_n hx hb dX8_init_20 rfl (lv_at hl 0 rfl) ?_
  refine lv_bipush (v := 10) hx hb dX8_init_21 (by decide) ?_
  refine va_newa (atype := .int) (ty := .int) (a0 := (10, .inl (fun _ => 0))) hx hb (hT _ mw_1_122) rfl hK hP hD hS hA (fun _ => rfl) (by decide) (by decide) (by decide) (Nat.le_of_ble_eq_true rfl) (Nat.le_of_ble_eq_true rfl) dX8_init_23 (fun q_5 cA_6 H hK hP hD hS => ?_)
  have hP : va_P (dC, dI) vwCl [(ob, .inr (8, [.int 0, .int 0, .int 0, .int 0, .int 0, .ref q_1, .ref q_3, .null, .null, .null, .null, .null, .null, .null, .null, .null, .null, .null])), (q_1, .inl (cA_2, 10, .inl (fun _ => 0))), (q_3, .inl (cA_4, 10, .inl (fun _ => 0))), (q_5, .inl (cA_6, 10, .inl (fun _ => 0)))] H := hP
  have hD : va_D A [(ob, .inr (8, [.int 0, .int 0, .int 0, .int 0, .int 0, .ref q_1, .ref q_3, .null, .null, .null, .null, .null, .null, .null, .null, .null, .null, .null])), (q_1, .inl (cA_2, 10, .inl (fun _ => 0))), (q_3, .inl (cA_4, 10, .inl (fun _ => 0))), (q_5, .inl (cA_6, 10, .inl (fun _ => 0)))] := hD
  have hK : va_K (dC, dI) vwCl [(cA_2, .int), (cA_4, .int), (cA_6, .int)] s := hK
  refine W.widen (k := 3) (n := 30) (Nat.le_of_ble_eq_true rfl) (Nat.le_of_ble_eq_true rfl) ?_
  refine va_putF (D := (dC, dI)) (ci := 8) (v := .ref q_5) (ty := (.array .int)) (C := RX8) (T := TX8) (N := 18) hx hb hT inX8 tyX8 tyX8_ok nmX8 hown hK hP hD hS 0 rfl rfl 7 (by decide) (hT _ mw_1_213) (fun _ h9 => h9) rfl hin rfl (by decide +kernel) rfl rfl (Nat.le_of_ble_eq_true rfl) dX8_init_25 (fun H locs hP hD hS => ?_)
  have hP : va_P (dC, dI) vwCl [(ob, .inr (8, [.int 0, .int 0, .int 0, .int 0, .int 0, .ref q_1, .ref q_3, .ref q_5, .null, .null, .null, .null, .null, .null, .null, .null, .null, .null])), (q_1, .inl (cA_2, 10, .inl (fun _ => 0))), (q_3, .inl (cA_4, 10, .inl (fun _ => 0))), (q_5, .inl (cA_6, 10, .inl (fun _ => 0)))] H := hP
  have hD : va_D A [(ob, .inr (8, [.int 0, .int 0, .int 0, .int 0, .int 0, .ref q_1, .ref q_3, .ref q_5, .null, .null, .null, .null, .null, .null, .null, .null, .null, .null])), (q_1, .inl (cA_2, 10, .inl (fun _ => 0))), (q_3, .inl (cA_4, 10, .inl (fun _ => 0))), (q_5, .inl (cA_6, 10, .inl (fun _ => 0)))] := hD
  refine lv_aload_n hx hb dX8_init_28 rfl (lv_at hl 0 rfl) ?_
  refine lv_bipush (v := 10) hx hb dX8_init_29 (by decide) ?_
  refine va_newa (atype := .int) (ty := .int) (a0 := (10, .inl (fun _ => 0))) hx hb (hT _ mw_1_122) rfl hK hP hD hS hA (fun _ => rfl) (by decide) (by decide) (by decide) (Nat.le_of_ble_eq_true rfl) (Nat.le_of_ble_eq_true rfl) dX8_init_31 (fun q_7 cA_8 H hK hP hD hS => ?_)
  have hP : va_P (dC, dI) vwCl [(ob, .inr (8, [.int 0, .int 0, .int 0, .int 0, .int 0, .ref q_1, .ref q_3, .ref q_5, .null, .null, .null, .null, .null, .null, .null, .null, .null, .null])), (q_1, .inl (cA_2, 10, .inl (fun _ => 0))), (q_3, .inl (cA_4, 10, .inl (fun _ => 0))), (q_5, .inl (cA_6, 10, .inl (fun _ => 0))), (q_7, .inl (cA_8, 10, .inl (fun _ => 0)))] H := hP
  have hD : va_D A [(ob, .inr (8, [.int 0, .int 0, .int 0, .int 0, .int 0, .ref q_1, .ref q_3, .ref q_5, .null, .null, .null, .null, .null, .null, .null, .null, .null, .null])), (q_1, .inl (cA_2, 10, .inl (fun _ => 0))), (q_3, .inl (cA_4, 10, .inl (fun _ => 0))), (q_5, .inl (cA_6, 10, .inl (fun _ => 0))), (q_7, .inl (cA_8, 10, .inl (fun _ => 0)))] := hD
  have hK : va_K (dC, dI) vwCl [(cA_2, .int), (cA_4, .int), (cA_6, .int), (cA_8, .int)] s := hK
  refine W.widen (k := 4) (n := 40) (Nat.le_of_ble_eq_true rfl) (Nat.le_of_ble_eq_true rfl) ?_
  refine va_putF (D := (dC, dI)) (ci := 8) (v := .ref q_7) (ty := (.array .int)) (C := RX8) (T := TX8) (N := 18) hx hb hT inX8 tyX8 tyX8_ok nmX8 hown hK hP hD hS 0 rfl rfl 8 (by decide) (hT _ mw_1_217) (fun _ h9 => h9) rfl hin rfl (by decide +kernel) rfl rfl (Nat.le_of_ble_eq_true rfl) dX8_init_33 (fun H locs hP hD hS => ?_)
  have hP : va_P (dC, dI) vwCl [(ob, .inr (8, [.int 0, .int 0, .int 0, .int 0, .int 0, .ref q_1, .ref q_3, .ref q_5, .ref q_7, .null, .null, .null, .null, .null, .null, .null, .null, .null])), (q_1, .inl (cA_2, 10, .inl (fun _ => 0))), (q_3, .inl (cA_4, 10, .inl (fun _ => 0))), (q_5, .inl (cA_6, 10, .inl (fun _ => 0))), (q_7, .inl (cA_8, 10, .inl (fun _ => 0)))] H := hP
  have hD : va_D A [(ob, .inr (8, [.int 0, .int 0, .int 0, .int 0, .int 0, .ref q_1, .ref q_3, .ref q_5, .ref q_7, .null, .null, .null, .null, .null, .null, .null, .null, .null])), (q_1, .inl (cA_2, 10, .inl (fun _ => 0))), (q_3, .inl (cA_4, 10, .inl (fun _ => 0))), (q_5, .inl (cA_6, 10, .inl (fun _ => 0))), (q_7, .inl (cA_8, 10, .inl (fun _ => 0)))] := hD
  refine lv_aload_n hx hb dX8_init_36 rfl (lv_at hl 0 rfl) ?_
  refine lv_iconst (v := 5) hx hb dX8_init_37 (by decide) ?_
  refine va_newa (atype := .int) (ty := .int) (a0 := (5, .inl (fun _ => 0))) hx hb (hT _ mw_1_122) rfl hK hP hD hS hA (fun _ => rfl) (by decide) (by decide) (by decide) (Nat.le_of_ble_eq_true rfl) (Nat.le_of_ble_eq_true rfl) dX8_init_38 (fun q_9 cA_10 H hK hP hD hS => ?_)
  have hP : va_P (dC, dI) vwCl [(ob, .inr (8, [.int 0, .int 0, .int 0, .int 0, .int 0, .ref q_1, .ref q_3, .ref q_5, .ref q_7, .null, .null, .null, .null, .null, .null, .null, .null, .null])), (q_1, .inl (cA_2, 10, .inl (fun _ => 0))), (q_3, .inl (cA_4, 10, .inl (fun _ => 0))), (q_5, .inl (cA_6, 10, .inl (fun _ => 0))), (q_7, .inl (cA_8, 10, .inl (fun _ => 0))), (q_9, .inl (cA_10, 5, .inl (fun _ => 0)))] H := hP
  have hD : va_D A [(ob, .inr (8, [.int 0, .int 0, .int 0, .int 0, .int 0, .ref q_1, .ref q_3, .ref q_5, .ref q_7, .null, .null, .null, .null, .null, .null, .null, .null, .null])), (q_1, .inl (cA_2, 10, .inl (fun _ => 0))), (q_3, .inl (cA_4, 10, .inl (fun _ => 0))), (q_5, .inl (cA_6, 10, .inl (fun _ => 0))), (q_7, .inl (cA_8, 10, .inl (fun _ => 0))), (q_9, .inl (cA_10, 5, .inl (fun _ => 0)))] := hD
  have hK : va_K (dC, dI) vwCl [(cA_2, .int), (cA_4, .int), (cA_6, .int), (cA_8, .int), (cA_10, .int)] s := hK
  refine W.widen (k := 5) (n := 45) (Nat.le_of_ble_eq_true rfl) (Nat.le_of_ble_eq_true rfl) ?_
  refine va_putF (D := (dC, dI)) (ci := 8) (v := .ref q_9) (ty := (.array .int)) (C := RX8) (T := TX8) (N := 18) hx hb hT inX8 tyX8 tyX8_ok nmX8 hown hK hP hD hS 0 rfl rfl 9 (by decide) (hT _ mw_1_220) (fun _ h9 => h9) rfl hin rfl (by decide +kernel) rfl rfl (Nat.le_of_ble_eq_true rfl) dX8_init_40 (fun H locs hP hD hS => ?_)
  have hP : va_P (dC, dI) vwCl [(ob, .inr (8, [.int 0, .int 0, .int 0, .int 0, .int 0, .ref q_1, .ref q_3, .ref q_5, .ref q_7, .ref q_9, .null, .null, .null, .null, .null, .null, .null, .null])), (q_1, .inl (cA_2, 10, .inl (fun _ => 0))), (q_3, .inl (cA_4, 10, .inl (fun _ => 0))), (q_5, .inl (cA_6, 10, .inl (fun _ => 0))), (q_7, .inl (cA_8, 10, .inl (fun _ => 0))), (q_9, .inl (cA_10, 5, .inl (fun _ => 0)))] H := hP
  have hD : va_D A [(ob, .inr (8, [.int 0, .int 0, .int 0, .int 0, .int 0, .ref q_1, .ref q_3, .ref q_5, .ref q_7, .ref q_9, .null, .null, .null, .null, .null, .null, .null, .null])), (q_1, .inl (cA_2, 10, .inl (fun _ => 0))), (q_3, .inl (cA_4, 10, .inl (fun _ => 0))), (q_5, .inl (cA_6, 10, .inl (fun _ => 0))), (q_7, .inl (cA_8, 10, .inl (fun _ => 0))), (q_9, .inl (cA_10, 5, .inl (fun _ => 0)))] := hD
  refine lv_aload_n hx hb dX8_init_43 rfl (lv_at hl 0 rfl) ?_
  refine lv_iconst (v := 5) hx hb dX8_init_44 (by decide) ?_
  refine va_newa (atype := .int) (ty := .int) (a0 := (5, .inl (fun _ => 0))) hx hb (hT _ mw_1_122) rfl hK hP hD hS hA (fun _ => rfl) (by decide) (by decide) (by decide) (Nat.le_of_ble_eq_true rfl) (Nat.le_of_ble_eq_true rfl) dX8_init_45 (fun q_11 cA_12 H hK hP hD hS => ?_)
  have hP : va_P (dC, dI) vwCl [(ob, .inr (8, [.int 0, .int 0, .int 0, .int 0, .int 0, .ref q_1, .ref q_3, .ref q_5, .ref q_7, .ref q_9, .null, .null, .null, .null, .null, .null, .null, .null])), (q_1, .inl (cA_2, 10, .inl (fun _ => 0))), (q_3, .inl (cA_4, 10, .inl (fun _ => 0))), (q_5, .inl (cA_6, 10, .inl (fun _ => 0))), (q_7, .inl (cA_8, 10, .inl (fun _ => 0))), (q_9, .inl (cA_10, 5, .inl (fun _ => 0))), (q_11, .inl (cA_12, 5, .inl (fun _ => 0)))] H := hP
  have hD : va_D A [(ob, .inr (8, [.int 0, .int 0, .int 0, .int 0, .int 0, .ref q_1, .ref q_3, .ref q_5, .ref q_7, .ref q_9, .null, .null, .null, .null, .null, .null, .null, .null])), (q_1, .inl (cA_2, 10, .inl (fun _ => 0))), (q_3, .inl (cA_4, 10, .inl (fun _ => 0))), (q_5, .inl (cA_6, 10, .inl (fun _ => 0))), (q_7, .inl (cA_8, 10, .inl (fun _ => 0))), (q_9, .inl (cA_10, 5, .inl (fun _ => 0))), (q_11, .inl (cA_12, 5, .inl (fun _ => 0)))] := hD
  have hK : va_K (dC, dI) vwCl [(cA_2, .int), (cA_4, .int), (cA_6, .int), (cA_8, .int), (cA_10, .int), (cA_12, .int)] s := hK
  refine W.widen (k := 6) (n := 50) (Nat.le_of_ble_eq_true rfl) (Nat.le_of_ble_eq_true rfl) ?_
  refine va_putF (D := (dC, dI)) (ci := 8) (v := .ref q_11) (ty := (.array .int)) (C := RX8) (T := TX8) (N := 18) hx hb hT inX8 tyX8 tyX8_ok nmX8 hown hK hP hD hS 0 rfl rfl 10 (by decide) (hT _ mw_1_224) (fun _ h9 => h9) rfl hin rfl (by decide +kernel) rfl rfl (Nat.le_of_ble_eq_true rfl) dX8_init_47 (fun H locs hP hD hS => ?_)
  have hP : va_P (dC, dI) vwCl [(ob, .inr (8, [.int 0, .int 0, .int 0, .int 0, .int 0, .ref q_1, .ref q_3, .ref q_5, .ref q_7, .ref q_9, .ref q_11, .null, .null, .null, .null, .null, .null, .null])), (q_1, .inl (cA_2, 10, .inl (fun _ => 0))), (q_3, .inl (cA_4, 10, .inl (fun _ => 0))), (q_5, .inl (cA_6, 10, .inl (fun _ => 0))), (q_7, .inl (cA_8, 10, .inl (fun _ => 0))), (q_9, .inl (cA_10, 5, .inl (fun _ => 0))), (q_11, .inl (cA_12, 5, .inl (fun _ => 0)))] H := hP
  have hD : va_D A [(ob, .inr (8, [.int 0, .int 0, .int 0, .int 0, .int 0, .ref q_1, .ref q_3, .ref q_5, .ref q_7, .ref q_9, .ref q_11, .null, .null, .null, .null, .null, .null, .null])), (q_1, .inl (cA_2, 10, .inl (fun _ => 0))), (q_3, .inl (cA_4, 10, .inl (fun _ => 0))), (q_5, .inl (cA_6, 10, .inl (fun _ => 0))), (q_7, .inl (cA_8, 10, .inl (fun _ => 0))), (q_9, .inl (cA_10, 5, .inl (fun _ => 0))), (q_11, .inl (cA_12, 5, .inl (fun _ => 0)))] := hD
  refine lv_aload_n hx hb dX8_init_50 rfl (lv_at hl 0 rfl) ?_
  refine lv_iconst (v := 5) hx hb dX8_init_51 (by decide) ?_
  refine va_newa (atype := .int) (ty := .int) (a0 := (5, .inl (fun _ => 0))) hx hb (hT _ mw_1_122) rfl hK hP hD hS hA (fun _ => rfl) (by decide) (by decide) (by decide) (Nat.le_of_ble_eq_true rfl) (Nat.le_of_ble_eq_true rfl) dX8_init_52 (fun q_13 cA_14 H hK hP hD hS => ?_)
  have hP : va_P (dC, dI) vwCl [(ob, .inr (8, [.int 0, .int 0, .int 0, .int 0, .int 0, .ref q_1, .ref q_3, .ref q_5, .ref q_7, .ref q_9, .ref q_11, .null, .null, .null, .null, .null, .null, .null])), (q_1, .inl (cA_2, 10, .inl (fun _ => 0))), (q_3, .inl (cA_4, 10, .inl (fun _ => 0))), (q_5, .inl (cA_6, 10, .inl (fun _ => 0))), (q_7, .inl (cA_8, 10, .inl (fun _ => 0))), (q_9, .inl (cA_10, 5, .inl (fun _ => 0))), (q_11, .inl (cA_12, 5, .inl (fun _ => 0))), (q_13, .inl (cA_14, 5, .inl (fun _ => 0)))] H := hP
  have hD : va_D A [(ob, .inr (8, [.int 0, .int 0, .int 0, .int 0, .int 0, .ref q_1, .ref q_3, .ref q_5, .ref q_7, .ref q_9, .ref q_11, .null, .null, .null, .null, .null, .null, .null])), (q_1, .inl (cA_2, 10, .inl (fun _ => 0))), (q_3, .inl (cA_4, 10, .inl (fun _ => 0))), (q_5, .inl (cA_6, 10, .inl (fun _ => 0))), (q_7, .inl (cA_8, 10, .inl (fun _ => 0))), (q_9, .inl (cA_10, 5, .inl (fun _ => 0))), (q_11, .inl (cA_12, 5, .inl (fun _ => 0))), (q_13, .inl (cA_14, 5, .inl (fun _ => 0)))] := hD
  have hK : va_K (dC, dI) vwCl [(cA_2, .int), (cA_4, .int), (cA_6, .int), (cA_8, .int), (cA_10, .int), (cA_12, .int), (cA_14, .int)] s := hK
  refine W.widen (k := 7) (n := 55) (Nat.le_of_ble_eq_true rfl) (Nat.le_of_ble_eq_true rfl) ?_
  refine va_putF (D := (dC, dI)) (ci := 8) (v := .ref q_13) (ty := (.array .int)) (C := RX8) (T := TX8) (N := 18) hx hb hT inX8 tyX8 tyX8_ok nmX8 hown hK hP hD hS 0 rfl rfl 11 (by decide) (hT _ mw_1_228) (fun _ h9 => h9) rfl hin rfl (by decide +kernel) rfl rfl (Nat.le_of_ble_eq_true rfl) dX8_init_54 (fun H locs hP hD hS => ?_)
  have hP : va_P (dC, dI) vwCl [(ob, .inr (8, [.int 0, .int 0, .int 0, .int 0, .int 0, .ref q_1, .ref q_3, .ref q_5, .ref q_7, .ref q_9, .ref q_11, .ref q_13, .null, .null, .null, .null, .null, .null])), (q_1, .inl (cA_2, 10, .inl (fun _ => 0))), (q_3, .inl (cA_4, 10, .inl (fun _ => 0))), (q_5, .inl (cA_6, 10, .inl (fun _ => 0))), (q_7, .inl (cA_8, 10, .inl (fun _ => 0))), (q_9, .inl (cA_10, 5, .inl (fun _ => 0))), (q_11, .inl (cA_12, 5, .inl (fun _ => 0))), (q_13, .inl (cA_14, 5, .inl (fun _ => 0)))] H := hP
  have hD : va_D A [(ob, .inr (8, [.int 0, .int 0, .int 0, .int 0, .int 0, .ref q_1, .ref q_3, .ref q_5, .ref q_7, .ref q_9, .ref q_11, .ref q_13, .null, .null, .null, .null, .null, .null])), (q_1, .inl (cA_2, 10, .inl (fun _ => 0))), (q_3, .inl (cA_4, 10, .inl (fun _ => 0))), (q_5, .inl (cA_6, 10, .inl (fun _ => 0))), (q_7, .inl (cA_8, 10, .inl (fun _ => 0))), (q_9, .inl (cA_10, 5, .inl (fun _ => 0))), (q_11, .inl (cA_12, 5, .inl (fun _ => 0))), (q_13, .inl (cA_14, 5, .inl (fun _ => 0)))] := hD
  refine lv_aload_n hx hb dX8_init_57 rfl (lv_at hl 0 rfl) ?_
  refine lv_bipush (v := 12) hx hb dX8_init_58 (by decide) ?_
  refine va_newa (atype := .int) (ty := .int) (a0 := (12, .inl (fun _ => 0))) hx hb (hT _ mw_1_122) rfl hK hP hD hS hA (fun _ => rfl) (by decide) (by decide) (by decide) (Nat.le_of_ble_eq_true rfl) (Nat.le_of_ble_eq_true rfl) dX8_init_60 (fun q_15 cA_16 H hK hP hD hS => ?_)
  have hP : va_P (dC, dI) vwCl [(ob, .inr (8, [.int 0, .int 0, .int 0, .int 0, .int 0, .ref q_1, .ref q_3, .ref q_5, .ref q_7, .ref q_9, .ref q_11, .ref q_13, .null, .null, .null, .null, .null, .null])), (q_1, .inl (cA_2, 10, .inl (fun _ => 0))), (q_3, .inl (cA_4, 10, .inl (fun _ => 0))), (q_5, .inl (cA_6, 10, .inl (fun _ => 0))), (q_7, .inl (cA_8, 10, .inl (fun _ => 0))), (q_9, .inl (cA_10, 5, .inl (fun _ => 0))), (q_11, .inl (cA_12, 5, .inl (fun _ => 0))), (q_13, .inl (cA_14, 5, .inl (fun _ => 0))), (q_15, .inl (cA_16, 12, .inl (fun _ => 0)))] H := hP
  have hD : va_D A [(ob, .inr (8, [.int 0, .int 0, .int 0, .int 0, .int 0, .ref q_1, .ref q_3, .ref q_5, .ref q_7, .ref q_9, .ref q_11, .ref q_13, .null, .null, .null, .null, .null, .null])), (q_1, .inl (cA_2, 10, .inl (fun _ => 0))), (q_3, .inl (cA_4, 10, .inl (fun _ => 0))), (q_5, .inl (cA_6, 10, .inl (fun _ => 0))), (q_7, .inl (cA_8, 10, .inl (fun _ => 0))), (q_9, .inl (cA_10, 5, .inl (fun _ => 0))), (q_11, .inl (cA_12, 5, .inl (fun _ => 0))), (q_13, .inl (cA_14, 5, .inl (fun _ => 0))), (q_15, .inl (cA_16, 12, .inl (fun _ => 0)))] := hD
  have hK : va_K (dC, dI) vwCl [(cA_2, .int), (cA_4, .int), (cA_6, .int), (cA_8, .int), (cA_10, .int), (cA_12, .int), (cA_14, .int), (cA_16, .int)] s := hK
  refine W.widen (k := 8) (n := 67) (Nat.le_of_ble_eq_true rfl) (Nat.le_of_ble_eq_true rfl) ?_
  refine va_putF (D := (dC, dI)) (ci := 8) (v := .ref q_15) (ty := (.array .int)) (C := RX8) (T := TX8) (N := 18) hx hb hT inX8 tyX8 tyX8_ok nmX8 hown hK hP hD hS 0 rfl rfl 12 (by decide) (hT _ mw_1_232) (fun _ h9 => h9) rfl hin rfl (by decide +kernel) rfl rfl (Nat.le_of_ble_eq_true rfl) dX8_init_62 (fun H locs hP hD hS => ?_)
  have hP : va_P (dC, dI) vwCl [(ob, .inr (8, [.int 0, .int 0, .int 0, .int 0, .int 0, .ref q_1, .ref q_3, .ref q_5, .ref q_7, .ref q_9, .ref q_11, .ref q_13, .ref q_15, .null, .null, .null, .null, .null])), (q_1, .inl (cA_2, 10, .inl (fun _ => 0))), (q_3, .inl (cA_4, 10, .inl (fun _ => 0))), (q_5, .inl (cA_6, 10, .inl (fun _ => 0))), (q_7, .inl (cA_8, 10, .inl (fun _ => 0))), (q_9, .inl (cA_10, 5, .inl (fun _ => 0))), (q_11, .inl (cA_12, 5, .inl (fun _ => 0))), (q_13, .inl (cA_14, 5, .inl (fun _ => 0))), (q_15, .inl (cA_16, 12, .inl (fun _ => 0)))] H := hP
  have hD : va_D A [(ob, .inr (8, [.int 0, .int 0, .int 0, .int 0, .int 0, .ref q_1, .ref q_3, .ref q_5, .ref q_7, .ref q_9, .ref q_11, .ref q_13, .ref q_15, .null, .null, .null, .null, .null])), (q_1, .inl (cA_2, 10, .inl (fun _ => 0))), (q_3, .inl (cA_4, 10, .inl (fun _ => 0))), (q_5, .inl (cA_6, 10, .inl (fun _ => 0))), (q_7, .inl (cA_8, 10, .inl (fun _ => 0))), (q_9, .inl (cA_10, 5, .inl (fun _ => 0))), (q_11, .inl (cA_12, 5, .inl (fun _ => 0))), (q_13, .inl (cA_14, 5, .inl (fun _ => 0))), (q_15, .inl (cA_16, 12, .inl (fun _ => 0)))] := hD
  refine lv_aload_n hx hb dX8_init_65 rfl (lv_at hl 0 rfl) ?_
  refine lv_bipush (v := 12) hx hb dX8_init_66 (by decide) ?_
  refine va_newa (atype := .int) (ty := .int) (a0 := (12, .inl (fun _ => 0))) hx hb (hT _ mw_1_122) rfl hK hP hD hS hA (fun _ => rfl) (by decide) (by decide) (by decide) (Nat.le_of_ble_eq_true rfl) (Nat.le_of_ble_eq_true rfl) dX8_init_68 (fun q_17 cA_18 H hK hP hD hS => ?_)
  have hP : va_P (dC, dI) vwCl [(ob, .inr (8, [.int 0, .int 0, .int 0, .int 0, .int 0, .ref q_1, .ref q_3, .ref q_5, .ref q_7, .ref q_9, .ref q_11, .ref q_13, .ref q_15, .null, .null, .null, .null, .null])), (q_1, .inl (cA_2, 10, .inl (fun _ => 0))), (q_3, .inl (cA_4, 10, .inl (fun _ => 0))), (q_5, .inl (cA_6, 10, .inl (fun _ => 0))), (q_7, .inl (cA_8, 10, .inl (fun _ => 0))), (q_9, .inl (cA_10, 5, .inl (fun _ => 0))), (q_11, .inl (cA_12, 5, .inl (fun _ => 0))), (q_13, .inl (cA_14, 5, .inl (fun _ => 0))), (q_15, .inl (cA_16, 12, .inl (fun _ => 0))), (q_17, .inl (cA_18, 12, .inl (fun _ => 0)))] H := hP
  have hD : va_D A [(ob, .inr (8, [.int 0, .int 0, .int 0, .int 0, .int 0, .ref q_1, .ref q_3, .ref q_5, .ref q_7, .ref q_9, .ref q_11, .ref q_13, .ref q_15, .null, .null, .null, .null, .null])), (q_1, .inl (cA_2, 10, .inl (fun _ => 0))), (q_3, .inl (cA_4, 10, .inl (fun _ => 0))), (q_5, .inl (cA_6, 10, .inl (fun _ => 0))), (q_7, .inl (cA_8, 10, .inl (fun _ => 0))), (q_9, .inl (cA_10, 5, .inl (fun _ => 0))), (q_11, .inl (cA_12, 5, .inl (fun _ => 0))), (q_13, .inl (cA_14, 5, .inl (fun _ => 0))), (q_15, .inl (cA_16, 12, .inl (fun _ => 0))), (q_17, .inl (cA_18, 12, .inl (fun _ => 0)))] := hD
  have hK : va_K (dC, dI) vwCl [(cA_2, .int), (cA_4, .int), (cA_6, .int), (cA_8, .int), (cA_10, .int), (cA_12, .int), (cA_14, .int), (cA_16, .int), (cA_18, .int)] s := hK
  refine W.widen (k := 9) (n := 79) (Nat.le_of_ble_eq_true rfl) (Nat.le_of_ble_eq_true rfl) ?_
  refine va_putF (D := (dC, dI)) (ci := 8) (v := .ref q_17) (ty := (.array .int)) (C := RX8) (T := TX8) (N := 18) hx hb hT inX8 tyX8 tyX8_ok nmX8 hown hK hP hD hS 0 rfl rfl 13 (by decide) (hT _ mw_1_236) (fun _ h9 => h9) rfl hin rfl (by decide +kernel) rfl rfl (Nat.le_of_ble_eq_true rfl) dX8_init_70 (fun H locs hP hD hS => ?_)
  have hP : va_P (dC, dI) vwCl [(ob, .inr (8, [.int 0, .int 0, .int 0, .int 0, .int 0, .ref q_1, .ref q_3, .ref q_5, .ref q_7, .ref q_9, .ref q_11, .ref q_13, .ref q_15, .ref q_17, .null, .null, .null, .null])), (q_1, .inl (cA_2, 10, .inl (fun _ => 0))), (q_3, .inl (cA_4, 10, .inl (fun _ => 0))), (q_5, .inl (cA_6, 10, .inl (fun _ => 0))), (q_7, .inl (cA_8, 10, .inl (fun _ => 0))), (q_9, .inl (cA_10, 5, .inl (fun _ => 0))), (q_11, .inl (cA_12, 5, .inl (fun _ => 0))), (q_13, .inl (cA_14, 5, .inl (fun _ => 0))), (q_15, .inl (cA_16, 12, .inl (fun _ => 0))), (q_17, .inl (cA_18, 12, .inl (fun _ => 0)))] H := hP
  have hD : va_D A [(ob, .inr (8, [.int 0, .int 0, .int 0, .int 0, .int 0, .ref q_1, .ref q_3, .ref q_5, .ref q_7, .ref q_9, .ref q_11, .ref q_13, .ref q_15, .ref q_17, .null, .null, .null, .null])), (q_1, .inl (cA_2, 10, .inl (fun _ => 0))), (q_3, .inl (cA_4, 10, .inl (fun _ => 0))), (q_5, .inl (cA_6, 10, .inl (fun _ => 0))), (q_7, .inl (cA_8, 10, .inl (fun _ => 0))), (q_9, .inl (cA_10, 5, .inl (fun _ => 0))), (q_11, .inl (cA_12, 5, .inl (fun _ => 0))), (q_13, .inl (cA_14, 5, .inl (fun _ => 0))), (q_15, .inl (cA_16, 12, .inl (fun _ => 0))), (q_17, .inl (cA_18, 12, .inl (fun _ => 0)))] := hD
  refine lv_aload_n hx hb dX8_init_73 rfl (lv_at hl 0 rfl) ?_
  refine lv_bipush (v := 12) hx hb dX8_init_74 (by decide) ?_
  refine va_newa (atype := .int) (ty := .int) (a0 := (12, .inl (fun _ => 0))) hx hb (hT _ mw_1_122) rfl hK hP hD hS hA (fun _ => rfl) (by decide) (by decide) (by decide) (Nat.le_of_ble_eq_true rfl) (Nat.le_of_ble_eq_true rfl) dX8_init_76 (fun q_19 cA_20 H hK hP hD hS => ?_)
  have hP : va_P (dC, dI) vwCl [(ob, .inr (8, [.int 0, .int 0, .int 0, .int 0, .int 0, .ref q_1, .ref q_3, .ref q_5, .ref q_7, .ref q_9, .ref q_11, .ref q_13, .ref q_15, .ref q_17, .null, .null, .null, .null])), (q_1, .inl (cA_2, 10, .inl (fun _ => 0))), (q_3, .inl (cA_4, 10, .inl (fun _ => 0))), (q_5, .inl (cA_6, 10, .inl (fun _ => 0))), (q_7, .inl (cA_8, 10, .inl (fun _ => 0))), (q_9, .inl (cA_10, 5, .inl (fun _ => 0))), (q_11, .inl (cA_12, 5, .inl (fun _ => 0))), (q_13, .inl (cA_14, 5, .inl (fun _ => 0))), (q_15, .inl (cA_16, 12, .inl (fun _ => 0))), (q_17, .inl (cA_18, 12, .inl (fun _ => 0))), (q_19, .inl (cA_20, 12, .inl (fun _ => 0)))] H := hP
  have hD : va_D A [(ob, .inr (8, [.int 0, .int 0, .int 0, .int 0, .int 0, .ref q_1, .ref q_3, .ref q_5, .ref q_7, .ref q_9, .ref q_11, .ref q_13, .ref q_15, .ref q_17, .null, .null, .null, .null])), (q_1, .inl (cA_2, 10, .inl (fun _ => 0))), (q_3, .inl (cA_4, 10, .inl (fun _ => 0))), (q_5, .inl (cA_6, 10, .inl (fun _ => 0))), (q_7, .inl (cA_8, 10, .inl (fun _ => 0))), (q_9, .inl (cA_10, 5, .inl (fun _ => 0))), (q_11, .inl (cA_12, 5, .inl (fun _ => 0))), (q_13, .inl (cA_14, 5, .inl (fun _ => 0))), (q_15, .inl (cA_16, 12, .inl (fun _ => 0))), (q_17, .inl (cA_18, 12, .inl (fun _ => 0))), (q_19, .inl (cA_20, 12, .inl (fun _ => 0)))] := hD
  have hK : va_K (dC, dI) vwCl [(cA_2, .int), (cA_4, .int), (cA_6, .int), (cA_8, .int), (cA_10, .int), (cA_12, .int), (cA_14, .int), (cA_16, .int), (cA_18, .int), (cA_20, .int)] s := hK
  refine W.widen (k := 10) (n := 91) (Nat.le_of_ble_eq_true rfl) (Nat.le_of_ble_eq_true rfl) ?_
  refine va_putF (D := (dC, dI)) (ci := 8) (v := .ref q_19) (ty := (.array .int)) (C := RX8) (T := TX8) (N := 18) hx hb hT inX8 tyX8 tyX8_ok nmX8 hown hK hP hD hS 0 rfl rfl 14 (by decide) (hT _ mw_2_0) (fun _ h9 => h9) rfl hin rfl (by decide +kernel) rfl rfl (Nat.le_of_ble_eq_true rfl) dX8_init_78 (fun H locs hP hD hS => ?_)
  have hP : va_P (dC, dI) vwCl [(ob, .inr (8, [.int 0, .int 0, .int 0, .int 0, .int 0, .ref q_1, .ref q_3, .ref q_5, .ref q_7, .ref q_9, .ref q_11, .ref q_13, .ref q_15, .ref q_17, .ref q_19, .null, .null, .null])), (q_1, .inl (cA_2, 10, .inl (fun _ => 0))), (q_3, .inl (cA_4, 10, .inl (fun _ => 0))), (q_5, .inl (cA_6, 10, .inl (fun _ => 0))), (q_7, .inl (cA_8, 10, .inl (fun _ => 0))), (q_9, .inl (cA_10, 5, .inl (fun _ => 0))), (q_11, .inl (cA_12, 5, .inl (fun _ => 0))), (q_13, .inl (cA_14, 5, .inl (fun _ => 0))), (q_15, .inl (cA_16, 12, .inl (fun _ => 0))), (q_17, .inl (cA_18, 12, .inl (fun _ => 0))), (q_19, .inl (cA_20, 12, .inl (fun _ => 0)))] H := hP
  have hD : va_D A [(ob, .inr (8, [.int 0, .int 0, .int 0, .int 0, .int 0, .ref q_1, .ref q_3, .ref q_5, .ref q_7, .ref q_9, .ref q_11, .ref q_13, .ref q_15, .ref q_17, .ref q_19, .null, .null, .null])), (q_1, .inl (cA_2, 10, .inl (fun _ => 0))), (q_3, .inl (cA_4, 10, .inl (fun _ => 0))), (q_5, .inl (cA_6, 10, .inl (fun _ => 0))), (q_7, .inl (cA_8, 10, .inl (fun _ => 0))), (q_9, .inl (cA_10, 5, .inl (fun _ => 0))), (q_11, .inl (cA_12, 5, .inl (fun _ => 0))), (q_13, .inl (cA_14, 5, .inl (fun _ => 0))), (q_15, .inl (cA_16, 12, .inl (fun _ => 0))), (q_17, .inl (cA_18, 12, .inl (fun _ => 0))), (q_19, .inl (cA_20, 12, .inl (fun _ => 0)))] := hD
  refine lv_aload_n hx hb dX8_init_81 rfl (lv_at hl 0 rfl) ?_
  refine lv_iconst (v := 3) hx hb dX8_init_82 (by decide) ?_
  refine va_newa (atype := .int) (ty := .int) (a0 := (3, .inl (fun _ => 0))) hx hb (hT _ mw_1_122) rfl hK hP hD hS hA (fun _ => rfl) (by decide) (by decide) (by decide) (Nat.le_of_ble_eq_true rfl) (Nat.le_of_ble_eq_true rfl) dX8_init_83 (fun q_21 cA_22 H hK hP hD hS => ?_)
  have hP : va_P (dC, dI) vwCl [(ob, .inr (8, [.int 0, .int 0, .int 0, .int 0, .int 0, .ref q_1, .ref q_3, .ref q_5, .ref q_7, .ref q_9, .ref q_11, .ref q_13, .ref q_15, .ref q_17, .ref q_19, .null, .null, .null])), (q_1, .inl (cA_2, 10, .inl (fun _ => 0))), (q_3, .inl (cA_4, 10, .inl (fun _ => 0))), (q_5, .inl (cA_6, 10, .inl (fun _ => 0))), (q_7, .inl (cA_8, 10, .inl (fun _ => 0))), (q_9, .inl (cA_10, 5, .inl (fun _ => 0))), (q_11, .inl (cA_12, 5, .inl (fun _ => 0))), (q_13, .inl (cA_14, 5, .inl (fun _ => 0))), (q_15, .inl (cA_16, 12, .inl (fun _ => 0))), (q_17, .inl (cA_18, 12, .inl (fun _ => 0))), (q_19, .inl (cA_20, 12, .inl (fun _ => 0))), (q_21, .inl (cA_22, 3, .inl (fun _ => 0)))] H := hP
  have hD : va_D A [(ob, .inr (8, [.int 0, .int 0, .int 0, .int 0, .int 0, .ref q_1, .ref q_3, .ref q_5, .ref q_7, .ref q_9, .ref q_11, .ref q_13, .ref q_15, .ref q_17, .ref q_19, .null, .null, .null])), (q_1, .inl (cA_2, 10, .inl (fun _ => 0))), (q_3, .inl (cA_4, 10, .inl (fun _ => 0))), (q_5, .inl (cA_6, 10, .inl (fun _ => 0))), (q_7, .inl (cA_8, 10, .inl (fun _ => 0))), (q_9, .inl (cA_10, 5, .inl (fun _ => 0))), (q_11, .inl (cA_12, 5, .inl (fun _ => 0))), (q_13, .inl (cA_14, 5, .inl (fun _ => 0))), (q_15, .inl (cA_16, 12, .inl (fun _ => 0))), (q_17, .inl (cA_18, 12, .inl (fun _ => 0))), (q_19, .inl (cA_20, 12, .inl (fun _ => 0))), (q_21, .inl (cA_22, 3, .inl (fun _ => 0)))] := hD
  have hK : va_K (dC, dI) vwCl [(cA_2, .int), (cA_4, .int), (cA_6, .int), (cA_8, .int), (cA_10, .int), (cA_12, .int), (cA_14, .int), (cA_16, .int), (cA_18, .int), (cA_20, .int), (cA_22, .int)] s := hK
  refine W.widen (k := 11) (n := 94) (Nat.le_of_ble_eq_true rfl) (Nat.le_of_ble_eq_true rfl) ?_
  refine va_putF (D := (dC, dI)) (ci := 8) (v := .ref q_21) (ty := (.array .int)) (C := RX8) (T := TX8) (N := 18) hx hb hT inX8 tyX8 tyX8_ok nmX8 hown hK hP hD hS 0 rfl rfl 15 (by decide) (hT _ mw_2_4) (fun _ h9 => h9) rfl hin rfl (by decide +kernel) rfl rfl (Nat.le_of_ble_eq_true rfl) dX8_init_85 (fun H locs hP hD hS => ?_)
  have hP : va_P (dC, dI) vwCl [(ob, .inr (8, [.int 0, .int 0, .int 0, .int 0, .int 0, .ref q_1, .ref q_3, .ref q_5, .ref q_7, .ref q_9, .ref q_11, .ref q_13, .ref q_15, .ref q_17, .ref q_19, .ref q_21, .null, .null])), (q_1, .inl (cA_2, 10, .inl (fun _ => 0))), (q_3, .inl (cA_4, 10, .inl (fun _ => 0))), (q_5, .inl (cA_6, 10, .inl (fun _ => 0))), (q_7, .inl (cA_8, 10, .inl (fun _ => 0))), (q_9, .inl (cA_10, 5, .inl (fun _ => 0))), (q_11, .inl (cA_12, 5, .inl (fun _ => 0))), (q_13, .inl (cA_14, 5, .inl (fun _ => 0))), (q_15, .inl (cA_16, 12, .inl (fun _ => 0))), (q_17, .inl (cA_18, 12, .inl (fun _ => 0))), (q_19, .inl (cA_20, 12, .inl (fun _ => 0))), (q_21, .inl (cA_22, 3, .inl (fun _ => 0)))] H := hP
  have hD : va_D A [(ob, .inr (8, [.int 0, .int 0, .int 0, .int 0, .int 0, .ref q_1, .ref q_3, .ref q_5, .ref q_7, .ref q_9, .ref q_11, .ref q_13, .ref q_15, .ref q_17, .ref q_19, .ref q_21, .null, .null])), (q_1, .inl (cA_2, 10, .inl (fun _ => 0))), (q_3, .inl (cA_4, 10, .inl (fun _ => 0))), (q_5, .inl (cA_6, 10, .inl (fun _ => 0))), (q_7, .inl (cA_8, 10, .inl (fun _ => 0))), (q_9, .inl (cA_10, 5, .inl (fun _ => 0))), (q_11, .inl (cA_12, 5, .inl (fun _ => 0))), (q_13, .inl (cA_14, 5, .inl (fun _ => 0))), (q_15, .inl (cA_16, 12, .inl (fun _ => 0))), (q_17, .inl (cA_18, 12, .inl (fun _ => 0))), (q_19, .inl (cA_20, 12, .inl (fun _ => 0))), (q_21, .inl (cA_22, 3, .inl (fun _ => 0)))] := hD
  refine lv_aload_n hx hb dX8_init_88 rfl (lv_at hl 0 rfl) ?_
  refine lv_iconst (v := 3) hx hb dX8_init_89 (by decide) ?_
  refine va_newa (atype := .int) (ty := .int) (a0 := (3, .inl (fun _ => 0))) hx hb (hT _ mw_1_122) rfl hK hP hD hS hA (fun _ => rfl) (by decide) (by decide) (by decide) (Nat.le_of_ble_eq_true rfl) (Nat.le_of_ble_eq_true rfl) dX8_init_90 (fun q_23 cA_24 H hK hP hD hS => ?_)
  have hP : va_P (dC, dI) vwCl [(ob, .inr (8, [.int 0, .int 0, .int 0, .int 0, .int 0, .ref q_1, .ref q_3, .ref q_5, .ref q_7, .ref q_9, .ref q_11, .ref q_13, .ref q_15, .ref q_17, .ref q_19, .ref q_21, .null, .null])), (q_1, .inl (cA_2, 10, .inl (fun _ => 0))), (q_3, .inl (cA_4, 10, .inl (fun _ => 0))), (q_5, .inl (cA_6, 10, .inl (fun _ => 0))), (q_7, .inl (cA_8, 10, .inl (fun _ => 0))), (q_9, .inl (cA_10, 5, .inl (fun _ => 0))), (q_11, .inl (cA_12, 5, .inl (fun _ => 0))), (q_13, .inl (cA_14, 5, .inl (fun _ => 0))), (q_15, .inl (cA_16, 12, .inl (fun _ => 0))), (q_17, .inl (cA_18, 12, .inl (fun _ => 0))), (q_19, .inl (cA_20, 12, .inl (fun _ => 0))), (q_21, .inl (cA_22, 3, .inl (fun _ => 0))), (q_23, .inl (cA_24, 3, .inl (fun _ => 0)))] H := hP
  have hD : va_D A [(ob, .inr (8, [.int 0, .int 0, .int 0, .int 0, .int 0, .ref q_1, .ref q_3, .ref q_5, .ref q_7, .ref q_9, .ref q_11, .ref q_13, .ref q_15, .ref q_17, .ref q_19, .ref q_21, .null, .null])), (q_1, .inl (cA_2, 10, .inl (fun _ => 0))), (q_3, .inl (cA_4, 10, .inl (fun _ => 0))), (q_5, .inl (cA_6, 10, .inl (fun _ => 0))), (q_7, .inl (cA_8, 10, .inl (fun _ => 0))), (q_9, .inl (cA_10, 5, .inl (fun _ => 0))), (q_11, .inl (cA_12, 5, .inl (fun _ => 0))), (q_13, .inl (cA_14, 5, .inl (fun _ => 0))), (q_15, .inl (cA_16, 12, .inl (fun _ => 0))), (q_17, .inl (cA_18, 12, .inl (fun _ => 0))), (q_19, .inl (cA_20, 12, .inl (fun _ => 0))), (q_21, .inl (cA_22, 3, .inl (fun _ => 0))), (q_23, .inl (cA_24, 3, .inl (fun _ => 0)))] := hD
  have hK : va_K (dC, dI) vwCl [(cA_2, .int), (cA_4, .int), (cA_6, .int), (cA_8, .int), (cA_10, .int), (cA_12, .int), (cA_14, .int), (cA_16, .int), (cA_18, .int), (cA_20, .int), (cA_22, .int), (cA_24, .int)] s := hK
  refine W.widen (k := 12) (n := 97) (Nat.le_of_ble_eq_true rfl) (Nat.le_of_ble_eq_true rfl) ?_
  refine va_putF (D := (dC, dI)) (ci := 8) (v := .ref q_23) (ty := (.array .int)) (C := RX8) (T := TX8) (N := 18) hx hb hT inX8 tyX8 tyX8_ok nmX8 hown hK hP hD hS 0 rfl rfl 16 (by decide) (hT _ mw_2_7) (fun _ h9 => h9) rfl hin rfl (by decide +kernel) rfl rfl (Nat.le_of_ble_eq_true rfl) dX8_init_92 (fun H locs hP hD hS => ?_)
  have hP : va_P (dC, dI) vwCl [(ob, .inr (8, [.int 0, .int 0, .int 0, .int 0, .int 0, .ref q_1, .ref q_3, .ref q_5, .ref q_7, .ref q_9, .ref q_11, .ref q_13, .ref q_15, .ref q_17, .ref q_19, .ref q_21, .ref q_23, .null])), (q_1, .inl (cA_2, 10, .inl (fun _ => 0))), (q_3, .inl (cA_4, 10, .inl (fun _ => 0))), (q_5, .inl (cA_6, 10, .inl (fun _ => 0))), (q_7, .inl (cA_8, 10, .inl (fun _ => 0))), (q_9, .inl (cA_10, 5, .inl (fun _ => 0))), (q_11, .inl (cA_12, 5, .inl (fun _ => 0))), (q_13, .inl (cA_14, 5, .inl (fun _ => 0))), (q_15, .inl (cA_16, 12, .inl (fun _ => 0))), (q_17, .inl (cA_18, 12, .inl (fun _ => 0))), (q_19, .inl (cA_20, 12, .inl (fun _ => 0))), (q_21, .inl (cA_22, 3, .inl (fun _ => 0))), (q_23, .inl (cA_24, 3, .inl (fun _ => 0)))] H := hP
  have hD : va_D A [(ob, .inr (8, [.int 0, .int 0, .int 0, .int 0, .int 0, .ref q_1, .ref q_3, .ref q_5, .ref q_7, .ref q_9, .ref q_11, .ref q_13, .ref q_15, .ref q_17, .ref q_19, .ref q_21, .ref q_23, .null])), (q_1, .inl (cA_2, 10, .inl (fun _ => 0))), (q_3, .inl (cA_4, 10, .inl (fun _ => 0))), (q_5, .inl (cA_6, 10, .inl (fun _ => 0))), (q_7, .inl (cA_8, 10, .inl (fun _ => 0))), (q_9, .inl (cA_10, 5, .inl (fun _ => 0))), (q_11, .inl (cA_12, 5, .inl (fun _ => 0))), (q_13, .inl (cA_14, 5, .inl (fun _ => 0))), (q_15, .inl (cA_16, 12, .inl (fun _ => 0))), (q_17, .inl (cA_18, 12, .inl (fun _ => 0))), (q_19, .inl (cA_20, 12, .inl (fun _ => 0))), (q_21, .inl (cA_22, 3, .inl (fun _ => 0))), (q_23, .inl (cA_24, 3, .inl (fun _ => 0)))] := hD
  refine lv_aload_n hx hb dX8_init_95 rfl (lv_at hl 0 rfl) ?_
  refine va_new (ci := 6) (fs := [.int 0, .null, .null, .null, .null, .null, .null]) (C := RX6) (T := TX6) (N := 7) hx hb hT inX6 tyX6 tyX6_ok hown (hT _ mw_1_157) (hT _ mw_1_158) (hT _ mw_1_9) hK hP hD hS hA rfl dfX6 (Nat.le_of_ble_eq_true rfl) (Nat.le_of_ble_eq_true rfl) dX8_init_96 (fun q_25 H hP hD hS => ?_)
  have hP : va_P (dC, dI) vwCl [(ob, .inr (8, [.int 0, .int 0, .int 0, .int 0, .int 0, .ref q_1, .ref q_3, .ref q_5, .ref q_7, .ref q_9, .ref q_11, .ref q_13, .ref q_15, .ref q_17, .ref q_19, .ref q_21, .ref q_23, .null])), (q_1, .inl (cA_2, 10, .inl (fun _ => 0))), (q_3, .inl (cA_4, 10, .inl (fun _ => 0))), (q_5, .inl (cA_6, 10, .inl (fun _ => 0))), (q_7, .inl (cA_8, 10, .inl (fun _ => 0))), (q_9, .inl (cA_10, 5, .inl (fun _ => 0))), (q_11, .inl (cA_12, 5, .inl (fun _ => 0))), (q_13, .inl (cA_14, 5, .inl (fun _ => 0))), (q_15, .inl (cA_16, 12, .inl (fun _ => 0))), (q_17, .inl (cA_18, 12, .inl (fun _ => 0))), (q_19, .inl (cA_20, 12, .inl (fun _ => 0))), (q_21, .inl (cA_22, 3, .inl (fun _ => 0))), (q_23, .inl (cA_24, 3, .inl (fun _ => 0))), (q_25, .inr (6, [.int 0, .null, .null, .null, .null, .null, .null]))] H := hP
  have hD : va_D A [(ob, .inr (8, [.int 0, .int 0, .int 0, .int 0, .int 0, .ref q_1, .ref q_3, .ref q_5, .ref q_7, .ref q_9, .ref q_11, .ref q_13, .ref q_15, .ref q_17, .ref q_19, .ref q_21, .ref q_23, .null])), (q_1, .inl (cA_2, 10, .inl (fun _ => 0))), (q_3, .inl (cA_4, 10, .inl (fun _ => 0))), (q_5, .inl (cA_6, 10, .inl (fun _ => 0))), (q_7, .inl (cA_8, 10, .inl (fun _ => 0))), (q_9, .inl (cA_10, 5, .inl (fun _ => 0))), (q_11, .inl (cA_12, 5, .inl (fun _ => 0))), (q_13, .inl (cA_14, 5, .inl (fun _ => 0))), (q_15, .inl (cA_16, 12, .inl (fun _ => 0))), (q_17, .inl (cA_18, 12, .inl (fun _ => 0))), (q_19, .inl (cA_20, 12, .inl (fun _ => 0))), (q_21, .inl (cA_22, 3, .inl (fun _ => 0))), (q_23, .inl (cA_24, 3, .inl (fun _ => 0))), (q_25, .inr (6, [.int 0, .null, .null, .null, .null, .null, .null]))] := hD
  refine W.widen (k := 13) (n := 104) (Nat.le_of_ble_eq_true rfl) (Nat.le_of_ble_eq_true rfl) ?_
  refine lv_dup hx hb dX8_init_99 rfl ?_
  have hPc := hP.sub (ws' := [(q_25, .inr (6, [.int 0, .null, .null, .null, .null, .null, .null]))]) [13] rfl
  have hDc := hD.sub (ws' := [(q_25, .inr (6, [.int 0, .null, .null, .null, .null, .null, .null]))]) [13] (by decide) rfl
  have hKc := hK.sub (tys' := []) [] rfl
  have hFc := va_free (wc := [(q_25, .inr (6, [.int 0, .null, .null, .null, .null, .null, .null]))]) hD hS hA [13] rfl
  refine va_callv (va_runIN (As := []) (rest := [.ref q_25, .ref ob]) ⟨hx, hb, hml, hown, hT⟩ (c_X6_init l dC dI H.size q_25 ) ⟨va_cnB 0 hT (gw mw_1_161) rfl rfl rfl hn_50 (hT _ mw_1_9) (by decide +kernel) ⟨Nat.le_of_ble_eq_true rfl, Nat.le_of_ble_eq_true rfl⟩, rfl, hT _ mw_1_160⟩ ⟨fun a U g mk q => by obtain ⟨q0, q1, qP, qK, qD⟩ := q; exact ⟨q0, q1, qP, va_K.moved (u := U) (U := U.calling g mk a) (Vm.Alike.refl U.vm) qK, qD⟩, fun U hU hW => ⟨rfl, by rw [hU], by rw [hU]; exact hPc, va_K.moved hW.alike hKc, hDc.weaken (fun _ _ _ _ => trivial)⟩⟩ rfl rfl hl.1 rfl (lv_room (Nat.le_of_ble_eq_true rfl)) dX8_init_100 ⟨Nat.le_of_ble_eq_true rfl, Nat.le_of_ble_eq_true rfl⟩) hS (fun q _ h => hFc q h) hFc (fun u t H1 locs ht hvm hw hB hz1 hk1 hS => ?_)
  obtain ⟨x_28, x_29, x_30, x_31, x_32, x_33, x_34, x_35, x_36, x_37, x_38, x_39, hK1, hP1, hD1⟩ := hB
  rw [ht] at hP1
  obtain ⟨hP, hD⟩ := va_join (wr := [(ob, .inr (8, [.int 0, .int 0, .int 0, .int 0, .int 0, .ref q_1, .ref q_3, .ref q_5, .ref q_7, .ref q_9, .ref q_11, .ref q_13, .ref q_15, .ref q_17, .ref q_19, .ref q_21, .ref q_23, .null])), (q_1, .inl (cA_2, 10, .inl (fun _ => 0))), (q_3, .inl (cA_4, 10, .inl (fun _ => 0))), (q_5, .inl (cA_6, 10, .inl (fun _ => 0))), (q_7, .inl (cA_8, 10, .inl (fun _ => 0))), (q_9, .inl (cA_10, 5, .inl (fun _ => 0))), (q_11, .inl (cA_12, 5, .inl (fun _ => 0))), (q_13, .inl (cA_14, 5, .inl (fun _ => 0))), (q_15, .inl (cA_16, 12, .inl (fun _ => 0))), (q_17, .inl (cA_18, 12, .inl (fun _ => 0))), (q_19, .inl (cA_20, 12, .inl (fun _ => 0))), (q_21, .inl (cA_22, 3, .inl (fun _ => 0))), (q_23, .inl (cA_24, 3, .inl (fun _ => 0)))]) (w1 := [(q_25, .inr (6, [.int 0, .ref x_28, .ref x_29, .ref x_30, .ref x_31, .ref x_32, .ref x_33])), (x_28, .inl (x_34, 64, .inl (fun _ => 0))), (x_29, .inl (x_35, 64, .inl (fun _ => 0))), (x_30, .inl (x_36, 5, .inl (fun _ => 0))), (x_31, .inl (x_37, 5, .inl (fun _ => 0))), (x_32, .inl (x_38, 5, .inr (.inl (fun _ => 0)))), (x_33, .inl (x_39, 64, .inr (.inl (fun _ => 0))))]) hP hD [13] [0, 1, 2, 3, 4, 5, 6, 7, 8, 9, 10, 11, 12] rfl rfl (by decide) (by decide) hk1 hFc hP1 hD1
  generalize H1 = H at hP hS ⊢
  have hP : va_P (dC, dI) vwCl [(ob, .inr (8, [.int 0, .int 0, .int 0, .int 0, .int 0, .ref q_1, .ref q_3, .ref q_5, .ref q_7, .ref q_9, .ref q_11, .ref q_13, .ref q_15, .ref q_17, .ref q_19, .ref q_21, .ref q_23, .null])), (q_1, .inl (cA_2, 10, .inl (fun _ => 0))), (q_3, .inl (cA_4, 10, .inl (fun _ => 0))), (q_5, .inl (cA_6, 10, .inl (fun _ => 0))), (q_7, .inl (cA_8, 10, .inl (fun _ => 0))), (q_9, .inl (cA_10, 5, .inl (fun _ => 0))), (q_11, .inl (cA_12, 5, .inl (fun _ => 0))), (q_13, .inl (cA_14, 5, .inl (fun _ => 0))), (q_15, .inl (cA_16, 12, .inl (fun _ => 0))), (q_17, .inl (cA_18, 12, .inl (fun _ => 0))), (q_19, .inl (cA_20, 12, .inl (fun _ => 0))), (q_21, .inl (cA_22, 3, .inl (fun _ => 0))), (q_23, .inl (cA_24, 3, .inl (fun _ => 0))), (q_25, .inr (6, [.int 0, .ref x_28, .ref x_29, .ref x_30, .ref x_31, .ref x_32, .ref x_33])), (x_28, .inl (x_34, 64, .inl (fun _ => 0))), (x_29, .inl (x_35, 64, .inl (fun _ => 0))), (x_30, .inl (x_36, 5, .inl (fun _ => 0))), (x_31, .inl (x_37, 5, .inl (fun _ => 0))), (x_32, .inl (x_38, 5, .inr (.inl (fun _ => 0)))), (x_33, .inl (x_39, 64, .inr (.inl (fun _ => 0))))] H := hP
  have hD : va_D A [(ob, .inr (8, [.int 0, .int 0, .int 0, .int 0, .int 0, .ref q_1, .ref q_3, .ref q_5, .ref q_7, .ref q_9, .ref q_11, .ref q_13, .ref q_15, .ref q_17, .ref q_19, .ref q_21, .ref q_23, .null])), (q_1, .inl (cA_2, 10, .inl (fun _ => 0))), (q_3, .inl (cA_4, 10, .inl (fun _ => 0))), (q_5, .inl (cA_6, 10, .inl (fun _ => 0))), (q_7, .inl (cA_8, 10, .inl (fun _ => 0))), (q_9, .inl (cA_10, 5, .inl (fun _ => 0))), (q_11, .inl (cA_12, 5, .inl (fun _ => 0))), (q_13, .inl (cA_14, 5, .inl (fun _ => 0))), (q_15, .inl (cA_16, 12, .inl (fun _ => 0))), (q_17, .inl (cA_18, 12, .inl (fun _ => 0))), (q_19, .inl (cA_20, 12, .inl (fun _ => 0))), (q_21, .inl (cA_22, 3, .inl (fun _ => 0))), (q_23, .inl (cA_24, 3, .inl (fun _ => 0))), (q_25, .inr (6, [.int 0, .ref x_28, .ref x_29, .ref x_30, .ref x_31, .ref x_32, .ref x_33])), (x_28, .inl (x_34, 64, .inl (fun _ => 0))), (x_29, .inl (x_35, 64, .inl (fun _ => 0))), (x_30, .inl (x_36, 5, .inl (fun _ => 0))), (x_31, .inl (x_37, 5, .inl (fun _ => 0))), (x_32, .inl (x_38, 5, .inr (.inl (fun _ => 0)))), (x_33, .inl (x_39, 64, .inr (.inl (fun _ => 0))))] := hD
  have hK1 := va_K.moved hvm.symm hK1
  have hK : va_K (dC, dI) vwCl [(cA_2, .int), (cA_4, .int), (cA_6, .int), (cA_8, .int), (cA_10, .int), (cA_12, .int), (cA_14, .int), (cA_16, .int), (cA_18, .int), (cA_20, .int), (cA_22, .int), (cA_24, .int), (x_34, .int), (x_35, .int), (x_36, .int), (x_37, .int), (x_38, .long), (x_39, .long)] s := hK.app hK1
  clear hPc hDc hKc hFc hP1 hD1 hk1 hz1 ht hvm hK1
  refine W.widen (k := 19) (n := 311) (Nat.le_of_ble_eq_true rfl) (Nat.le_of_ble_eq_true rfl) ?_
  refine va_putF (D := (dC, dI)) (ci := 8) (v := .ref q_25) (ty := (.object "PassedClocks$Rules")) (C := RX8) (T := TX8) (N := 18) hx hb hT inX8 tyX8 tyX8_ok nmX8 hown hK hP hD hS 0 rfl rfl 17 (by decide) (hT _ mw_2_10) (fun _ h9 => h9) rfl hin rfl (by decide +kernel) rfl rfl (Nat.le_of_ble_eq_true rfl) dX8_init_103 (fun H locs hP hD hS => ?_)
  have hP : va_P (dC, dI) vwCl [(ob, .inr (8, [.int 0, .int 0, .int 0, .int 0, .int 0, .ref q_1, .ref q_3, .ref q_5, .ref q_7, .ref q_9, .ref q_11, .ref q_13, .ref q_15, .ref q_17, .ref q_19, .ref q_21, .ref q_23, .ref q_25])), (q_1, .inl (cA_2, 10, .inl (fun _ => 0))), (q_3, .inl (cA_4, 10, .inl (fun _ => 0))), (q_5, .inl (cA_6, 10, .inl (fun _ => 0))), (q_7, .inl (cA_8, 10, .inl (fun _ => 0))), (q_9, .inl (cA_10, 5, .inl (fun _ => 0))), (q_11, .inl (cA_12, 5, .inl (fun _ => 0))), (q_13, .inl (cA_14, 5, .inl (fun _ => 0))), (q_15, .inl (cA_16, 12, .inl (fun _ => 0))), (q_17, .inl (cA_18, 12, .inl (fun _ => 0))), (q_19, .inl (cA_20, 12, .inl (fun _ => 0))), (q_21, .inl (cA_22, 3, .inl (fun _ => 0))), (q_23, .inl (cA_24, 3, .inl (fun _ => 0))), (q_25, .inr (6, [.int 0, .ref x_28, .ref x_29, .ref x_30, .ref x_31, .ref x_32, .ref x_33])), (x_28, .inl (x_34, 64, .inl (fun _ => 0))), (x_29, .inl (x_35, 64, .inl (fun _ => 0))), (x_30, .inl (x_36, 5, .inl (fun _ => 0))), (x_31, .inl (x_37, 5, .inl (fun _ => 0))), (x_32, .inl (x_38, 5, .inr (.inl (fun _ => 0)))), (x_33, .inl (x_39, 64, .inr (.inl (fun _ => 0))))] H := hP
  have hD : va_D A [(ob, .inr (8, [.int 0, .int 0, .int 0, .int 0, .int 0, .ref q_1, .ref q_3, .ref q_5, .ref q_7, .ref q_9, .ref q_11, .ref q_13, .ref q_15, .ref q_17, .ref q_19, .ref q_21, .ref q_23, .ref q_25])), (q_1, .inl (cA_2, 10, .inl (fun _ => 0))), (q_3, .inl (cA_4, 10, .inl (fun _ => 0))), (q_5, .inl (cA_6, 10, .inl (fun _ => 0))), (q_7, .inl (cA_8, 10, .inl (fun _ => 0))), (q_9, .inl (cA_10, 5, .inl (fun _ => 0))), (q_11, .inl (cA_12, 5, .inl (fun _ => 0))), (q_13, .inl (cA_14, 5, .inl (fun _ => 0))), (q_15, .inl (cA_16, 12, .inl (fun _ => 0))), (q_17, .inl (cA_18, 12, .inl (fun _ => 0))), (q_19, .inl (cA_20, 12, .inl (fun _ => 0))), (q_21, .inl (cA_22, 3, .inl (fun _ => 0))), (q_23, .inl (cA_24, 3, .inl (fun _ => 0))), (q_25, .inr (6, [.int 0, .ref x_28, .ref x_29, .ref x_30, .ref x_31, .ref x_32, .ref x_33])), (x_28, .inl (x_34, 64, .inl (fun _ => 0))), (x_29, .inl (x_35, 64, .inl (fun _ => 0))), (x_30, .inl (x_36, 5, .inl (fun _ => 0))), (x_31, .inl (x_37, 5, .inl (fun _ => 0))), (x_32, .inl (x_38, 5, .inr (.inl (fun _ => 0)))), (x_33, .inl (x_39, 64, .inr (.inl (fun _ => 0))))] := hD
  have hP9 := hP.sub (ws' := [(ob, .inr (8, [.int 0, .int 0, .int 0, .int 0, .int 0, .ref q_1, .ref q_3, .ref q_5, .ref q_7, .ref q_9, .ref q_11, .ref q_13, .ref q_15, .ref q_17, .ref q_19, .ref q_21, .ref q_23, .ref q_25])), (q_1, .inl (cA_2, 10, .inl (fun _ => 0))), (q_3, .inl (cA_4, 10, .inl (fun _ => 0))), (q_5, .inl (cA_6, 10, .inl (fun _ => 0))), (q_7, .inl (cA_8, 10, .inl (fun _ => 0))), (q_9, .inl (cA_10, 5, .inl (fun _ => 0))), (q_11, .inl (cA_12, 5, .inl (fun _ => 0))), (q_13, .inl (cA_14, 5, .inl (fun _ => 0))), (q_15, .inl (cA_16, 12, .inl (fun _ => 0))), (q_17, .inl (cA_18, 12, .inl (fun _ => 0))), (q_19, .inl (cA_20, 12, .inl (fun _ => 0))), (q_21, .inl (cA_22, 3, .inl (fun _ => 0))), (q_23, .inl (cA_24, 3, .inl (fun _ => 0))), (q_25, .inr (6, [.int 0, .ref x_28, .ref x_29, .ref x_30, .ref x_31, .ref x_32, .ref x_33])), (x_28, .inl (x_34, 64, .inl (fun _ => 0))), (x_29, .inl (x_35, 64, .inl (fun _ => 0))), (x_30, .inl (x_36, 5, .inl (fun _ => 0))), (x_31, .inl (x_37, 5, .inl (fun _ => 0))), (x_32, .inl (x_38, 5, .inr (.inl (fun _ => 0)))), (x_33, .inl (x_39, 64, .inr (.inl (fun _ => 0))))]) [0, 1, 2, 3, 4, 5, 6, 7, 8, 9, 10, 11, 12, 13, 14, 15, 16, 17, 18, 19] rfl
  have hD9 := hD.sub (ws' := [(ob, .inr (8, [.int 0, .int 0, .int 0, .int 0, .int 0, .ref q_1, .ref q_3, .ref q_5, .ref q_7, .ref q_9, .ref q_11, .ref q_13, .ref q_15, .ref q_17, .ref q_19, .ref q_21, .ref q_23, .ref q_25])), (q_1, .inl (cA_2, 10, .inl (fun _ => 0))), (q_3, .inl (cA_4, 10, .inl (fun _ => 0))), (q_5, .inl (cA_6, 10, .inl (fun _ => 0))), (q_7, .inl (cA_8, 10, .inl (fun _ => 0))), (q_9, .inl (cA_10, 5, .inl (fun _ => 0))), (q_11, .inl (cA_12, 5, .inl (fun _ => 0))), (q_13, .inl (cA_14, 5, .inl (fun _ => 0))), (q_15, .inl (cA_16, 12, .inl (fun _ => 0))), (q_17, .inl (cA_18, 12, .inl (fun _ => 0))), (q_19, .inl (cA_20, 12, .inl (fun _ => 0))), (q_21, .inl (cA_22, 3, .inl (fun _ => 0))), (q_23, .inl (cA_24, 3, .inl (fun _ => 0))), (q_25, .inr (6, [.int 0, .ref x_28, .ref x_29, .ref x_30, .ref x_31, .ref x_32, .ref x_33])), (x_28, .inl (x_34, 64, .inl (fun _ => 0))), (x_29, .inl (x_35, 64, .inl (fun _ => 0))), (x_30, .inl (x_36, 5, .inl (fun _ => 0))), (x_31, .inl (x_37, 5, .inl (fun _ => 0))), (x_32, .inl (x_38, 5, .inr (.inl (fun _ => 0)))), (x_33, .inl (x_39, 64, .inr (.inl (fun _ => 0))))]) [0, 1, 2, 3, 4, 5, 6, 7, 8, 9, 10, 11, 12, 13, 14, 15, 16, 17, 18, 19] (by decide) rfl
  have hK9 := hK.sub (tys' := [(cA_2, .int), (cA_4, .int), (cA_6, .int), (cA_8, .int), (cA_10, .int), (cA_12, .int), (cA_14, .int), (cA_16, .int), (cA_18, .int), (cA_20, .int), (cA_22, .int), (cA_24, .int), (x_34, .int), (x_35, .int), (x_36, .int), (x_37, .int), (x_38, .long), (x_39, .long)]) [0, 1, 2, 3, 4, 5, 6, 7, 8, 9, 10, 11, 12, 13, 14, 15, 16, 17] rfl
  refine W.widen (k := 19) (n := 311) (Nat.le_of_ble_eq_true rfl) (Nat.le_of_ble_eq_true rfl) ?_
  exact W.vret hx hb hr (fun t ht hW => ⟨⟨(), rfl, trivial, q_1, q_3, q_5, q_7, q_9, q_11, q_13, q_15, q_17, q_19, q_21, q_23, q_25, cA_2, cA_4, cA_6, cA_8, cA_10, cA_12, cA_14, cA_16, cA_18, cA_20, cA_22, cA_24, x_28, x_29, x_30, x_31, x_32, x_33, x_34, x_35, x_36, x_37, x_38, x_39, va_K.moved hW.alike hK9, by rw [ht]; exact hP9, hD9⟩, hS.F ht⟩) hS.2.2 dX8_init_106
