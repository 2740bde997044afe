/-! The constructors' instructions and words. -/
theorem kd_X0_0 : decode cX0_init 0 = .ok (.aload_n 0, 1) := by decide +kernel
theorem kd_X0_1 : decode cX0_init 1 = .ok (.invokespecial 1, 3) := by decide +kernel
theorem kd_X0_4 : decode cX0_init 4 = .ok (.aload_n 0, 1) := by decide +kernel
theorem kd_X0_5 : decode cX0_init 5 = .ok (.bipush 14, 2) := by decide +kernel
theorem kd_X0_7 : decode cX0_init 7 = .ok (.anewarray 9, 3) := by decide +kernel
theorem kd_X0_10 : decode cX0_init 10 = .ok (.putfield 11, 3) := by decide +kernel
theorem kd_X0_13 : decode cX0_init 13 = .ok (.aload_n 0, 1) := by decide +kernel
theorem kd_X0_14 : decode cX0_init 14 = .ok (.iconst 0, 1) := by decide +kernel
theorem kd_X0_15 : decode cX0_init 15 = .ok (.putfield 15, 3) := by decide +kernel
theorem kd_X0_18 : decode cX0_init 18 = .ok (.aload_n 0, 1) := by decide +kernel
theorem kd_X0_19 : decode cX0_init 19 = .ok (.iconst 0, 1) := by decide +kernel
theorem kd_X0_20 : decode cX0_init 20 = .ok (.putfield 19, 3) := by decide +kernel
theorem kd_X0_23 : decode cX0_init 23 = .ok (.iconst 0, 1) := by decide +kernel
theorem kd_X0_24 : decode cX0_init 24 = .ok (.istore_n 1, 1) := by decide +kernel
theorem kd_X0_25 : decode cX0_init 25 = .ok (.iload_n 1, 1) := by decide +kernel
theorem kd_X0_26 : decode cX0_init 26 = .ok (.bipush 14, 2) := by decide +kernel
theorem kd_X0_28 : decode cX0_init 28 = .ok (.if_icmp .ge 22, 3) := by decide +kernel
theorem kd_X0_31 : decode cX0_init 31 = .ok (.aload_n 0, 1) := by decide +kernel
theorem kd_X0_32 : decode cX0_init 32 = .ok (.getfield 11, 3) := by decide +kernel
theorem kd_X0_35 : decode cX0_init 35 = .ok (.iload_n 1, 1) := by decide +kernel
theorem kd_X0_36 : decode cX0_init 36 = .ok (.new 9, 3) := by decide +kernel
theorem kd_X0_39 : decode cX0_init 39 = .ok (.dup, 1) := by decide +kernel
theorem kd_X0_40 : decode cX0_init 40 = .ok (.invokespecial 22, 3) := by decide +kernel
theorem kd_X0_43 : decode cX0_init 43 = .ok (.aastore, 1) := by decide +kernel
theorem kd_X0_44 : decode cX0_init 44 = .ok (.iinc 1 1, 3) := by decide +kernel
theorem kd_X0_47 : decode cX0_init 47 = .ok (.goto (-22), 3) := by decide +kernel
theorem kd_X0_50 : decode cX0_init 50 = .ok (.return_, 1) := by decide +kernel
theorem kd_X1_0 : decode cX1_init 0 = .ok (.aload_n 0, 1) := by decide +kernel
theorem kd_X1_1 : decode cX1_init 1 = .ok (.invokespecial 3, 3) := by decide +kernel
theorem kd_X1_4 : decode cX1_init 4 = .ok (.aload_n 0, 1) := by decide +kernel
theorem kd_X1_5 : decode cX1_init 5 = .ok (.iconst 5, 1) := by decide +kernel
theorem kd_X1_6 : decode cX1_init 6 = .ok (.newarray .int, 2) := by decide +kernel
theorem kd_X1_8 : decode cX1_init 8 = .ok (.putfield 11, 3) := by decide +kernel
theorem kd_X1_11 : decode cX1_init 11 = .ok (.aload_n 0, 1) := by decide +kernel
theorem kd_X1_12 : decode cX1_init 12 = .ok (.bipush 12, 2) := by decide +kernel
theorem kd_X1_14 : decode cX1_init 14 = .ok (.newarray .int, 2) := by decide +kernel
theorem kd_X1_16 : decode cX1_init 16 = .ok (.putfield 15, 3) := by decide +kernel
theorem kd_X1_19 : decode cX1_init 19 = .ok (.return_, 1) := by decide +kernel
theorem kd_X2_0 : decode cX2_init 0 = .ok (.aload_n 0, 1) := by decide +kernel
theorem kd_X2_1 : decode cX2_init 1 = .ok (.invokespecial 3, 3) := by decide +kernel
theorem kd_X2_4 : decode cX2_init 4 = .ok (.aload_n 0, 1) := by decide +kernel
theorem kd_X2_5 : decode cX2_init 5 = .ok (.iconst 5, 1) := by decide +kernel
theorem kd_X2_6 : decode cX2_init 6 = .ok (.anewarray 9, 3) := by decide +kernel
theorem kd_X2_9 : decode cX2_init 9 = .ok (.putfield 11, 3) := by decide +kernel
theorem kd_X2_12 : decode cX2_init 12 = .ok (.aload_n 0, 1) := by decide +kernel
theorem kd_X2_13 : decode cX2_init 13 = .ok (.iconst 0, 1) := by decide +kernel
theorem kd_X2_14 : decode cX2_init 14 = .ok (.putfield 17, 3) := by decide +kernel
theorem kd_X2_17 : decode cX2_init 17 = .ok (.aload_n 0, 1) := by decide +kernel
theorem kd_X2_18 : decode cX2_init 18 = .ok (.sipush 2620, 3) := by decide +kernel
theorem kd_X2_21 : decode cX2_init 21 = .ok (.putfield 21, 3) := by decide +kernel
theorem kd_X2_24 : decode cX2_init 24 = .ok (.iconst 0, 1) := by decide +kernel
theorem kd_X2_25 : decode cX2_init 25 = .ok (.istore_n 1, 1) := by decide +kernel
theorem kd_X2_26 : decode cX2_init 26 = .ok (.iload_n 1, 1) := by decide +kernel
theorem kd_X2_27 : decode cX2_init 27 = .ok (.iconst 5, 1) := by decide +kernel
theorem kd_X2_28 : decode cX2_init 28 = .ok (.if_icmp .ge 22, 3) := by decide +kernel
theorem kd_X2_31 : decode cX2_init 31 = .ok (.aload_n 0, 1) := by decide +kernel
theorem kd_X2_32 : decode cX2_init 32 = .ok (.getfield 11, 3) := by decide +kernel
theorem kd_X2_35 : decode cX2_init 35 = .ok (.iload_n 1, 1) := by decide +kernel
theorem kd_X2_36 : decode cX2_init 36 = .ok (.new 9, 3) := by decide +kernel
theorem kd_X2_39 : decode cX2_init 39 = .ok (.dup, 1) := by decide +kernel
theorem kd_X2_40 : decode cX2_init 40 = .ok (.invokespecial 24, 3) := by decide +kernel
theorem kd_X2_43 : decode cX2_init 43 = .ok (.aastore, 1) := by decide +kernel
theorem kd_X2_44 : decode cX2_init 44 = .ok (.iinc 1 1, 3) := by decide +kernel
theorem kd_X2_47 : decode cX2_init 47 = .ok (.goto (-21), 3) := by decide +kernel
theorem kd_X2_50 : decode cX2_init 50 = .ok (.return_, 1) := by decide +kernel
theorem kd_X4_0 : decode cX4_init 0 = .ok (.aload_n 0, 1) := by decide +kernel
theorem kd_X4_1 : decode cX4_init 1 = .ok (.invokespecial 1, 3) := by decide +kernel
theorem kd_X4_4 : decode cX4_init 4 = .ok (.return_, 1) := by decide +kernel
theorem kd_X3_0 : decode cX3_init 0 = .ok (.aload_n 0, 1) := by decide +kernel
theorem kd_X3_1 : decode cX3_init 1 = .ok (.invokespecial 3, 3) := by decide +kernel
theorem kd_X3_4 : decode cX3_init 4 = .ok (.aload_n 0, 1) := by decide +kernel
theorem kd_X3_5 : decode cX3_init 5 = .ok (.bipush 6, 2) := by decide +kernel
theorem kd_X3_7 : decode cX3_init 7 = .ok (.bipush 7, 2) := by decide +kernel
theorem kd_X3_9 : decode cX3_init 9 = .ok (.multianewarray 11 2, 4) := by decide +kernel
theorem kd_X3_13 : decode cX3_init 13 = .ok (.putfield 13, 3) := by decide +kernel
theorem kd_X3_16 : decode cX3_init 16 = .ok (.aload_n 0, 1) := by decide +kernel
theorem kd_X3_17 : decode cX3_init 17 = .ok (.lconst 0, 1) := by decide +kernel
theorem kd_X3_18 : decode cX3_init 18 = .ok (.putfield 16, 3) := by decide +kernel
theorem kd_X3_21 : decode cX3_init 21 = .ok (.aload_n 0, 1) := by decide +kernel
theorem kd_X3_22 : decode cX3_init 22 = .ok (.lconst 1, 1) := by decide +kernel
theorem kd_X3_23 : decode cX3_init 23 = .ok (.putfield 20, 3) := by decide +kernel
theorem kd_X3_26 : decode cX3_init 26 = .ok (.return_, 1) := by decide +kernel
theorem kd_X5_0 : decode cX5_init 0 = .ok (.aload_n 0, 1) := by decide +kernel
theorem kd_X5_1 : decode cX5_init 1 = .ok (.invokespecial 3, 3) := by decide +kernel
theorem kd_X5_4 : decode cX5_init 4 = .ok (.aload_n 0, 1) := by decide +kernel
theorem kd_X5_5 : decode cX5_init 5 = .ok (.bipush 80, 2) := by decide +kernel
theorem kd_X5_7 : decode cX5_init 7 = .ok (.newarray .int, 2) := by decide +kernel
theorem kd_X5_9 : decode cX5_init 9 = .ok (.putfield 11, 3) := by decide +kernel
theorem kd_X5_12 : decode cX5_init 12 = .ok (.aload_n 0, 1) := by decide +kernel
theorem kd_X5_13 : decode cX5_init 13 = .ok (.iconst 0, 1) := by decide +kernel
theorem kd_X5_14 : decode cX5_init 14 = .ok (.putfield 15, 3) := by decide +kernel
theorem kd_X5_17 : decode cX5_init 17 = .ok (.return_, 1) := by decide +kernel
theorem kd_X6_0 : decode cX6_init 0 = .ok (.aload_n 0, 1) := by decide +kernel
theorem kd_X6_1 : decode cX6_init 1 = .ok (.invokespecial 1, 3) := by decide +kernel
theorem kd_X6_4 : decode cX6_init 4 = .ok (.aload_n 0, 1) := by decide +kernel
theorem kd_X6_5 : decode cX6_init 5 = .ok (.new 7, 3) := by decide +kernel
theorem kd_X6_8 : decode cX6_init 8 = .ok (.dup, 1) := by decide +kernel
theorem kd_X6_9 : decode cX6_init 9 = .ok (.invokespecial 9, 3) := by decide +kernel
theorem kd_X6_12 : decode cX6_init 12 = .ok (.putfield 10, 3) := by decide +kernel
theorem kd_X6_15 : decode cX6_init 15 = .ok (.aload_n 0, 1) := by decide +kernel
theorem kd_X6_16 : decode cX6_init 16 = .ok (.new 16, 3) := by decide +kernel
theorem kd_X6_19 : decode cX6_init 19 = .ok (.dup, 1) := by decide +kernel
theorem kd_X6_20 : decode cX6_init 20 = .ok (.invokespecial 18, 3) := by decide +kernel
theorem kd_X6_23 : decode cX6_init 23 = .ok (.putfield 19, 3) := by decide +kernel
theorem kd_X6_26 : decode cX6_init 26 = .ok (.aload_n 0, 1) := by decide +kernel
theorem kd_X6_27 : decode cX6_init 27 = .ok (.new 23, 3) := by decide +kernel
theorem kd_X6_30 : decode cX6_init 30 = .ok (.dup, 1) := by decide +kernel
theorem kd_X6_31 : decode cX6_init 31 = .ok (.invokespecial 25, 3) := by decide +kernel
theorem kd_X6_34 : decode cX6_init 34 = .ok (.putfield 26, 3) := by decide +kernel
theorem kd_X6_37 : decode cX6_init 37 = .ok (.aload_n 0, 1) := by decide +kernel
theorem kd_X6_38 : decode cX6_init 38 = .ok (.iconst 2, 1) := by decide +kernel
theorem kd_X6_39 : decode cX6_init 39 = .ok (.anewarray 16, 3) := by decide +kernel
theorem kd_X6_42 : decode cX6_init 42 = .ok (.putfield 30, 3) := by decide +kernel
theorem kd_X6_45 : decode cX6_init 45 = .ok (.aload_n 0, 1) := by decide +kernel
theorem kd_X6_46 : decode cX6_init 46 = .ok (.iconst 2, 1) := by decide +kernel
theorem kd_X6_47 : decode cX6_init 47 = .ok (.newarray .boolean, 2) := by decide +kernel
theorem kd_X6_49 : decode cX6_init 49 = .ok (.putfield 34, 3) := by decide +kernel
theorem kd_X6_52 : decode cX6_init 52 = .ok (.aload_n 0, 1) := by decide +kernel
theorem kd_X6_53 : decode cX6_init 53 = .ok (.bipush 6, 2) := by decide +kernel
theorem kd_X6_55 : decode cX6_init 55 = .ok (.anewarray 38, 3) := by decide +kernel
theorem kd_X6_58 : decode cX6_init 58 = .ok (.putfield 40, 3) := by decide +kernel
theorem kd_X6_61 : decode cX6_init 61 = .ok (.aload_n 0, 1) := by decide +kernel
theorem kd_X6_62 : decode cX6_init 62 = .ok (.iconst 0, 1) := by decide +kernel
theorem kd_X6_63 : decode cX6_init 63 = .ok (.putfield 44, 3) := by decide +kernel
theorem kd_X6_66 : decode cX6_init 66 = .ok (.aload_n 0, 1) := by decide +kernel
theorem kd_X6_67 : decode cX6_init 67 = .ok (.lconst 0, 1) := by decide +kernel
theorem kd_X6_68 : decode cX6_init 68 = .ok (.putfield 48, 3) := by decide +kernel
theorem kd_X6_71 : decode cX6_init 71 = .ok (.aload_n 0, 1) := by decide +kernel
theorem kd_X6_72 : decode cX6_init 72 = .ok (.new 52, 3) := by decide +kernel
theorem kd_X6_75 : decode cX6_init 75 = .ok (.dup, 1) := by decide +kernel
theorem kd_X6_76 : decode cX6_init 76 = .ok (.invokespecial 54, 3) := by decide +kernel
theorem kd_X6_79 : decode cX6_init 79 = .ok (.putfield 55, 3) := by decide +kernel
theorem kd_X6_82 : decode cX6_init 82 = .ok (.aload_n 0, 1) := by decide +kernel
theorem kd_X6_83 : decode cX6_init 83 = .ok (.new 16, 3) := by decide +kernel
theorem kd_X6_86 : decode cX6_init 86 = .ok (.dup, 1) := by decide +kernel
theorem kd_X6_87 : decode cX6_init 87 = .ok (.invokespecial 18, 3) := by decide +kernel
theorem kd_X6_90 : decode cX6_init 90 = .ok (.putfield 59, 3) := by decide +kernel
theorem kd_X6_93 : decode cX6_init 93 = .ok (.aload_n 0, 1) := by decide +kernel
theorem kd_X6_94 : decode cX6_init 94 = .ok (.new 62, 3) := by decide +kernel
theorem kd_X6_97 : decode cX6_init 97 = .ok (.dup, 1) := by decide +kernel
theorem kd_X6_98 : decode cX6_init 98 = .ok (.invokespecial 64, 3) := by decide +kernel
theorem kd_X6_101 : decode cX6_init 101 = .ok (.putfield 65, 3) := by decide +kernel
theorem kd_X6_104 : decode cX6_init 104 = .ok (.iconst 0, 1) := by decide +kernel
theorem kd_X6_105 : decode cX6_init 105 = .ok (.istore_n 1, 1) := by decide +kernel
theorem kd_X6_106 : decode cX6_init 106 = .ok (.iload_n 1, 1) := by decide +kernel
theorem kd_X6_107 : decode cX6_init 107 = .ok (.iconst 2, 1) := by decide +kernel
theorem kd_X6_108 : decode cX6_init 108 = .ok (.if_icmp .ge 22, 3) := by decide +kernel
theorem kd_X6_111 : decode cX6_init 111 = .ok (.aload_n 0, 1) := by decide +kernel
theorem kd_X6_112 : decode cX6_init 112 = .ok (.getfield 30, 3) := by decide +kernel
theorem kd_X6_115 : decode cX6_init 115 = .ok (.iload_n 1, 1) := by decide +kernel
theorem kd_X6_116 : decode cX6_init 116 = .ok (.new 16, 3) := by decide +kernel
theorem kd_X6_119 : decode cX6_init 119 = .ok (.dup, 1) := by decide +kernel
theorem kd_X6_120 : decode cX6_init 120 = .ok (.invokespecial 18, 3) := by decide +kernel
theorem kd_X6_123 : decode cX6_init 123 = .ok (.aastore, 1) := by decide +kernel
theorem kd_X6_124 : decode cX6_init 124 = .ok (.iinc 1 1, 3) := by decide +kernel
theorem kd_X6_127 : decode cX6_init 127 = .ok (.goto (-21), 3) := by decide +kernel
theorem kd_X6_130 : decode cX6_init 130 = .ok (.iconst 0, 1) := by decide +kernel
theorem kd_X6_131 : decode cX6_init 131 = .ok (.istore_n 1, 1) := by decide +kernel
theorem kd_X6_132 : decode cX6_init 132 = .ok (.iload_n 1, 1) := by decide +kernel
theorem kd_X6_133 : decode cX6_init 133 = .ok (.bipush 6, 2) := by decide +kernel
theorem kd_X6_135 : decode cX6_init 135 = .ok (.if_icmp .ge 22, 3) := by decide +kernel
theorem kd_X6_138 : decode cX6_init 138 = .ok (.aload_n 0, 1) := by decide +kernel
theorem kd_X6_139 : decode cX6_init 139 = .ok (.getfield 40, 3) := by decide +kernel
theorem kd_X6_142 : decode cX6_init 142 = .ok (.iload_n 1, 1) := by decide +kernel
theorem kd_X6_143 : decode cX6_init 143 = .ok (.new 38, 3) := by decide +kernel
theorem kd_X6_146 : decode cX6_init 146 = .ok (.dup, 1) := by decide +kernel
theorem kd_X6_147 : decode cX6_init 147 = .ok (.invokespecial 69, 3) := by decide +kernel
theorem kd_X6_150 : decode cX6_init 150 = .ok (.aastore, 1) := by decide +kernel
theorem kd_X6_151 : decode cX6_init 151 = .ok (.iinc 1 1, 3) := by decide +kernel
theorem kd_X6_154 : decode cX6_init 154 = .ok (.goto (-22), 3) := by decide +kernel
theorem kd_X6_157 : decode cX6_init 157 = .ok (.return_, 1) := by decide +kernel
theorem kd_X7_0 : decode cX7_init 0 = .ok (.aload_n 0, 1) := by decide +kernel
theorem kd_X7_1 : decode cX7_init 1 = .ok (.invokespecial 1, 3) := by decide +kernel
theorem kd_X7_4 : decode cX7_init 4 = .ok (.aload_n 0, 1) := by decide +kernel
theorem kd_X7_5 : decode cX7_init 5 = .ok (.bipush 80, 2) := by decide +kernel
theorem kd_X7_7 : decode cX7_init 7 = .ok (.newarray .int, 2) := by decide +kernel
theorem kd_X7_9 : decode cX7_init 9 = .ok (.putfield 7, 3) := by decide +kernel
theorem kd_X7_12 : decode cX7_init 12 = .ok (.aload_n 0, 1) := by decide +kernel
theorem kd_X7_13 : decode cX7_init 13 = .ok (.iconst 5, 1) := by decide +kernel
theorem kd_X7_14 : decode cX7_init 14 = .ok (.newarray .int, 2) := by decide +kernel
theorem kd_X7_16 : decode cX7_init 16 = .ok (.putfield 13, 3) := by decide +kernel
theorem kd_X7_19 : decode cX7_init 19 = .ok (.aload_n 0, 1) := by decide +kernel
theorem kd_X7_20 : decode cX7_init 20 = .ok (.bipush 25, 2) := by decide +kernel
theorem kd_X7_22 : decode cX7_init 22 = .ok (.newarray .int, 2) := by decide +kernel
theorem kd_X7_24 : decode cX7_init 24 = .ok (.putfield 16, 3) := by decide +kernel
theorem kd_X7_27 : decode cX7_init 27 = .ok (.aload_n 0, 1) := by decide +kernel
theorem kd_X7_28 : decode cX7_init 28 = .ok (.iconst 5, 1) := by decide +kernel
theorem kd_X7_29 : decode cX7_init 29 = .ok (.newarray .int, 2) := by decide +kernel
theorem kd_X7_31 : decode cX7_init 31 = .ok (.putfield 19, 3) := by decide +kernel
theorem kd_X7_34 : decode cX7_init 34 = .ok (.aload_n 0, 1) := by decide +kernel
theorem kd_X7_35 : decode cX7_init 35 = .ok (.iconst 5, 1) := by decide +kernel
theorem kd_X7_36 : decode cX7_init 36 = .ok (.newarray .int, 2) := by decide +kernel
theorem kd_X7_38 : decode cX7_init 38 = .ok (.putfield 22, 3) := by decide +kernel
theorem kd_X7_41 : decode cX7_init 41 = .ok (.aload_n 0, 1) := by decide +kernel
theorem kd_X7_42 : decode cX7_init 42 = .ok (.bipush 25, 2) := by decide +kernel
theorem kd_X7_44 : decode cX7_init 44 = .ok (.newarray .int, 2) := by decide +kernel
theorem kd_X7_46 : decode cX7_init 46 = .ok (.putfield 25, 3) := by decide +kernel
theorem kd_X7_49 : decode cX7_init 49 = .ok (.aload_n 0, 1) := by decide +kernel
theorem kd_X7_50 : decode cX7_init 50 = .ok (.iconst 5, 1) := by decide +kernel
theorem kd_X7_51 : decode cX7_init 51 = .ok (.newarray .int, 2) := by decide +kernel
theorem kd_X7_53 : decode cX7_init 53 = .ok (.putfield 28, 3) := by decide +kernel
theorem kd_X7_56 : decode cX7_init 56 = .ok (.aload_n 0, 1) := by decide +kernel
theorem kd_X7_57 : decode cX7_init 57 = .ok (.bipush 121, 2) := by decide +kernel
theorem kd_X7_59 : decode cX7_init 59 = .ok (.newarray .int, 2) := by decide +kernel
theorem kd_X7_61 : decode cX7_init 61 = .ok (.putfield 31, 3) := by decide +kernel
theorem kd_X7_64 : decode cX7_init 64 = .ok (.aload_n 0, 1) := by decide +kernel
theorem kd_X7_65 : decode cX7_init 65 = .ok (.bipush 121, 2) := by decide +kernel
theorem kd_X7_67 : decode cX7_init 67 = .ok (.newarray .int, 2) := by decide +kernel
theorem kd_X7_69 : decode cX7_init 69 = .ok (.putfield 34, 3) := by decide +kernel
theorem kd_X7_72 : decode cX7_init 72 = .ok (.aload_n 0, 1) := by decide +kernel
theorem kd_X7_73 : decode cX7_init 73 = .ok (.bipush 121, 2) := by decide +kernel
theorem kd_X7_75 : decode cX7_init 75 = .ok (.newarray .int, 2) := by decide +kernel
theorem kd_X7_77 : decode cX7_init 77 = .ok (.putfield 37, 3) := by decide +kernel
theorem kd_X7_80 : decode cX7_init 80 = .ok (.aload_n 0, 1) := by decide +kernel
theorem kd_X7_81 : decode cX7_init 81 = .ok (.sipush 1694, 3) := by decide +kernel
theorem kd_X7_84 : decode cX7_init 84 = .ok (.newarray .int, 2) := by decide +kernel
theorem kd_X7_86 : decode cX7_init 86 = .ok (.putfield 40, 3) := by decide +kernel
theorem kd_X7_89 : decode cX7_init 89 = .ok (.aload_n 0, 1) := by decide +kernel
theorem kd_X7_90 : decode cX7_init 90 = .ok (.sipush 242, 3) := by decide +kernel
theorem kd_X7_93 : decode cX7_init 93 = .ok (.newarray .int, 2) := by decide +kernel
theorem kd_X7_95 : decode cX7_init 95 = .ok (.putfield 43, 3) := by decide +kernel
theorem kd_X7_98 : decode cX7_init 98 = .ok (.aload_n 0, 1) := by decide +kernel
theorem kd_X7_99 : decode cX7_init 99 = .ok (.iconst 2, 1) := by decide +kernel
theorem kd_X7_100 : decode cX7_init 100 = .ok (.newarray .boolean, 2) := by decide +kernel
theorem kd_X7_102 : decode cX7_init 102 = .ok (.putfield 46, 3) := by decide +kernel
theorem kd_X7_105 : decode cX7_init 105 = .ok (.aload_n 0, 1) := by decide +kernel
theorem kd_X7_106 : decode cX7_init 106 = .ok (.bipush 6, 2) := by decide +kernel
theorem kd_X7_108 : decode cX7_init 108 = .ok (.newarray .int, 2) := by decide +kernel
theorem kd_X7_110 : decode cX7_init 110 = .ok (.putfield 50, 3) := by decide +kernel
theorem kd_X7_113 : decode cX7_init 113 = .ok (.aload_n 0, 1) := by decide +kernel
theorem kd_X7_114 : decode cX7_init 114 = .ok (.bipush 6, 2) := by decide +kernel
theorem kd_X7_116 : decode cX7_init 116 = .ok (.newarray .int, 2) := by decide +kernel
theorem kd_X7_118 : decode cX7_init 118 = .ok (.putfield 53, 3) := by decide +kernel
theorem kd_X7_121 : decode cX7_init 121 = .ok (.aload_n 0, 1) := by decide +kernel
theorem kd_X7_122 : decode cX7_init 122 = .ok (.bipush 6, 2) := by decide +kernel
theorem kd_X7_124 : decode cX7_init 124 = .ok (.newarray .int, 2) := by decide +kernel
theorem kd_X7_126 : decode cX7_init 126 = .ok (.putfield 56, 3) := by decide +kernel
theorem kd_X7_129 : decode cX7_init 129 = .ok (.aload_n 0, 1) := by decide +kernel
theorem kd_X7_130 : decode cX7_init 130 = .ok (.bipush 6, 2) := by decide +kernel
theorem kd_X7_132 : decode cX7_init 132 = .ok (.newarray .int, 2) := by decide +kernel
theorem kd_X7_134 : decode cX7_init 134 = .ok (.putfield 59, 3) := by decide +kernel
theorem kd_X7_137 : decode cX7_init 137 = .ok (.aload_n 0, 1) := by decide +kernel
theorem kd_X7_138 : decode cX7_init 138 = .ok (.bipush 42, 2) := by decide +kernel
theorem kd_X7_140 : decode cX7_init 140 = .ok (.newarray .long, 2) := by decide +kernel
theorem kd_X7_142 : decode cX7_init 142 = .ok (.putfield 62, 3) := by decide +kernel
theorem kd_X7_145 : decode cX7_init 145 = .ok (.aload_n 0, 1) := by decide +kernel
theorem kd_X7_146 : decode cX7_init 146 = .ok (.getfield 34, 3) := by decide +kernel
theorem kd_X7_149 : decode cX7_init 149 = .ok (.bipush 120, 2) := by decide +kernel
theorem kd_X7_151 : decode cX7_init 151 = .ok (.sipush 2620, 3) := by decide +kernel
theorem kd_X7_154 : decode cX7_init 154 = .ok (.iastore, 1) := by decide +kernel
theorem kd_X7_155 : decode cX7_init 155 = .ok (.return_, 1) := by decide +kernel
theorem kd_L_0 : decode cL_law 0 = .ok (.new 7, 3) := by decide +kernel
theorem kd_L_3 : decode cL_law 3 = .ok (.dup, 1) := by decide +kernel
theorem kd_L_4 : decode cL_law 4 = .ok (.invokespecial 9, 3) := by decide +kernel
theorem kd_L_7 : decode cL_law 7 = .ok (.astore_n 1, 1) := by decide +kernel
theorem kd_L_8 : decode cL_law 8 = .ok (.new 10, 3) := by decide +kernel
theorem kd_L_11 : decode cL_law 11 = .ok (.dup, 1) := by decide +kernel
theorem kd_L_12 : decode cL_law 12 = .ok (.invokespecial 12, 3) := by decide +kernel
theorem kd_L_15 : decode cL_law 15 = .ok (.astore_n 2, 1) := by decide +kernel
theorem kwIn {w : Cond} {i : Nat} (h : lw_tbl[i]? = some w) (hg : goodWord w = true) : w ∈ mv_T := List.mem_filter.mpr ⟨List.mem_of_getElem? h, hg⟩
set_option maxRecDepth 20000 in
theorem kn_X6 : (Cond.initialized RX6) ∈ mv_T := kwIn (i := 27) rfl rfl
set_option maxRecDepth 20000 in
theorem kn_X5 : (Cond.initialized RX5) ∈ mv_T := kwIn (i := 28) rfl rfl
set_option maxRecDepth 20000 in
theorem kn_X2 : (Cond.initialized RX2) ∈ mv_T := kwIn (i := 29) rfl rfl
set_option maxRecDepth 20000 in
theorem kn_X1 : (Cond.initialized RX1) ∈ mv_T := kwIn (i := 30) rfl rfl
set_option maxRecDepth 20000 in
theorem kn_X0 : (Cond.initialized RX0) ∈ mv_T := kwIn (i := 31) rfl rfl
set_option maxRecDepth 20000 in
theorem kn_X3 : (Cond.initialized RX3) ∈ mv_T := kwIn (i := 32) rfl rfl
set_option maxRecDepth 20000 in
theorem kn_X4 : (Cond.initialized RX4) ∈ mv_T := kwIn (i := 33) rfl rfl
set_option maxRecDepth 20000 in
theorem kn_X7 : (Cond.initialized RX7) ∈ mv_T := kwIn (i := 34) rfl rfl
set_option maxRecDepth 20000 in
theorem kc_L_7 : (Cond.classLink RL 7 RX6) ∈ mv_T := kwIn (i := 38) rfl rfl
set_option maxRecDepth 20000 in
theorem ks_X6 : (Cond.instantiable RX6 11) ∈ mv_T := kwIn (i := 39) rfl rfl
set_option maxRecDepth 20000 in
theorem kl_L_9 : (Cond.methodLink RL 9 yX6_init) ∈ mv_T := kwIn (i := 40) rfl rfl
set_option maxRecDepth 20000 in
theorem ki_X6 : (Cond.instanceMethod yX6_init) ∈ mv_T := kwIn (i := 41) rfl rfl
set_option maxRecDepth 20000 in
theorem kb_X6 : (Cond.code yX6_init cX6_init 2 none) ∈ mv_T := kwIn (i := 42) rfl rfl
set_option maxRecDepth 20000 in
theorem kl_X6_1 : (Cond.methodLink RX6 1 objectInit) ∈ mv_T := kwIn (i := 43) rfl rfl
set_option maxRecDepth 20000 in
theorem ki_obj : (Cond.instanceMethod objectInit) ∈ mv_T := kwIn (i := 44) rfl rfl
set_option maxRecDepth 20000 in
theorem kb_obj : (Cond.code objectInit ⟨#[0xb1]⟩ 1 none) ∈ mv_T := kwIn (i := 45) rfl rfl
set_option maxRecDepth 20000 in
theorem kc_X6_7 : (Cond.classLink RX6 7 RX5) ∈ mv_T := kwIn (i := 46) rfl rfl
set_option maxRecDepth 20000 in
theorem ks_X5 : (Cond.instantiable RX5 2) ∈ mv_T := kwIn (i := 47) rfl rfl
set_option maxRecDepth 20000 in
theorem ki_X5 : (Cond.instanceMethod yX5_init) ∈ mv_T := kwIn (i := 49) rfl rfl
set_option maxRecDepth 20000 in
theorem kb_X5 : (Cond.code yX5_init cX5_init 1 none) ∈ mv_T := kwIn (i := 50) rfl rfl
set_option maxRecDepth 20000 in
theorem kl_X5_3 : (Cond.methodLink RX5 3 objectInit) ∈ mv_T := kwIn (i := 51) rfl rfl
set_option maxRecDepth 20000 in
theorem ka_int : (Cond.arrayClass .int) ∈ mv_T := kwIn (i := 60) rfl rfl
set_option maxRecDepth 20000 in
theorem kc_X6_16 : (Cond.classLink RX6 16 RX2) ∈ mv_T := kwIn (i := 61) rfl rfl
set_option maxRecDepth 20000 in
theorem ks_X2 : (Cond.instantiable RX2 3) ∈ mv_T := kwIn (i := 62) rfl rfl
set_option maxRecDepth 20000 in
theorem kl_X6_18 : (Cond.methodLink RX6 18 yX2_init) ∈ mv_T := kwIn (i := 63) rfl rfl
set_option maxRecDepth 20000 in
theorem ki_X2 : (Cond.instanceMethod yX2_init) ∈ mv_T := kwIn (i := 64) rfl rfl
set_option maxRecDepth 20000 in
theorem kb_X2 : (Cond.code yX2_init cX2_init 2 none) ∈ mv_T := kwIn (i := 65) rfl rfl
set_option maxRecDepth 20000 in
theorem kl_X2_3 : (Cond.methodLink RX2 3 objectInit) ∈ mv_T := kwIn (i := 66) rfl rfl
set_option maxRecDepth 20000 in
theorem kc_X2_9 : (Cond.classLink RX2 9 RX1) ∈ mv_T := kwIn (i := 67) rfl rfl
set_option maxRecDepth 20000 in
theorem ks_X1 : (Cond.instantiable RX1 16) ∈ mv_T := kwIn (i := 69) rfl rfl
set_option maxRecDepth 20000 in
theorem ki_X1 : (Cond.instanceMethod yX1_init) ∈ mv_T := kwIn (i := 71) rfl rfl
set_option maxRecDepth 20000 in
theorem kb_X1 : (Cond.code yX1_init cX1_init 1 none) ∈ mv_T := kwIn (i := 72) rfl rfl
set_option maxRecDepth 20000 in
theorem kl_X1_3 : (Cond.methodLink RX1 3 objectInit) ∈ mv_T := kwIn (i := 73) rfl rfl
set_option maxRecDepth 20000 in
theorem kc_X6_23 : (Cond.classLink RX6 23 RX0) ∈ mv_T := kwIn (i := 155) rfl rfl
set_option maxRecDepth 20000 in
theorem ks_X0 : (Cond.instantiable RX0 3) ∈ mv_T := kwIn (i := 156) rfl rfl
set_option maxRecDepth 20000 in
theorem kl_X6_25 : (Cond.methodLink RX6 25 yX0_init) ∈ mv_T := kwIn (i := 157) rfl rfl
set_option maxRecDepth 20000 in
theorem ki_X0 : (Cond.instanceMethod yX0_init) ∈ mv_T := kwIn (i := 158) rfl rfl
set_option maxRecDepth 20000 in
theorem kb_X0 : (Cond.code yX0_init cX0_init 2 none) ∈ mv_T := kwIn (i := 159) rfl rfl
set_option maxRecDepth 20000 in
theorem kl_X0_1 : (Cond.methodLink RX0 1 objectInit) ∈ mv_T := kwIn (i := 160) rfl rfl
set_option maxRecDepth 20000 in
theorem kc_X0_9 : (Cond.classLink RX0 9 RX2) ∈ mv_T := kwIn (i := 161) rfl rfl
set_option maxRecDepth 20000 in
theorem kl_X0_22 : (Cond.methodLink RX0 22 yX2_init) ∈ mv_T := kwIn (i := 163) rfl rfl
set_option maxRecDepth 20000 in
theorem kc_X6_38 : (Cond.classLink RX6 38 RX4) ∈ mv_T := kwIn (i := 175) rfl rfl
set_option maxRecDepth 20000 in
theorem kc_X6_52 : (Cond.classLink RX6 52 RX1) ∈ mv_T := kwIn (i := 177) rfl rfl
set_option maxRecDepth 20000 in
theorem kc_X6_62 : (Cond.classLink RX6 62 RX3) ∈ mv_T := kwIn (i := 179) rfl rfl
set_option maxRecDepth 20000 in
theorem ks_X3 : (Cond.instantiable RX3 3) ∈ mv_T := kwIn (i := 180) rfl rfl
set_option maxRecDepth 20000 in
theorem ki_X3 : (Cond.instanceMethod yX3_init) ∈ mv_T := kwIn (i := 182) rfl rfl
set_option maxRecDepth 20000 in
theorem kb_X3 : (Cond.code yX3_init cX3_init 1 none) ∈ mv_T := kwIn (i := 183) rfl rfl
set_option maxRecDepth 20000 in
theorem kl_X3_3 : (Cond.methodLink RX3 3 objectInit) ∈ mv_T := kwIn (i := 184) rfl rfl
set_option maxRecDepth 20000 in
theorem kc_X3_11 : (Cond.classLink RX3 11 "[[J") ∈ mv_T := kwIn (i := 185) rfl rfl
set_option maxRecDepth 20000 in
theorem ka_boolean : (Cond.arrayClass .boolean) ∈ mv_T := kwIn (i := 199) rfl rfl
set_option maxRecDepth 20000 in
theorem ka_long : (Cond.arrayClass .long) ∈ mv_T := kwIn (i := 200) rfl rfl
set_option maxRecDepth 20000 in
theorem ks_X4 : (Cond.instantiable RX4 4) ∈ mv_T := kwIn (i := 201) rfl rfl
set_option maxRecDepth 20000 in
theorem ki_X4 : (Cond.instanceMethod yX4_init) ∈ mv_T := kwIn (i := 203) rfl rfl
set_option maxRecDepth 20000 in
theorem kb_X4 : (Cond.code yX4_init cX4_init 1 none) ∈ mv_T := kwIn (i := 204) rfl rfl
set_option maxRecDepth 20000 in
theorem kl_X4_1 : (Cond.methodLink RX4 1 objectInit) ∈ mv_T := kwIn (i := 205) rfl rfl
set_option maxRecDepth 20000 in
theorem kc_L_10 : (Cond.classLink RL 10 RX7) ∈ mv_T := kwIn (i := 603) rfl rfl
set_option maxRecDepth 20000 in
theorem ks_X7 : (Cond.instantiable RX7 26) ∈ mv_T := kwIn (i := 604) rfl rfl
set_option maxRecDepth 20000 in
theorem kl_L_12 : (Cond.methodLink RL 12 yX7_init) ∈ mv_T := kwIn (i := 605) rfl rfl
set_option maxRecDepth 20000 in
theorem ki_X7 : (Cond.instanceMethod yX7_init) ∈ mv_T := kwIn (i := 606) rfl rfl
set_option maxRecDepth 20000 in
theorem kb_X7 : (Cond.code yX7_init cX7_init 1 none) ∈ mv_T := kwIn (i := 607) rfl rfl
set_option maxRecDepth 20000 in
theorem kl_X7_1 : (Cond.methodLink RX7 1 objectInit) ∈ mv_T := kwIn (i := 608) rfl rfl
set_option maxRecDepth 20000 in
theorem kf_X0_11 : (Cond.fieldLink RX0 11 RX0 ((mv_fT 0) 0).2.1 ((mv_fT 0) 0).2.2.1) ∈ mv_T := kwIn (i := 164) rfl rfl
-- X0 field 11 = place 0 before final true
set_option maxRecDepth 20000 in
theorem kf_X0_15 : (Cond.fieldLink RX0 15 RX0 ((mv_fT 0) 1).2.1 ((mv_fT 0) 1).2.2.1) ∈ mv_T := kwIn (i := 165) rfl rfl
-- X0 field 15 = place 1 next final false
set_option maxRecDepth 20000 in
theorem kf_X0_19 : (Cond.fieldLink RX0 19 RX0 ((mv_fT 0) 2).2.1 ((mv_fT 0) 2).2.2.1) ∈ mv_T := kwIn (i := 166) rfl rfl
-- X0 field 19 = place 2 size final false
set_option maxRecDepth 20000 in
theorem kf_X1_11 : (Cond.fieldLink RX1 11 RX1 ((mv_fT 1) 5).2.1 ((mv_fT 1) 5).2.2.1) ∈ mv_T := kwIn (i := 87) rfl rfl
-- X1 field 11 = place 5 season final true
set_option maxRecDepth 20000 in
theorem kf_X1_15 : (Cond.fieldLink RX1 15 RX1 ((mv_fT 1) 14).2.1 ((mv_fT 1) 14).2.2.1) ∈ mv_T := kwIn (i := 106) rfl rfl
-- X1 field 15 = place 14 things final true
set_option maxRecDepth 20000 in
theorem kf_X2_11 : (Cond.fieldLink RX2 11 RX2 ((mv_fT 2) 0).2.1 ((mv_fT 2) 0).2.2.1) ∈ mv_T := kwIn (i := 141) rfl rfl
-- X2 field 11 = place 0 rows final true
set_option maxRecDepth 20000 in
theorem kf_X2_17 : (Cond.fieldLink RX2 17 RX2 ((mv_fT 2) 1).2.1 ((mv_fT 2) 1).2.2.1) ∈ mv_T := kwIn (i := 143) rfl rfl
-- X2 field 17 = place 1 size final false
set_option maxRecDepth 20000 in
theorem kf_X2_21 : (Cond.fieldLink RX2 21 RX2 ((mv_fT 2) 2).2.1 ((mv_fT 2) 2).2.2.1) ∈ mv_T := kwIn (i := 146) rfl rfl
-- X2 field 21 = place 2 chances final false
set_option maxRecDepth 20000 in
theorem kf_X3_13 : (Cond.fieldLink RX3 13 RX3 ((mv_fT 3) 0).2.1 ((mv_fT 3) 0).2.2.1) ∈ mv_T := kwIn (i := 187) rfl rfl
-- X3 field 13 = place 0 rows final true
set_option maxRecDepth 20000 in
theorem kf_X3_16 : (Cond.fieldLink RX3 16 RX3 ((mv_fT 3) 1).2.1 ((mv_fT 3) 1).2.2.1) ∈ mv_T := kwIn (i := 188) rfl rfl
-- X3 field 16 = place 1 above final false
set_option maxRecDepth 20000 in
theorem kf_X3_20 : (Cond.fieldLink RX3 20 RX3 ((mv_fT 3) 2).2.1 ((mv_fT 3) 2).2.2.1) ∈ mv_T := kwIn (i := 190) rfl rfl
-- X3 field 20 = place 2 below final false
set_option maxRecDepth 20000 in
theorem kf_X5_11 : (Cond.fieldLink RX5 11 RX5 ((mv_fT 5) 0).2.1 ((mv_fT 5) 0).2.2.1) ∈ mv_T := kwIn (i := 52) rfl rfl
-- X5 field 11 = place 0 letters final true
set_option maxRecDepth 20000 in
theorem kf_X5_15 : (Cond.fieldLink RX5 15 RX5 ((mv_fT 5) 1).2.1 ((mv_fT 5) 1).2.2.1) ∈ mv_T := kwIn (i := 53) rfl rfl
-- X5 field 15 = place 1 size final false
set_option maxRecDepth 20000 in
theorem kf_X6_10 : (Cond.fieldLink RX6 10 RX6 ((mv_fT 6) 0).2.1 ((mv_fT 6) 0).2.2.1) ∈ mv_T := kwIn (i := 219) rfl rfl
-- X6 field 10 = place 0 text final true
set_option maxRecDepth 20000 in
theorem kf_X6_19 : (Cond.fieldLink RX6 19 RX6 ((mv_fT 6) 1).2.1 ((mv_fT 6) 1).2.2.1) ∈ mv_T := kwIn (i := 220) rfl rfl
-- X6 field 19 = place 1 now final true
set_option maxRecDepth 20000 in
theorem kf_X6_26 : (Cond.fieldLink RX6 26 RX6 ((mv_fT 6) 2).2.1 ((mv_fT 6) 2).2.2.1) ∈ mv_T := kwIn (i := 221) rfl rfl
-- X6 field 26 = place 2 acts final true
set_option maxRecDepth 20000 in
theorem kf_X6_30 : (Cond.fieldLink RX6 30 RX6 ((mv_fT 6) 3).2.1 ((mv_fT 6) 3).2.2.1) ∈ mv_T := kwIn (i := 222) rfl rfl
-- X6 field 30 = place 3 slots final true
set_option maxRecDepth 20000 in
theorem kf_X6_34 : (Cond.fieldLink RX6 34 RX6 ((mv_fT 6) 4).2.1 ((mv_fT 6) 4).2.2.1) ∈ mv_T := kwIn (i := 223) rfl rfl
-- X6 field 34 = place 4 kept final true
set_option maxRecDepth 20000 in
theorem kf_X6_40 : (Cond.fieldLink RX6 40 RX6 ((mv_fT 6) 5).2.1 ((mv_fT 6) 5).2.2.1) ∈ mv_T := kwIn (i := 224) rfl rfl
-- X6 field 40 = place 5 observations final true
set_option maxRecDepth 20000 in
theorem kf_X6_44 : (Cond.fieldLink RX6 44 RX6 ((mv_fT 6) 6).2.1 ((mv_fT 6) 6).2.2.1) ∈ mv_T := kwIn (i := 225) rfl rfl
-- X6 field 44 = place 6 observationCount final false
set_option maxRecDepth 20000 in
theorem kf_X6_48 : (Cond.fieldLink RX6 48 RX6 ((mv_fT 6) 7).2.1 ((mv_fT 6) 7).2.2.1) ∈ mv_T := kwIn (i := 226) rfl rfl
-- X6 field 48 = place 7 seedNow final false
set_option maxRecDepth 20000 in
theorem kf_X6_55 : (Cond.fieldLink RX6 55 RX6 ((mv_fT 6) 8).2.1 ((mv_fT 6) 8).2.2.1) ∈ mv_T := kwIn (i := 227) rfl rfl
-- X6 field 55 = place 8 trial final true
set_option maxRecDepth 20000 in
theorem kf_X6_59 : (Cond.fieldLink RX6 59 RX6 ((mv_fT 6) 9).2.1 ((mv_fT 6) 9).2.2.1) ∈ mv_T := kwIn (i := 228) rfl rfl
-- X6 field 59 = place 9 trials final true
set_option maxRecDepth 20000 in
theorem kf_X6_65 : (Cond.fieldLink RX6 65 RX6 ((mv_fT 6) 10).2.1 ((mv_fT 6) 10).2.2.1) ∈ mv_T := kwIn (i := 229) rfl rfl
-- X6 field 65 = place 10 runLength final true
set_option maxRecDepth 20000 in
theorem kf_X7_7 : (Cond.fieldLink RX7 7 RX7 ((mv_fT 7) 1).2.1 ((mv_fT 7) 1).2.2.1) ∈ mv_T := kwIn (i := 610) rfl rfl
-- X7 field 7 = place 1 text final true
set_option maxRecDepth 20000 in
theorem kf_X7_13 : (Cond.fieldLink RX7 13 RX7 ((mv_fT 7) 5).2.1 ((mv_fT 7) 5).2.2.1) ∈ mv_T := kwIn (i := 614) rfl rfl
-- X7 field 13 = place 5 base final true
set_option maxRecDepth 20000 in
theorem kf_X7_16 : (Cond.fieldLink RX7 16 RX7 ((mv_fT 7) 6).2.1 ((mv_fT 7) 6).2.2.1) ∈ mv_T := kwIn (i := 615) rfl rfl
-- X7 field 16 = place 6 season final true
set_option maxRecDepth 20000 in
theorem kf_X7_19 : (Cond.fieldLink RX7 19 RX7 ((mv_fT 7) 7).2.1 ((mv_fT 7) 7).2.2.1) ∈ mv_T := kwIn (i := 616) rfl rfl
-- X7 field 19 = place 7 seasonMany final true
set_option maxRecDepth 20000 in
theorem kf_X7_22 : (Cond.fieldLink RX7 22 RX7 ((mv_fT 7) 9).2.1 ((mv_fT 7) 9).2.2.1) ∈ mv_T := kwIn (i := 618) rfl rfl
-- X7 field 22 = place 9 readBase final true
set_option maxRecDepth 20000 in
theorem kf_X7_25 : (Cond.fieldLink RX7 25 RX7 ((mv_fT 7) 10).2.1 ((mv_fT 7) 10).2.2.1) ∈ mv_T := kwIn (i := 619) rfl rfl
-- X7 field 25 = place 10 readSeason final true
set_option maxRecDepth 20000 in
theorem kf_X7_28 : (Cond.fieldLink RX7 28 RX7 ((mv_fT 7) 11).2.1 ((mv_fT 7) 11).2.2.1) ∈ mv_T := kwIn (i := 620) rfl rfl
-- X7 field 28 = place 11 readSeasonMany final true
set_option maxRecDepth 20000 in
theorem kf_X7_31 : (Cond.fieldLink RX7 31 RX7 ((mv_fT 7) 12).2.1 ((mv_fT 7) 12).2.2.1) ∈ mv_T := kwIn (i := 621) rfl rfl
-- X7 field 31 = place 12 readPage final true
set_option maxRecDepth 20000 in
theorem kf_X7_34 : (Cond.fieldLink RX7 34 RX7 ((mv_fT 7) 13).2.1 ((mv_fT 7) 13).2.2.1) ∈ mv_T := kwIn (i := 622) rfl rfl
-- X7 field 34 = place 13 page final true
set_option maxRecDepth 20000 in
theorem kf_X7_37 : (Cond.fieldLink RX7 37 RX7 ((mv_fT 7) 14).2.1 ((mv_fT 7) 14).2.2.1) ∈ mv_T := kwIn (i := 623) rfl rfl
-- X7 field 37 = place 14 trial final true
set_option maxRecDepth 20000 in
theorem kf_X7_40 : (Cond.fieldLink RX7 40 RX7 ((mv_fT 7) 15).2.1 ((mv_fT 7) 15).2.2.1) ∈ mv_T := kwIn (i := 624) rfl rfl
-- X7 field 40 = place 15 book final true
set_option maxRecDepth 20000 in
theorem kf_X7_43 : (Cond.fieldLink RX7 43 RX7 ((mv_fT 7) 17).2.1 ((mv_fT 7) 17).2.2.1) ∈ mv_T := kwIn (i := 626) rfl rfl
-- X7 field 43 = place 17 kept final true
set_option maxRecDepth 20000 in
theorem kf_X7_46 : (Cond.fieldLink RX7 46 RX7 ((mv_fT 7) 18).2.1 ((mv_fT 7) 18).2.2.1) ∈ mv_T := kwIn (i := 627) rfl rfl
-- X7 field 46 = place 18 isKept final true
set_option maxRecDepth 20000 in
theorem kf_X7_50 : (Cond.fieldLink RX7 50 RX7 ((mv_fT 7) 20).2.1 ((mv_fT 7) 20).2.2.1) ∈ mv_T := kwIn (i := 629) rfl rfl
-- X7 field 50 = place 20 seenSeries final true
set_option maxRecDepth 20000 in
theorem kf_X7_53 : (Cond.fieldLink RX7 53 RX7 ((mv_fT 7) 21).2.1 ((mv_fT 7) 21).2.2.1) ∈ mv_T := kwIn (i := 630) rfl rfl
-- X7 field 53 = place 21 seenTimes final true
set_option maxRecDepth 20000 in
theorem kf_X7_56 : (Cond.fieldLink RX7 56 RX7 ((mv_fT 7) 22).2.1 ((mv_fT 7) 22).2.2.1) ∈ mv_T := kwIn (i := 631) rfl rfl
-- X7 field 56 = place 22 seenMore final true
set_option maxRecDepth 20000 in
theorem kf_X7_59 : (Cond.fieldLink RX7 59 RX7 ((mv_fT 7) 23).2.1 ((mv_fT 7) 23).2.2.1) ∈ mv_T := kwIn (i := 632) rfl rfl
-- X7 field 59 = place 23 seenWas final true
set_option maxRecDepth 20000 in
theorem kf_X7_62 : (Cond.fieldLink RX7 62 RX7 ((mv_fT 7) 25).2.1 ((mv_fT 7) 25).2.2.1) ∈ mv_T := kwIn (i := 634) rfl rfl
-- X7 field 62 = place 25 square final true
