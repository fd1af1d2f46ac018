theorem d_JInteger_bitCount_0 : decode b_JInteger_bitCount 0 = .ok (.iload_n 0, 1) := kq_26 byq_r (by decide +kernel)
theorem d_JInteger_bitCount_1 : decode b_JInteger_bitCount 1 = .ok (.iload_n 0, 1) := kq_26 byq_r (by decide +kernel)
theorem d_JInteger_bitCount_2 : decode b_JInteger_bitCount 2 = .ok (.iconst 1, 1) := kq_4 byq_r (by decide +kernel)
theorem d_JInteger_bitCount_3 : decode b_JInteger_bitCount 3 = .ok (.iushr, 1) := kq_124 byq_r (by decide +kernel)
theorem d_JInteger_bitCount_4 : decode b_JInteger_bitCount 4 = .ok (.ldc_w 265, 3) := kq_19 byq_r (a := 1) (b := 9) (by decide +kernel)
theorem d_JInteger_bitCount_7 : decode b_JInteger_bitCount 7 = .ok (.iand, 1) := kq_126 byq_r (by decide +kernel)
theorem d_JInteger_bitCount_8 : decode b_JInteger_bitCount 8 = .ok (.isub, 1) := kq_100 byq_r (by decide +kernel)
theorem d_JInteger_bitCount_9 : decode b_JInteger_bitCount 9 = .ok (.istore_n 0, 1) := kq_59 byq_r (by decide +kernel)
theorem d_JInteger_bitCount_10 : decode b_JInteger_bitCount 10 = .ok (.iload_n 0, 1) := kq_26 byq_r (by decide +kernel)
theorem d_JInteger_bitCount_11 : decode b_JInteger_bitCount 11 = .ok (.ldc_w 266, 3) := kq_19 byq_r (a := 1) (b := 10) (by decide +kernel)
theorem d_JInteger_bitCount_14 : decode b_JInteger_bitCount 14 = .ok (.iand, 1) := kq_126 byq_r (by decide +kernel)
theorem d_JInteger_bitCount_15 : decode b_JInteger_bitCount 15 = .ok (.iload_n 0, 1) := kq_26 byq_r (by decide +kernel)
theorem d_JInteger_bitCount_16 : decode b_JInteger_bitCount 16 = .ok (.iconst 2, 1) := kq_5 byq_r (by decide +kernel)
theorem d_JInteger_bitCount_17 : decode b_JInteger_bitCount 17 = .ok (.iushr, 1) := kq_124 byq_r (by decide +kernel)
theorem d_JInteger_bitCount_18 : decode b_JInteger_bitCount 18 = .ok (.ldc_w 266, 3) := kq_19 byq_r (a := 1) (b := 10) (by decide +kernel)
theorem d_JInteger_bitCount_21 : decode b_JInteger_bitCount 21 = .ok (.iand, 1) := kq_126 byq_r (by decide +kernel)
theorem d_JInteger_bitCount_22 : decode b_JInteger_bitCount 22 = .ok (.iadd, 1) := kq_96 byq_r (by decide +kernel)
theorem d_JInteger_bitCount_23 : decode b_JInteger_bitCount 23 = .ok (.istore_n 0, 1) := kq_59 byq_r (by decide +kernel)
theorem d_JInteger_bitCount_24 : decode b_JInteger_bitCount 24 = .ok (.iload_n 0, 1) := kq_26 byq_r (by decide +kernel)
theorem d_JInteger_bitCount_25 : decode b_JInteger_bitCount 25 = .ok (.iload_n 0, 1) := kq_26 byq_r (by decide +kernel)
theorem d_JInteger_bitCount_26 : decode b_JInteger_bitCount 26 = .ok (.iconst 4, 1) := kq_7 byq_r (by decide +kernel)
theorem d_JInteger_bitCount_27 : decode b_JInteger_bitCount 27 = .ok (.iushr, 1) := kq_124 byq_r (by decide +kernel)
theorem d_JInteger_bitCount_28 : decode b_JInteger_bitCount 28 = .ok (.iadd, 1) := kq_96 byq_r (by decide +kernel)
theorem d_JInteger_bitCount_29 : decode b_JInteger_bitCount 29 = .ok (.ldc_w 267, 3) := kq_19 byq_r (a := 1) (b := 11) (by decide +kernel)
theorem d_JInteger_bitCount_32 : decode b_JInteger_bitCount 32 = .ok (.iand, 1) := kq_126 byq_r (by decide +kernel)
theorem d_JInteger_bitCount_33 : decode b_JInteger_bitCount 33 = .ok (.istore_n 0, 1) := kq_59 byq_r (by decide +kernel)
theorem d_JInteger_bitCount_34 : decode b_JInteger_bitCount 34 = .ok (.iload_n 0, 1) := kq_26 byq_r (by decide +kernel)
theorem d_JInteger_bitCount_35 : decode b_JInteger_bitCount 35 = .ok (.iload_n 0, 1) := kq_26 byq_r (by decide +kernel)
theorem d_JInteger_bitCount_36 : decode b_JInteger_bitCount 36 = .ok (.bipush 8, 2) := kq_16 byq_r (b := 8) (by decide +kernel)
theorem d_JInteger_bitCount_38 : decode b_JInteger_bitCount 38 = .ok (.iushr, 1) := kq_124 byq_r (by decide +kernel)
theorem d_JInteger_bitCount_39 : decode b_JInteger_bitCount 39 = .ok (.iadd, 1) := kq_96 byq_r (by decide +kernel)
theorem d_JInteger_bitCount_40 : decode b_JInteger_bitCount 40 = .ok (.istore_n 0, 1) := kq_59 byq_r (by decide +kernel)
theorem d_JInteger_bitCount_41 : decode b_JInteger_bitCount 41 = .ok (.iload_n 0, 1) := kq_26 byq_r (by decide +kernel)
theorem d_JInteger_bitCount_42 : decode b_JInteger_bitCount 42 = .ok (.iload_n 0, 1) := kq_26 byq_r (by decide +kernel)
theorem d_JInteger_bitCount_43 : decode b_JInteger_bitCount 43 = .ok (.bipush 16, 2) := kq_16 byq_r (b := 16) (by decide +kernel)
theorem d_JInteger_bitCount_45 : decode b_JInteger_bitCount 45 = .ok (.iushr, 1) := kq_124 byq_r (by decide +kernel)
theorem d_JInteger_bitCount_46 : decode b_JInteger_bitCount 46 = .ok (.iadd, 1) := kq_96 byq_r (by decide +kernel)
theorem d_JInteger_bitCount_47 : decode b_JInteger_bitCount 47 = .ok (.istore_n 0, 1) := kq_59 byq_r (by decide +kernel)
theorem d_JInteger_bitCount_48 : decode b_JInteger_bitCount 48 = .ok (.iload_n 0, 1) := kq_26 byq_r (by decide +kernel)
theorem d_JInteger_bitCount_49 : decode b_JInteger_bitCount 49 = .ok (.bipush 63, 2) := kq_16 byq_r (b := 63) (by decide +kernel)
theorem d_JInteger_bitCount_51 : decode b_JInteger_bitCount 51 = .ok (.iand, 1) := kq_126 byq_r (by decide +kernel)
theorem d_JInteger_bitCount_52 : decode b_JInteger_bitCount 52 = .ok (.ireturn, 1) := kq_172 byq_r (by decide +kernel)
theorem d_JInteger_numberOfTrailingZeros_0 : decode b_JInteger_numberOfTrailingZeros 0 = .ok (.iload_n 0, 1) := kq_26 byq_r (by decide +kernel)
theorem d_JInteger_numberOfTrailingZeros_1 : decode b_JInteger_numberOfTrailingZeros 1 = .ok (.iconst (-1), 1) := kq_2 byq_r (by decide +kernel)
theorem d_JInteger_numberOfTrailingZeros_2 : decode b_JInteger_numberOfTrailingZeros 2 = .ok (.ixor, 1) := kq_130 byq_r (by decide +kernel)
theorem d_JInteger_numberOfTrailingZeros_3 : decode b_JInteger_numberOfTrailingZeros 3 = .ok (.iload_n 0, 1) := kq_26 byq_r (by decide +kernel)
theorem d_JInteger_numberOfTrailingZeros_4 : decode b_JInteger_numberOfTrailingZeros 4 = .ok (.iconst 1, 1) := kq_4 byq_r (by decide +kernel)
theorem d_JInteger_numberOfTrailingZeros_5 : decode b_JInteger_numberOfTrailingZeros 5 = .ok (.isub, 1) := kq_100 byq_r (by decide +kernel)
theorem d_JInteger_numberOfTrailingZeros_6 : decode b_JInteger_numberOfTrailingZeros 6 = .ok (.iand, 1) := kq_126 byq_r (by decide +kernel)
theorem d_JInteger_numberOfTrailingZeros_7 : decode b_JInteger_numberOfTrailingZeros 7 = .ok (.istore_n 0, 1) := kq_59 byq_r (by decide +kernel)
theorem d_JInteger_numberOfTrailingZeros_8 : decode b_JInteger_numberOfTrailingZeros 8 = .ok (.iload_n 0, 1) := kq_26 byq_r (by decide +kernel)
theorem d_JInteger_numberOfTrailingZeros_9 : decode b_JInteger_numberOfTrailingZeros 9 = .ok (.ifCond .gt 8, 3) := kq_157 byq_r (a := 0) (b := 8) (by decide +kernel)
theorem d_JInteger_numberOfTrailingZeros_12 : decode b_JInteger_numberOfTrailingZeros 12 = .ok (.iload_n 0, 1) := kq_26 byq_r (by decide +kernel)
theorem d_JInteger_numberOfTrailingZeros_13 : decode b_JInteger_numberOfTrailingZeros 13 = .ok (.bipush 32, 2) := kq_16 byq_r (b := 32) (by decide +kernel)
theorem d_JInteger_numberOfTrailingZeros_15 : decode b_JInteger_numberOfTrailingZeros 15 = .ok (.iand, 1) := kq_126 byq_r (by decide +kernel)
theorem d_JInteger_numberOfTrailingZeros_16 : decode b_JInteger_numberOfTrailingZeros 16 = .ok (.ireturn, 1) := kq_172 byq_r (by decide +kernel)
theorem d_JInteger_numberOfTrailingZeros_17 : decode b_JInteger_numberOfTrailingZeros 17 = .ok (.iconst 1, 1) := kq_4 byq_r (by decide +kernel)
theorem d_JInteger_numberOfTrailingZeros_18 : decode b_JInteger_numberOfTrailingZeros 18 = .ok (.istore_n 1, 1) := kq_60 byq_r (by decide +kernel)
theorem d_JInteger_numberOfTrailingZeros_19 : decode b_JInteger_numberOfTrailingZeros 19 = .ok (.iload_n 0, 1) := kq_26 byq_r (by decide +kernel)
theorem d_JInteger_numberOfTrailingZeros_20 : decode b_JInteger_numberOfTrailingZeros 20 = .ok (.ldc_w 264, 3) := kq_19 byq_r (a := 1) (b := 8) (by decide +kernel)
theorem d_JInteger_numberOfTrailingZeros_23 : decode b_JInteger_numberOfTrailingZeros 23 = .ok (.if_icmp .le 11, 3) := kq_164 byq_r (a := 0) (b := 11) (by decide +kernel)
theorem d_JInteger_numberOfTrailingZeros_26 : decode b_JInteger_numberOfTrailingZeros 26 = .ok (.iinc 1 16, 3) := kq_132 byq_r (b := 16) (by decide +kernel)
theorem d_JInteger_numberOfTrailingZeros_29 : decode b_JInteger_numberOfTrailingZeros 29 = .ok (.iload_n 0, 1) := kq_26 byq_r (by decide +kernel)
theorem d_JInteger_numberOfTrailingZeros_30 : decode b_JInteger_numberOfTrailingZeros 30 = .ok (.bipush 16, 2) := kq_16 byq_r (b := 16) (by decide +kernel)
theorem d_JInteger_numberOfTrailingZeros_32 : decode b_JInteger_numberOfTrailingZeros 32 = .ok (.iushr, 1) := kq_124 byq_r (by decide +kernel)
theorem d_JInteger_numberOfTrailingZeros_33 : decode b_JInteger_numberOfTrailingZeros 33 = .ok (.istore_n 0, 1) := kq_59 byq_r (by decide +kernel)
theorem d_JInteger_numberOfTrailingZeros_34 : decode b_JInteger_numberOfTrailingZeros 34 = .ok (.iload_n 0, 1) := kq_26 byq_r (by decide +kernel)
theorem d_JInteger_numberOfTrailingZeros_35 : decode b_JInteger_numberOfTrailingZeros 35 = .ok (.sipush 256, 3) := kq_17 byq_r (a := 1) (b := 0) (by decide +kernel)
theorem d_JInteger_numberOfTrailingZeros_38 : decode b_JInteger_numberOfTrailingZeros 38 = .ok (.if_icmp .le 11, 3) := kq_164 byq_r (a := 0) (b := 11) (by decide +kernel)
theorem d_JInteger_numberOfTrailingZeros_41 : decode b_JInteger_numberOfTrailingZeros 41 = .ok (.iinc 1 8, 3) := kq_132 byq_r (b := 8) (by decide +kernel)
theorem d_JInteger_numberOfTrailingZeros_44 : decode b_JInteger_numberOfTrailingZeros 44 = .ok (.iload_n 0, 1) := kq_26 byq_r (by decide +kernel)
theorem d_JInteger_numberOfTrailingZeros_45 : decode b_JInteger_numberOfTrailingZeros 45 = .ok (.bipush 8, 2) := kq_16 byq_r (b := 8) (by decide +kernel)
theorem d_JInteger_numberOfTrailingZeros_47 : decode b_JInteger_numberOfTrailingZeros 47 = .ok (.iushr, 1) := kq_124 byq_r (by decide +kernel)
theorem d_JInteger_numberOfTrailingZeros_48 : decode b_JInteger_numberOfTrailingZeros 48 = .ok (.istore_n 0, 1) := kq_59 byq_r (by decide +kernel)
theorem d_JInteger_numberOfTrailingZeros_49 : decode b_JInteger_numberOfTrailingZeros 49 = .ok (.iload_n 0, 1) := kq_26 byq_r (by decide +kernel)
theorem d_JInteger_numberOfTrailingZeros_50 : decode b_JInteger_numberOfTrailingZeros 50 = .ok (.bipush 16, 2) := kq_16 byq_r (b := 16) (by decide +kernel)
theorem d_JInteger_numberOfTrailingZeros_52 : decode b_JInteger_numberOfTrailingZeros 52 = .ok (.if_icmp .le 10, 3) := kq_164 byq_r (a := 0) (b := 10) (by decide +kernel)
theorem d_JInteger_numberOfTrailingZeros_55 : decode b_JInteger_numberOfTrailingZeros 55 = .ok (.iinc 1 4, 3) := kq_132 byq_r (b := 4) (by decide +kernel)
theorem d_JInteger_numberOfTrailingZeros_58 : decode b_JInteger_numberOfTrailingZeros 58 = .ok (.iload_n 0, 1) := kq_26 byq_r (by decide +kernel)
theorem d_JInteger_numberOfTrailingZeros_59 : decode b_JInteger_numberOfTrailingZeros 59 = .ok (.iconst 4, 1) := kq_7 byq_r (by decide +kernel)
theorem d_JInteger_numberOfTrailingZeros_60 : decode b_JInteger_numberOfTrailingZeros 60 = .ok (.iushr, 1) := kq_124 byq_r (by decide +kernel)
theorem d_JInteger_numberOfTrailingZeros_61 : decode b_JInteger_numberOfTrailingZeros 61 = .ok (.istore_n 0, 1) := kq_59 byq_r (by decide +kernel)
theorem d_JInteger_numberOfTrailingZeros_62 : decode b_JInteger_numberOfTrailingZeros 62 = .ok (.iload_n 0, 1) := kq_26 byq_r (by decide +kernel)
theorem d_JInteger_numberOfTrailingZeros_63 : decode b_JInteger_numberOfTrailingZeros 63 = .ok (.iconst 4, 1) := kq_7 byq_r (by decide +kernel)
theorem d_JInteger_numberOfTrailingZeros_64 : decode b_JInteger_numberOfTrailingZeros 64 = .ok (.if_icmp .le 10, 3) := kq_164 byq_r (a := 0) (b := 10) (by decide +kernel)
theorem d_JInteger_numberOfTrailingZeros_67 : decode b_JInteger_numberOfTrailingZeros 67 = .ok (.iinc 1 2, 3) := kq_132 byq_r (b := 2) (by decide +kernel)
theorem d_JInteger_numberOfTrailingZeros_70 : decode b_JInteger_numberOfTrailingZeros 70 = .ok (.iload_n 0, 1) := kq_26 byq_r (by decide +kernel)
theorem d_JInteger_numberOfTrailingZeros_71 : decode b_JInteger_numberOfTrailingZeros 71 = .ok (.iconst 2, 1) := kq_5 byq_r (by decide +kernel)
theorem d_JInteger_numberOfTrailingZeros_72 : decode b_JInteger_numberOfTrailingZeros 72 = .ok (.iushr, 1) := kq_124 byq_r (by decide +kernel)
theorem d_JInteger_numberOfTrailingZeros_73 : decode b_JInteger_numberOfTrailingZeros 73 = .ok (.istore_n 0, 1) := kq_59 byq_r (by decide +kernel)
theorem d_JInteger_numberOfTrailingZeros_74 : decode b_JInteger_numberOfTrailingZeros 74 = .ok (.iload_n 1, 1) := kq_27 byq_r (by decide +kernel)
theorem d_JInteger_numberOfTrailingZeros_75 : decode b_JInteger_numberOfTrailingZeros 75 = .ok (.iload_n 0, 1) := kq_26 byq_r (by decide +kernel)
theorem d_JInteger_numberOfTrailingZeros_76 : decode b_JInteger_numberOfTrailingZeros 76 = .ok (.iconst 1, 1) := kq_4 byq_r (by decide +kernel)
theorem d_JInteger_numberOfTrailingZeros_77 : decode b_JInteger_numberOfTrailingZeros 77 = .ok (.iushr, 1) := kq_124 byq_r (by decide +kernel)
theorem d_JInteger_numberOfTrailingZeros_78 : decode b_JInteger_numberOfTrailingZeros 78 = .ok (.iadd, 1) := kq_96 byq_r (by decide +kernel)
theorem d_JInteger_numberOfTrailingZeros_79 : decode b_JInteger_numberOfTrailingZeros 79 = .ok (.ireturn, 1) := kq_172 byq_r (by decide +kernel)
theorem d_JLong_bitCount_0 : decode b_JLong_bitCount 0 = .ok (.lload_n 0, 1) := kq_30 byq_r (by decide +kernel)
theorem d_JLong_bitCount_1 : decode b_JLong_bitCount 1 = .ok (.lload_n 0, 1) := kq_30 byq_r (by decide +kernel)
theorem d_JLong_bitCount_2 : decode b_JLong_bitCount 2 = .ok (.iconst 1, 1) := kq_4 byq_r (by decide +kernel)
theorem d_JLong_bitCount_3 : decode b_JLong_bitCount 3 = .ok (.lushr, 1) := kq_125 byq_r (by decide +kernel)
theorem d_JLong_bitCount_4 : decode b_JLong_bitCount 4 = .ok (.ldc2_w 314, 3) := kq_20 byq_r (a := 1) (b := 58) (by decide +kernel)
theorem d_JLong_bitCount_7 : decode b_JLong_bitCount 7 = .ok (.land, 1) := kq_127 byq_r (by decide +kernel)
theorem d_JLong_bitCount_8 : decode b_JLong_bitCount 8 = .ok (.lsub, 1) := kq_101 byq_r (by decide +kernel)
theorem d_JLong_bitCount_9 : decode b_JLong_bitCount 9 = .ok (.lstore_n 0, 1) := kq_63 byq_r (by decide +kernel)
theorem d_JLong_bitCount_10 : decode b_JLong_bitCount 10 = .ok (.lload_n 0, 1) := kq_30 byq_r (by decide +kernel)
theorem d_JLong_bitCount_11 : decode b_JLong_bitCount 11 = .ok (.ldc2_w 316, 3) := kq_20 byq_r (a := 1) (b := 60) (by decide +kernel)
theorem d_JLong_bitCount_14 : decode b_JLong_bitCount 14 = .ok (.land, 1) := kq_127 byq_r (by decide +kernel)
theorem d_JLong_bitCount_15 : decode b_JLong_bitCount 15 = .ok (.lload_n 0, 1) := kq_30 byq_r (by decide +kernel)
theorem d_JLong_bitCount_16 : decode b_JLong_bitCount 16 = .ok (.iconst 2, 1) := kq_5 byq_r (by decide +kernel)
theorem d_JLong_bitCount_17 : decode b_JLong_bitCount 17 = .ok (.lushr, 1) := kq_125 byq_r (by decide +kernel)
theorem d_JLong_bitCount_18 : decode b_JLong_bitCount 18 = .ok (.ldc2_w 316, 3) := kq_20 byq_r (a := 1) (b := 60) (by decide +kernel)
theorem d_JLong_bitCount_21 : decode b_JLong_bitCount 21 = .ok (.land, 1) := kq_127 byq_r (by decide +kernel)
theorem d_JLong_bitCount_22 : decode b_JLong_bitCount 22 = .ok (.ladd, 1) := kq_97 byq_r (by decide +kernel)
theorem d_JLong_bitCount_23 : decode b_JLong_bitCount 23 = .ok (.lstore_n 0, 1) := kq_63 byq_r (by decide +kernel)
theorem d_JLong_bitCount_24 : decode b_JLong_bitCount 24 = .ok (.lload_n 0, 1) := kq_30 byq_r (by decide +kernel)
theorem d_JLong_bitCount_25 : decode b_JLong_bitCount 25 = .ok (.lload_n 0, 1) := kq_30 byq_r (by decide +kernel)
theorem d_JLong_bitCount_26 : decode b_JLong_bitCount 26 = .ok (.iconst 4, 1) := kq_7 byq_r (by decide +kernel)
theorem d_JLong_bitCount_27 : decode b_JLong_bitCount 27 = .ok (.lushr, 1) := kq_125 byq_r (by decide +kernel)
theorem d_JLong_bitCount_28 : decode b_JLong_bitCount 28 = .ok (.ladd, 1) := kq_97 byq_r (by decide +kernel)
theorem d_JLong_bitCount_29 : decode b_JLong_bitCount 29 = .ok (.ldc2_w 318, 3) := kq_20 byq_r (a := 1) (b := 62) (by decide +kernel)
theorem d_JLong_bitCount_32 : decode b_JLong_bitCount 32 = .ok (.land, 1) := kq_127 byq_r (by decide +kernel)
theorem d_JLong_bitCount_33 : decode b_JLong_bitCount 33 = .ok (.lstore_n 0, 1) := kq_63 byq_r (by decide +kernel)
theorem d_JLong_bitCount_34 : decode b_JLong_bitCount 34 = .ok (.lload_n 0, 1) := kq_30 byq_r (by decide +kernel)
theorem d_JLong_bitCount_35 : decode b_JLong_bitCount 35 = .ok (.lload_n 0, 1) := kq_30 byq_r (by decide +kernel)
theorem d_JLong_bitCount_36 : decode b_JLong_bitCount 36 = .ok (.bipush 8, 2) := kq_16 byq_r (b := 8) (by decide +kernel)
theorem d_JLong_bitCount_38 : decode b_JLong_bitCount 38 = .ok (.lushr, 1) := kq_125 byq_r (by decide +kernel)
theorem d_JLong_bitCount_39 : decode b_JLong_bitCount 39 = .ok (.ladd, 1) := kq_97 byq_r (by decide +kernel)
theorem d_JLong_bitCount_40 : decode b_JLong_bitCount 40 = .ok (.lstore_n 0, 1) := kq_63 byq_r (by decide +kernel)
theorem d_JLong_bitCount_41 : decode b_JLong_bitCount 41 = .ok (.lload_n 0, 1) := kq_30 byq_r (by decide +kernel)
theorem d_JLong_bitCount_42 : decode b_JLong_bitCount 42 = .ok (.lload_n 0, 1) := kq_30 byq_r (by decide +kernel)
theorem d_JLong_bitCount_43 : decode b_JLong_bitCount 43 = .ok (.bipush 16, 2) := kq_16 byq_r (b := 16) (by decide +kernel)
theorem d_JLong_bitCount_45 : decode b_JLong_bitCount 45 = .ok (.lushr, 1) := kq_125 byq_r (by decide +kernel)
theorem d_JLong_bitCount_46 : decode b_JLong_bitCount 46 = .ok (.ladd, 1) := kq_97 byq_r (by decide +kernel)
theorem d_JLong_bitCount_47 : decode b_JLong_bitCount 47 = .ok (.lstore_n 0, 1) := kq_63 byq_r (by decide +kernel)
theorem d_JLong_bitCount_48 : decode b_JLong_bitCount 48 = .ok (.lload_n 0, 1) := kq_30 byq_r (by decide +kernel)
theorem d_JLong_bitCount_49 : decode b_JLong_bitCount 49 = .ok (.lload_n 0, 1) := kq_30 byq_r (by decide +kernel)
theorem d_JLong_bitCount_50 : decode b_JLong_bitCount 50 = .ok (.bipush 32, 2) := kq_16 byq_r (b := 32) (by decide +kernel)
theorem d_JLong_bitCount_52 : decode b_JLong_bitCount 52 = .ok (.lushr, 1) := kq_125 byq_r (by decide +kernel)
theorem d_JLong_bitCount_53 : decode b_JLong_bitCount 53 = .ok (.ladd, 1) := kq_97 byq_r (by decide +kernel)
theorem d_JLong_bitCount_54 : decode b_JLong_bitCount 54 = .ok (.lstore_n 0, 1) := kq_63 byq_r (by decide +kernel)
theorem d_JLong_bitCount_55 : decode b_JLong_bitCount 55 = .ok (.lload_n 0, 1) := kq_30 byq_r (by decide +kernel)
theorem d_JLong_bitCount_56 : decode b_JLong_bitCount 56 = .ok (.l2i, 1) := kq_136 byq_r (by decide +kernel)
theorem d_JLong_bitCount_57 : decode b_JLong_bitCount 57 = .ok (.bipush 127, 2) := kq_16 byq_r (b := 127) (by decide +kernel)
theorem d_JLong_bitCount_59 : decode b_JLong_bitCount 59 = .ok (.iand, 1) := kq_126 byq_r (by decide +kernel)
theorem d_JLong_bitCount_60 : decode b_JLong_bitCount 60 = .ok (.ireturn, 1) := kq_172 byq_r (by decide +kernel)
theorem d_JLong_numberOfTrailingZeros_0 : decode b_JLong_numberOfTrailingZeros 0 = .ok (.lload_n 0, 1) := kq_30 byq_r (by decide +kernel)
theorem d_JLong_numberOfTrailingZeros_1 : decode b_JLong_numberOfTrailingZeros 1 = .ok (.l2i, 1) := kq_136 byq_r (by decide +kernel)
theorem d_JLong_numberOfTrailingZeros_2 : decode b_JLong_numberOfTrailingZeros 2 = .ok (.istore_n 2, 1) := kq_61 byq_r (by decide +kernel)
theorem d_JLong_numberOfTrailingZeros_3 : decode b_JLong_numberOfTrailingZeros 3 = .ok (.iload_n 2, 1) := kq_28 byq_r (by decide +kernel)
theorem d_JLong_numberOfTrailingZeros_4 : decode b_JLong_numberOfTrailingZeros 4 = .ok (.ifCond .ne 17, 3) := kq_154 byq_r (a := 0) (b := 17) (by decide +kernel)
theorem d_JLong_numberOfTrailingZeros_7 : decode b_JLong_numberOfTrailingZeros 7 = .ok (.bipush 32, 2) := kq_16 byq_r (b := 32) (by decide +kernel)
theorem d_JLong_numberOfTrailingZeros_9 : decode b_JLong_numberOfTrailingZeros 9 = .ok (.lload_n 0, 1) := kq_30 byq_r (by decide +kernel)
theorem d_JLong_numberOfTrailingZeros_10 : decode b_JLong_numberOfTrailingZeros 10 = .ok (.bipush 32, 2) := kq_16 byq_r (b := 32) (by decide +kernel)
theorem d_JLong_numberOfTrailingZeros_12 : decode b_JLong_numberOfTrailingZeros 12 = .ok (.lushr, 1) := kq_125 byq_r (by decide +kernel)
theorem d_JLong_numberOfTrailingZeros_13 : decode b_JLong_numberOfTrailingZeros 13 = .ok (.l2i, 1) := kq_136 byq_r (by decide +kernel)
theorem d_JLong_numberOfTrailingZeros_14 : decode b_JLong_numberOfTrailingZeros 14 = .ok (.invokestatic 311, 3) := kq_184 byq_r (a := 1) (b := 55) (by decide +kernel)
theorem d_JLong_numberOfTrailingZeros_17 : decode b_JLong_numberOfTrailingZeros 17 = .ok (.iadd, 1) := kq_96 byq_r (by decide +kernel)
theorem d_JLong_numberOfTrailingZeros_18 : decode b_JLong_numberOfTrailingZeros 18 = .ok (.goto 7, 3) := kq_167 byq_r (a := 0) (b := 7) (by decide +kernel)
theorem d_JLong_numberOfTrailingZeros_21 : decode b_JLong_numberOfTrailingZeros 21 = .ok (.iload_n 2, 1) := kq_28 byq_r (by decide +kernel)
theorem d_JLong_numberOfTrailingZeros_22 : decode b_JLong_numberOfTrailingZeros 22 = .ok (.invokestatic 311, 3) := kq_184 byq_r (a := 1) (b := 55) (by decide +kernel)
theorem d_JLong_numberOfTrailingZeros_25 : decode b_JLong_numberOfTrailingZeros 25 = .ok (.ireturn, 1) := kq_172 byq_r (by decide +kernel)
theorem d_Signs_add_0 : decode b_Signs_add 0 = .ok (.aload_n 0, 1) := kq_42 byq_r (by decide +kernel)
theorem d_Signs_add_1 : decode b_Signs_add 1 = .ok (.getfield 15, 3) := kq_180 byq_r (a := 0) (b := 15) (by decide +kernel)
theorem d_Signs_add_4 : decode b_Signs_add 4 = .ok (.ifCond .lt 12, 3) := kq_155 byq_r (a := 0) (b := 12) (by decide +kernel)
theorem d_Signs_add_7 : decode b_Signs_add 7 = .ok (.aload_n 0, 1) := kq_42 byq_r (by decide +kernel)
theorem d_Signs_add_8 : decode b_Signs_add 8 = .ok (.getfield 15, 3) := kq_180 byq_r (a := 0) (b := 15) (by decide +kernel)
theorem d_Signs_add_11 : decode b_Signs_add 11 = .ok (.bipush 76, 2) := kq_16 byq_r (b := 76) (by decide +kernel)
theorem d_Signs_add_13 : decode b_Signs_add 13 = .ok (.if_icmp .le 5, 3) := kq_164 byq_r (a := 0) (b := 5) (by decide +kernel)
theorem d_Signs_add_16 : decode b_Signs_add 16 = .ok (.iconst 0, 1) := kq_3 byq_r (by decide +kernel)
theorem d_Signs_add_17 : decode b_Signs_add 17 = .ok (.ireturn, 1) := kq_172 byq_r (by decide +kernel)
theorem d_Signs_add_18 : decode b_Signs_add 18 = .ok (.iconst 0, 1) := kq_3 byq_r (by decide +kernel)
theorem d_Signs_add_19 : decode b_Signs_add 19 = .ok (.istore_n 2, 1) := kq_61 byq_r (by decide +kernel)
theorem d_Signs_add_20 : decode b_Signs_add 20 = .ok (.iload_n 2, 1) := kq_28 byq_r (by decide +kernel)
theorem d_Signs_add_21 : decode b_Signs_add 21 = .ok (.iconst 4, 1) := kq_7 byq_r (by decide +kernel)
theorem d_Signs_add_22 : decode b_Signs_add 22 = .ok (.if_icmp .ge 41, 3) := kq_162 byq_r (a := 0) (b := 41) (by decide +kernel)
theorem d_Signs_add_25 : decode b_Signs_add 25 = .ok (.aload_n 0, 1) := kq_42 byq_r (by decide +kernel)
theorem d_Signs_add_26 : decode b_Signs_add 26 = .ok (.getfield 9, 3) := kq_180 byq_r (a := 0) (b := 9) (by decide +kernel)
theorem d_Signs_add_29 : decode b_Signs_add 29 = .ok (.aload_n 0, 1) := kq_42 byq_r (by decide +kernel)
theorem d_Signs_add_30 : decode b_Signs_add 30 = .ok (.getfield 15, 3) := kq_180 byq_r (a := 0) (b := 15) (by decide +kernel)
theorem d_Signs_add_33 : decode b_Signs_add 33 = .ok (.iload_n 1, 1) := kq_27 byq_r (by decide +kernel)
theorem d_Signs_add_34 : decode b_Signs_add 34 = .ok (.bipush 24, 2) := kq_16 byq_r (b := 24) (by decide +kernel)
theorem d_Signs_add_36 : decode b_Signs_add 36 = .ok (.bipush 8, 2) := kq_16 byq_r (b := 8) (by decide +kernel)
theorem d_Signs_add_38 : decode b_Signs_add 38 = .ok (.iload_n 2, 1) := kq_28 byq_r (by decide +kernel)
theorem d_Signs_add_39 : decode b_Signs_add 39 = .ok (.imul, 1) := kq_104 byq_r (by decide +kernel)
theorem d_Signs_add_40 : decode b_Signs_add 40 = .ok (.isub, 1) := kq_100 byq_r (by decide +kernel)
theorem d_Signs_add_41 : decode b_Signs_add 41 = .ok (.ishr, 1) := kq_122 byq_r (by decide +kernel)
theorem d_Signs_add_42 : decode b_Signs_add 42 = .ok (.sipush 255, 3) := kq_17 byq_r (a := 0) (b := 255) (by decide +kernel)
theorem d_Signs_add_45 : decode b_Signs_add 45 = .ok (.iand, 1) := kq_126 byq_r (by decide +kernel)
theorem d_Signs_add_46 : decode b_Signs_add 46 = .ok (.iastore, 1) := kq_79 byq_r (by decide +kernel)
theorem d_Signs_add_47 : decode b_Signs_add 47 = .ok (.aload_n 0, 1) := kq_42 byq_r (by decide +kernel)
theorem d_Signs_add_48 : decode b_Signs_add 48 = .ok (.dup, 1) := kq_89 byq_r (by decide +kernel)
theorem d_Signs_add_49 : decode b_Signs_add 49 = .ok (.getfield 15, 3) := kq_180 byq_r (a := 0) (b := 15) (by decide +kernel)
theorem d_Signs_add_52 : decode b_Signs_add 52 = .ok (.iconst 1, 1) := kq_4 byq_r (by decide +kernel)
theorem d_Signs_add_53 : decode b_Signs_add 53 = .ok (.iadd, 1) := kq_96 byq_r (by decide +kernel)
theorem d_Signs_add_54 : decode b_Signs_add 54 = .ok (.putfield 15, 3) := kq_181 byq_r (a := 0) (b := 15) (by decide +kernel)
theorem d_Signs_add_57 : decode b_Signs_add 57 = .ok (.iinc 2 1, 3) := kq_132 byq_r (b := 1) (by decide +kernel)
theorem d_Signs_add_60 : decode b_Signs_add 60 = .ok (.goto (-40), 3) := kq_167 byq_r (a := 255) (b := 216) (by decide +kernel)
theorem d_Signs_add_63 : decode b_Signs_add 63 = .ok (.iconst 1, 1) := kq_4 byq_r (by decide +kernel)
theorem d_Signs_add_64 : decode b_Signs_add 64 = .ok (.ireturn, 1) := kq_172 byq_r (by decide +kernel)
theorem d_Signs_at_0 : decode b_Signs_at 0 = .ok (.iload_n 1, 1) := kq_27 byq_r (by decide +kernel)
theorem d_Signs_at_1 : decode b_Signs_at 1 = .ok (.ifCond .lt 22, 3) := kq_155 byq_r (a := 0) (b := 22) (by decide +kernel)
theorem d_Signs_at_4 : decode b_Signs_at 4 = .ok (.iload_n 1, 1) := kq_27 byq_r (by decide +kernel)
theorem d_Signs_at_5 : decode b_Signs_at 5 = .ok (.aload_n 0, 1) := kq_42 byq_r (by decide +kernel)
theorem d_Signs_at_6 : decode b_Signs_at 6 = .ok (.getfield 15, 3) := kq_180 byq_r (a := 0) (b := 15) (by decide +kernel)
theorem d_Signs_at_9 : decode b_Signs_at 9 = .ok (.if_icmp .ge 14, 3) := kq_162 byq_r (a := 0) (b := 14) (by decide +kernel)
theorem d_Signs_at_12 : decode b_Signs_at 12 = .ok (.iload_n 1, 1) := kq_27 byq_r (by decide +kernel)
theorem d_Signs_at_13 : decode b_Signs_at 13 = .ok (.iload_n 2, 1) := kq_28 byq_r (by decide +kernel)
theorem d_Signs_at_14 : decode b_Signs_at 14 = .ok (.if_icmp .ge 9, 3) := kq_162 byq_r (a := 0) (b := 9) (by decide +kernel)
theorem d_Signs_at_17 : decode b_Signs_at 17 = .ok (.iload_n 1, 1) := kq_27 byq_r (by decide +kernel)
theorem d_Signs_at_18 : decode b_Signs_at 18 = .ok (.bipush 80, 2) := kq_16 byq_r (b := 80) (by decide +kernel)
theorem d_Signs_at_20 : decode b_Signs_at 20 = .ok (.if_icmp .lt 5, 3) := kq_161 byq_r (a := 0) (b := 5) (by decide +kernel)
theorem d_Signs_at_23 : decode b_Signs_at 23 = .ok (.iconst (-1), 1) := kq_2 byq_r (by decide +kernel)
theorem d_Signs_at_24 : decode b_Signs_at 24 = .ok (.ireturn, 1) := kq_172 byq_r (by decide +kernel)
theorem d_Signs_at_25 : decode b_Signs_at 25 = .ok (.aload_n 0, 1) := kq_42 byq_r (by decide +kernel)
theorem d_Signs_at_26 : decode b_Signs_at 26 = .ok (.getfield 9, 3) := kq_180 byq_r (a := 0) (b := 9) (by decide +kernel)
theorem d_Signs_at_29 : decode b_Signs_at 29 = .ok (.iload_n 1, 1) := kq_27 byq_r (by decide +kernel)
theorem d_Signs_at_30 : decode b_Signs_at 30 = .ok (.iaload, 1) := kq_46 byq_r (by decide +kernel)
theorem d_Signs_at_31 : decode b_Signs_at 31 = .ok (.ireturn, 1) := kq_172 byq_r (by decide +kernel)
theorem d_Signs_digits_0 : decode b_Signs_digits 0 = .ok (.iconst 0, 1) := kq_3 byq_r (by decide +kernel)
theorem d_Signs_digits_1 : decode b_Signs_digits 1 = .ok (.istore 4, 2) := kq_54 byq_r (by decide +kernel)
theorem d_Signs_digits_3 : decode b_Signs_digits 3 = .ok (.aload_n 0, 1) := kq_42 byq_r (by decide +kernel)
theorem d_Signs_digits_4 : decode b_Signs_digits 4 = .ok (.iconst 0, 1) := kq_3 byq_r (by decide +kernel)
theorem d_Signs_digits_5 : decode b_Signs_digits 5 = .ok (.putfield 19, 3) := kq_181 byq_r (a := 0) (b := 19) (by decide +kernel)
theorem d_Signs_digits_8 : decode b_Signs_digits 8 = .ok (.iconst 0, 1) := kq_3 byq_r (by decide +kernel)
theorem d_Signs_digits_9 : decode b_Signs_digits 9 = .ok (.istore 5, 2) := kq_54 byq_r (by decide +kernel)
theorem d_Signs_digits_11 : decode b_Signs_digits 11 = .ok (.iload 5, 2) := kq_21 byq_r (by decide +kernel)
theorem d_Signs_digits_13 : decode b_Signs_digits 13 = .ok (.iload_n 3, 1) := kq_29 byq_r (by decide +kernel)
theorem d_Signs_digits_14 : decode b_Signs_digits 14 = .ok (.if_icmp .ge 61, 3) := kq_162 byq_r (a := 0) (b := 61) (by decide +kernel)
theorem d_Signs_digits_17 : decode b_Signs_digits 17 = .ok (.iload 4, 2) := kq_21 byq_r (by decide +kernel)
theorem d_Signs_digits_19 : decode b_Signs_digits 19 = .ok (.iload 5, 2) := kq_21 byq_r (by decide +kernel)
theorem d_Signs_digits_21 : decode b_Signs_digits 21 = .ok (.if_icmp .ne 54, 3) := kq_160 byq_r (a := 0) (b := 54) (by decide +kernel)
theorem d_Signs_digits_24 : decode b_Signs_digits 24 = .ok (.aload_n 0, 1) := kq_42 byq_r (by decide +kernel)
theorem d_Signs_digits_25 : decode b_Signs_digits 25 = .ok (.iload_n 1, 1) := kq_27 byq_r (by decide +kernel)
theorem d_Signs_digits_26 : decode b_Signs_digits 26 = .ok (.iload 5, 2) := kq_21 byq_r (by decide +kernel)
theorem d_Signs_digits_28 : decode b_Signs_digits 28 = .ok (.iadd, 1) := kq_96 byq_r (by decide +kernel)
theorem d_Signs_digits_29 : decode b_Signs_digits 29 = .ok (.iload_n 2, 1) := kq_28 byq_r (by decide +kernel)
theorem d_Signs_digits_30 : decode b_Signs_digits 30 = .ok (.invokevirtual 22, 3) := kq_182 byq_r (a := 0) (b := 22) (by decide +kernel)
theorem d_Signs_digits_33 : decode b_Signs_digits 33 = .ok (.istore 6, 2) := kq_54 byq_r (by decide +kernel)
theorem d_Signs_digits_35 : decode b_Signs_digits 35 = .ok (.iload 6, 2) := kq_21 byq_r (by decide +kernel)
theorem d_Signs_digits_37 : decode b_Signs_digits 37 = .ok (.bipush 48, 2) := kq_16 byq_r (b := 48) (by decide +kernel)
theorem d_Signs_digits_39 : decode b_Signs_digits 39 = .ok (.if_icmp .lt 30, 3) := kq_161 byq_r (a := 0) (b := 30) (by decide +kernel)
theorem d_Signs_digits_42 : decode b_Signs_digits 42 = .ok (.iload 6, 2) := kq_21 byq_r (by decide +kernel)
theorem d_Signs_digits_44 : decode b_Signs_digits 44 = .ok (.bipush 57, 2) := kq_16 byq_r (b := 57) (by decide +kernel)
theorem d_Signs_digits_46 : decode b_Signs_digits 46 = .ok (.if_icmp .gt 23, 3) := kq_163 byq_r (a := 0) (b := 23) (by decide +kernel)
theorem d_Signs_digits_49 : decode b_Signs_digits 49 = .ok (.aload_n 0, 1) := kq_42 byq_r (by decide +kernel)
theorem d_Signs_digits_50 : decode b_Signs_digits 50 = .ok (.aload_n 0, 1) := kq_42 byq_r (by decide +kernel)
theorem d_Signs_digits_51 : decode b_Signs_digits 51 = .ok (.getfield 19, 3) := kq_180 byq_r (a := 0) (b := 19) (by decide +kernel)
theorem d_Signs_digits_54 : decode b_Signs_digits 54 = .ok (.bipush 10, 2) := kq_16 byq_r (b := 10) (by decide +kernel)
theorem d_Signs_digits_56 : decode b_Signs_digits 56 = .ok (.imul, 1) := kq_104 byq_r (by decide +kernel)
theorem d_Signs_digits_57 : decode b_Signs_digits 57 = .ok (.iload 6, 2) := kq_21 byq_r (by decide +kernel)
theorem d_Signs_digits_59 : decode b_Signs_digits 59 = .ok (.iadd, 1) := kq_96 byq_r (by decide +kernel)
theorem d_Signs_digits_60 : decode b_Signs_digits 60 = .ok (.bipush 48, 2) := kq_16 byq_r (b := 48) (by decide +kernel)
theorem d_Signs_digits_62 : decode b_Signs_digits 62 = .ok (.isub, 1) := kq_100 byq_r (by decide +kernel)
theorem d_Signs_digits_63 : decode b_Signs_digits 63 = .ok (.putfield 19, 3) := kq_181 byq_r (a := 0) (b := 19) (by decide +kernel)
theorem d_Signs_digits_66 : decode b_Signs_digits 66 = .ok (.iinc 4 1, 3) := kq_132 byq_r (b := 1) (by decide +kernel)
theorem d_Signs_digits_69 : decode b_Signs_digits 69 = .ok (.iinc 5 1, 3) := kq_132 byq_r (b := 1) (by decide +kernel)
theorem d_Signs_digits_72 : decode b_Signs_digits 72 = .ok (.goto (-61), 3) := kq_167 byq_r (a := 255) (b := 195) (by decide +kernel)
theorem d_Signs_digits_75 : decode b_Signs_digits 75 = .ok (.iload 4, 2) := kq_21 byq_r (by decide +kernel)
theorem d_Signs_digits_77 : decode b_Signs_digits 77 = .ok (.ireturn, 1) := kq_172 byq_r (by decide +kernel)
theorem d_Signs_stepOf_0 : decode b_Signs_stepOf 0 = .ok (.iload_n 0, 1) := kq_26 byq_r (by decide +kernel)
theorem d_Signs_stepOf_1 : decode b_Signs_stepOf 1 = .ok (.lookupswitch 61 #[(100, 55), (108, 57), (111, 59), (114, 53), (117, 51)], 51) := by decide +kernel
theorem d_Signs_stepOf_52 : decode b_Signs_stepOf 52 = .ok (.iconst 0, 1) := kq_3 byq_r (by decide +kernel)
theorem d_Signs_stepOf_53 : decode b_Signs_stepOf 53 = .ok (.ireturn, 1) := kq_172 byq_r (by decide +kernel)
theorem d_Signs_stepOf_54 : decode b_Signs_stepOf 54 = .ok (.iconst 1, 1) := kq_4 byq_r (by decide +kernel)
theorem d_Signs_stepOf_55 : decode b_Signs_stepOf 55 = .ok (.ireturn, 1) := kq_172 byq_r (by decide +kernel)
theorem d_Signs_stepOf_56 : decode b_Signs_stepOf 56 = .ok (.iconst 2, 1) := kq_5 byq_r (by decide +kernel)
theorem d_Signs_stepOf_57 : decode b_Signs_stepOf 57 = .ok (.ireturn, 1) := kq_172 byq_r (by decide +kernel)
theorem d_Signs_stepOf_58 : decode b_Signs_stepOf 58 = .ok (.iconst 3, 1) := kq_6 byq_r (by decide +kernel)
theorem d_Signs_stepOf_59 : decode b_Signs_stepOf 59 = .ok (.ireturn, 1) := kq_172 byq_r (by decide +kernel)
theorem d_Signs_stepOf_60 : decode b_Signs_stepOf 60 = .ok (.iconst 4, 1) := kq_7 byq_r (by decide +kernel)
theorem d_Signs_stepOf_61 : decode b_Signs_stepOf 61 = .ok (.ireturn, 1) := kq_172 byq_r (by decide +kernel)
theorem d_Signs_stepOf_62 : decode b_Signs_stepOf 62 = .ok (.iconst (-1), 1) := kq_2 byq_r (by decide +kernel)
theorem d_Signs_stepOf_63 : decode b_Signs_stepOf 63 = .ok (.ireturn, 1) := kq_172 byq_r (by decide +kernel)
theorem d_Signs_steps_0 : decode b_Signs_steps 0 = .ok (.iconst 0, 1) := kq_3 byq_r (by decide +kernel)
theorem d_Signs_steps_1 : decode b_Signs_steps 1 = .ok (.istore 5, 2) := kq_54 byq_r (by decide +kernel)
theorem d_Signs_steps_3 : decode b_Signs_steps 3 = .ok (.iconst 0, 1) := kq_3 byq_r (by decide +kernel)
theorem d_Signs_steps_4 : decode b_Signs_steps 4 = .ok (.istore 6, 2) := kq_54 byq_r (by decide +kernel)
theorem d_Signs_steps_6 : decode b_Signs_steps 6 = .ok (.iload 6, 2) := kq_21 byq_r (by decide +kernel)
theorem d_Signs_steps_8 : decode b_Signs_steps 8 = .ok (.bipush 9, 2) := kq_16 byq_r (b := 9) (by decide +kernel)
theorem d_Signs_steps_10 : decode b_Signs_steps 10 = .ok (.if_icmp .ge 63, 3) := kq_162 byq_r (a := 0) (b := 63) (by decide +kernel)
theorem d_Signs_steps_13 : decode b_Signs_steps 13 = .ok (.iload 5, 2) := kq_21 byq_r (by decide +kernel)
theorem d_Signs_steps_15 : decode b_Signs_steps 15 = .ok (.iload 6, 2) := kq_21 byq_r (by decide +kernel)
theorem d_Signs_steps_17 : decode b_Signs_steps 17 = .ok (.if_icmp .ne 56, 3) := kq_160 byq_r (a := 0) (b := 56) (by decide +kernel)
theorem d_Signs_steps_20 : decode b_Signs_steps 20 = .ok (.aload_n 0, 1) := kq_42 byq_r (by decide +kernel)
theorem d_Signs_steps_21 : decode b_Signs_steps 21 = .ok (.iload_n 1, 1) := kq_27 byq_r (by decide +kernel)
theorem d_Signs_steps_22 : decode b_Signs_steps 22 = .ok (.iload 6, 2) := kq_21 byq_r (by decide +kernel)
theorem d_Signs_steps_24 : decode b_Signs_steps 24 = .ok (.iadd, 1) := kq_96 byq_r (by decide +kernel)
theorem d_Signs_steps_25 : decode b_Signs_steps 25 = .ok (.iload_n 2, 1) := kq_28 byq_r (by decide +kernel)
theorem d_Signs_steps_26 : decode b_Signs_steps 26 = .ok (.invokevirtual 22, 3) := kq_182 byq_r (a := 0) (b := 22) (by decide +kernel)
theorem d_Signs_steps_29 : decode b_Signs_steps 29 = .ok (.invokestatic 26, 3) := kq_184 byq_r (a := 0) (b := 26) (by decide +kernel)
theorem d_Signs_steps_32 : decode b_Signs_steps 32 = .ok (.istore 7, 2) := kq_54 byq_r (by decide +kernel)
theorem d_Signs_steps_34 : decode b_Signs_steps 34 = .ok (.iload 7, 2) := kq_21 byq_r (by decide +kernel)
theorem d_Signs_steps_36 : decode b_Signs_steps 36 = .ok (.iconst (-1), 1) := kq_2 byq_r (by decide +kernel)
theorem d_Signs_steps_37 : decode b_Signs_steps 37 = .ok (.if_icmp .eq 30, 3) := kq_159 byq_r (a := 0) (b := 30) (by decide +kernel)
theorem d_Signs_steps_40 : decode b_Signs_steps 40 = .ok (.iload 4, 2) := kq_21 byq_r (by decide +kernel)
theorem d_Signs_steps_42 : decode b_Signs_steps 42 = .ok (.ifCond .lt 25, 3) := kq_155 byq_r (a := 0) (b := 25) (by decide +kernel)
theorem d_Signs_steps_45 : decode b_Signs_steps 45 = .ok (.iload 4, 2) := kq_21 byq_r (by decide +kernel)
theorem d_Signs_steps_47 : decode b_Signs_steps 47 = .ok (.iload 6, 2) := kq_21 byq_r (by decide +kernel)
theorem d_Signs_steps_49 : decode b_Signs_steps 49 = .ok (.iadd, 1) := kq_96 byq_r (by decide +kernel)
theorem d_Signs_steps_50 : decode b_Signs_steps 50 = .ok (.aload_n 3, 1) := kq_45 byq_r (by decide +kernel)
theorem d_Signs_steps_51 : decode b_Signs_steps 51 = .ok (.arraylength, 1) := kq_190 byq_r (by decide +kernel)
theorem d_Signs_steps_52 : decode b_Signs_steps 52 = .ok (.if_icmp .ge 15, 3) := kq_162 byq_r (a := 0) (b := 15) (by decide +kernel)
theorem d_Signs_steps_55 : decode b_Signs_steps 55 = .ok (.aload_n 3, 1) := kq_45 byq_r (by decide +kernel)
theorem d_Signs_steps_56 : decode b_Signs_steps 56 = .ok (.iload 4, 2) := kq_21 byq_r (by decide +kernel)
theorem d_Signs_steps_58 : decode b_Signs_steps 58 = .ok (.iload 6, 2) := kq_21 byq_r (by decide +kernel)
theorem d_Signs_steps_60 : decode b_Signs_steps 60 = .ok (.iadd, 1) := kq_96 byq_r (by decide +kernel)
theorem d_Signs_steps_61 : decode b_Signs_steps 61 = .ok (.iload 7, 2) := kq_21 byq_r (by decide +kernel)
theorem d_Signs_steps_63 : decode b_Signs_steps 63 = .ok (.iastore, 1) := kq_79 byq_r (by decide +kernel)
theorem d_Signs_steps_64 : decode b_Signs_steps 64 = .ok (.iinc 5 1, 3) := kq_132 byq_r (b := 1) (by decide +kernel)
theorem d_Signs_steps_67 : decode b_Signs_steps 67 = .ok (.iinc 6 1, 3) := kq_132 byq_r (b := 1) (by decide +kernel)
theorem d_Signs_steps_70 : decode b_Signs_steps 70 = .ok (.goto (-64), 3) := kq_167 byq_r (a := 255) (b := 192) (by decide +kernel)
theorem d_Signs_steps_73 : decode b_Signs_steps 73 = .ok (.iload 5, 2) := kq_21 byq_r (by decide +kernel)
theorem d_Signs_steps_75 : decode b_Signs_steps 75 = .ok (.ireturn, 1) := kq_172 byq_r (by decide +kernel)
def f_JInteger_bitCount (v0 : Int32) : Option (Int32) :=
  some ((((((((v0 - (((v0.toUInt32 >>> ((1 : Int32).toUInt32 &&& Int32.toUInt32 31)).toInt32) &&& (1431655765 : Int32))) &&& (858993459 : Int32)) + ((((v0 - (((v0.toUInt32 >>> ((1 : Int32).toUInt32 &&& Int32.toUInt32 31)).toInt32) &&& (1431655765 : Int32))).toUInt32 >>> ((2 : Int32).toUInt32 &&& Int32.toUInt32 31)).toInt32) &&& (858993459 : Int32))) + (((((v0 - (((v0.toUInt32 >>> ((1 : Int32).toUInt32 &&& Int32.toUInt32 31)).toInt32) &&& (1431655765 : Int32))) &&& (858993459 : Int32)) + ((((v0 - (((v0.toUInt32 >>> ((1 : Int32).toUInt32 &&& Int32.toUInt32 31)).toInt32) &&& (1431655765 : Int32))).toUInt32 >>> ((2 : Int32).toUInt32 &&& Int32.toUInt32 31)).toInt32) &&& (858993459 : Int32))).toUInt32 >>> ((4 : Int32).toUInt32 &&& Int32.toUInt32 31)).toInt32)) &&& (252645135 : Int32)) + (((((((v0 - (((v0.toUInt32 >>> ((1 : Int32).toUInt32 &&& Int32.toUInt32 31)).toInt32) &&& (1431655765 : Int32))) &&& (858993459 : Int32)) + ((((v0 - (((v0.toUInt32 >>> ((1 : Int32).toUInt32 &&& Int32.toUInt32 31)).toInt32) &&& (1431655765 : Int32))).toUInt32 >>> ((2 : Int32).toUInt32 &&& Int32.toUInt32 31)).toInt32) &&& (858993459 : Int32))) + (((((v0 - (((v0.toUInt32 >>> ((1 : Int32).toUInt32 &&& Int32.toUInt32 31)).toInt32) &&& (1431655765 : Int32))) &&& (858993459 : Int32)) + ((((v0 - (((v0.toUInt32 >>> ((1 : Int32).toUInt32 &&& Int32.toUInt32 31)).toInt32) &&& (1431655765 : Int32))).toUInt32 >>> ((2 : Int32).toUInt32 &&& Int32.toUInt32 31)).toInt32) &&& (858993459 : Int32))).toUInt32 >>> ((4 : Int32).toUInt32 &&& Int32.toUInt32 31)).toInt32)) &&& (252645135 : Int32)).toUInt32 >>> ((8 : Int32).toUInt32 &&& Int32.toUInt32 31)).toInt32)) + ((((((((v0 - (((v0.toUInt32 >>> ((1 : Int32).toUInt32 &&& Int32.toUInt32 31)).toInt32) &&& (1431655765 : Int32))) &&& (858993459 : Int32)) + ((((v0 - (((v0.toUInt32 >>> ((1 : Int32).toUInt32 &&& Int32.toUInt32 31)).toInt32) &&& (1431655765 : Int32))).toUInt32 >>> ((2 : Int32).toUInt32 &&& Int32.toUInt32 31)).toInt32) &&& (858993459 : Int32))) + (((((v0 - (((v0.toUInt32 >>> ((1 : Int32).toUInt32 &&& Int32.toUInt32 31)).toInt32) &&& (1431655765 : Int32))) &&& (858993459 : Int32)) + ((((v0 - (((v0.toUInt32 >>> ((1 : Int32).toUInt32 &&& Int32.toUInt32 31)).toInt32) &&& (1431655765 : Int32))).toUInt32 >>> ((2 : Int32).toUInt32 &&& Int32.toUInt32 31)).toInt32) &&& (858993459 : Int32))).toUInt32 >>> ((4 : Int32).toUInt32 &&& Int32.toUInt32 31)).toInt32)) &&& (252645135 : Int32)) + (((((((v0 - (((v0.toUInt32 >>> ((1 : Int32).toUInt32 &&& Int32.toUInt32 31)).toInt32) &&& (1431655765 : Int32))) &&& (858993459 : Int32)) + ((((v0 - (((v0.toUInt32 >>> ((1 : Int32).toUInt32 &&& Int32.toUInt32 31)).toInt32) &&& (1431655765 : Int32))).toUInt32 >>> ((2 : Int32).toUInt32 &&& Int32.toUInt32 31)).toInt32) &&& (858993459 : Int32))) + (((((v0 - (((v0.toUInt32 >>> ((1 : Int32).toUInt32 &&& Int32.toUInt32 31)).toInt32) &&& (1431655765 : Int32))) &&& (858993459 : Int32)) + ((((v0 - (((v0.toUInt32 >>> ((1 : Int32).toUInt32 &&& Int32.toUInt32 31)).toInt32) &&& (1431655765 : Int32))).toUInt32 >>> ((2 : Int32).toUInt32 &&& Int32.toUInt32 31)).toInt32) &&& (858993459 : Int32))).toUInt32 >>> ((4 : Int32).toUInt32 &&& Int32.toUInt32 31)).toInt32)) &&& (252645135 : Int32)).toUInt32 >>> ((8 : Int32).toUInt32 &&& Int32.toUInt32 31)).toInt32)).toUInt32 >>> ((16 : Int32).toUInt32 &&& Int32.toUInt32 31)).toInt32)) &&& (63 : Int32))
theorem c_JInteger_bitCount (l : Launch) (G : Gw)  (v0 : Int32) (M : Mem) (x : Int32) (h : f_JInteger_bitCount v0 = some x) (d : Nat) (hD : 1 ≤ d) : Ci l G y_JInteger_bitCount b_JInteger_bitCount 1 (some .int) d [.int v0] M (fun r9 M9 => r9 = x ∧ M9 = M) := by
  refine Ci_of (by decide) (Nat.le_of_ble_eq_true rfl) (fun E hE X => ?_)
  subst hE
  have kr : ∀ x9 : Int32, x = x9 → (fun r9 M9 => r9 = x ∧ M9 = M) x9 M := fun x9 e9 => by subst e9; exact ⟨rfl, rfl⟩
  unfold f_JInteger_bitCount at h
  refine V_iload_n (n := 0) X d_JInteger_bitCount_0 rfl rfl rfl ?_
  refine V_iload_n (n := 0) X d_JInteger_bitCount_1 rfl rfl rfl ?_
  refine V_iconst (v := 1) X d_JInteger_bitCount_2 (by decide) rfl ?_
  refine V_iushr X d_JInteger_bitCount_3 rfl ?_
  refine V_ldc_w (v := 1431655765) X d_JInteger_bitCount_4 kc_JInteger_265 rfl ?_
  refine V_iand X d_JInteger_bitCount_7 rfl ?_
  refine V_isub X d_JInteger_bitCount_8 rfl ?_
  refine V_istore_n (lv' := [(0, .int (v0 - (((v0.toUInt32 >>> ((1 : Int32).toUInt32 &&& Int32.toUInt32 31)).toInt32) &&& (1431655765 : Int32))))]) X d_JInteger_bitCount_9 rfl (by decide) rfl rfl ?_
  refine V_iload_n (n := 0) X d_JInteger_bitCount_10 rfl rfl rfl ?_
  refine V_ldc_w (v := 858993459) X d_JInteger_bitCount_11 kc_JInteger_266 rfl ?_
  refine V_iand X d_JInteger_bitCount_14 rfl ?_
  refine V_iload_n (n := 0) X d_JInteger_bitCount_15 rfl rfl rfl ?_
  refine V_iconst (v := 2) X d_JInteger_bitCount_16 (by decide) rfl ?_
  refine V_iushr X d_JInteger_bitCount_17 rfl ?_
  refine V_ldc_w (v := 858993459) X d_JInteger_bitCount_18 kc_JInteger_266 rfl ?_
  refine V_iand X d_JInteger_bitCount_21 rfl ?_
  refine V_iadd X d_JInteger_bitCount_22 rfl ?_
  refine V_istore_n (lv' := [(0, .int (((v0 - (((v0.toUInt32 >>> ((1 : Int32).toUInt32 &&& Int32.toUInt32 31)).toInt32) &&& (1431655765 : Int32))) &&& (858993459 : Int32)) + ((((v0 - (((v0.toUInt32 >>> ((1 : Int32).toUInt32 &&& Int32.toUInt32 31)).toInt32) &&& (1431655765 : Int32))).toUInt32 >>> ((2 : Int32).toUInt32 &&& Int32.toUInt32 31)).toInt32) &&& (858993459 : Int32))))]) X d_JInteger_bitCount_23 rfl (by decide) rfl rfl ?_
  refine V_iload_n (n := 0) X d_JInteger_bitCount_24 rfl rfl rfl ?_
  refine V_iload_n (n := 0) X d_JInteger_bitCount_25 rfl rfl rfl ?_
  refine V_iconst (v := 4) X d_JInteger_bitCount_26 (by decide) rfl ?_
  refine V_iushr X d_JInteger_bitCount_27 rfl ?_
  refine V_iadd X d_JInteger_bitCount_28 rfl ?_
  refine V_ldc_w (v := 252645135) X d_JInteger_bitCount_29 kc_JInteger_267 rfl ?_
  refine V_iand X d_JInteger_bitCount_32 rfl ?_
  refine V_istore_n (lv' := [(0, .int (((((v0 - (((v0.toUInt32 >>> ((1 : Int32).toUInt32 &&& Int32.toUInt32 31)).toInt32) &&& (1431655765 : Int32))) &&& (858993459 : Int32)) + ((((v0 - (((v0.toUInt32 >>> ((1 : Int32).toUInt32 &&& Int32.toUInt32 31)).toInt32) &&& (1431655765 : Int32))).toUInt32 >>> ((2 : Int32).toUInt32 &&& Int32.toUInt32 31)).toInt32) &&& (858993459 : Int32))) + (((((v0 - (((v0.toUInt32 >>> ((1 : Int32).toUInt32 &&& Int32.toUInt32 31)).toInt32) &&& (1431655765 : Int32))) &&& (858993459 : Int32)) + ((((v0 - (((v0.toUInt32 >>> ((1 : Int32).toUInt32 &&& Int32.toUInt32 31)).toInt32) &&& (1431655765 : Int32))).toUInt32 >>> ((2 : Int32).toUInt32 &&& Int32.toUInt32 31)).toInt32) &&& (858993459 : Int32))).toUInt32 >>> ((4 : Int32).toUInt32 &&& Int32.toUInt32 31)).toInt32)) &&& (252645135 : Int32)))]) X d_JInteger_bitCount_33 rfl (by decide) rfl rfl ?_
  refine V_iload_n (n := 0) X d_JInteger_bitCount_34 rfl rfl rfl ?_
  refine V_iload_n (n := 0) X d_JInteger_bitCount_35 rfl rfl rfl ?_
  refine V_bipush (v := 8) X d_JInteger_bitCount_36 (by decide) rfl ?_
  refine V_iushr X d_JInteger_bitCount_38 rfl ?_
  refine V_iadd X d_JInteger_bitCount_39 rfl ?_
  refine V_istore_n (lv' := [(0, .int ((((((v0 - (((v0.toUInt32 >>> ((1 : Int32).toUInt32 &&& Int32.toUInt32 31)).toInt32) &&& (1431655765 : Int32))) &&& (858993459 : Int32)) + ((((v0 - (((v0.toUInt32 >>> ((1 : Int32).toUInt32 &&& Int32.toUInt32 31)).toInt32) &&& (1431655765 : Int32))).toUInt32 >>> ((2 : Int32).toUInt32 &&& Int32.toUInt32 31)).toInt32) &&& (858993459 : Int32))) + (((((v0 - (((v0.toUInt32 >>> ((1 : Int32).toUInt32 &&& Int32.toUInt32 31)).toInt32) &&& (1431655765 : Int32))) &&& (858993459 : Int32)) + ((((v0 - (((v0.toUInt32 >>> ((1 : Int32).toUInt32 &&& Int32.toUInt32 31)).toInt32) &&& (1431655765 : Int32))).toUInt32 >>> ((2 : Int32).toUInt32 &&& Int32.toUInt32 31)).toInt32) &&& (858993459 : Int32))).toUInt32 >>> ((4 : Int32).toUInt32 &&& Int32.toUInt32 31)).toInt32)) &&& (252645135 : Int32)) + (((((((v0 - (((v0.toUInt32 >>> ((1 : Int32).toUInt32 &&& Int32.toUInt32 31)).toInt32) &&& (1431655765 : Int32))) &&& (858993459 : Int32)) + ((((v0 - (((v0.toUInt32 >>> ((1 : Int32).toUInt32 &&& Int32.toUInt32 31)).toInt32) &&& (1431655765 : Int32))).toUInt32 >>> ((2 : Int32).toUInt32 &&& Int32.toUInt32 31)).toInt32) &&& (858993459 : Int32))) + (((((v0 - (((v0.toUInt32 >>> ((1 : Int32).toUInt32 &&& Int32.toUInt32 31)).toInt32) &&& (1431655765 : Int32))) &&& (858993459 : Int32)) + ((((v0 - (((v0.toUInt32 >>> ((1 : Int32).toUInt32 &&& Int32.toUInt32 31)).toInt32) &&& (1431655765 : Int32))).toUInt32 >>> ((2 : Int32).toUInt32 &&& Int32.toUInt32 31)).toInt32) &&& (858993459 : Int32))).toUInt32 >>> ((4 : Int32).toUInt32 &&& Int32.toUInt32 31)).toInt32)) &&& (252645135 : Int32)).toUInt32 >>> ((8 : Int32).toUInt32 &&& Int32.toUInt32 31)).toInt32)))]) X d_JInteger_bitCount_40 rfl (by decide) rfl rfl ?_
  refine V_iload_n (n := 0) X d_JInteger_bitCount_41 rfl rfl rfl ?_
  refine V_iload_n (n := 0) X d_JInteger_bitCount_42 rfl rfl rfl ?_
  refine V_bipush (v := 16) X d_JInteger_bitCount_43 (by decide) rfl ?_
  refine V_iushr X d_JInteger_bitCount_45 rfl ?_
  refine V_iadd X d_JInteger_bitCount_46 rfl ?_
  refine V_istore_n (lv' := [(0, .int (((((((v0 - (((v0.toUInt32 >>> ((1 : Int32).toUInt32 &&& Int32.toUInt32 31)).toInt32) &&& (1431655765 : Int32))) &&& (858993459 : Int32)) + ((((v0 - (((v0.toUInt32 >>> ((1 : Int32).toUInt32 &&& Int32.toUInt32 31)).toInt32) &&& (1431655765 : Int32))).toUInt32 >>> ((2 : Int32).toUInt32 &&& Int32.toUInt32 31)).toInt32) &&& (858993459 : Int32))) + (((((v0 - (((v0.toUInt32 >>> ((1 : Int32).toUInt32 &&& Int32.toUInt32 31)).toInt32) &&& (1431655765 : Int32))) &&& (858993459 : Int32)) + ((((v0 - (((v0.toUInt32 >>> ((1 : Int32).toUInt32 &&& Int32.toUInt32 31)).toInt32) &&& (1431655765 : Int32))).toUInt32 >>> ((2 : Int32).toUInt32 &&& Int32.toUInt32 31)).toInt32) &&& (858993459 : Int32))).toUInt32 >>> ((4 : Int32).toUInt32 &&& Int32.toUInt32 31)).toInt32)) &&& (252645135 : Int32)) + (((((((v0 - (((v0.toUInt32 >>> ((1 : Int32).toUInt32 &&& Int32.toUInt32 31)).toInt32) &&& (1431655765 : Int32))) &&& (858993459 : Int32)) + ((((v0 - (((v0.toUInt32 >>> ((1 : Int32).toUInt32 &&& Int32.toUInt32 31)).toInt32) &&& (1431655765 : Int32))).toUInt32 >>> ((2 : Int32).toUInt32 &&& Int32.toUInt32 31)).toInt32) &&& (858993459 : Int32))) + (((((v0 - (((v0.toUInt32 >>> ((1 : Int32).toUInt32 &&& Int32.toUInt32 31)).toInt32) &&& (1431655765 : Int32))) &&& (858993459 : Int32)) + ((((v0 - (((v0.toUInt32 >>> ((1 : Int32).toUInt32 &&& Int32.toUInt32 31)).toInt32) &&& (1431655765 : Int32))).toUInt32 >>> ((2 : Int32).toUInt32 &&& Int32.toUInt32 31)).toInt32) &&& (858993459 : Int32))).toUInt32 >>> ((4 : Int32).toUInt32 &&& Int32.toUInt32 31)).toInt32)) &&& (252645135 : Int32)).toUInt32 >>> ((8 : Int32).toUInt32 &&& Int32.toUInt32 31)).toInt32)) + ((((((((v0 - (((v0.toUInt32 >>> ((1 : Int32).toUInt32 &&& Int32.toUInt32 31)).toInt32) &&& (1431655765 : Int32))) &&& (858993459 : Int32)) + ((((v0 - (((v0.toUInt32 >>> ((1 : Int32).toUInt32 &&& Int32.toUInt32 31)).toInt32) &&& (1431655765 : Int32))).toUInt32 >>> ((2 : Int32).toUInt32 &&& Int32.toUInt32 31)).toInt32) &&& (858993459 : Int32))) + (((((v0 - (((v0.toUInt32 >>> ((1 : Int32).toUInt32 &&& Int32.toUInt32 31)).toInt32) &&& (1431655765 : Int32))) &&& (858993459 : Int32)) + ((((v0 - (((v0.toUInt32 >>> ((1 : Int32).toUInt32 &&& Int32.toUInt32 31)).toInt32) &&& (1431655765 : Int32))).toUInt32 >>> ((2 : Int32).toUInt32 &&& Int32.toUInt32 31)).toInt32) &&& (858993459 : Int32))).toUInt32 >>> ((4 : Int32).toUInt32 &&& Int32.toUInt32 31)).toInt32)) &&& (252645135 : Int32)) + (((((((v0 - (((v0.toUInt32 >>> ((1 : Int32).toUInt32 &&& Int32.toUInt32 31)).toInt32) &&& (1431655765 : Int32))) &&& (858993459 : Int32)) + ((((v0 - (((v0.toUInt32 >>> ((1 : Int32).toUInt32 &&& Int32.toUInt32 31)).toInt32) &&& (1431655765 : Int32))).toUInt32 >>> ((2 : Int32).toUInt32 &&& Int32.toUInt32 31)).toInt32) &&& (858993459 : Int32))) + (((((v0 - (((v0.toUInt32 >>> ((1 : Int32).toUInt32 &&& Int32.toUInt32 31)).toInt32) &&& (1431655765 : Int32))) &&& (858993459 : Int32)) + ((((v0 - (((v0.toUInt32 >>> ((1 : Int32).toUInt32 &&& Int32.toUInt32 31)).toInt32) &&& (1431655765 : Int32))).toUInt32 >>> ((2 : Int32).toUInt32 &&& Int32.toUInt32 31)).toInt32) &&& (858993459 : Int32))).toUInt32 >>> ((4 : Int32).toUInt32 &&& Int32.toUInt32 31)).toInt32)) &&& (252645135 : Int32)).toUInt32 >>> ((8 : Int32).toUInt32 &&& Int32.toUInt32 31)).toInt32)).toUInt32 >>> ((16 : Int32).toUInt32 &&& Int32.toUInt32 31)).toInt32)))]) X d_JInteger_bitCount_47 rfl (by decide) rfl rfl ?_
  refine V_iload_n (n := 0) X d_JInteger_bitCount_48 rfl rfl rfl ?_
  refine V_bipush (v := 63) X d_JInteger_bitCount_49 (by decide) rfl ?_
  refine V_iand X d_JInteger_bitCount_51 rfl ?_
  exact V_iret X (kr ((((((((v0 - (((v0.toUInt32 >>> ((1 : Int32).toUInt32 &&& Int32.toUInt32 31)).toInt32) &&& (1431655765 : Int32))) &&& (858993459 : Int32)) + ((((v0 - (((v0.toUInt32 >>> ((1 : Int32).toUInt32 &&& Int32.toUInt32 31)).toInt32) &&& (1431655765 : Int32))).toUInt32 >>> ((2 : Int32).toUInt32 &&& Int32.toUInt32 31)).toInt32) &&& (858993459 : Int32))) + (((((v0 - (((v0.toUInt32 >>> ((1 : Int32).toUInt32 &&& Int32.toUInt32 31)).toInt32) &&& (1431655765 : Int32))) &&& (858993459 : Int32)) + ((((v0 - (((v0.toUInt32 >>> ((1 : Int32).toUInt32 &&& Int32.toUInt32 31)).toInt32) &&& (1431655765 : Int32))).toUInt32 >>> ((2 : Int32).toUInt32 &&& Int32.toUInt32 31)).toInt32) &&& (858993459 : Int32))).toUInt32 >>> ((4 : Int32).toUInt32 &&& Int32.toUInt32 31)).toInt32)) &&& (252645135 : Int32)) + (((((((v0 - (((v0.toUInt32 >>> ((1 : Int32).toUInt32 &&& Int32.toUInt32 31)).toInt32) &&& (1431655765 : Int32))) &&& (858993459 : Int32)) + ((((v0 - (((v0.toUInt32 >>> ((1 : Int32).toUInt32 &&& Int32.toUInt32 31)).toInt32) &&& (1431655765 : Int32))).toUInt32 >>> ((2 : Int32).toUInt32 &&& Int32.toUInt32 31)).toInt32) &&& (858993459 : Int32))) + (((((v0 - (((v0.toUInt32 >>> ((1 : Int32).toUInt32 &&& Int32.toUInt32 31)).toInt32) &&& (1431655765 : Int32))) &&& (858993459 : Int32)) + ((((v0 - (((v0.toUInt32 >>> ((1 : Int32).toUInt32 &&& Int32.toUInt32 31)).toInt32) &&& (1431655765 : Int32))).toUInt32 >>> ((2 : Int32).toUInt32 &&& Int32.toUInt32 31)).toInt32) &&& (858993459 : Int32))).toUInt32 >>> ((4 : Int32).toUInt32 &&& Int32.toUInt32 31)).toInt32)) &&& (252645135 : Int32)).toUInt32 >>> ((8 : Int32).toUInt32 &&& Int32.toUInt32 31)).toInt32)) + ((((((((v0 - (((v0.toUInt32 >>> ((1 : Int32).toUInt32 &&& Int32.toUInt32 31)).toInt32) &&& (1431655765 : Int32))) &&& (858993459 : Int32)) + ((((v0 - (((v0.toUInt32 >>> ((1 : Int32).toUInt32 &&& Int32.toUInt32 31)).toInt32) &&& (1431655765 : Int32))).toUInt32 >>> ((2 : Int32).toUInt32 &&& Int32.toUInt32 31)).toInt32) &&& (858993459 : Int32))) + (((((v0 - (((v0.toUInt32 >>> ((1 : Int32).toUInt32 &&& Int32.toUInt32 31)).toInt32) &&& (1431655765 : Int32))) &&& (858993459 : Int32)) + ((((v0 - (((v0.toUInt32 >>> ((1 : Int32).toUInt32 &&& Int32.toUInt32 31)).toInt32) &&& (1431655765 : Int32))).toUInt32 >>> ((2 : Int32).toUInt32 &&& Int32.toUInt32 31)).toInt32) &&& (858993459 : Int32))).toUInt32 >>> ((4 : Int32).toUInt32 &&& Int32.toUInt32 31)).toInt32)) &&& (252645135 : Int32)) + (((((((v0 - (((v0.toUInt32 >>> ((1 : Int32).toUInt32 &&& Int32.toUInt32 31)).toInt32) &&& (1431655765 : Int32))) &&& (858993459 : Int32)) + ((((v0 - (((v0.toUInt32 >>> ((1 : Int32).toUInt32 &&& Int32.toUInt32 31)).toInt32) &&& (1431655765 : Int32))).toUInt32 >>> ((2 : Int32).toUInt32 &&& Int32.toUInt32 31)).toInt32) &&& (858993459 : Int32))) + (((((v0 - (((v0.toUInt32 >>> ((1 : Int32).toUInt32 &&& Int32.toUInt32 31)).toInt32) &&& (1431655765 : Int32))) &&& (858993459 : Int32)) + ((((v0 - (((v0.toUInt32 >>> ((1 : Int32).toUInt32 &&& Int32.toUInt32 31)).toInt32) &&& (1431655765 : Int32))).toUInt32 >>> ((2 : Int32).toUInt32 &&& Int32.toUInt32 31)).toInt32) &&& (858993459 : Int32))).toUInt32 >>> ((4 : Int32).toUInt32 &&& Int32.toUInt32 31)).toInt32)) &&& (252645135 : Int32)).toUInt32 >>> ((8 : Int32).toUInt32 &&& Int32.toUInt32 31)).toInt32)).toUInt32 >>> ((16 : Int32).toUInt32 &&& Int32.toUInt32 31)).toInt32)) &&& (63 : Int32)) (Option.some.inj h).symm) d_JInteger_bitCount_52
def j_JInteger_numberOfTrailingZeros_62 (v0 : Int32) (v1 : Int32) : Option (Int32) :=
  if v0 ≤ (4 : Int32) then
  some (v1 + ((v0.toUInt32 >>> ((1 : Int32).toUInt32 &&& Int32.toUInt32 31)).toInt32))
  else
  some ((v1 + (2 : Int32)) + ((((v0.toUInt32 >>> ((2 : Int32).toUInt32 &&& Int32.toUInt32 31)).toInt32).toUInt32 >>> ((1 : Int32).toUInt32 &&& Int32.toUInt32 31)).toInt32))
theorem j_JInteger_numberOfTrailingZeros_62_ok {E : Ev} {G : Gw} {d : Nat} {post : Int32 → Mem → Prop} (X : Cx E G b_JInteger_numberOfTrailingZeros "java/lang/Integer" 2 d (some .int)) (hD : 1 ≤ d)  (v0 : Int32) (v1 : Int32)  (M : Mem)  (o : Int32) (h : j_JInteger_numberOfTrailingZeros_62 v0 v1 = some o) (kr : ∀ x9 : Int32, o = x9 → post x9 M) : V E (0, 0) G 2 (QI E G post) M 62 [(0, .int v0), (1, .int v1)] [] := by
  unfold j_JInteger_numberOfTrailingZeros_62 at h
  refine V_iload_n (n := 0) X d_JInteger_numberOfTrailingZeros_62 rfl rfl rfl ?_
  refine V_iconst (v := 4) X d_JInteger_numberOfTrailingZeros_63 (by decide) rfl ?_
  refine V_icmp_le (tgt := 74) X d_JInteger_numberOfTrailingZeros_64 (by decide) rfl (fun c1 => ?_) (fun c1 => ?_)
  · rw [if_pos c1] at h
    refine V_iload_n (n := 1) X d_JInteger_numberOfTrailingZeros_74 rfl rfl rfl ?_
    refine V_iload_n (n := 0) X d_JInteger_numberOfTrailingZeros_75 rfl rfl rfl ?_
    refine V_iconst (v := 1) X d_JInteger_numberOfTrailingZeros_76 (by decide) rfl ?_
    refine V_iushr X d_JInteger_numberOfTrailingZeros_77 rfl ?_
    refine V_iadd X d_JInteger_numberOfTrailingZeros_78 rfl ?_
    exact V_iret X (kr (v1 + ((v0.toUInt32 >>> ((1 : Int32).toUInt32 &&& Int32.toUInt32 31)).toInt32)) (Option.some.inj h).symm) d_JInteger_numberOfTrailingZeros_79
  · rw [if_neg c1] at h
    refine V_iinc (n := 1) (v := (v1 + (2 : Int32))) (lv' := [(1, .int (v1 + (2 : Int32))), (0, .int v0)]) X d_JInteger_numberOfTrailingZeros_67 rfl rfl (by decide) rfl rfl ?_
    refine V_iload_n (n := 1) X d_JInteger_numberOfTrailingZeros_70 rfl rfl rfl ?_
    refine V_iconst (v := 2) X d_JInteger_numberOfTrailingZeros_71 (by decide) rfl ?_
    refine V_iushr X d_JInteger_numberOfTrailingZeros_72 rfl ?_
    refine V_istore_n (lv' := [(0, .int ((v0.toUInt32 >>> ((2 : Int32).toUInt32 &&& Int32.toUInt32 31)).toInt32)), (1, .int (v1 + (2 : Int32)))]) X d_JInteger_numberOfTrailingZeros_73 rfl (by decide) rfl rfl ?_
    refine V_iload_n (n := 1) X d_JInteger_numberOfTrailingZeros_74 rfl rfl rfl ?_
    refine V_iload_n (n := 0) X d_JInteger_numberOfTrailingZeros_75 rfl rfl rfl ?_
    refine V_iconst (v := 1) X d_JInteger_numberOfTrailingZeros_76 (by decide) rfl ?_
    refine V_iushr X d_JInteger_numberOfTrailingZeros_77 rfl ?_
    refine V_iadd X d_JInteger_numberOfTrailingZeros_78 rfl ?_
    exact V_iret X (kr ((v1 + (2 : Int32)) + ((((v0.toUInt32 >>> ((2 : Int32).toUInt32 &&& Int32.toUInt32 31)).toInt32).toUInt32 >>> ((1 : Int32).toUInt32 &&& Int32.toUInt32 31)).toInt32)) (Option.some.inj h).symm) d_JInteger_numberOfTrailingZeros_79
def j_JInteger_numberOfTrailingZeros_49 (v0 : Int32) (v1 : Int32) : Option (Int32) :=
  if v0 ≤ (16 : Int32) then
  j_JInteger_numberOfTrailingZeros_62 v0 v1
  else
  j_JInteger_numberOfTrailingZeros_62 ((v0.toUInt32 >>> ((4 : Int32).toUInt32 &&& Int32.toUInt32 31)).toInt32) (v1 + (4 : Int32))
theorem j_JInteger_numberOfTrailingZeros_49_ok {E : Ev} {G : Gw} {d : Nat} {post : Int32 → Mem → Prop} (X : Cx E G b_JInteger_numberOfTrailingZeros "java/lang/Integer" 2 d (some .int)) (hD : 1 ≤ d)  (v0 : Int32) (v1 : Int32)  (M : Mem)  (o : Int32) (h : j_JInteger_numberOfTrailingZeros_49 v0 v1 = some o) (kr : ∀ x9 : Int32, o = x9 → post x9 M) : V E (0, 0) G 2 (QI E G post) M 49 [(0, .int v0), (1, .int v1)] [] := by
  unfold j_JInteger_numberOfTrailingZeros_49 at h
  refine V_iload_n (n := 0) X d_JInteger_numberOfTrailingZeros_49 rfl rfl rfl ?_
  refine V_bipush (v := 16) X d_JInteger_numberOfTrailingZeros_50 (by decide) rfl ?_
  refine V_icmp_le (tgt := 62) X d_JInteger_numberOfTrailingZeros_52 (by decide) rfl (fun c2 => ?_) (fun c2 => ?_)
  · rw [if_pos c2] at h
    exact j_JInteger_numberOfTrailingZeros_62_ok X hD v0 v1 M _ h kr
  · rw [if_neg c2] at h
    refine V_iinc (n := 1) (v := (v1 + (4 : Int32))) (lv' := [(1, .int (v1 + (4 : Int32))), (0, .int v0)]) X d_JInteger_numberOfTrailingZeros_55 rfl rfl (by decide) rfl rfl ?_
    refine V_iload_n (n := 1) X d_JInteger_numberOfTrailingZeros_58 rfl rfl rfl ?_
    refine V_iconst (v := 4) X d_JInteger_numberOfTrailingZeros_59 (by decide) rfl ?_
    refine V_iushr X d_JInteger_numberOfTrailingZeros_60 rfl ?_
    refine V_istore_n (lv' := [(0, .int ((v0.toUInt32 >>> ((4 : Int32).toUInt32 &&& Int32.toUInt32 31)).toInt32)), (1, .int (v1 + (4 : Int32)))]) X d_JInteger_numberOfTrailingZeros_61 rfl (by decide) rfl rfl ?_
    exact j_JInteger_numberOfTrailingZeros_62_ok X hD ((v0.toUInt32 >>> ((4 : Int32).toUInt32 &&& Int32.toUInt32 31)).toInt32) (v1 + (4 : Int32)) M _ h kr
def j_JInteger_numberOfTrailingZeros_34 (v0 : Int32) (v1 : Int32) : Option (Int32) :=
  if v0 ≤ (256 : Int32) then
  j_JInteger_numberOfTrailingZeros_49 v0 v1
  else
  j_JInteger_numberOfTrailingZeros_49 ((v0.toUInt32 >>> ((8 : Int32).toUInt32 &&& Int32.toUInt32 31)).toInt32) (v1 + (8 : Int32))
theorem j_JInteger_numberOfTrailingZeros_34_ok {E : Ev} {G : Gw} {d : Nat} {post : Int32 → Mem → Prop} (X : Cx E G b_JInteger_numberOfTrailingZeros "java/lang/Integer" 2 d (some .int)) (hD : 1 ≤ d)  (v0 : Int32) (v1 : Int32)  (M : Mem)  (o : Int32) (h : j_JInteger_numberOfTrailingZeros_34 v0 v1 = some o) (kr : ∀ x9 : Int32, o = x9 → post x9 M) : V E (0, 0) G 2 (QI E G post) M 34 [(0, .int v0), (1, .int v1)] [] := by
  unfold j_JInteger_numberOfTrailingZeros_34 at h
  refine V_iload_n (n := 0) X d_JInteger_numberOfTrailingZeros_34 rfl rfl rfl ?_
  refine V_sipush (v := 256) X d_JInteger_numberOfTrailingZeros_35 (by decide) rfl ?_
  refine V_icmp_le (tgt := 49) X d_JInteger_numberOfTrailingZeros_38 (by decide) rfl (fun c3 => ?_) (fun c3 => ?_)
  · rw [if_pos c3] at h
    exact j_JInteger_numberOfTrailingZeros_49_ok X hD v0 v1 M _ h kr
  · rw [if_neg c3] at h
    refine V_iinc (n := 1) (v := (v1 + (8 : Int32))) (lv' := [(1, .int (v1 + (8 : Int32))), (0, .int v0)]) X d_JInteger_numberOfTrailingZeros_41 rfl rfl (by decide) rfl rfl ?_
    refine V_iload_n (n := 1) X d_JInteger_numberOfTrailingZeros_44 rfl rfl rfl ?_
    refine V_bipush (v := 8) X d_JInteger_numberOfTrailingZeros_45 (by decide) rfl ?_
    refine V_iushr X d_JInteger_numberOfTrailingZeros_47 rfl ?_
    refine V_istore_n (lv' := [(0, .int ((v0.toUInt32 >>> ((8 : Int32).toUInt32 &&& Int32.toUInt32 31)).toInt32)), (1, .int (v1 + (8 : Int32)))]) X d_JInteger_numberOfTrailingZeros_48 rfl (by decide) rfl rfl ?_
    exact j_JInteger_numberOfTrailingZeros_49_ok X hD ((v0.toUInt32 >>> ((8 : Int32).toUInt32 &&& Int32.toUInt32 31)).toInt32) (v1 + (8 : Int32)) M _ h kr
def f_JInteger_numberOfTrailingZeros (v0 : Int32) : Option (Int32) :=
  if 0 < ((v0 ^^^ (-1 : Int32)) &&& (v0 - (1 : Int32))) then
  if ((v0 ^^^ (-1 : Int32)) &&& (v0 - (1 : Int32))) ≤ (65536 : Int32) then
  j_JInteger_numberOfTrailingZeros_34 ((v0 ^^^ (-1 : Int32)) &&& (v0 - (1 : Int32))) (1 : Int32)
  else
  j_JInteger_numberOfTrailingZeros_34 ((((v0 ^^^ (-1 : Int32)) &&& (v0 - (1 : Int32))).toUInt32 >>> ((16 : Int32).toUInt32 &&& Int32.toUInt32 31)).toInt32) ((1 : Int32) + (16 : Int32))
  else
  some (((v0 ^^^ (-1 : Int32)) &&& (v0 - (1 : Int32))) &&& (32 : Int32))
theorem c_JInteger_numberOfTrailingZeros (l : Launch) (G : Gw)  (v0 : Int32) (M : Mem) (x : Int32) (h : f_JInteger_numberOfTrailingZeros v0 = some x) (d : Nat) (hD : 1 ≤ d) : Ci l G y_JInteger_numberOfTrailingZeros b_JInteger_numberOfTrailingZeros 2 (some .int) d [.int v0] M (fun r9 M9 => r9 = x ∧ M9 = M) := by
  refine Ci_of (by decide) (Nat.le_of_ble_eq_true rfl) (fun E hE X => ?_)
  subst hE
  have kr : ∀ x9 : Int32, x = x9 → (fun r9 M9 => r9 = x ∧ M9 = M) x9 M := fun x9 e9 => by subst e9; exact ⟨rfl, rfl⟩
  unfold f_JInteger_numberOfTrailingZeros at h
  refine V_iload_n (n := 0) X d_JInteger_numberOfTrailingZeros_0 rfl rfl rfl ?_
  refine V_iconst (v := -1) X d_JInteger_numberOfTrailingZeros_1 (by decide) rfl ?_
  refine V_ixor X d_JInteger_numberOfTrailingZeros_2 rfl ?_
  refine V_iload_n (n := 0) X d_JInteger_numberOfTrailingZeros_3 rfl rfl rfl ?_
  refine V_iconst (v := 1) X d_JInteger_numberOfTrailingZeros_4 (by decide) rfl ?_
  refine V_isub X d_JInteger_numberOfTrailingZeros_5 rfl ?_
  refine V_iand X d_JInteger_numberOfTrailingZeros_6 rfl ?_
  refine V_istore_n (lv' := [(0, .int ((v0 ^^^ (-1 : Int32)) &&& (v0 - (1 : Int32))))]) X d_JInteger_numberOfTrailingZeros_7 rfl (by decide) rfl rfl ?_
  refine V_iload_n (n := 0) X d_JInteger_numberOfTrailingZeros_8 rfl rfl rfl ?_
  refine V_if_gt (tgt := 17) X d_JInteger_numberOfTrailingZeros_9 (by decide) rfl (fun c5 => ?_) (fun c5 => ?_)
  · rw [if_pos c5] at h
    refine V_iconst (v := 1) X d_JInteger_numberOfTrailingZeros_17 (by decide) rfl ?_
    refine V_istore_n (lv' := [(1, .int (1 : Int32)), (0, .int ((v0 ^^^ (-1 : Int32)) &&& (v0 - (1 : Int32))))]) X d_JInteger_numberOfTrailingZeros_18 rfl (by decide) rfl rfl ?_
    refine V_iload_n (n := 1) X d_JInteger_numberOfTrailingZeros_19 rfl rfl rfl ?_
    refine V_ldc_w (v := 65536) X d_JInteger_numberOfTrailingZeros_20 kc_JInteger_264 rfl ?_
    refine V_icmp_le (tgt := 34) X d_JInteger_numberOfTrailingZeros_23 (by decide) rfl (fun c4 => ?_) (fun c4 => ?_)
    · rw [if_pos c4] at h
      refine V_sub (lv' := [(0, .int ((v0 ^^^ (-1 : Int32)) &&& (v0 - (1 : Int32)))), (1, .int (1 : Int32))]) [1, 0] rfl ?_
      exact j_JInteger_numberOfTrailingZeros_34_ok X hD ((v0 ^^^ (-1 : Int32)) &&& (v0 - (1 : Int32))) (1 : Int32) M _ h kr
    · rw [if_neg c4] at h
      refine V_iinc (n := 0) (v := ((1 : Int32) + (16 : Int32))) (lv' := [(1, .int ((1 : Int32) + (16 : Int32))), (0, .int ((v0 ^^^ (-1 : Int32)) &&& (v0 - (1 : Int32))))]) X d_JInteger_numberOfTrailingZeros_26 rfl rfl (by decide) rfl rfl ?_
      refine V_iload_n (n := 1) X d_JInteger_numberOfTrailingZeros_29 rfl rfl rfl ?_
      refine V_bipush (v := 16) X d_JInteger_numberOfTrailingZeros_30 (by decide) rfl ?_
      refine V_iushr X d_JInteger_numberOfTrailingZeros_32 rfl ?_
      refine V_istore_n (lv' := [(0, .int ((((v0 ^^^ (-1 : Int32)) &&& (v0 - (1 : Int32))).toUInt32 >>> ((16 : Int32).toUInt32 &&& Int32.toUInt32 31)).toInt32)), (1, .int ((1 : Int32) + (16 : Int32)))]) X d_JInteger_numberOfTrailingZeros_33 rfl (by decide) rfl rfl ?_
      exact j_JInteger_numberOfTrailingZeros_34_ok X hD ((((v0 ^^^ (-1 : Int32)) &&& (v0 - (1 : Int32))).toUInt32 >>> ((16 : Int32).toUInt32 &&& Int32.toUInt32 31)).toInt32) ((1 : Int32) + (16 : Int32)) M _ h kr
  · rw [if_neg c5] at h
    refine V_iload_n (n := 0) X d_JInteger_numberOfTrailingZeros_12 rfl rfl rfl ?_
    refine V_bipush (v := 32) X d_JInteger_numberOfTrailingZeros_13 (by decide) rfl ?_
    refine V_iand X d_JInteger_numberOfTrailingZeros_15 rfl ?_
    exact V_iret X (kr (((v0 ^^^ (-1 : Int32)) &&& (v0 - (1 : Int32))) &&& (32 : Int32)) (Option.some.inj h).symm) d_JInteger_numberOfTrailingZeros_16
def f_JLong_bitCount (v0 : Int64) : Option (Int32) :=
  some ((((((((((v0 - (((v0.toUInt64 >>> ((1 : Int32).toInt64.toUInt64 &&& Int64.toUInt64 63)).toInt64) &&& (6148914691236517205 : Int64))) &&& (3689348814741910323 : Int64)) + ((((v0 - (((v0.toUInt64 >>> ((1 : Int32).toInt64.toUInt64 &&& Int64.toUInt64 63)).toInt64) &&& (6148914691236517205 : Int64))).toUInt64 >>> ((2 : Int32).toInt64.toUInt64 &&& Int64.toUInt64 63)).toInt64) &&& (3689348814741910323 : Int64))) + (((((v0 - (((v0.toUInt64 >>> ((1 : Int32).toInt64.toUInt64 &&& Int64.toUInt64 63)).toInt64) &&& (6148914691236517205 : Int64))) &&& (3689348814741910323 : Int64)) + ((((v0 - (((v0.toUInt64 >>> ((1 : Int32).toInt64.toUInt64 &&& Int64.toUInt64 63)).toInt64) &&& (6148914691236517205 : Int64))).toUInt64 >>> ((2 : Int32).toInt64.toUInt64 &&& Int64.toUInt64 63)).toInt64) &&& (3689348814741910323 : Int64))).toUInt64 >>> ((4 : Int32).toInt64.toUInt64 &&& Int64.toUInt64 63)).toInt64)) &&& (1085102592571150095 : Int64)) + (((((((v0 - (((v0.toUInt64 >>> ((1 : Int32).toInt64.toUInt64 &&& Int64.toUInt64 63)).toInt64) &&& (6148914691236517205 : Int64))) &&& (3689348814741910323 : Int64)) + ((((v0 - (((v0.toUInt64 >>> ((1 : Int32).toInt64.toUInt64 &&& Int64.toUInt64 63)).toInt64) &&& (6148914691236517205 : Int64))).toUInt64 >>> ((2 : Int32).toInt64.toUInt64 &&& Int64.toUInt64 63)).toInt64) &&& (3689348814741910323 : Int64))) + (((((v0 - (((v0.toUInt64 >>> ((1 : Int32).toInt64.toUInt64 &&& Int64.toUInt64 63)).toInt64) &&& (6148914691236517205 : Int64))) &&& (3689348814741910323 : Int64)) + ((((v0 - (((v0.toUInt64 >>> ((1 : Int32).toInt64.toUInt64 &&& Int64.toUInt64 63)).toInt64) &&& (6148914691236517205 : Int64))).toUInt64 >>> ((2 : Int32).toInt64.toUInt64 &&& Int64.toUInt64 63)).toInt64) &&& (3689348814741910323 : Int64))).toUInt64 >>> ((4 : Int32).toInt64.toUInt64 &&& Int64.toUInt64 63)).toInt64)) &&& (1085102592571150095 : Int64)).toUInt64 >>> ((8 : Int32).toInt64.toUInt64 &&& Int64.toUInt64 63)).toInt64)) + ((((((((v0 - (((v0.toUInt64 >>> ((1 : Int32).toInt64.toUInt64 &&& Int64.toUInt64 63)).toInt64) &&& (6148914691236517205 : Int64))) &&& (3689348814741910323 : Int64)) + ((((v0 - (((v0.toUInt64 >>> ((1 : Int32).toInt64.toUInt64 &&& Int64.toUInt64 63)).toInt64) &&& (6148914691236517205 : Int64))).toUInt64 >>> ((2 : Int32).toInt64.toUInt64 &&& Int64.toUInt64 63)).toInt64) &&& (3689348814741910323 : Int64))) + (((((v0 - (((v0.toUInt64 >>> ((1 : Int32).toInt64.toUInt64 &&& Int64.toUInt64 63)).toInt64) &&& (6148914691236517205 : Int64))) &&& (3689348814741910323 : Int64)) + ((((v0 - (((v0.toUInt64 >>> ((1 : Int32).toInt64.toUInt64 &&& Int64.toUInt64 63)).toInt64) &&& (6148914691236517205 : Int64))).toUInt64 >>> ((2 : Int32).toInt64.toUInt64 &&& Int64.toUInt64 63)).toInt64) &&& (3689348814741910323 : Int64))).toUInt64 >>> ((4 : Int32).toInt64.toUInt64 &&& Int64.toUInt64 63)).toInt64)) &&& (1085102592571150095 : Int64)) + (((((((v0 - (((v0.toUInt64 >>> ((1 : Int32).toInt64.toUInt64 &&& Int64.toUInt64 63)).toInt64) &&& (6148914691236517205 : Int64))) &&& (3689348814741910323 : Int64)) + ((((v0 - (((v0.toUInt64 >>> ((1 : Int32).toInt64.toUInt64 &&& Int64.toUInt64 63)).toInt64) &&& (6148914691236517205 : Int64))).toUInt64 >>> ((2 : Int32).toInt64.toUInt64 &&& Int64.toUInt64 63)).toInt64) &&& (3689348814741910323 : Int64))) + (((((v0 - (((v0.toUInt64 >>> ((1 : Int32).toInt64.toUInt64 &&& Int64.toUInt64 63)).toInt64) &&& (6148914691236517205 : Int64))) &&& (3689348814741910323 : Int64)) + ((((v0 - (((v0.toUInt64 >>> ((1 : Int32).toInt64.toUInt64 &&& Int64.toUInt64 63)).toInt64) &&& (6148914691236517205 : Int64))).toUInt64 >>> ((2 : Int32).toInt64.toUInt64 &&& Int64.toUInt64 63)).toInt64) &&& (3689348814741910323 : Int64))).toUInt64 >>> ((4 : Int32).toInt64.toUInt64 &&& Int64.toUInt64 63)).toInt64)) &&& (1085102592571150095 : Int64)).toUInt64 >>> ((8 : Int32).toInt64.toUInt64 &&& Int64.toUInt64 63)).toInt64)).toUInt64 >>> ((16 : Int32).toInt64.toUInt64 &&& Int64.toUInt64 63)).toInt64)) + (((((((((v0 - (((v0.toUInt64 >>> ((1 : Int32).toInt64.toUInt64 &&& Int64.toUInt64 63)).toInt64) &&& (6148914691236517205 : Int64))) &&& (3689348814741910323 : Int64)) + ((((v0 - (((v0.toUInt64 >>> ((1 : Int32).toInt64.toUInt64 &&& Int64.toUInt64 63)).toInt64) &&& (6148914691236517205 : Int64))).toUInt64 >>> ((2 : Int32).toInt64.toUInt64 &&& Int64.toUInt64 63)).toInt64) &&& (3689348814741910323 : Int64))) + (((((v0 - (((v0.toUInt64 >>> ((1 : Int32).toInt64.toUInt64 &&& Int64.toUInt64 63)).toInt64) &&& (6148914691236517205 : Int64))) &&& (3689348814741910323 : Int64)) + ((((v0 - (((v0.toUInt64 >>> ((1 : Int32).toInt64.toUInt64 &&& Int64.toUInt64 63)).toInt64) &&& (6148914691236517205 : Int64))).toUInt64 >>> ((2 : Int32).toInt64.toUInt64 &&& Int64.toUInt64 63)).toInt64) &&& (3689348814741910323 : Int64))).toUInt64 >>> ((4 : Int32).toInt64.toUInt64 &&& Int64.toUInt64 63)).toInt64)) &&& (1085102592571150095 : Int64)) + (((((((v0 - (((v0.toUInt64 >>> ((1 : Int32).toInt64.toUInt64 &&& Int64.toUInt64 63)).toInt64) &&& (6148914691236517205 : Int64))) &&& (3689348814741910323 : Int64)) + ((((v0 - (((v0.toUInt64 >>> ((1 : Int32).toInt64.toUInt64 &&& Int64.toUInt64 63)).toInt64) &&& (6148914691236517205 : Int64))).toUInt64 >>> ((2 : Int32).toInt64.toUInt64 &&& Int64.toUInt64 63)).toInt64) &&& (3689348814741910323 : Int64))) + (((((v0 - (((v0.toUInt64 >>> ((1 : Int32).toInt64.toUInt64 &&& Int64.toUInt64 63)).toInt64) &&& (6148914691236517205 : Int64))) &&& (3689348814741910323 : Int64)) + ((((v0 - (((v0.toUInt64 >>> ((1 : Int32).toInt64.toUInt64 &&& Int64.toUInt64 63)).toInt64) &&& (6148914691236517205 : Int64))).toUInt64 >>> ((2 : Int32).toInt64.toUInt64 &&& Int64.toUInt64 63)).toInt64) &&& (3689348814741910323 : Int64))).toUInt64 >>> ((4 : Int32).toInt64.toUInt64 &&& Int64.toUInt64 63)).toInt64)) &&& (1085102592571150095 : Int64)).toUInt64 >>> ((8 : Int32).toInt64.toUInt64 &&& Int64.toUInt64 63)).toInt64)) + ((((((((v0 - (((v0.toUInt64 >>> ((1 : Int32).toInt64.toUInt64 &&& Int64.toUInt64 63)).toInt64) &&& (6148914691236517205 : Int64))) &&& (3689348814741910323 : Int64)) + ((((v0 - (((v0.toUInt64 >>> ((1 : Int32).toInt64.toUInt64 &&& Int64.toUInt64 63)).toInt64) &&& (6148914691236517205 : Int64))).toUInt64 >>> ((2 : Int32).toInt64.toUInt64 &&& Int64.toUInt64 63)).toInt64) &&& (3689348814741910323 : Int64))) + (((((v0 - (((v0.toUInt64 >>> ((1 : Int32).toInt64.toUInt64 &&& Int64.toUInt64 63)).toInt64) &&& (6148914691236517205 : Int64))) &&& (3689348814741910323 : Int64)) + ((((v0 - (((v0.toUInt64 >>> ((1 : Int32).toInt64.toUInt64 &&& Int64.toUInt64 63)).toInt64) &&& (6148914691236517205 : Int64))).toUInt64 >>> ((2 : Int32).toInt64.toUInt64 &&& Int64.toUInt64 63)).toInt64) &&& (3689348814741910323 : Int64))).toUInt64 >>> ((4 : Int32).toInt64.toUInt64 &&& Int64.toUInt64 63)).toInt64)) &&& (1085102592571150095 : Int64)) + (((((((v0 - (((v0.toUInt64 >>> ((1 : Int32).toInt64.toUInt64 &&& Int64.toUInt64 63)).toInt64) &&& (6148914691236517205 : Int64))) &&& (3689348814741910323 : Int64)) + ((((v0 - (((v0.toUInt64 >>> ((1 : Int32).toInt64.toUInt64 &&& Int64.toUInt64 63)).toInt64) &&& (6148914691236517205 : Int64))).toUInt64 >>> ((2 : Int32).toInt64.toUInt64 &&& Int64.toUInt64 63)).toInt64) &&& (3689348814741910323 : Int64))) + (((((v0 - (((v0.toUInt64 >>> ((1 : Int32).toInt64.toUInt64 &&& Int64.toUInt64 63)).toInt64) &&& (6148914691236517205 : Int64))) &&& (3689348814741910323 : Int64)) + ((((v0 - (((v0.toUInt64 >>> ((1 : Int32).toInt64.toUInt64 &&& Int64.toUInt64 63)).toInt64) &&& (6148914691236517205 : Int64))).toUInt64 >>> ((2 : Int32).toInt64.toUInt64 &&& Int64.toUInt64 63)).toInt64) &&& (3689348814741910323 : Int64))).toUInt64 >>> ((4 : Int32).toInt64.toUInt64 &&& Int64.toUInt64 63)).toInt64)) &&& (1085102592571150095 : Int64)).toUInt64 >>> ((8 : Int32).toInt64.toUInt64 &&& Int64.toUInt64 63)).toInt64)).toUInt64 >>> ((16 : Int32).toInt64.toUInt64 &&& Int64.toUInt64 63)).toInt64)).toUInt64 >>> ((32 : Int32).toInt64.toUInt64 &&& Int64.toUInt64 63)).toInt64)).toInt32) &&& (127 : Int32))
theorem c_JLong_bitCount (l : Launch) (G : Gw)  (v0 : Int64) (M : Mem) (x : Int32) (h : f_JLong_bitCount v0 = some x) (d : Nat) (hD : 1 ≤ d) : Ci l G y_JLong_bitCount b_JLong_bitCount 2 (some .int) d [.long v0] M (fun r9 M9 => r9 = x ∧ M9 = M) := by
  refine Ci_of (by decide) (Nat.le_of_ble_eq_true rfl) (fun E hE X => ?_)
  subst hE
  have kr : ∀ x9 : Int32, x = x9 → (fun r9 M9 => r9 = x ∧ M9 = M) x9 M := fun x9 e9 => by subst e9; exact ⟨rfl, rfl⟩
  unfold f_JLong_bitCount at h
  refine V_lload_n (n := 0) X d_JLong_bitCount_0 rfl rfl rfl ?_
  refine V_lload_n (n := 0) X d_JLong_bitCount_1 rfl rfl rfl ?_
  refine V_iconst (v := 1) X d_JLong_bitCount_2 (by decide) rfl ?_
  refine V_lushr X d_JLong_bitCount_3 rfl ?_
  refine V_ldc2_w (v := 6148914691236517205) X d_JLong_bitCount_4 kc_JLong_314 rfl ?_
  refine V_land X d_JLong_bitCount_7 rfl ?_
  refine V_lsub X d_JLong_bitCount_8 rfl ?_
  refine V_lstore_n (lv' := [(0, .long (v0 - (((v0.toUInt64 >>> ((1 : Int32).toInt64.toUInt64 &&& Int64.toUInt64 63)).toInt64) &&& (6148914691236517205 : Int64))))]) X d_JLong_bitCount_9 rfl (by decide) rfl rfl ?_
  refine V_lload_n (n := 0) X d_JLong_bitCount_10 rfl rfl rfl ?_
  refine V_ldc2_w (v := 3689348814741910323) X d_JLong_bitCount_11 kc_JLong_316 rfl ?_
  refine V_land X d_JLong_bitCount_14 rfl ?_
  refine V_lload_n (n := 0) X d_JLong_bitCount_15 rfl rfl rfl ?_
  refine V_iconst (v := 2) X d_JLong_bitCount_16 (by decide) rfl ?_
  refine V_lushr X d_JLong_bitCount_17 rfl ?_
  refine V_ldc2_w (v := 3689348814741910323) X d_JLong_bitCount_18 kc_JLong_316 rfl ?_
  refine V_land X d_JLong_bitCount_21 rfl ?_
  refine V_ladd X d_JLong_bitCount_22 rfl ?_
  refine V_lstore_n (lv' := [(0, .long (((v0 - (((v0.toUInt64 >>> ((1 : Int32).toInt64.toUInt64 &&& Int64.toUInt64 63)).toInt64) &&& (6148914691236517205 : Int64))) &&& (3689348814741910323 : Int64)) + ((((v0 - (((v0.toUInt64 >>> ((1 : Int32).toInt64.toUInt64 &&& Int64.toUInt64 63)).toInt64) &&& (6148914691236517205 : Int64))).toUInt64 >>> ((2 : Int32).toInt64.toUInt64 &&& Int64.toUInt64 63)).toInt64) &&& (3689348814741910323 : Int64))))]) X d_JLong_bitCount_23 rfl (by decide) rfl rfl ?_
  refine V_lload_n (n := 0) X d_JLong_bitCount_24 rfl rfl rfl ?_
  refine V_lload_n (n := 0) X d_JLong_bitCount_25 rfl rfl rfl ?_
  refine V_iconst (v := 4) X d_JLong_bitCount_26 (by decide) rfl ?_
  refine V_lushr X d_JLong_bitCount_27 rfl ?_
  refine V_ladd X d_JLong_bitCount_28 rfl ?_
  refine V_ldc2_w (v := 1085102592571150095) X d_JLong_bitCount_29 kc_JLong_318 rfl ?_
  refine V_land X d_JLong_bitCount_32 rfl ?_
  refine V_lstore_n (lv' := [(0, .long (((((v0 - (((v0.toUInt64 >>> ((1 : Int32).toInt64.toUInt64 &&& Int64.toUInt64 63)).toInt64) &&& (6148914691236517205 : Int64))) &&& (3689348814741910323 : Int64)) + ((((v0 - (((v0.toUInt64 >>> ((1 : Int32).toInt64.toUInt64 &&& Int64.toUInt64 63)).toInt64) &&& (6148914691236517205 : Int64))).toUInt64 >>> ((2 : Int32).toInt64.toUInt64 &&& Int64.toUInt64 63)).toInt64) &&& (3689348814741910323 : Int64))) + (((((v0 - (((v0.toUInt64 >>> ((1 : Int32).toInt64.toUInt64 &&& Int64.toUInt64 63)).toInt64) &&& (6148914691236517205 : Int64))) &&& (3689348814741910323 : Int64)) + ((((v0 - (((v0.toUInt64 >>> ((1 : Int32).toInt64.toUInt64 &&& Int64.toUInt64 63)).toInt64) &&& (6148914691236517205 : Int64))).toUInt64 >>> ((2 : Int32).toInt64.toUInt64 &&& Int64.toUInt64 63)).toInt64) &&& (3689348814741910323 : Int64))).toUInt64 >>> ((4 : Int32).toInt64.toUInt64 &&& Int64.toUInt64 63)).toInt64)) &&& (1085102592571150095 : Int64)))]) X d_JLong_bitCount_33 rfl (by decide) rfl rfl ?_
  refine V_lload_n (n := 0) X d_JLong_bitCount_34 rfl rfl rfl ?_
  refine V_lload_n (n := 0) X d_JLong_bitCount_35 rfl rfl rfl ?_
  refine V_bipush (v := 8) X d_JLong_bitCount_36 (by decide) rfl ?_
  refine V_lushr X d_JLong_bitCount_38 rfl ?_
  refine V_ladd X d_JLong_bitCount_39 rfl ?_
  refine V_lstore_n (lv' := [(0, .long ((((((v0 - (((v0.toUInt64 >>> ((1 : Int32).toInt64.toUInt64 &&& Int64.toUInt64 63)).toInt64) &&& (6148914691236517205 : Int64))) &&& (3689348814741910323 : Int64)) + ((((v0 - (((v0.toUInt64 >>> ((1 : Int32).toInt64.toUInt64 &&& Int64.toUInt64 63)).toInt64) &&& (6148914691236517205 : Int64))).toUInt64 >>> ((2 : Int32).toInt64.toUInt64 &&& Int64.toUInt64 63)).toInt64) &&& (3689348814741910323 : Int64))) + (((((v0 - (((v0.toUInt64 >>> ((1 : Int32).toInt64.toUInt64 &&& Int64.toUInt64 63)).toInt64) &&& (6148914691236517205 : Int64))) &&& (3689348814741910323 : Int64)) + ((((v0 - (((v0.toUInt64 >>> ((1 : Int32).toInt64.toUInt64 &&& Int64.toUInt64 63)).toInt64) &&& (6148914691236517205 : Int64))).toUInt64 >>> ((2 : Int32).toInt64.toUInt64 &&& Int64.toUInt64 63)).toInt64) &&& (3689348814741910323 : Int64))).toUInt64 >>> ((4 : Int32).toInt64.toUInt64 &&& Int64.toUInt64 63)).toInt64)) &&& (1085102592571150095 : Int64)) + (((((((v0 - (((v0.toUInt64 >>> ((1 : Int32).toInt64.toUInt64 &&& Int64.toUInt64 63)).toInt64) &&& (6148914691236517205 : Int64))) &&& (3689348814741910323 : Int64)) + ((((v0 - (((v0.toUInt64 >>> ((1 : Int32).toInt64.toUInt64 &&& Int64.toUInt64 63)).toInt64) &&& (6148914691236517205 : Int64))).toUInt64 >>> ((2 : Int32).toInt64.toUInt64 &&& Int64.toUInt64 63)).toInt64) &&& (3689348814741910323 : Int64))) + (((((v0 - (((v0.toUInt64 >>> ((1 : Int32).toInt64.toUInt64 &&& Int64.toUInt64 63)).toInt64) &&& (6148914691236517205 : Int64))) &&& (3689348814741910323 : Int64)) + ((((v0 - (((v0.toUInt64 >>> ((1 : Int32).toInt64.toUInt64 &&& Int64.toUInt64 63)).toInt64) &&& (6148914691236517205 : Int64))).toUInt64 >>> ((2 : Int32).toInt64.toUInt64 &&& Int64.toUInt64 63)).toInt64) &&& (3689348814741910323 : Int64))).toUInt64 >>> ((4 : Int32).toInt64.toUInt64 &&& Int64.toUInt64 63)).toInt64)) &&& (1085102592571150095 : Int64)).toUInt64 >>> ((8 : Int32).toInt64.toUInt64 &&& Int64.toUInt64 63)).toInt64)))]) X d_JLong_bitCount_40 rfl (by decide) rfl rfl ?_
  refine V_lload_n (n := 0) X d_JLong_bitCount_41 rfl rfl rfl ?_
  refine V_lload_n (n := 0) X d_JLong_bitCount_42 rfl rfl rfl ?_
  refine V_bipush (v := 16) X d_JLong_bitCount_43 (by decide) rfl ?_
  refine V_lushr X d_JLong_bitCount_45 rfl ?_
  refine V_ladd X d_JLong_bitCount_46 rfl ?_
  refine V_lstore_n (lv' := [(0, .long (((((((v0 - (((v0.toUInt64 >>> ((1 : Int32).toInt64.toUInt64 &&& Int64.toUInt64 63)).toInt64) &&& (6148914691236517205 : Int64))) &&& (3689348814741910323 : Int64)) + ((((v0 - (((v0.toUInt64 >>> ((1 : Int32).toInt64.toUInt64 &&& Int64.toUInt64 63)).toInt64) &&& (6148914691236517205 : Int64))).toUInt64 >>> ((2 : Int32).toInt64.toUInt64 &&& Int64.toUInt64 63)).toInt64) &&& (3689348814741910323 : Int64))) + (((((v0 - (((v0.toUInt64 >>> ((1 : Int32).toInt64.toUInt64 &&& Int64.toUInt64 63)).toInt64) &&& (6148914691236517205 : Int64))) &&& (3689348814741910323 : Int64)) + ((((v0 - (((v0.toUInt64 >>> ((1 : Int32).toInt64.toUInt64 &&& Int64.toUInt64 63)).toInt64) &&& (6148914691236517205 : Int64))).toUInt64 >>> ((2 : Int32).toInt64.toUInt64 &&& Int64.toUInt64 63)).toInt64) &&& (3689348814741910323 : Int64))).toUInt64 >>> ((4 : Int32).toInt64.toUInt64 &&& Int64.toUInt64 63)).toInt64)) &&& (1085102592571150095 : Int64)) + (((((((v0 - (((v0.toUInt64 >>> ((1 : Int32).toInt64.toUInt64 &&& Int64.toUInt64 63)).toInt64) &&& (6148914691236517205 : Int64))) &&& (3689348814741910323 : Int64)) + ((((v0 - (((v0.toUInt64 >>> ((1 : Int32).toInt64.toUInt64 &&& Int64.toUInt64 63)).toInt64) &&& (6148914691236517205 : Int64))).toUInt64 >>> ((2 : Int32).toInt64.toUInt64 &&& Int64.toUInt64 63)).toInt64) &&& (3689348814741910323 : Int64))) + (((((v0 - (((v0.toUInt64 >>> ((1 : Int32).toInt64.toUInt64 &&& Int64.toUInt64 63)).toInt64) &&& (6148914691236517205 : Int64))) &&& (3689348814741910323 : Int64)) + ((((v0 - (((v0.toUInt64 >>> ((1 : Int32).toInt64.toUInt64 &&& Int64.toUInt64 63)).toInt64) &&& (6148914691236517205 : Int64))).toUInt64 >>> ((2 : Int32).toInt64.toUInt64 &&& Int64.toUInt64 63)).toInt64) &&& (3689348814741910323 : Int64))).toUInt64 >>> ((4 : Int32).toInt64.toUInt64 &&& Int64.toUInt64 63)).toInt64)) &&& (1085102592571150095 : Int64)).toUInt64 >>> ((8 : Int32).toInt64.toUInt64 &&& Int64.toUInt64 63)).toInt64)) + ((((((((v0 - (((v0.toUInt64 >>> ((1 : Int32).toInt64.toUInt64 &&& Int64.toUInt64 63)).toInt64) &&& (6148914691236517205 : Int64))) &&& (3689348814741910323 : Int64)) + ((((v0 - (((v0.toUInt64 >>> ((1 : Int32).toInt64.toUInt64 &&& Int64.toUInt64 63)).toInt64) &&& (6148914691236517205 : Int64))).toUInt64 >>> ((2 : Int32).toInt64.toUInt64 &&& Int64.toUInt64 63)).toInt64) &&& (3689348814741910323 : Int64))) + (((((v0 - (((v0.toUInt64 >>> ((1 : Int32).toInt64.toUInt64 &&& Int64.toUInt64 63)).toInt64) &&& (6148914691236517205 : Int64))) &&& (3689348814741910323 : Int64)) + ((((v0 - (((v0.toUInt64 >>> ((1 : Int32).toInt64.toUInt64 &&& Int64.toUInt64 63)).toInt64) &&& (6148914691236517205 : Int64))).toUInt64 >>> ((2 : Int32).toInt64.toUInt64 &&& Int64.toUInt64 63)).toInt64) &&& (3689348814741910323 : Int64))).toUInt64 >>> ((4 : Int32).toInt64.toUInt64 &&& Int64.toUInt64 63)).toInt64)) &&& (1085102592571150095 : Int64)) + (((((((v0 - (((v0.toUInt64 >>> ((1 : Int32).toInt64.toUInt64 &&& Int64.toUInt64 63)).toInt64) &&& (6148914691236517205 : Int64))) &&& (3689348814741910323 : Int64)) + ((((v0 - (((v0.toUInt64 >>> ((1 : Int32).toInt64.toUInt64 &&& Int64.toUInt64 63)).toInt64) &&& (6148914691236517205 : Int64))).toUInt64 >>> ((2 : Int32).toInt64.toUInt64 &&& Int64.toUInt64 63)).toInt64) &&& (3689348814741910323 : Int64))) + (((((v0 - (((v0.toUInt64 >>> ((1 : Int32).toInt64.toUInt64 &&& Int64.toUInt64 63)).toInt64) &&& (6148914691236517205 : Int64))) &&& (3689348814741910323 : Int64)) + ((((v0 - (((v0.toUInt64 >>> ((1 : Int32).toInt64.toUInt64 &&& Int64.toUInt64 63)).toInt64) &&& (6148914691236517205 : Int64))).toUInt64 >>> ((2 : Int32).toInt64.toUInt64 &&& Int64.toUInt64 63)).toInt64) &&& (3689348814741910323 : Int64))).toUInt64 >>> ((4 : Int32).toInt64.toUInt64 &&& Int64.toUInt64 63)).toInt64)) &&& (1085102592571150095 : Int64)).toUInt64 >>> ((8 : Int32).toInt64.toUInt64 &&& Int64.toUInt64 63)).toInt64)).toUInt64 >>> ((16 : Int32).toInt64.toUInt64 &&& Int64.toUInt64 63)).toInt64)))]) X d_JLong_bitCount_47 rfl (by decide) rfl rfl ?_
  refine V_lload_n (n := 0) X d_JLong_bitCount_48 rfl rfl rfl ?_
  refine V_lload_n (n := 0) X d_JLong_bitCount_49 rfl rfl rfl ?_
  refine V_bipush (v := 32) X d_JLong_bitCount_50 (by decide) rfl ?_
  refine V_lushr X d_JLong_bitCount_52 rfl ?_
  refine V_ladd X d_JLong_bitCount_53 rfl ?_
  refine V_lstore_n (lv' := [(0, .long ((((((((v0 - (((v0.toUInt64 >>> ((1 : Int32).toInt64.toUInt64 &&& Int64.toUInt64 63)).toInt64) &&& (6148914691236517205 : Int64))) &&& (3689348814741910323 : Int64)) + ((((v0 - (((v0.toUInt64 >>> ((1 : Int32).toInt64.toUInt64 &&& Int64.toUInt64 63)).toInt64) &&& (6148914691236517205 : Int64))).toUInt64 >>> ((2 : Int32).toInt64.toUInt64 &&& Int64.toUInt64 63)).toInt64) &&& (3689348814741910323 : Int64))) + (((((v0 - (((v0.toUInt64 >>> ((1 : Int32).toInt64.toUInt64 &&& Int64.toUInt64 63)).toInt64) &&& (6148914691236517205 : Int64))) &&& (3689348814741910323 : Int64)) + ((((v0 - (((v0.toUInt64 >>> ((1 : Int32).toInt64.toUInt64 &&& Int64.toUInt64 63)).toInt64) &&& (6148914691236517205 : Int64))).toUInt64 >>> ((2 : Int32).toInt64.toUInt64 &&& Int64.toUInt64 63)).toInt64) &&& (3689348814741910323 : Int64))).toUInt64 >>> ((4 : Int32).toInt64.toUInt64 &&& Int64.toUInt64 63)).toInt64)) &&& (1085102592571150095 : Int64)) + (((((((v0 - (((v0.toUInt64 >>> ((1 : Int32).toInt64.toUInt64 &&& Int64.toUInt64 63)).toInt64) &&& (6148914691236517205 : Int64))) &&& (3689348814741910323 : Int64)) + ((((v0 - (((v0.toUInt64 >>> ((1 : Int32).toInt64.toUInt64 &&& Int64.toUInt64 63)).toInt64) &&& (6148914691236517205 : Int64))).toUInt64 >>> ((2 : Int32).toInt64.toUInt64 &&& Int64.toUInt64 63)).toInt64) &&& (3689348814741910323 : Int64))) + (((((v0 - (((v0.toUInt64 >>> ((1 : Int32).toInt64.toUInt64 &&& Int64.toUInt64 63)).toInt64) &&& (6148914691236517205 : Int64))) &&& (3689348814741910323 : Int64)) + ((((v0 - (((v0.toUInt64 >>> ((1 : Int32).toInt64.toUInt64 &&& Int64.toUInt64 63)).toInt64) &&& (6148914691236517205 : Int64))).toUInt64 >>> ((2 : Int32).toInt64.toUInt64 &&& Int64.toUInt64 63)).toInt64) &&& (3689348814741910323 : Int64))).toUInt64 >>> ((4 : Int32).toInt64.toUInt64 &&& Int64.toUInt64 63)).toInt64)) &&& (1085102592571150095 : Int64)).toUInt64 >>> ((8 : Int32).toInt64.toUInt64 &&& Int64.toUInt64 63)).toInt64)) + ((((((((v0 - (((v0.toUInt64 >>> ((1 : Int32).toInt64.toUInt64 &&& Int64.toUInt64 63)).toInt64) &&& (6148914691236517205 : Int64))) &&& (3689348814741910323 : Int64)) + ((((v0 - (((v0.toUInt64 >>> ((1 : Int32).toInt64.toUInt64 &&& Int64.toUInt64 63)).toInt64) &&& (6148914691236517205 : Int64))).toUInt64 >>> ((2 : Int32).toInt64.toUInt64 &&& Int64.toUInt64 63)).toInt64) &&& (3689348814741910323 : Int64))) + (((((v0 - (((v0.toUInt64 >>> ((1 : Int32).toInt64.toUInt64 &&& Int64.toUInt64 63)).toInt64) &&& (6148914691236517205 : Int64))) &&& (3689348814741910323 : Int64)) + ((((v0 - (((v0.toUInt64 >>> ((1 : Int32).toInt64.toUInt64 &&& Int64.toUInt64 63)).toInt64) &&& (6148914691236517205 : Int64))).toUInt64 >>> ((2 : Int32).toInt64.toUInt64 &&& Int64.toUInt64 63)).toInt64) &&& (3689348814741910323 : Int64))).toUInt64 >>> ((4 : Int32).toInt64.toUInt64 &&& Int64.toUInt64 63)).toInt64)) &&& (1085102592571150095 : Int64)) + (((((((v0 - (((v0.toUInt64 >>> ((1 : Int32).toInt64.toUInt64 &&& Int64.toUInt64 63)).toInt64) &&& (6148914691236517205 : Int64))) &&& (3689348814741910323 : Int64)) + ((((v0 - (((v0.toUInt64 >>> ((1 : Int32).toInt64.toUInt64 &&& Int64.toUInt64 63)).toInt64) &&& (6148914691236517205 : Int64))).toUInt64 >>> ((2 : Int32).toInt64.toUInt64 &&& Int64.toUInt64 63)).toInt64) &&& (3689348814741910323 : Int64))) + (((((v0 - (((v0.toUInt64 >>> ((1 : Int32).toInt64.toUInt64 &&& Int64.toUInt64 63)).toInt64) &&& (6148914691236517205 : Int64))) &&& (3689348814741910323 : Int64)) + ((((v0 - (((v0.toUInt64 >>> ((1 : Int32).toInt64.toUInt64 &&& Int64.toUInt64 63)).toInt64) &&& (6148914691236517205 : Int64))).toUInt64 >>> ((2 : Int32).toInt64.toUInt64 &&& Int64.toUInt64 63)).toInt64) &&& (3689348814741910323 : Int64))).toUInt64 >>> ((4 : Int32).toInt64.toUInt64 &&& Int64.toUInt64 63)).toInt64)) &&& (1085102592571150095 : Int64)).toUInt64 >>> ((8 : Int32).toInt64.toUInt64 &&& Int64.toUInt64 63)).toInt64)).toUInt64 >>> ((16 : Int32).toInt64.toUInt64 &&& Int64.toUInt64 63)).toInt64)) + (((((((((v0 - (((v0.toUInt64 >>> ((1 : Int32).toInt64.toUInt64 &&& Int64.toUInt64 63)).toInt64) &&& (6148914691236517205 : Int64))) &&& (3689348814741910323 : Int64)) + ((((v0 - (((v0.toUInt64 >>> ((1 : Int32).toInt64.toUInt64 &&& Int64.toUInt64 63)).toInt64) &&& (6148914691236517205 : Int64))).toUInt64 >>> ((2 : Int32).toInt64.toUInt64 &&& Int64.toUInt64 63)).toInt64) &&& (3689348814741910323 : Int64))) + (((((v0 - (((v0.toUInt64 >>> ((1 : Int32).toInt64.toUInt64 &&& Int64.toUInt64 63)).toInt64) &&& (6148914691236517205 : Int64))) &&& (3689348814741910323 : Int64)) + ((((v0 - (((v0.toUInt64 >>> ((1 : Int32).toInt64.toUInt64 &&& Int64.toUInt64 63)).toInt64) &&& (6148914691236517205 : Int64))).toUInt64 >>> ((2 : Int32).toInt64.toUInt64 &&& Int64.toUInt64 63)).toInt64) &&& (3689348814741910323 : Int64))).toUInt64 >>> ((4 : Int32).toInt64.toUInt64 &&& Int64.toUInt64 63)).toInt64)) &&& (1085102592571150095 : Int64)) + (((((((v0 - (((v0.toUInt64 >>> ((1 : Int32).toInt64.toUInt64 &&& Int64.toUInt64 63)).toInt64) &&& (6148914691236517205 : Int64))) &&& (3689348814741910323 : Int64)) + ((((v0 - (((v0.toUInt64 >>> ((1 : Int32).toInt64.toUInt64 &&& Int64.toUInt64 63)).toInt64) &&& (6148914691236517205 : Int64))).toUInt64 >>> ((2 : Int32).toInt64.toUInt64 &&& Int64.toUInt64 63)).toInt64) &&& (3689348814741910323 : Int64))) + (((((v0 - (((v0.toUInt64 >>> ((1 : Int32).toInt64.toUInt64 &&& Int64.toUInt64 63)).toInt64) &&& (6148914691236517205 : Int64))) &&& (3689348814741910323 : Int64)) + ((((v0 - (((v0.toUInt64 >>> ((1 : Int32).toInt64.toUInt64 &&& Int64.toUInt64 63)).toInt64) &&& (6148914691236517205 : Int64))).toUInt64 >>> ((2 : Int32).toInt64.toUInt64 &&& Int64.toUInt64 63)).toInt64) &&& (3689348814741910323 : Int64))).toUInt64 >>> ((4 : Int32).toInt64.toUInt64 &&& Int64.toUInt64 63)).toInt64)) &&& (1085102592571150095 : Int64)).toUInt64 >>> ((8 : Int32).toInt64.toUInt64 &&& Int64.toUInt64 63)).toInt64)) + ((((((((v0 - (((v0.toUInt64 >>> ((1 : Int32).toInt64.toUInt64 &&& Int64.toUInt64 63)).toInt64) &&& (6148914691236517205 : Int64))) &&& (3689348814741910323 : Int64)) + ((((v0 - (((v0.toUInt64 >>> ((1 : Int32).toInt64.toUInt64 &&& Int64.toUInt64 63)).toInt64) &&& (6148914691236517205 : Int64))).toUInt64 >>> ((2 : Int32).toInt64.toUInt64 &&& Int64.toUInt64 63)).toInt64) &&& (3689348814741910323 : Int64))) + (((((v0 - (((v0.toUInt64 >>> ((1 : Int32).toInt64.toUInt64 &&& Int64.toUInt64 63)).toInt64) &&& (6148914691236517205 : Int64))) &&& (3689348814741910323 : Int64)) + ((((v0 - (((v0.toUInt64 >>> ((1 : Int32).toInt64.toUInt64 &&& Int64.toUInt64 63)).toInt64) &&& (6148914691236517205 : Int64))).toUInt64 >>> ((2 : Int32).toInt64.toUInt64 &&& Int64.toUInt64 63)).toInt64) &&& (3689348814741910323 : Int64))).toUInt64 >>> ((4 : Int32).toInt64.toUInt64 &&& Int64.toUInt64 63)).toInt64)) &&& (1085102592571150095 : Int64)) + (((((((v0 - (((v0.toUInt64 >>> ((1 : Int32).toInt64.toUInt64 &&& Int64.toUInt64 63)).toInt64) &&& (6148914691236517205 : Int64))) &&& (3689348814741910323 : Int64)) + ((((v0 - (((v0.toUInt64 >>> ((1 : Int32).toInt64.toUInt64 &&& Int64.toUInt64 63)).toInt64) &&& (6148914691236517205 : Int64))).toUInt64 >>> ((2 : Int32).toInt64.toUInt64 &&& Int64.toUInt64 63)).toInt64) &&& (3689348814741910323 : Int64))) + (((((v0 - (((v0.toUInt64 >>> ((1 : Int32).toInt64.toUInt64 &&& Int64.toUInt64 63)).toInt64) &&& (6148914691236517205 : Int64))) &&& (3689348814741910323 : Int64)) + ((((v0 - (((v0.toUInt64 >>> ((1 : Int32).toInt64.toUInt64 &&& Int64.toUInt64 63)).toInt64) &&& (6148914691236517205 : Int64))).toUInt64 >>> ((2 : Int32).toInt64.toUInt64 &&& Int64.toUInt64 63)).toInt64) &&& (3689348814741910323 : Int64))).toUInt64 >>> ((4 : Int32).toInt64.toUInt64 &&& Int64.toUInt64 63)).toInt64)) &&& (1085102592571150095 : Int64)).toUInt64 >>> ((8 : Int32).toInt64.toUInt64 &&& Int64.toUInt64 63)).toInt64)).toUInt64 >>> ((16 : Int32).toInt64.toUInt64 &&& Int64.toUInt64 63)).toInt64)).toUInt64 >>> ((32 : Int32).toInt64.toUInt64 &&& Int64.toUInt64 63)).toInt64)))]) X d_JLong_bitCount_54 rfl (by decide) rfl rfl ?_
  refine V_lload_n (n := 0) X d_JLong_bitCount_55 rfl rfl rfl ?_
  refine V_l2i X d_JLong_bitCount_56 rfl ?_
  refine V_bipush (v := 127) X d_JLong_bitCount_57 (by decide) rfl ?_
  refine V_iand X d_JLong_bitCount_59 rfl ?_
  exact V_iret X (kr ((((((((((v0 - (((v0.toUInt64 >>> ((1 : Int32).toInt64.toUInt64 &&& Int64.toUInt64 63)).toInt64) &&& (6148914691236517205 : Int64))) &&& (3689348814741910323 : Int64)) + ((((v0 - (((v0.toUInt64 >>> ((1 : Int32).toInt64.toUInt64 &&& Int64.toUInt64 63)).toInt64) &&& (6148914691236517205 : Int64))).toUInt64 >>> ((2 : Int32).toInt64.toUInt64 &&& Int64.toUInt64 63)).toInt64) &&& (3689348814741910323 : Int64))) + (((((v0 - (((v0.toUInt64 >>> ((1 : Int32).toInt64.toUInt64 &&& Int64.toUInt64 63)).toInt64) &&& (6148914691236517205 : Int64))) &&& (3689348814741910323 : Int64)) + ((((v0 - (((v0.toUInt64 >>> ((1 : Int32).toInt64.toUInt64 &&& Int64.toUInt64 63)).toInt64) &&& (6148914691236517205 : Int64))).toUInt64 >>> ((2 : Int32).toInt64.toUInt64 &&& Int64.toUInt64 63)).toInt64) &&& (3689348814741910323 : Int64))).toUInt64 >>> ((4 : Int32).toInt64.toUInt64 &&& Int64.toUInt64 63)).toInt64)) &&& (1085102592571150095 : Int64)) + (((((((v0 - (((v0.toUInt64 >>> ((1 : Int32).toInt64.toUInt64 &&& Int64.toUInt64 63)).toInt64) &&& (6148914691236517205 : Int64))) &&& (3689348814741910323 : Int64)) + ((((v0 - (((v0.toUInt64 >>> ((1 : Int32).toInt64.toUInt64 &&& Int64.toUInt64 63)).toInt64) &&& (6148914691236517205 : Int64))).toUInt64 >>> ((2 : Int32).toInt64.toUInt64 &&& Int64.toUInt64 63)).toInt64) &&& (3689348814741910323 : Int64))) + (((((v0 - (((v0.toUInt64 >>> ((1 : Int32).toInt64.toUInt64 &&& Int64.toUInt64 63)).toInt64) &&& (6148914691236517205 : Int64))) &&& (3689348814741910323 : Int64)) + ((((v0 - (((v0.toUInt64 >>> ((1 : Int32).toInt64.toUInt64 &&& Int64.toUInt64 63)).toInt64) &&& (6148914691236517205 : Int64))).toUInt64 >>> ((2 : Int32).toInt64.toUInt64 &&& Int64.toUInt64 63)).toInt64) &&& (3689348814741910323 : Int64))).toUInt64 >>> ((4 : Int32).toInt64.toUInt64 &&& Int64.toUInt64 63)).toInt64)) &&& (1085102592571150095 : Int64)).toUInt64 >>> ((8 : Int32).toInt64.toUInt64 &&& Int64.toUInt64 63)).toInt64)) + ((((((((v0 - (((v0.toUInt64 >>> ((1 : Int32).toInt64.toUInt64 &&& Int64.toUInt64 63)).toInt64) &&& (6148914691236517205 : Int64))) &&& (3689348814741910323 : Int64)) + ((((v0 - (((v0.toUInt64 >>> ((1 : Int32).toInt64.toUInt64 &&& Int64.toUInt64 63)).toInt64) &&& (6148914691236517205 : Int64))).toUInt64 >>> ((2 : Int32).toInt64.toUInt64 &&& Int64.toUInt64 63)).toInt64) &&& (3689348814741910323 : Int64))) + (((((v0 - (((v0.toUInt64 >>> ((1 : Int32).toInt64.toUInt64 &&& Int64.toUInt64 63)).toInt64) &&& (6148914691236517205 : Int64))) &&& (3689348814741910323 : Int64)) + ((((v0 - (((v0.toUInt64 >>> ((1 : Int32).toInt64.toUInt64 &&& Int64.toUInt64 63)).toInt64) &&& (6148914691236517205 : Int64))).toUInt64 >>> ((2 : Int32).toInt64.toUInt64 &&& Int64.toUInt64 63)).toInt64) &&& (3689348814741910323 : Int64))).toUInt64 >>> ((4 : Int32).toInt64.toUInt64 &&& Int64.toUInt64 63)).toInt64)) &&& (1085102592571150095 : Int64)) + (((((((v0 - (((v0.toUInt64 >>> ((1 : Int32).toInt64.toUInt64 &&& Int64.toUInt64 63)).toInt64) &&& (6148914691236517205 : Int64))) &&& (3689348814741910323 : Int64)) + ((((v0 - (((v0.toUInt64 >>> ((1 : Int32).toInt64.toUInt64 &&& Int64.toUInt64 63)).toInt64) &&& (6148914691236517205 : Int64))).toUInt64 >>> ((2 : Int32).toInt64.toUInt64 &&& Int64.toUInt64 63)).toInt64) &&& (3689348814741910323 : Int64))) + (((((v0 - (((v0.toUInt64 >>> ((1 : Int32).toInt64.toUInt64 &&& Int64.toUInt64 63)).toInt64) &&& (6148914691236517205 : Int64))) &&& (3689348814741910323 : Int64)) + ((((v0 - (((v0.toUInt64 >>> ((1 : Int32).toInt64.toUInt64 &&& Int64.toUInt64 63)).toInt64) &&& (6148914691236517205 : Int64))).toUInt64 >>> ((2 : Int32).toInt64.toUInt64 &&& Int64.toUInt64 63)).toInt64) &&& (3689348814741910323 : Int64))).toUInt64 >>> ((4 : Int32).toInt64.toUInt64 &&& Int64.toUInt64 63)).toInt64)) &&& (1085102592571150095 : Int64)).toUInt64 >>> ((8 : Int32).toInt64.toUInt64 &&& Int64.toUInt64 63)).toInt64)).toUInt64 >>> ((16 : Int32).toInt64.toUInt64 &&& Int64.toUInt64 63)).toInt64)) + (((((((((v0 - (((v0.toUInt64 >>> ((1 : Int32).toInt64.toUInt64 &&& Int64.toUInt64 63)).toInt64) &&& (6148914691236517205 : Int64))) &&& (3689348814741910323 : Int64)) + ((((v0 - (((v0.toUInt64 >>> ((1 : Int32).toInt64.toUInt64 &&& Int64.toUInt64 63)).toInt64) &&& (6148914691236517205 : Int64))).toUInt64 >>> ((2 : Int32).toInt64.toUInt64 &&& Int64.toUInt64 63)).toInt64) &&& (3689348814741910323 : Int64))) + (((((v0 - (((v0.toUInt64 >>> ((1 : Int32).toInt64.toUInt64 &&& Int64.toUInt64 63)).toInt64) &&& (6148914691236517205 : Int64))) &&& (3689348814741910323 : Int64)) + ((((v0 - (((v0.toUInt64 >>> ((1 : Int32).toInt64.toUInt64 &&& Int64.toUInt64 63)).toInt64) &&& (6148914691236517205 : Int64))).toUInt64 >>> ((2 : Int32).toInt64.toUInt64 &&& Int64.toUInt64 63)).toInt64) &&& (3689348814741910323 : Int64))).toUInt64 >>> ((4 : Int32).toInt64.toUInt64 &&& Int64.toUInt64 63)).toInt64)) &&& (1085102592571150095 : Int64)) + (((((((v0 - (((v0.toUInt64 >>> ((1 : Int32).toInt64.toUInt64 &&& Int64.toUInt64 63)).toInt64) &&& (6148914691236517205 : Int64))) &&& (3689348814741910323 : Int64)) + ((((v0 - (((v0.toUInt64 >>> ((1 : Int32).toInt64.toUInt64 &&& Int64.toUInt64 63)).toInt64) &&& (6148914691236517205 : Int64))).toUInt64 >>> ((2 : Int32).toInt64.toUInt64 &&& Int64.toUInt64 63)).toInt64) &&& (3689348814741910323 : Int64))) + (((((v0 - (((v0.toUInt64 >>> ((1 : Int32).toInt64.toUInt64 &&& Int64.toUInt64 63)).toInt64) &&& (6148914691236517205 : Int64))) &&& (3689348814741910323 : Int64)) + ((((v0 - (((v0.toUInt64 >>> ((1 : Int32).toInt64.toUInt64 &&& Int64.toUInt64 63)).toInt64) &&& (6148914691236517205 : Int64))).toUInt64 >>> ((2 : Int32).toInt64.toUInt64 &&& Int64.toUInt64 63)).toInt64) &&& (3689348814741910323 : Int64))).toUInt64 >>> ((4 : Int32).toInt64.toUInt64 &&& Int64.toUInt64 63)).toInt64)) &&& (1085102592571150095 : Int64)).toUInt64 >>> ((8 : Int32).toInt64.toUInt64 &&& Int64.toUInt64 63)).toInt64)) + ((((((((v0 - (((v0.toUInt64 >>> ((1 : Int32).toInt64.toUInt64 &&& Int64.toUInt64 63)).toInt64) &&& (6148914691236517205 : Int64))) &&& (3689348814741910323 : Int64)) + ((((v0 - (((v0.toUInt64 >>> ((1 : Int32).toInt64.toUInt64 &&& Int64.toUInt64 63)).toInt64) &&& (6148914691236517205 : Int64))).toUInt64 >>> ((2 : Int32).toInt64.toUInt64 &&& Int64.toUInt64 63)).toInt64) &&& (3689348814741910323 : Int64))) + (((((v0 - (((v0.toUInt64 >>> ((1 : Int32).toInt64.toUInt64 &&& Int64.toUInt64 63)).toInt64) &&& (6148914691236517205 : Int64))) &&& (3689348814741910323 : Int64)) + ((((v0 - (((v0.toUInt64 >>> ((1 : Int32).toInt64.toUInt64 &&& Int64.toUInt64 63)).toInt64) &&& (6148914691236517205 : Int64))).toUInt64 >>> ((2 : Int32).toInt64.toUInt64 &&& Int64.toUInt64 63)).toInt64) &&& (3689348814741910323 : Int64))).toUInt64 >>> ((4 : Int32).toInt64.toUInt64 &&& Int64.toUInt64 63)).toInt64)) &&& (1085102592571150095 : Int64)) + (((((((v0 - (((v0.toUInt64 >>> ((1 : Int32).toInt64.toUInt64 &&& Int64.toUInt64 63)).toInt64) &&& (6148914691236517205 : Int64))) &&& (3689348814741910323 : Int64)) + ((((v0 - (((v0.toUInt64 >>> ((1 : Int32).toInt64.toUInt64 &&& Int64.toUInt64 63)).toInt64) &&& (6148914691236517205 : Int64))).toUInt64 >>> ((2 : Int32).toInt64.toUInt64 &&& Int64.toUInt64 63)).toInt64) &&& (3689348814741910323 : Int64))) + (((((v0 - (((v0.toUInt64 >>> ((1 : Int32).toInt64.toUInt64 &&& Int64.toUInt64 63)).toInt64) &&& (6148914691236517205 : Int64))) &&& (3689348814741910323 : Int64)) + ((((v0 - (((v0.toUInt64 >>> ((1 : Int32).toInt64.toUInt64 &&& Int64.toUInt64 63)).toInt64) &&& (6148914691236517205 : Int64))).toUInt64 >>> ((2 : Int32).toInt64.toUInt64 &&& Int64.toUInt64 63)).toInt64) &&& (3689348814741910323 : Int64))).toUInt64 >>> ((4 : Int32).toInt64.toUInt64 &&& Int64.toUInt64 63)).toInt64)) &&& (1085102592571150095 : Int64)).toUInt64 >>> ((8 : Int32).toInt64.toUInt64 &&& Int64.toUInt64 63)).toInt64)).toUInt64 >>> ((16 : Int32).toInt64.toUInt64 &&& Int64.toUInt64 63)).toInt64)).toUInt64 >>> ((32 : Int32).toInt64.toUInt64 &&& Int64.toUInt64 63)).toInt64)).toInt32) &&& (127 : Int32)) (Option.some.inj h).symm) d_JLong_bitCount_60
def f_JLong_numberOfTrailingZeros (v0 : Int64) : Option (Int32) :=
  if v0.toInt32 = 0 then
  Option.bind (f_JInteger_numberOfTrailingZeros (((v0.toUInt64 >>> ((32 : Int32).toInt64.toUInt64 &&& Int64.toUInt64 63)).toInt64).toInt32)) fun x2 =>
  some ((32 : Int32) + x2)
  else
  Option.bind (f_JInteger_numberOfTrailingZeros v0.toInt32) fun x1 =>
  some x1
theorem c_JLong_numberOfTrailingZeros (l : Launch) (G : Gw)  (v0 : Int64) (M : Mem) (x : Int32) (h : f_JLong_numberOfTrailingZeros v0 = some x) (d : Nat) (hD : 2 ≤ d) : Ci l G y_JLong_numberOfTrailingZeros b_JLong_numberOfTrailingZeros 3 (some .int) d [.long v0] M (fun r9 M9 => r9 = x ∧ M9 = M) := by
  refine Ci_of (by decide) (Nat.le_of_ble_eq_true rfl) (fun E hE X => ?_)
  subst hE
  have kr : ∀ x9 : Int32, x = x9 → (fun r9 M9 => r9 = x ∧ M9 = M) x9 M := fun x9 e9 => by subst e9; exact ⟨rfl, rfl⟩
  unfold f_JLong_numberOfTrailingZeros at h
  refine V_lload_n (n := 0) X d_JLong_numberOfTrailingZeros_0 rfl rfl rfl ?_
  refine V_l2i X d_JLong_numberOfTrailingZeros_1 rfl ?_
  refine V_istore_n (lv' := [(2, .int v0.toInt32), (0, .long v0)]) X d_JLong_numberOfTrailingZeros_2 rfl (by decide) rfl rfl ?_
  refine V_iload_n (n := 0) X d_JLong_numberOfTrailingZeros_3 rfl rfl rfl ?_
  refine V_if_ne (tgt := 21) X d_JLong_numberOfTrailingZeros_4 (by decide) rfl (fun c3 => ?_) (fun c3 => ?_)
  · rw [if_neg c3] at h
    refine V_iload_n (n := 0) X d_JLong_numberOfTrailingZeros_21 rfl rfl rfl ?_
    obtain ⟨x1, hx1, h⟩ := ob_s h
    refine V_si (As := [.int v0.toInt32]) X (Z0 E) ml_JLong_311 yq_JInteger_numberOfTrailingZeros (c_JInteger_numberOfTrailingZeros E.2.1 G v0.toInt32 M x1 hx1 _ (Nat.le_refl _)) rfl (by omega) rfl (Nat.le_of_ble_eq_true rfl) d_JLong_numberOfTrailingZeros_22 rfl (fun r9 M9 hq => ?_)
    rw [hq.1, hq.2]
    exact V_iret X (kr x1 (Option.some.inj h).symm) d_JLong_numberOfTrailingZeros_25
  · rw [if_pos c3] at h
    refine V_bipush (v := 32) X d_JLong_numberOfTrailingZeros_7 (by decide) rfl ?_
    refine V_lload_n (n := 1) X d_JLong_numberOfTrailingZeros_9 rfl rfl rfl ?_
    refine V_bipush (v := 32) X d_JLong_numberOfTrailingZeros_10 (by decide) rfl ?_
    refine V_lushr X d_JLong_numberOfTrailingZeros_12 rfl ?_
    refine V_l2i X d_JLong_numberOfTrailingZeros_13 rfl ?_
    obtain ⟨x2, hx2, h⟩ := ob_s h
    refine V_si (As := [.int (((v0.toUInt64 >>> ((32 : Int32).toInt64.toUInt64 &&& Int64.toUInt64 63)).toInt64).toInt32)]) X (Z0 E) ml_JLong_311 yq_JInteger_numberOfTrailingZeros (c_JInteger_numberOfTrailingZeros E.2.1 G (((v0.toUInt64 >>> ((32 : Int32).toInt64.toUInt64 &&& Int64.toUInt64 63)).toInt64).toInt32) M x2 hx2 _ (Nat.le_refl _)) rfl (by omega) rfl (Nat.le_of_ble_eq_true rfl) d_JLong_numberOfTrailingZeros_14 rfl (fun r9 M9 hq => ?_)
    rw [hq.1, hq.2]
    refine V_iadd X d_JLong_numberOfTrailingZeros_17 rfl ?_
    refine V_goto (pc' := 25) X d_JLong_numberOfTrailingZeros_18 (by decide) ?_
    exact V_iret X (kr ((32 : Int32) + x2) (Option.some.inj h).symm) d_JLong_numberOfTrailingZeros_25
def lb_Signs_add_20 (v1 : Int32) (s : Int32 × Mem) : Option ((Int32 × Mem) ⊕ ((Mem))) :=
  if (4 : Int32) ≤ s.1 then
  some (.inr s.2)
  else
  if inb (s.2.1 1 1) 80 = true then
  mem_ (s_i s.2 2 (s.2.1 1 1).toNatClampNeg ((v1 >>> (((24 : Int32) - ((8 : Int32) * s.1)) &&& 31)) &&& (255 : Int32))) fun M1 =>
  mem_ (s_i M1 1 1 ((M1.1 1 1) + (1 : Int32))) fun M2 =>
  some (.inl ((s.1 + (1 : Int32)), M2))
  else none
theorem lb_Signs_add_20_ok {E : Ev} {G : Gw} {d : Nat} {post : Int32 → Mem → Prop} (X : Cx E G b_Signs_add "WomenByTheRoofs$Signs" 3 d (some .boolean)) (hD : 1 ≤ d)  (v1 : Int32)   (s : Int32 × Mem) (o : (Int32 × Mem) ⊕ ((Mem))) (h : lb_Signs_add_20 v1 s = some o) (kc : ∀ s9 : Int32 × Mem, o = .inl s9 → V E (0, 0) G 3 (QI E G post) s9.2 20 [(0, .ref (G.2.2 + 1)), (1, .int v1), (2, .int s9.1)] []) (kx0 : ∀ x9 : Mem, o = .inr x9 → V E (0, 0) G 3 (QI E G post) x9 63 [] []) : V E (0, 0) G 3 (QI E G post) s.2 20 [(0, .ref (G.2.2 + 1)), (1, .int v1), (2, .int s.1)] [] := by
  unfold lb_Signs_add_20 at h
  refine V_iload_n (n := 2) X d_Signs_add_20 rfl rfl rfl ?_
  refine V_iconst (v := 4) X d_Signs_add_21 (by decide) rfl ?_
  refine V_icmp_ge (tgt := 63) X d_Signs_add_22 (by decide) rfl (fun c3 => ?_) (fun c3 => ?_)
  · rw [if_pos c3] at h
    refine V_sub (lv' := []) [] rfl ?_
    exact kx0 s.2 (Option.some.inj h).symm
  · rw [if_neg c3] at h
    refine V_aload_n (n := 0) X d_Signs_add_25 rfl rfl rfl ?_
    refine V_getr (k2 := 2) X fo_Signs_9 kd_1 rfl rf_1_0 d_Signs_add_26 rfl ?_
    refine V_aload_n (n := 0) X d_Signs_add_29 rfl rfl rfl ?_
    refine V_geti X fo_Signs_15 kd_1 rfl d_Signs_add_30 rfl ?_
    refine V_iload_n (n := 1) X d_Signs_add_33 rfl rfl rfl ?_
    refine V_bipush (v := 24) X d_Signs_add_34 (by decide) rfl ?_
    refine V_bipush (v := 8) X d_Signs_add_36 (by decide) rfl ?_
    refine V_iload_n (n := 2) X d_Signs_add_38 rfl rfl rfl ?_
    refine V_imul X d_Signs_add_39 rfl ?_
    refine V_isub X d_Signs_add_40 rfl ?_
    refine V_ishr X d_Signs_add_41 rfl ?_
    refine V_sipush (v := 255) X d_Signs_add_42 (by decide) rfl ?_
    refine V_iand X d_Signs_add_45 rfl ?_
    obtain ⟨hb, h⟩ := ifn h
    obtain ⟨M1, eM1, h⟩ := memS h
    refine V_iast X kd_2 (inb_in ln_2 hb) d_Signs_add_46 rfl ?_
    rw [← eM1]
    refine V_aload_n (n := 0) X d_Signs_add_47 rfl rfl rfl ?_
    refine V_dup X d_Signs_add_48 rfl rfl ?_
    refine V_geti X fo_Signs_15 kd_1 rfl d_Signs_add_49 rfl ?_
    refine V_iconst (v := 1) X d_Signs_add_52 (by decide) rfl ?_
    refine V_iadd X d_Signs_add_53 rfl ?_
    obtain ⟨M2, eM2, h⟩ := memS h
    refine V_putI X fp_Signs_15 kd_1 rfl d_Signs_add_54 rfl ?_
    rw [← eM2]
    refine V_iinc (n := 2) (v := (s.1 + (1 : Int32))) (lv' := [(2, .int (s.1 + (1 : Int32))), (0, .ref (G.2.2 + 1)), (1, .int v1)]) X d_Signs_add_57 rfl rfl (by decide) rfl rfl ?_
    refine V_goto (pc' := 20) X d_Signs_add_60 (by decide) ?_
    refine V_sub (lv' := [(0, .ref (G.2.2 + 1)), (1, .int v1), (2, .int (s.1 + (1 : Int32)))]) [1, 2, 0] rfl ?_
    exact kc ((s.1 + (1 : Int32)), M2) (Option.some.inj h).symm
theorem lp_Signs_add_20_ok {E : Ev} {G : Gw} {d : Nat} {post : Int32 → Mem → Prop} (X : Cx E G b_Signs_add "WomenByTheRoofs$Signs" 3 d (some .boolean)) (hD : 1 ≤ d)  (v1 : Int32)   (n9 : Nat) (s : Int32 × Mem) (x : (Mem)) (h : iter (lb_Signs_add_20 v1) n9 s = some x) (kx0 : ∀ x9 : Mem, x = x9 → V E (0, 0) G 3 (QI E G post) x9 63 [] []) : V E (0, 0) G 3 (QI E G post) s.2 20 [(0, .ref (G.2.2 + 1)), (1, .int v1), (2, .int s.1)] [] :=
  iter_P (P := fun s : Int32 × Mem => V E (0, 0) G 3 (QI E G post) s.2 20 [(0, .ref (G.2.2 + 1)), (1, .int v1), (2, .int s.1)] []) (fun s o hb kc ky => lb_Signs_add_20_ok X hD v1 s o hb kc (fun x9 e9 => kx0 x9 (ky _ e9).symm)) n9 s h
def f_Signs_add (v1 : Int32) (M : Mem) : Option (Int32 × Mem) :=
  if (M.1 1 1) < 0 then
  some ((0 : Int32), M)
  else
  if (M.1 1 1) ≤ (76 : Int32) then
  Option.bind (iter (lb_Signs_add_20 v1) FU ((0 : Int32), M)) fun x4 =>
  some ((1 : Int32), x4)
  else
  some ((0 : Int32), M)
theorem c_Signs_add (l : Launch) (G : Gw)  (v1 : Int32) (M : Mem) (x : Int32 × Mem) (h : f_Signs_add v1 M = some x) (d : Nat) (hD : 1 ≤ d) : Ci l G y_Signs_add b_Signs_add 3 (some .boolean) d [.ref (G.2.2 + 1), .int v1] M (fun r9 M9 => r9 = x.1 ∧ M9 = x.2) := by
  refine Ci_of (by decide) (Nat.le_of_ble_eq_true rfl) (fun E hE X => ?_)
  subst hE
  have kr : ∀ x9 : Int32 × Mem, x = x9 → (fun r9 M9 => r9 = x.1 ∧ M9 = x.2) x9.1 x9.2 := fun x9 e9 => by subst e9; exact ⟨rfl, rfl⟩
  unfold f_Signs_add at h
  refine V_aload_n (n := 0) X d_Signs_add_0 rfl rfl rfl ?_
  refine V_geti X fo_Signs_15 kd_1 rfl d_Signs_add_1 rfl ?_
  refine V_if_lt (tgt := 16) X d_Signs_add_4 (by decide) rfl (fun c6 => ?_) (fun c6 => ?_)
  · rw [if_pos c6] at h
    refine V_iconst (v := 0) X d_Signs_add_16 (by decide) rfl ?_
    exact V_zret X (kr ((0 : Int32), M) (Option.some.inj h).symm) (by decide) d_Signs_add_17
  · rw [if_neg c6] at h
    refine V_aload_n (n := 0) X d_Signs_add_7 rfl rfl rfl ?_
    refine V_geti X fo_Signs_15 kd_1 rfl d_Signs_add_8 rfl ?_
    refine V_bipush (v := 76) X d_Signs_add_11 (by decide) rfl ?_
    refine V_icmp_le (tgt := 18) X d_Signs_add_13 (by decide) rfl (fun c5 => ?_) (fun c5 => ?_)
    · rw [if_pos c5] at h
      refine V_iconst (v := 0) X d_Signs_add_18 (by decide) rfl ?_
      refine V_istore_n (lv' := [(2, .int (0 : Int32)), (0, .ref (G.2.2 + 1)), (1, .int v1)]) X d_Signs_add_19 rfl (by decide) rfl rfl ?_
      refine V_sub (lv' := [(0, .ref (G.2.2 + 1)), (1, .int v1), (2, .int (0 : Int32))]) [1, 2, 0] rfl ?_
      obtain ⟨x4, hx4, h⟩ := ob_s h
      refine (lp_Signs_add_20_ok X hD v1 _ _ _ hx4 (fun x9 e9 => ?_) :)
      subst e9
      refine V_iconst (v := 1) X d_Signs_add_63 (by decide) rfl ?_
      exact V_zret X (kr ((1 : Int32), x4) (Option.some.inj h).symm) (by decide) d_Signs_add_64
    · rw [if_neg c5] at h
      refine V_iconst (v := 0) X d_Signs_add_16 (by decide) rfl ?_
      exact V_zret X (kr ((0 : Int32), M) (Option.some.inj h).symm) (by decide) d_Signs_add_17
def f_Signs_at (v1 : Int32) (v2 : Int32) (M : Mem) : Option (Int32) :=
  if v1 < 0 then
  some (-1 : Int32)
  else
  if (M.1 1 1) ≤ v1 then
  some (-1 : Int32)
  else
  if v2 ≤ v1 then
  some (-1 : Int32)
  else
  if v1 < (80 : Int32) then
  if inb v1 80 = true then
  some (M.1 2 v1.toNatClampNeg)
  else none
  else
  some (-1 : Int32)
theorem c_Signs_at (l : Launch) (G : Gw)  (v1 : Int32) (v2 : Int32) (M : Mem) (x : Int32) (h : f_Signs_at v1 v2 M = some x) (d : Nat) (hD : 1 ≤ d) : Ci l G y_Signs_at b_Signs_at 3 (some .int) d [.ref (G.2.2 + 1), .int v1, .int v2] M (fun r9 M9 => r9 = x ∧ M9 = M) := by
  refine Ci_of (by decide) (Nat.le_of_ble_eq_true rfl) (fun E hE X => ?_)
  subst hE
  have kr : ∀ x9 : Int32, x = x9 → (fun r9 M9 => r9 = x ∧ M9 = M) x9 M := fun x9 e9 => by subst e9; exact ⟨rfl, rfl⟩
  unfold f_Signs_at at h
  refine V_iload_n (n := 1) X d_Signs_at_0 rfl rfl rfl ?_
  refine V_if_lt (tgt := 23) X d_Signs_at_1 (by decide) rfl (fun c4 => ?_) (fun c4 => ?_)
  · rw [if_pos c4] at h
    refine V_iconst (v := -1) X d_Signs_at_23 (by decide) rfl ?_
    exact V_iret X (kr (-1 : Int32) (Option.some.inj h).symm) d_Signs_at_24
  · rw [if_neg c4] at h
    refine V_iload_n (n := 1) X d_Signs_at_4 rfl rfl rfl ?_
    refine V_aload_n (n := 0) X d_Signs_at_5 rfl rfl rfl ?_
    refine V_geti X fo_Signs_15 kd_1 rfl d_Signs_at_6 rfl ?_
    refine V_icmp_ge (tgt := 23) X d_Signs_at_9 (by decide) rfl (fun c3 => ?_) (fun c3 => ?_)
    · rw [if_pos c3] at h
      refine V_iconst (v := -1) X d_Signs_at_23 (by decide) rfl ?_
      exact V_iret X (kr (-1 : Int32) (Option.some.inj h).symm) d_Signs_at_24
    · rw [if_neg c3] at h
      refine V_iload_n (n := 1) X d_Signs_at_12 rfl rfl rfl ?_
      refine V_iload_n (n := 2) X d_Signs_at_13 rfl rfl rfl ?_
      refine V_icmp_ge (tgt := 23) X d_Signs_at_14 (by decide) rfl (fun c2 => ?_) (fun c2 => ?_)
      · rw [if_pos c2] at h
        refine V_iconst (v := -1) X d_Signs_at_23 (by decide) rfl ?_
        exact V_iret X (kr (-1 : Int32) (Option.some.inj h).symm) d_Signs_at_24
      · rw [if_neg c2] at h
        refine V_iload_n (n := 1) X d_Signs_at_17 rfl rfl rfl ?_
        refine V_bipush (v := 80) X d_Signs_at_18 (by decide) rfl ?_
        refine V_icmp_lt (tgt := 25) X d_Signs_at_20 (by decide) rfl (fun c1 => ?_) (fun c1 => ?_)
        · rw [if_pos c1] at h
          refine V_aload_n (n := 0) X d_Signs_at_25 rfl rfl rfl ?_
          refine V_getr (k2 := 2) X fo_Signs_9 kd_1 rfl rf_1_0 d_Signs_at_26 rfl ?_
          refine V_iload_n (n := 1) X d_Signs_at_29 rfl rfl rfl ?_
          obtain ⟨hb, h⟩ := ifn h
          refine V_iald X kd_2 (inb_in ln_2 hb) d_Signs_at_30 rfl ?_
          exact V_iret X (kr (M.1 2 v1.toNatClampNeg) (Option.some.inj h).symm) d_Signs_at_31
        · rw [if_neg c1] at h
          refine V_iconst (v := -1) X d_Signs_at_23 (by decide) rfl ?_
          exact V_iret X (kr (-1 : Int32) (Option.some.inj h).symm) d_Signs_at_24
def lb_Signs_digits_11 (v1 : Int32) (v2 : Int32) (v3 : Int32) (s : Int32 × Int32 × Mem) : Option ((Int32 × Int32 × Mem) ⊕ ((Int32 × Mem))) :=
  if v3 ≤ s.2.1 then
  some (.inr (s.1, s.2.2))
  else
  if s.1 = s.2.1 then
  Option.bind (f_Signs_at (v1 + s.2.1) v2 s.2.2) fun x2 =>
  if x2 < (48 : Int32) then
  some (.inl (s.1, (s.2.1 + (1 : Int32)), s.2.2))
  else
  if (57 : Int32) < x2 then
  some (.inl (s.1, (s.2.1 + (1 : Int32)), s.2.2))
  else
  mem_ (s_i s.2.2 1 2 ((((s.2.2.1 1 2) * (10 : Int32)) + x2) - (48 : Int32))) fun M3 =>
  some (.inl ((s.1 + (1 : Int32)), (s.2.1 + (1 : Int32)), M3))
  else
  some (.inr (s.1, s.2.2))
theorem lb_Signs_digits_11_ok {E : Ev} {G : Gw} {d : Nat} {post : Int32 → Mem → Prop} (X : Cx E G b_Signs_digits "WomenByTheRoofs$Signs" 7 d (some .int)) (hD : 2 ≤ d)  (v1 : Int32) (v2 : Int32) (v3 : Int32)   (s : Int32 × Int32 × Mem) (o : (Int32 × Int32 × Mem) ⊕ ((Int32 × Mem))) (h : lb_Signs_digits_11 v1 v2 v3 s = some o) (kc : ∀ s9 : Int32 × Int32 × Mem, o = .inl s9 → V E (0, 0) G 7 (QI E G post) s9.2.2 11 [(0, .ref (G.2.2 + 1)), (1, .int v1), (2, .int v2), (3, .int v3), (4, .int s9.1), (5, .int s9.2.1)] []) (kx0 : ∀ x9 : Int32 × Mem, o = .inr x9 → V E (0, 0) G 7 (QI E G post) x9.2 75 [(4, .int x9.1)] []) : V E (0, 0) G 7 (QI E G post) s.2.2 11 [(0, .ref (G.2.2 + 1)), (1, .int v1), (2, .int v2), (3, .int v3), (4, .int s.1), (5, .int s.2.1)] [] := by
  unfold lb_Signs_digits_11 at h
  refine V_iload (n := 5) X d_Signs_digits_11 rfl rfl ?_
  refine V_iload_n (n := 3) X d_Signs_digits_13 rfl rfl rfl ?_
  refine V_icmp_ge (tgt := 75) X d_Signs_digits_14 (by decide) rfl (fun c7 => ?_) (fun c7 => ?_)
  · rw [if_pos c7] at h
    refine V_sub (lv' := [(4, .int s.1)]) [4] rfl ?_
    exact kx0 (s.1, s.2.2) (Option.some.inj h).symm
  · rw [if_neg c7] at h
    refine V_iload (n := 4) X d_Signs_digits_17 rfl rfl ?_
    refine V_iload (n := 5) X d_Signs_digits_19 rfl rfl ?_
    refine V_icmp_ne (tgt := 75) X d_Signs_digits_21 (by decide) rfl (fun c6 => ?_) (fun c6 => ?_)
    · rw [if_neg c6] at h
      refine V_sub (lv' := [(4, .int s.1)]) [4] rfl ?_
      exact kx0 (s.1, s.2.2) (Option.some.inj h).symm
    · rw [if_pos c6] at h
      refine V_aload_n (n := 0) X d_Signs_digits_24 rfl rfl rfl ?_
      refine V_iload_n (n := 1) X d_Signs_digits_25 rfl rfl rfl ?_
      refine V_iload (n := 5) X d_Signs_digits_26 rfl rfl ?_
      refine V_iadd X d_Signs_digits_28 rfl ?_
      refine V_iload_n (n := 2) X d_Signs_digits_29 rfl rfl rfl ?_
      obtain ⟨x2, hx2, h⟩ := ob_s h
      refine V_ci (As := [.int (v1 + s.2.1), .int v2]) X (Z0 E) ml_Signs_22 yq_Signs_at (c_Signs_at E.2.1 G (v1 + s.2.1) v2 s.2.2 x2 hx2 _ (Nat.le_refl _)) kd_1 rfl rfl (by omega) rfl (Nat.le_of_ble_eq_true rfl) d_Signs_digits_30 rfl (fun r9 M9 hq => ?_)
      rw [hq.1, hq.2]
      refine V_istore (lv' := [(6, .int x2), (0, .ref (G.2.2 + 1)), (1, .int v1), (2, .int v2), (3, .int v3), (4, .int s.1), (5, .int s.2.1)]) X d_Signs_digits_33 (by decide) rfl rfl ?_
      refine V_iload (n := 0) X d_Signs_digits_35 rfl rfl ?_
      refine V_bipush (v := 48) X d_Signs_digits_37 (by decide) rfl ?_
      refine V_icmp_lt (tgt := 69) X d_Signs_digits_39 (by decide) rfl (fun c5 => ?_) (fun c5 => ?_)
      · rw [if_pos c5] at h
        refine V_iinc (n := 6) (v := (s.2.1 + (1 : Int32))) (lv' := [(5, .int (s.2.1 + (1 : Int32))), (6, .int x2), (0, .ref (G.2.2 + 1)), (1, .int v1), (2, .int v2), (3, .int v3), (4, .int s.1)]) X d_Signs_digits_69 rfl rfl (by decide) rfl rfl ?_
        refine V_goto (pc' := 11) X d_Signs_digits_72 (by decide) ?_
        refine V_sub (lv' := [(0, .ref (G.2.2 + 1)), (1, .int v1), (2, .int v2), (3, .int v3), (4, .int s.1), (5, .int (s.2.1 + (1 : Int32)))]) [2, 3, 4, 5, 6, 0] rfl ?_
        exact kc (s.1, (s.2.1 + (1 : Int32)), s.2.2) (Option.some.inj h).symm
      · rw [if_neg c5] at h
        refine V_iload (n := 0) X d_Signs_digits_42 rfl rfl ?_
        refine V_bipush (v := 57) X d_Signs_digits_44 (by decide) rfl ?_
        refine V_icmp_gt (tgt := 69) X d_Signs_digits_46 (by decide) rfl (fun c4 => ?_) (fun c4 => ?_)
        · rw [if_pos c4] at h
          refine V_iinc (n := 6) (v := (s.2.1 + (1 : Int32))) (lv' := [(5, .int (s.2.1 + (1 : Int32))), (6, .int x2), (0, .ref (G.2.2 + 1)), (1, .int v1), (2, .int v2), (3, .int v3), (4, .int s.1)]) X d_Signs_digits_69 rfl rfl (by decide) rfl rfl ?_
          refine V_goto (pc' := 11) X d_Signs_digits_72 (by decide) ?_
          refine V_sub (lv' := [(0, .ref (G.2.2 + 1)), (1, .int v1), (2, .int v2), (3, .int v3), (4, .int s.1), (5, .int (s.2.1 + (1 : Int32)))]) [2, 3, 4, 5, 6, 0] rfl ?_
          exact kc (s.1, (s.2.1 + (1 : Int32)), s.2.2) (Option.some.inj h).symm
        · rw [if_neg c4] at h
          refine V_aload_n (n := 1) X d_Signs_digits_49 rfl rfl rfl ?_
          refine V_aload_n (n := 1) X d_Signs_digits_50 rfl rfl rfl ?_
          refine V_geti X fo_Signs_19 kd_1 rfl d_Signs_digits_51 rfl ?_
          refine V_bipush (v := 10) X d_Signs_digits_54 (by decide) rfl ?_
          refine V_imul X d_Signs_digits_56 rfl ?_
          refine V_iload (n := 0) X d_Signs_digits_57 rfl rfl ?_
          refine V_iadd X d_Signs_digits_59 rfl ?_
          refine V_bipush (v := 48) X d_Signs_digits_60 (by decide) rfl ?_
          refine V_isub X d_Signs_digits_62 rfl ?_
          obtain ⟨M3, eM3, h⟩ := memS h
          refine V_putI X fp_Signs_19 kd_1 rfl d_Signs_digits_63 rfl ?_
          rw [← eM3]
          refine V_iinc (n := 5) (v := (s.1 + (1 : Int32))) (lv' := [(4, .int (s.1 + (1 : Int32))), (6, .int x2), (0, .ref (G.2.2 + 1)), (1, .int v1), (2, .int v2), (3, .int v3), (5, .int s.2.1)]) X d_Signs_digits_66 rfl rfl (by decide) rfl rfl ?_
          refine V_iinc (n := 6) (v := (s.2.1 + (1 : Int32))) (lv' := [(5, .int (s.2.1 + (1 : Int32))), (4, .int (s.1 + (1 : Int32))), (6, .int x2), (0, .ref (G.2.2 + 1)), (1, .int v1), (2, .int v2), (3, .int v3)]) X d_Signs_digits_69 rfl rfl (by decide) rfl rfl ?_
          refine V_goto (pc' := 11) X d_Signs_digits_72 (by decide) ?_
          refine V_sub (lv' := [(0, .ref (G.2.2 + 1)), (1, .int v1), (2, .int v2), (3, .int v3), (4, .int (s.1 + (1 : Int32))), (5, .int (s.2.1 + (1 : Int32)))]) [3, 4, 5, 6, 1, 0] rfl ?_
          exact kc ((s.1 + (1 : Int32)), (s.2.1 + (1 : Int32)), M3) (Option.some.inj h).symm
theorem lp_Signs_digits_11_ok {E : Ev} {G : Gw} {d : Nat} {post : Int32 → Mem → Prop} (X : Cx E G b_Signs_digits "WomenByTheRoofs$Signs" 7 d (some .int)) (hD : 2 ≤ d)  (v1 : Int32) (v2 : Int32) (v3 : Int32)   (n9 : Nat) (s : Int32 × Int32 × Mem) (x : (Int32 × Mem)) (h : iter (lb_Signs_digits_11 v1 v2 v3) n9 s = some x) (kx0 : ∀ x9 : Int32 × Mem, x = x9 → V E (0, 0) G 7 (QI E G post) x9.2 75 [(4, .int x9.1)] []) : V E (0, 0) G 7 (QI E G post) s.2.2 11 [(0, .ref (G.2.2 + 1)), (1, .int v1), (2, .int v2), (3, .int v3), (4, .int s.1), (5, .int s.2.1)] [] :=
  iter_P (P := fun s : Int32 × Int32 × Mem => V E (0, 0) G 7 (QI E G post) s.2.2 11 [(0, .ref (G.2.2 + 1)), (1, .int v1), (2, .int v2), (3, .int v3), (4, .int s.1), (5, .int s.2.1)] []) (fun s o hb kc ky => lb_Signs_digits_11_ok X hD v1 v2 v3 s o hb kc (fun x9 e9 => kx0 x9 (ky _ e9).symm)) n9 s h
def f_Signs_digits (v1 : Int32) (v2 : Int32) (v3 : Int32) (M : Mem) : Option (Int32 × Mem) :=
  mem_ (s_i M 1 2 (0 : Int32)) fun M1 =>
  Option.bind (iter (lb_Signs_digits_11 v1 v2 v3) FU ((0 : Int32), (0 : Int32), M1)) fun x8 =>
  some (x8.1, x8.2)
theorem c_Signs_digits (l : Launch) (G : Gw)  (v1 : Int32) (v2 : Int32) (v3 : Int32) (M : Mem) (x : Int32 × Mem) (h : f_Signs_digits v1 v2 v3 M = some x) (d : Nat) (hD : 2 ≤ d) : Ci l G y_Signs_digits b_Signs_digits 7 (some .int) d [.ref (G.2.2 + 1), .int v1, .int v2, .int v3] M (fun r9 M9 => r9 = x.1 ∧ M9 = x.2) := by
  refine Ci_of (by decide) (Nat.le_of_ble_eq_true rfl) (fun E hE X => ?_)
  subst hE
  have kr : ∀ x9 : Int32 × Mem, x = x9 → (fun r9 M9 => r9 = x.1 ∧ M9 = x.2) x9.1 x9.2 := fun x9 e9 => by subst e9; exact ⟨rfl, rfl⟩
  unfold f_Signs_digits at h
  refine V_iconst (v := 0) X d_Signs_digits_0 (by decide) rfl ?_
  refine V_istore (lv' := [(4, .int (0 : Int32)), (0, .ref (G.2.2 + 1)), (1, .int v1), (2, .int v2), (3, .int v3)]) X d_Signs_digits_1 (by decide) rfl rfl ?_
  refine V_aload_n (n := 1) X d_Signs_digits_3 rfl rfl rfl ?_
  refine V_iconst (v := 0) X d_Signs_digits_4 (by decide) rfl ?_
  obtain ⟨M1, eM1, h⟩ := memS h
  refine V_putI X fp_Signs_19 kd_1 rfl d_Signs_digits_5 rfl ?_
  rw [← eM1]
  refine V_iconst (v := 0) X d_Signs_digits_8 (by decide) rfl ?_
  refine V_istore (lv' := [(5, .int (0 : Int32)), (4, .int (0 : Int32)), (0, .ref (G.2.2 + 1)), (1, .int v1), (2, .int v2), (3, .int v3)]) X d_Signs_digits_9 (by decide) rfl rfl ?_
  refine V_sub (lv' := [(0, .ref (G.2.2 + 1)), (1, .int v1), (2, .int v2), (3, .int v3), (4, .int (0 : Int32)), (5, .int (0 : Int32))]) [2, 3, 4, 5, 1, 0] rfl ?_
  obtain ⟨x8, hx8, h⟩ := ob_s h
  refine (lp_Signs_digits_11_ok X hD v1 v2 v3 _ _ _ hx8 (fun x9 e9 => ?_) :)
  subst e9
  refine V_iload (n := 0) X d_Signs_digits_75 rfl rfl ?_
  exact V_iret X (kr (x8.1, x8.2) (Option.some.inj h).symm) d_Signs_digits_77
def f_Signs_stepOf (v0 : Int32) : Option (Int32) :=
  if v0 = (100 : Int32) then
  some (2 : Int32)
  else if v0 = (108 : Int32) then
  some (3 : Int32)
  else if v0 = (111 : Int32) then
  some (4 : Int32)
  else if v0 = (114 : Int32) then
  some (1 : Int32)
  else if v0 = (117 : Int32) then
  some (0 : Int32)
  else some (-1 : Int32)
theorem c_Signs_stepOf (l : Launch) (G : Gw)  (v0 : Int32) (M : Mem) (x : Int32) (h : f_Signs_stepOf v0 = some x) (d : Nat) (hD : 1 ≤ d) : Ci l G y_Signs_stepOf b_Signs_stepOf 1 (some .int) d [.int v0] M (fun r9 M9 => r9 = x ∧ M9 = M) := by
  refine Ci_of (by decide) (Nat.le_of_ble_eq_true rfl) (fun E hE X => ?_)
  subst hE
  have kr : ∀ x9 : Int32, x = x9 → (fun r9 M9 => r9 = x ∧ M9 = M) x9 M := fun x9 e9 => by subst e9; exact ⟨rfl, rfl⟩
  unfold f_Signs_stepOf at h
  refine V_iload_n (n := 0) X d_Signs_stepOf_0 rfl rfl rfl ?_
  by_cases c1 : v0 = (100 : Int32)
  · rw [if_pos c1] at h
    refine V_lku (v := 100) (pc' := 56) (off := 55) X d_Signs_stepOf_1 c1 (by decide) (by decide +kernel) (by decide) ?_
    refine V_iconst (v := 2) X d_Signs_stepOf_56 (by decide) rfl ?_
    exact V_iret X (kr (2 : Int32) (Option.some.inj h).symm) d_Signs_stepOf_57
  · rw [if_neg c1] at h
    by_cases c2 : v0 = (108 : Int32)
    · rw [if_pos c2] at h
      refine V_lku (v := 108) (pc' := 58) (off := 57) X d_Signs_stepOf_1 c2 (by decide) (by decide +kernel) (by decide) ?_
      refine V_iconst (v := 3) X d_Signs_stepOf_58 (by decide) rfl ?_
      exact V_iret X (kr (3 : Int32) (Option.some.inj h).symm) d_Signs_stepOf_59
    · rw [if_neg c2] at h
      by_cases c3 : v0 = (111 : Int32)
      · rw [if_pos c3] at h
        refine V_lku (v := 111) (pc' := 60) (off := 59) X d_Signs_stepOf_1 c3 (by decide) (by decide +kernel) (by decide) ?_
        refine V_iconst (v := 4) X d_Signs_stepOf_60 (by decide) rfl ?_
        exact V_iret X (kr (4 : Int32) (Option.some.inj h).symm) d_Signs_stepOf_61
      · rw [if_neg c3] at h
        by_cases c4 : v0 = (114 : Int32)
        · rw [if_pos c4] at h
          refine V_lku (v := 114) (pc' := 54) (off := 53) X d_Signs_stepOf_1 c4 (by decide) (by decide +kernel) (by decide) ?_
          refine V_iconst (v := 1) X d_Signs_stepOf_54 (by decide) rfl ?_
          exact V_iret X (kr (1 : Int32) (Option.some.inj h).symm) d_Signs_stepOf_55
        · rw [if_neg c4] at h
          by_cases c5 : v0 = (117 : Int32)
          · rw [if_pos c5] at h
            refine V_lku (v := 117) (pc' := 52) (off := 51) X d_Signs_stepOf_1 c5 (by decide) (by decide +kernel) (by decide) ?_
            refine V_iconst (v := 0) X d_Signs_stepOf_52 (by decide) rfl ?_
            exact V_iret X (kr (0 : Int32) (Option.some.inj h).symm) d_Signs_stepOf_53
          · rw [if_neg c5] at h
            refine V_lookup (pc' := 62) X d_Signs_stepOf_1 (by decide) (off := 61) (by simp [Op.lookupswitch.offset, (neT c1 (z := 100) (by decide)).symm, (neT c2 (z := 108) (by decide)).symm, (neT c3 (z := 111) (by decide)).symm, (neT c4 (z := 114) (by decide)).symm, (neT c5 (z := 117) (by decide)).symm]) (by decide) ?_
            refine V_iconst (v := -1) X d_Signs_stepOf_62 (by decide) rfl ?_
            exact V_iret X (kr (-1 : Int32) (Option.some.inj h).symm) d_Signs_stepOf_63
def lb_Signs_steps_6 (v1 : Int32) (v2 : Int32) (v3 : Nat) (v4 : Int32) (s : Int32 × Int32 × Mem) : Option ((Int32 × Int32 × Mem) ⊕ ((Int32 × Mem))) :=
  if (9 : Int32) ≤ s.2.1 then
  some (.inr (s.1, s.2.2))
  else
  if s.1 = s.2.1 then
  Option.bind (f_Signs_at (v1 + s.2.1) v2 s.2.2) fun x1 =>
  Option.bind (f_Signs_stepOf x1) fun x2 =>
  if x2 = (-1 : Int32) then
  some (.inl (s.1, (s.2.1 + (1 : Int32)), s.2.2))
  else
  if v4 < 0 then
  some (.inl (s.1, (s.2.1 + (1 : Int32)), s.2.2))
  else
  if (Int32.ofNat (ln v3)) ≤ (v4 + s.2.1) then
  some (.inl (s.1, (s.2.1 + (1 : Int32)), s.2.2))
  else
  if inb (v4 + s.2.1) (ln v3) = true then
  mem_ (s_i s.2.2 v3 (v4 + s.2.1).toNatClampNeg x2) fun M3 =>
  some (.inl ((s.1 + (1 : Int32)), (s.2.1 + (1 : Int32)), M3))
  else none
  else
  some (.inr (s.1, s.2.2))
theorem lb_Signs_steps_6_ok {E : Ev} {G : Gw} {d : Nat} {post : Int32 → Mem → Prop} (X : Cx E G b_Signs_steps "WomenByTheRoofs$Signs" 8 d (some .int)) (hD : 2 ≤ d)  (v1 : Int32) (v2 : Int32) (v3 : Nat) (v4 : Int32) (hk_v3 : kd v3 = 1)  (s : Int32 × Int32 × Mem) (o : (Int32 × Int32 × Mem) ⊕ ((Int32 × Mem))) (h : lb_Signs_steps_6 v1 v2 v3 v4 s = some o) (kc : ∀ s9 : Int32 × Int32 × Mem, o = .inl s9 → V E (0, 0) G 8 (QI E G post) s9.2.2 6 [(0, .ref (G.2.2 + 1)), (1, .int v1), (2, .int v2), (3, .ref (G.2.2 + v3)), (4, .int v4), (5, .int s9.1), (6, .int s9.2.1)] []) (kx0 : ∀ x9 : Int32 × Mem, o = .inr x9 → V E (0, 0) G 8 (QI E G post) x9.2 73 [(5, .int x9.1)] []) : V E (0, 0) G 8 (QI E G post) s.2.2 6 [(0, .ref (G.2.2 + 1)), (1, .int v1), (2, .int v2), (3, .ref (G.2.2 + v3)), (4, .int v4), (5, .int s.1), (6, .int s.2.1)] [] := by
  unfold lb_Signs_steps_6 at h
  refine V_iload (n := 6) X d_Signs_steps_6 rfl rfl ?_
  refine V_bipush (v := 9) X d_Signs_steps_8 (by decide) rfl ?_
  refine V_icmp_ge (tgt := 73) X d_Signs_steps_10 (by decide) rfl (fun c8 => ?_) (fun c8 => ?_)
  · rw [if_pos c8] at h
    refine V_sub (lv' := [(5, .int s.1)]) [5] rfl ?_
    exact kx0 (s.1, s.2.2) (Option.some.inj h).symm
  · rw [if_neg c8] at h
    refine V_iload (n := 5) X d_Signs_steps_13 rfl rfl ?_
    refine V_iload (n := 6) X d_Signs_steps_15 rfl rfl ?_
    refine V_icmp_ne (tgt := 73) X d_Signs_steps_17 (by decide) rfl (fun c7 => ?_) (fun c7 => ?_)
    · rw [if_neg c7] at h
      refine V_sub (lv' := [(5, .int s.1)]) [5] rfl ?_
      exact kx0 (s.1, s.2.2) (Option.some.inj h).symm
    · rw [if_pos c7] at h
      refine V_aload_n (n := 0) X d_Signs_steps_20 rfl rfl rfl ?_
      refine V_iload_n (n := 1) X d_Signs_steps_21 rfl rfl rfl ?_
      refine V_iload (n := 6) X d_Signs_steps_22 rfl rfl ?_
      refine V_iadd X d_Signs_steps_24 rfl ?_
      refine V_iload_n (n := 2) X d_Signs_steps_25 rfl rfl rfl ?_
      obtain ⟨x1, hx1, h⟩ := ob_s h
      refine V_ci (As := [.int (v1 + s.2.1), .int v2]) X (Z0 E) ml_Signs_22 yq_Signs_at (c_Signs_at E.2.1 G (v1 + s.2.1) v2 s.2.2 x1 hx1 _ (Nat.le_refl _)) kd_1 rfl rfl (by omega) rfl (Nat.le_of_ble_eq_true rfl) d_Signs_steps_26 rfl (fun r9 M9 hq => ?_)
      rw [hq.1, hq.2]
      obtain ⟨x2, hx2, h⟩ := ob_s h
      refine V_si (As := [.int x1]) X (Z0 E) ml_Signs_26 yq_Signs_stepOf (c_Signs_stepOf E.2.1 G x1 s.2.2 x2 hx2 _ (Nat.le_refl _)) rfl (by omega) rfl (Nat.le_of_ble_eq_true rfl) d_Signs_steps_29 rfl (fun r9 M9 hq => ?_)
      rw [hq.1, hq.2]
      refine V_istore (lv' := [(7, .int x2), (0, .ref (G.2.2 + 1)), (1, .int v1), (2, .int v2), (3, .ref (G.2.2 + v3)), (4, .int v4), (5, .int s.1), (6, .int s.2.1)]) X d_Signs_steps_32 (by decide) rfl rfl ?_
      refine V_iload (n := 0) X d_Signs_steps_34 rfl rfl ?_
      refine V_iconst (v := -1) X d_Signs_steps_36 (by decide) rfl ?_
      refine V_icmp_eq (tgt := 67) X d_Signs_steps_37 (by decide) rfl (fun c6 => ?_) (fun c6 => ?_)
      · rw [if_pos c6] at h
        refine V_iinc (n := 7) (v := (s.2.1 + (1 : Int32))) (lv' := [(6, .int (s.2.1 + (1 : Int32))), (7, .int x2), (0, .ref (G.2.2 + 1)), (1, .int v1), (2, .int v2), (3, .ref (G.2.2 + v3)), (4, .int v4), (5, .int s.1)]) X d_Signs_steps_67 rfl rfl (by decide) rfl rfl ?_
        refine V_goto (pc' := 6) X d_Signs_steps_70 (by decide) ?_
        refine V_sub (lv' := [(0, .ref (G.2.2 + 1)), (1, .int v1), (2, .int v2), (3, .ref (G.2.2 + v3)), (4, .int v4), (5, .int s.1), (6, .int (s.2.1 + (1 : Int32)))]) [2, 3, 4, 5, 6, 7, 0] rfl ?_
        exact kc (s.1, (s.2.1 + (1 : Int32)), s.2.2) (Option.some.inj h).symm
      · rw [if_neg c6] at h
        refine V_iload (n := 5) X d_Signs_steps_40 rfl rfl ?_
        refine V_if_lt (tgt := 67) X d_Signs_steps_42 (by decide) rfl (fun c5 => ?_) (fun c5 => ?_)
        · rw [if_pos c5] at h
          refine V_iinc (n := 7) (v := (s.2.1 + (1 : Int32))) (lv' := [(6, .int (s.2.1 + (1 : Int32))), (7, .int x2), (0, .ref (G.2.2 + 1)), (1, .int v1), (2, .int v2), (3, .ref (G.2.2 + v3)), (4, .int v4), (5, .int s.1)]) X d_Signs_steps_67 rfl rfl (by decide) rfl rfl ?_
          refine V_goto (pc' := 6) X d_Signs_steps_70 (by decide) ?_
          refine V_sub (lv' := [(0, .ref (G.2.2 + 1)), (1, .int v1), (2, .int v2), (3, .ref (G.2.2 + v3)), (4, .int v4), (5, .int s.1), (6, .int (s.2.1 + (1 : Int32)))]) [2, 3, 4, 5, 6, 7, 0] rfl ?_
          exact kc (s.1, (s.2.1 + (1 : Int32)), s.2.2) (Option.some.inj h).symm
        · rw [if_neg c5] at h
          refine V_iload (n := 5) X d_Signs_steps_45 rfl rfl ?_
          refine V_iload (n := 7) X d_Signs_steps_47 rfl rfl ?_
          refine V_iadd X d_Signs_steps_49 rfl ?_
          refine V_aload_n (n := 4) X d_Signs_steps_50 rfl rfl rfl ?_
          refine V_alen X hk_v3 (by decide) rfl d_Signs_steps_51 rfl ?_
          refine V_icmp_ge (tgt := 67) X d_Signs_steps_52 (by decide) rfl (fun c4 => ?_) (fun c4 => ?_)
          · rw [if_pos c4] at h
            refine V_iinc (n := 7) (v := (s.2.1 + (1 : Int32))) (lv' := [(6, .int (s.2.1 + (1 : Int32))), (7, .int x2), (0, .ref (G.2.2 + 1)), (1, .int v1), (2, .int v2), (3, .ref (G.2.2 + v3)), (4, .int v4), (5, .int s.1)]) X d_Signs_steps_67 rfl rfl (by decide) rfl rfl ?_
            refine V_goto (pc' := 6) X d_Signs_steps_70 (by decide) ?_
            refine V_sub (lv' := [(0, .ref (G.2.2 + 1)), (1, .int v1), (2, .int v2), (3, .ref (G.2.2 + v3)), (4, .int v4), (5, .int s.1), (6, .int (s.2.1 + (1 : Int32)))]) [2, 3, 4, 5, 6, 7, 0] rfl ?_
            exact kc (s.1, (s.2.1 + (1 : Int32)), s.2.2) (Option.some.inj h).symm
          · rw [if_neg c4] at h
            refine V_aload_n (n := 4) X d_Signs_steps_55 rfl rfl rfl ?_
            refine V_iload (n := 5) X d_Signs_steps_56 rfl rfl ?_
            refine V_iload (n := 7) X d_Signs_steps_58 rfl rfl ?_
            refine V_iadd X d_Signs_steps_60 rfl ?_
            refine V_iload (n := 0) X d_Signs_steps_61 rfl rfl ?_
            obtain ⟨hb, h⟩ := ifn h
            obtain ⟨M3, eM3, h⟩ := memS h
            refine V_iast X hk_v3 (inb_in rfl hb) d_Signs_steps_63 rfl ?_
            rw [← eM3]
            refine V_iinc (n := 6) (v := (s.1 + (1 : Int32))) (lv' := [(5, .int (s.1 + (1 : Int32))), (7, .int x2), (0, .ref (G.2.2 + 1)), (1, .int v1), (2, .int v2), (3, .ref (G.2.2 + v3)), (4, .int v4), (6, .int s.2.1)]) X d_Signs_steps_64 rfl rfl (by decide) rfl rfl ?_
            refine V_iinc (n := 7) (v := (s.2.1 + (1 : Int32))) (lv' := [(6, .int (s.2.1 + (1 : Int32))), (5, .int (s.1 + (1 : Int32))), (7, .int x2), (0, .ref (G.2.2 + 1)), (1, .int v1), (2, .int v2), (3, .ref (G.2.2 + v3)), (4, .int v4)]) X d_Signs_steps_67 rfl rfl (by decide) rfl rfl ?_
            refine V_goto (pc' := 6) X d_Signs_steps_70 (by decide) ?_
            refine V_sub (lv' := [(0, .ref (G.2.2 + 1)), (1, .int v1), (2, .int v2), (3, .ref (G.2.2 + v3)), (4, .int v4), (5, .int (s.1 + (1 : Int32))), (6, .int (s.2.1 + (1 : Int32)))]) [3, 4, 5, 6, 7, 1, 0] rfl ?_
            exact kc ((s.1 + (1 : Int32)), (s.2.1 + (1 : Int32)), M3) (Option.some.inj h).symm
theorem lp_Signs_steps_6_ok {E : Ev} {G : Gw} {d : Nat} {post : Int32 → Mem → Prop} (X : Cx E G b_Signs_steps "WomenByTheRoofs$Signs" 8 d (some .int)) (hD : 2 ≤ d)  (v1 : Int32) (v2 : Int32) (v3 : Nat) (v4 : Int32) (hk_v3 : kd v3 = 1)  (n9 : Nat) (s : Int32 × Int32 × Mem) (x : (Int32 × Mem)) (h : iter (lb_Signs_steps_6 v1 v2 v3 v4) n9 s = some x) (kx0 : ∀ x9 : Int32 × Mem, x = x9 → V E (0, 0) G 8 (QI E G post) x9.2 73 [(5, .int x9.1)] []) : V E (0, 0) G 8 (QI E G post) s.2.2 6 [(0, .ref (G.2.2 + 1)), (1, .int v1), (2, .int v2), (3, .ref (G.2.2 + v3)), (4, .int v4), (5, .int s.1), (6, .int s.2.1)] [] :=
  iter_P (P := fun s : Int32 × Int32 × Mem => V E (0, 0) G 8 (QI E G post) s.2.2 6 [(0, .ref (G.2.2 + 1)), (1, .int v1), (2, .int v2), (3, .ref (G.2.2 + v3)), (4, .int v4), (5, .int s.1), (6, .int s.2.1)] []) (fun s o hb kc ky => lb_Signs_steps_6_ok X hD v1 v2 v3 v4 hk_v3 s o hb kc (fun x9 e9 => kx0 x9 (ky _ e9).symm)) n9 s h
def f_Signs_steps (v1 : Int32) (v2 : Int32) (v3 : Nat) (v4 : Int32) (M : Mem) : Option (Int32 × Mem) :=
  if kd v3 = 1 then
  Option.bind (iter (lb_Signs_steps_6 v1 v2 v3 v4) FU ((0 : Int32), (0 : Int32), M)) fun x9 =>
  some (x9.1, x9.2)
  else none
theorem c_Signs_steps (l : Launch) (G : Gw)  (v1 : Int32) (v2 : Int32) (v3 : Nat) (v4 : Int32) (M : Mem) (x : Int32 × Mem) (h : f_Signs_steps v1 v2 v3 v4 M = some x) (d : Nat) (hD : 2 ≤ d) : Ci l G y_Signs_steps b_Signs_steps 8 (some .int) d [.ref (G.2.2 + 1), .int v1, .int v2, .ref (G.2.2 + v3), .int v4] M (fun r9 M9 => r9 = x.1 ∧ M9 = x.2) := by
  refine Ci_of (by decide) (Nat.le_of_ble_eq_true rfl) (fun E hE X => ?_)
  subst hE
  have kr : ∀ x9 : Int32 × Mem, x = x9 → (fun r9 M9 => r9 = x.1 ∧ M9 = x.2) x9.1 x9.2 := fun x9 e9 => by subst e9; exact ⟨rfl, rfl⟩
  unfold f_Signs_steps at h
  obtain ⟨hk_v3, h⟩ := ifn h
  refine V_iconst (v := 0) X d_Signs_steps_0 (by decide) rfl ?_
  refine V_istore (lv' := [(5, .int (0 : Int32)), (0, .ref (G.2.2 + 1)), (1, .int v1), (2, .int v2), (3, .ref (G.2.2 + v3)), (4, .int v4)]) X d_Signs_steps_1 (by decide) rfl rfl ?_
  refine V_iconst (v := 0) X d_Signs_steps_3 (by decide) rfl ?_
  refine V_istore (lv' := [(6, .int (0 : Int32)), (5, .int (0 : Int32)), (0, .ref (G.2.2 + 1)), (1, .int v1), (2, .int v2), (3, .ref (G.2.2 + v3)), (4, .int v4)]) X d_Signs_steps_4 (by decide) rfl rfl ?_
  refine V_sub (lv' := [(0, .ref (G.2.2 + 1)), (1, .int v1), (2, .int v2), (3, .ref (G.2.2 + v3)), (4, .int v4), (5, .int (0 : Int32)), (6, .int (0 : Int32))]) [2, 3, 4, 5, 6, 1, 0] rfl ?_
  obtain ⟨x9, hx9, h⟩ := ob_s h
  refine (lp_Signs_steps_6_ok X hD v1 v2 v3 v4 hk_v3 _ _ _ hx9 (fun x9 e9 => ?_) :)
  subst e9
  refine V_iload (n := 0) X d_Signs_steps_73 rfl rfl ?_
  exact V_iret X (kr (x9.1, x9.2) (Option.some.inj h).symm) d_Signs_steps_75
