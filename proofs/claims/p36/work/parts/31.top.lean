theorem d_Top_lasts_0 : decode b_Top_lasts 0 = .ok (.iload_n 1, 1) := kq_27 byq_r (by decide +kernel)
theorem d_Top_lasts_1 : decode b_Top_lasts 1 = .ok (.bipush 60, 2) := kq_16 byq_r (b := 60) (by decide +kernel)
theorem d_Top_lasts_3 : decode b_Top_lasts 3 = .ok (.if_icmp .le 5, 3) := kq_164 byq_r (a := 0) (b := 5) (by decide +kernel)
theorem d_Top_lasts_6 : decode b_Top_lasts 6 = .ok (.iconst 0, 1) := kq_3 byq_r (by decide +kernel)
theorem d_Top_lasts_7 : decode b_Top_lasts 7 = .ok (.ireturn, 1) := kq_172 byq_r (by decide +kernel)
theorem d_Top_lasts_8 : decode b_Top_lasts 8 = .ok (.iconst 0, 1) := kq_3 byq_r (by decide +kernel)
theorem d_Top_lasts_9 : decode b_Top_lasts 9 = .ok (.istore_n 2, 1) := kq_61 byq_r (by decide +kernel)
theorem d_Top_lasts_10 : decode b_Top_lasts 10 = .ok (.iload_n 2, 1) := kq_28 byq_r (by decide +kernel)
theorem d_Top_lasts_11 : decode b_Top_lasts 11 = .ok (.iload_n 1, 1) := kq_27 byq_r (by decide +kernel)
theorem d_Top_lasts_12 : decode b_Top_lasts 12 = .ok (.if_icmp .ge 36, 3) := kq_162 byq_r (a := 0) (b := 36) (by decide +kernel)
theorem d_Top_lasts_15 : decode b_Top_lasts 15 = .ok (.aload_n 0, 1) := kq_42 byq_r (by decide +kernel)
theorem d_Top_lasts_16 : decode b_Top_lasts 16 = .ok (.getfield 63, 3) := kq_180 byq_r (a := 0) (b := 63) (by decide +kernel)
theorem d_Top_lasts_19 : decode b_Top_lasts 19 = .ok (.aload_n 0, 1) := kq_42 byq_r (by decide +kernel)
theorem d_Top_lasts_20 : decode b_Top_lasts 20 = .ok (.getfield 33, 3) := kq_180 byq_r (a := 0) (b := 33) (by decide +kernel)
theorem d_Top_lasts_23 : decode b_Top_lasts 23 = .ok (.aload_n 0, 1) := kq_42 byq_r (by decide +kernel)
theorem d_Top_lasts_24 : decode b_Top_lasts 24 = .ok (.getfield 26, 3) := kq_180 byq_r (a := 0) (b := 26) (by decide +kernel)
theorem d_Top_lasts_27 : decode b_Top_lasts 27 = .ok (.aload_n 0, 1) := kq_42 byq_r (by decide +kernel)
theorem d_Top_lasts_28 : decode b_Top_lasts 28 = .ok (.getfield 19, 3) := kq_180 byq_r (a := 0) (b := 19) (by decide +kernel)
theorem d_Top_lasts_31 : decode b_Top_lasts 31 = .ok (.aload_n 0, 1) := kq_42 byq_r (by decide +kernel)
theorem d_Top_lasts_32 : decode b_Top_lasts 32 = .ok (.getfield 56, 3) := kq_180 byq_r (a := 0) (b := 56) (by decide +kernel)
theorem d_Top_lasts_35 : decode b_Top_lasts 35 = .ok (.aload_n 0, 1) := kq_42 byq_r (by decide +kernel)
theorem d_Top_lasts_36 : decode b_Top_lasts 36 = .ok (.getfield 46, 3) := kq_180 byq_r (a := 0) (b := 46) (by decide +kernel)
theorem d_Top_lasts_39 : decode b_Top_lasts 39 = .ok (.invokevirtual 247, 3) := kq_182 byq_r (a := 0) (b := 247) (by decide +kernel)
theorem d_Top_lasts_42 : decode b_Top_lasts 42 = .ok (.iinc 2 1, 3) := kq_132 byq_r (b := 1) (by decide +kernel)
theorem d_Top_lasts_45 : decode b_Top_lasts 45 = .ok (.goto (-35), 3) := kq_167 byq_r (a := 255) (b := 221) (by decide +kernel)
theorem d_Top_lasts_48 : decode b_Top_lasts 48 = .ok (.iconst 1, 1) := kq_4 byq_r (by decide +kernel)
theorem d_Top_lasts_49 : decode b_Top_lasts 49 = .ok (.ireturn, 1) := kq_172 byq_r (by decide +kernel)
theorem d_Top_does_0 : decode b_Top_does 0 = .ok (.iload_n 1, 1) := kq_27 byq_r (by decide +kernel)
theorem d_Top_does_1 : decode b_Top_does 1 = .ok (.ifCond .lt 9, 3) := kq_155 byq_r (a := 0) (b := 9) (by decide +kernel)
theorem d_Top_does_4 : decode b_Top_does 4 = .ok (.iload_n 1, 1) := kq_27 byq_r (by decide +kernel)
theorem d_Top_does_5 : decode b_Top_does 5 = .ok (.bipush 32, 2) := kq_16 byq_r (b := 32) (by decide +kernel)
theorem d_Top_does_7 : decode b_Top_does 7 = .ok (.if_icmp .lt 5, 3) := kq_161 byq_r (a := 0) (b := 5) (by decide +kernel)
theorem d_Top_does_10 : decode b_Top_does 10 = .ok (.iconst 0, 1) := kq_3 byq_r (by decide +kernel)
theorem d_Top_does_11 : decode b_Top_does 11 = .ok (.ireturn, 1) := kq_172 byq_r (by decide +kernel)
theorem d_Top_does_12 : decode b_Top_does 12 = .ok (.aload_n 0, 1) := kq_42 byq_r (by decide +kernel)
theorem d_Top_does_13 : decode b_Top_does 13 = .ok (.getfield 77, 3) := kq_180 byq_r (a := 0) (b := 77) (by decide +kernel)
theorem d_Top_does_16 : decode b_Top_does 16 = .ok (.getfield 473, 3) := kq_180 byq_r (a := 1) (b := 217) (by decide +kernel)
theorem d_Top_does_19 : decode b_Top_does 19 = .ok (.iload_n 1, 1) := kq_27 byq_r (by decide +kernel)
theorem d_Top_does_20 : decode b_Top_does 20 = .ok (.iaload, 1) := kq_46 byq_r (by decide +kernel)
theorem d_Top_does_21 : decode b_Top_does 21 = .ok (.lookupswitch 129 #[(102, 115), (109, 51), (110, 65), (112, 79), (120, 110)], 51) := by decide +kernel
theorem d_Top_does_72 : decode b_Top_does 72 = .ok (.aload_n 0, 1) := kq_42 byq_r (by decide +kernel)
theorem d_Top_does_73 : decode b_Top_does 73 = .ok (.aload_n 0, 1) := kq_42 byq_r (by decide +kernel)
theorem d_Top_does_74 : decode b_Top_does 74 = .ok (.getfield 77, 3) := kq_180 byq_r (a := 0) (b := 77) (by decide +kernel)
theorem d_Top_does_77 : decode b_Top_does 77 = .ok (.getfield 476, 3) := kq_180 byq_r (a := 1) (b := 220) (by decide +kernel)
theorem d_Top_does_80 : decode b_Top_does 80 = .ok (.iload_n 1, 1) := kq_27 byq_r (by decide +kernel)
theorem d_Top_does_81 : decode b_Top_does 81 = .ok (.iaload, 1) := kq_46 byq_r (by decide +kernel)
theorem d_Top_does_82 : decode b_Top_does 82 = .ok (.invokevirtual 479, 3) := kq_182 byq_r (a := 1) (b := 223) (by decide +kernel)
theorem d_Top_does_85 : decode b_Top_does 85 = .ok (.ireturn, 1) := kq_172 byq_r (by decide +kernel)
theorem d_Top_does_86 : decode b_Top_does 86 = .ok (.aload_n 0, 1) := kq_42 byq_r (by decide +kernel)
theorem d_Top_does_87 : decode b_Top_does 87 = .ok (.aload_n 0, 1) := kq_42 byq_r (by decide +kernel)
theorem d_Top_does_88 : decode b_Top_does 88 = .ok (.getfield 77, 3) := kq_180 byq_r (a := 0) (b := 77) (by decide +kernel)
theorem d_Top_does_91 : decode b_Top_does 91 = .ok (.getfield 476, 3) := kq_180 byq_r (a := 1) (b := 220) (by decide +kernel)
theorem d_Top_does_94 : decode b_Top_does 94 = .ok (.iload_n 1, 1) := kq_27 byq_r (by decide +kernel)
theorem d_Top_does_95 : decode b_Top_does 95 = .ok (.iaload, 1) := kq_46 byq_r (by decide +kernel)
theorem d_Top_does_96 : decode b_Top_does 96 = .ok (.invokevirtual 233, 3) := kq_182 byq_r (a := 0) (b := 233) (by decide +kernel)
theorem d_Top_does_99 : decode b_Top_does 99 = .ok (.ireturn, 1) := kq_172 byq_r (by decide +kernel)
theorem d_Top_does_100 : decode b_Top_does 100 = .ok (.aload_n 0, 1) := kq_42 byq_r (by decide +kernel)
theorem d_Top_does_101 : decode b_Top_does 101 = .ok (.aload_n 0, 1) := kq_42 byq_r (by decide +kernel)
theorem d_Top_does_102 : decode b_Top_does 102 = .ok (.getfield 77, 3) := kq_180 byq_r (a := 0) (b := 77) (by decide +kernel)
theorem d_Top_does_105 : decode b_Top_does 105 = .ok (.getfield 476, 3) := kq_180 byq_r (a := 1) (b := 220) (by decide +kernel)
theorem d_Top_does_108 : decode b_Top_does 108 = .ok (.iload_n 1, 1) := kq_27 byq_r (by decide +kernel)
theorem d_Top_does_109 : decode b_Top_does 109 = .ok (.iaload, 1) := kq_46 byq_r (by decide +kernel)
theorem d_Top_does_110 : decode b_Top_does 110 = .ok (.aload_n 0, 1) := kq_42 byq_r (by decide +kernel)
theorem d_Top_does_111 : decode b_Top_does 111 = .ok (.getfield 77, 3) := kq_180 byq_r (a := 0) (b := 77) (by decide +kernel)
theorem d_Top_does_114 : decode b_Top_does 114 = .ok (.getfield 482, 3) := kq_180 byq_r (a := 1) (b := 226) (by decide +kernel)
theorem d_Top_does_117 : decode b_Top_does 117 = .ok (.iload_n 1, 1) := kq_27 byq_r (by decide +kernel)
theorem d_Top_does_118 : decode b_Top_does 118 = .ok (.iaload, 1) := kq_46 byq_r (by decide +kernel)
theorem d_Top_does_119 : decode b_Top_does 119 = .ok (.invokevirtual 215, 3) := kq_182 byq_r (a := 0) (b := 215) (by decide +kernel)
theorem d_Top_does_122 : decode b_Top_does 122 = .ok (.ifCond .lt 7, 3) := kq_155 byq_r (a := 0) (b := 7) (by decide +kernel)
theorem d_Top_does_125 : decode b_Top_does 125 = .ok (.iconst 1, 1) := kq_4 byq_r (by decide +kernel)
theorem d_Top_does_126 : decode b_Top_does 126 = .ok (.goto 4, 3) := kq_167 byq_r (a := 0) (b := 4) (by decide +kernel)
theorem d_Top_does_129 : decode b_Top_does 129 = .ok (.iconst 0, 1) := kq_3 byq_r (by decide +kernel)
theorem d_Top_does_130 : decode b_Top_does 130 = .ok (.ireturn, 1) := kq_172 byq_r (by decide +kernel)
theorem d_Top_does_131 : decode b_Top_does 131 = .ok (.aload_n 0, 1) := kq_42 byq_r (by decide +kernel)
theorem d_Top_does_132 : decode b_Top_does 132 = .ok (.invokevirtual 220, 3) := kq_182 byq_r (a := 0) (b := 220) (by decide +kernel)
theorem d_Top_does_135 : decode b_Top_does 135 = .ok (.ireturn, 1) := kq_172 byq_r (by decide +kernel)
theorem d_Top_does_136 : decode b_Top_does 136 = .ok (.aload_n 0, 1) := kq_42 byq_r (by decide +kernel)
theorem d_Top_does_137 : decode b_Top_does 137 = .ok (.iconst 1, 1) := kq_4 byq_r (by decide +kernel)
theorem d_Top_does_138 : decode b_Top_does 138 = .ok (.aload_n 0, 1) := kq_42 byq_r (by decide +kernel)
theorem d_Top_does_139 : decode b_Top_does 139 = .ok (.getfield 33, 3) := kq_180 byq_r (a := 0) (b := 33) (by decide +kernel)
theorem d_Top_does_142 : decode b_Top_does 142 = .ok (.getfield 450, 3) := kq_180 byq_r (a := 1) (b := 194) (by decide +kernel)
theorem d_Top_does_145 : decode b_Top_does 145 = .ok (.isub, 1) := kq_100 byq_r (by decide +kernel)
theorem d_Top_does_146 : decode b_Top_does 146 = .ok (.invokevirtual 240, 3) := kq_182 byq_r (a := 0) (b := 240) (by decide +kernel)
theorem d_Top_does_149 : decode b_Top_does 149 = .ok (.ireturn, 1) := kq_172 byq_r (by decide +kernel)
theorem d_Top_does_150 : decode b_Top_does 150 = .ok (.iconst 0, 1) := kq_3 byq_r (by decide +kernel)
theorem d_Top_does_151 : decode b_Top_does 151 = .ok (.ireturn, 1) := kq_172 byq_r (by decide +kernel)
theorem d_Top_evening_0 : decode b_Top_evening 0 = .ok (.aload_n 0, 1) := kq_42 byq_r (by decide +kernel)
theorem d_Top_evening_1 : decode b_Top_evening 1 = .ok (.getfield 77, 3) := kq_180 byq_r (a := 0) (b := 77) (by decide +kernel)
theorem d_Top_evening_4 : decode b_Top_evening 4 = .ok (.aload_n 0, 1) := kq_42 byq_r (by decide +kernel)
theorem d_Top_evening_5 : decode b_Top_evening 5 = .ok (.getfield 10, 3) := kq_180 byq_r (a := 0) (b := 10) (by decide +kernel)
theorem d_Top_evening_8 : decode b_Top_evening 8 = .ok (.invokevirtual 275, 3) := kq_182 byq_r (a := 1) (b := 19) (by decide +kernel)
theorem d_Top_evening_11 : decode b_Top_evening 11 = .ok (.istore_n 1, 1) := kq_60 byq_r (by decide +kernel)
theorem d_Top_evening_12 : decode b_Top_evening 12 = .ok (.aload_n 0, 1) := kq_42 byq_r (by decide +kernel)
theorem d_Top_evening_13 : decode b_Top_evening 13 = .ok (.getfield 10, 3) := kq_180 byq_r (a := 0) (b := 10) (by decide +kernel)
theorem d_Top_evening_16 : decode b_Top_evening 16 = .ok (.iconst 0, 1) := kq_3 byq_r (by decide +kernel)
theorem d_Top_evening_17 : decode b_Top_evening 17 = .ok (.putfield 110, 3) := kq_181 byq_r (a := 0) (b := 110) (by decide +kernel)
theorem d_Top_evening_20 : decode b_Top_evening 20 = .ok (.iload_n 1, 1) := kq_27 byq_r (by decide +kernel)
theorem d_Top_evening_21 : decode b_Top_evening 21 = .ok (.ifCond .ge 5, 3) := kq_156 byq_r (a := 0) (b := 5) (by decide +kernel)
theorem d_Top_evening_24 : decode b_Top_evening 24 = .ok (.iload_n 1, 1) := kq_27 byq_r (by decide +kernel)
theorem d_Top_evening_25 : decode b_Top_evening 25 = .ok (.ireturn, 1) := kq_172 byq_r (by decide +kernel)
theorem d_Top_evening_26 : decode b_Top_evening 26 = .ok (.aload_n 0, 1) := kq_42 byq_r (by decide +kernel)
theorem d_Top_evening_27 : decode b_Top_evening 27 = .ok (.getfield 37, 3) := kq_180 byq_r (a := 0) (b := 37) (by decide +kernel)
theorem d_Top_evening_30 : decode b_Top_evening 30 = .ok (.aload_n 0, 1) := kq_42 byq_r (by decide +kernel)
theorem d_Top_evening_31 : decode b_Top_evening 31 = .ok (.getfield 33, 3) := kq_180 byq_r (a := 0) (b := 33) (by decide +kernel)
theorem d_Top_evening_34 : decode b_Top_evening 34 = .ok (.invokevirtual 211, 3) := kq_182 byq_r (a := 0) (b := 211) (by decide +kernel)
theorem d_Top_evening_37 : decode b_Top_evening 37 = .ok (.aload_n 0, 1) := kq_42 byq_r (by decide +kernel)
theorem d_Top_evening_38 : decode b_Top_evening 38 = .ok (.getfield 63, 3) := kq_180 byq_r (a := 0) (b := 63) (by decide +kernel)
theorem d_Top_evening_41 : decode b_Top_evening 41 = .ok (.invokevirtual 266, 3) := kq_182 byq_r (a := 1) (b := 10) (by decide +kernel)
theorem d_Top_evening_44 : decode b_Top_evening 44 = .ok (.iconst 0, 1) := kq_3 byq_r (by decide +kernel)
theorem d_Top_evening_45 : decode b_Top_evening 45 = .ok (.istore_n 2, 1) := kq_61 byq_r (by decide +kernel)
theorem d_Top_evening_46 : decode b_Top_evening 46 = .ok (.iconst 0, 1) := kq_3 byq_r (by decide +kernel)
theorem d_Top_evening_47 : decode b_Top_evening 47 = .ok (.istore_n 3, 1) := kq_62 byq_r (by decide +kernel)
theorem d_Top_evening_48 : decode b_Top_evening 48 = .ok (.iload_n 3, 1) := kq_29 byq_r (by decide +kernel)
theorem d_Top_evening_49 : decode b_Top_evening 49 = .ok (.iload_n 1, 1) := kq_27 byq_r (by decide +kernel)
theorem d_Top_evening_50 : decode b_Top_evening 50 = .ok (.if_icmp .ge 25, 3) := kq_162 byq_r (a := 0) (b := 25) (by decide +kernel)
theorem d_Top_evening_53 : decode b_Top_evening 53 = .ok (.iload_n 2, 1) := kq_28 byq_r (by decide +kernel)
theorem d_Top_evening_54 : decode b_Top_evening 54 = .ok (.iload_n 3, 1) := kq_29 byq_r (by decide +kernel)
theorem d_Top_evening_55 : decode b_Top_evening 55 = .ok (.if_icmp .ne 20, 3) := kq_160 byq_r (a := 0) (b := 20) (by decide +kernel)
theorem d_Top_evening_58 : decode b_Top_evening 58 = .ok (.aload_n 0, 1) := kq_42 byq_r (by decide +kernel)
theorem d_Top_evening_59 : decode b_Top_evening 59 = .ok (.iload_n 3, 1) := kq_29 byq_r (by decide +kernel)
theorem d_Top_evening_60 : decode b_Top_evening 60 = .ok (.invokevirtual 276, 3) := kq_182 byq_r (a := 1) (b := 20) (by decide +kernel)
theorem d_Top_evening_63 : decode b_Top_evening 63 = .ok (.ifCond .eq 6, 3) := kq_153 byq_r (a := 0) (b := 6) (by decide +kernel)
theorem d_Top_evening_66 : decode b_Top_evening 66 = .ok (.iinc 2 1, 3) := kq_132 byq_r (b := 1) (by decide +kernel)
theorem d_Top_evening_69 : decode b_Top_evening 69 = .ok (.iinc 3 1, 3) := kq_132 byq_r (b := 1) (by decide +kernel)
theorem d_Top_evening_72 : decode b_Top_evening 72 = .ok (.goto (-24), 3) := kq_167 byq_r (a := 255) (b := 232) (by decide +kernel)
theorem d_Top_evening_75 : decode b_Top_evening 75 = .ok (.iload_n 2, 1) := kq_28 byq_r (by decide +kernel)
theorem d_Top_evening_76 : decode b_Top_evening 76 = .ok (.ifCond .le 14, 3) := kq_158 byq_r (a := 0) (b := 14) (by decide +kernel)
theorem d_Top_evening_79 : decode b_Top_evening 79 = .ok (.aload_n 0, 1) := kq_42 byq_r (by decide +kernel)
theorem d_Top_evening_80 : decode b_Top_evening 80 = .ok (.getfield 70, 3) := kq_180 byq_r (a := 0) (b := 70) (by decide +kernel)
theorem d_Top_evening_83 : decode b_Top_evening 83 = .ok (.aload_n 0, 1) := kq_42 byq_r (by decide +kernel)
theorem d_Top_evening_84 : decode b_Top_evening 84 = .ok (.getfield 37, 3) := kq_180 byq_r (a := 0) (b := 37) (by decide +kernel)
theorem d_Top_evening_87 : decode b_Top_evening 87 = .ok (.invokevirtual 218, 3) := kq_182 byq_r (a := 0) (b := 218) (by decide +kernel)
theorem d_Top_evening_90 : decode b_Top_evening 90 = .ok (.aload_n 0, 1) := kq_42 byq_r (by decide +kernel)
theorem d_Top_evening_91 : decode b_Top_evening 91 = .ok (.invokevirtual 251, 3) := kq_182 byq_r (a := 0) (b := 251) (by decide +kernel)
theorem d_Top_evening_94 : decode b_Top_evening 94 = .ok (.aload_n 0, 1) := kq_42 byq_r (by decide +kernel)
theorem d_Top_evening_95 : decode b_Top_evening 95 = .ok (.iload_n 2, 1) := kq_28 byq_r (by decide +kernel)
theorem d_Top_evening_96 : decode b_Top_evening 96 = .ok (.iload_n 1, 1) := kq_27 byq_r (by decide +kernel)
theorem d_Top_evening_97 : decode b_Top_evening 97 = .ok (.if_icmp .ge 7, 3) := kq_162 byq_r (a := 0) (b := 7) (by decide +kernel)
theorem d_Top_evening_100 : decode b_Top_evening 100 = .ok (.iconst 1, 1) := kq_4 byq_r (by decide +kernel)
theorem d_Top_evening_101 : decode b_Top_evening 101 = .ok (.goto 4, 3) := kq_167 byq_r (a := 0) (b := 4) (by decide +kernel)
theorem d_Top_evening_104 : decode b_Top_evening 104 = .ok (.iconst 0, 1) := kq_3 byq_r (by decide +kernel)
theorem d_Top_evening_105 : decode b_Top_evening 105 = .ok (.invokevirtual 257, 3) := kq_182 byq_r (a := 1) (b := 1) (by decide +kernel)
theorem d_Top_evening_108 : decode b_Top_evening 108 = .ok (.aload_n 0, 1) := kq_42 byq_r (by decide +kernel)
theorem d_Top_evening_109 : decode b_Top_evening 109 = .ok (.aload_n 0, 1) := kq_42 byq_r (by decide +kernel)
theorem d_Top_evening_110 : decode b_Top_evening 110 = .ok (.getfield 63, 3) := kq_180 byq_r (a := 0) (b := 63) (by decide +kernel)
theorem d_Top_evening_113 : decode b_Top_evening 113 = .ok (.getfield 272, 3) := kq_180 byq_r (a := 1) (b := 16) (by decide +kernel)
theorem d_Top_evening_116 : decode b_Top_evening 116 = .ok (.invokevirtual 257, 3) := kq_182 byq_r (a := 1) (b := 1) (by decide +kernel)
theorem d_Top_evening_119 : decode b_Top_evening 119 = .ok (.iload_n 2, 1) := kq_28 byq_r (by decide +kernel)
theorem d_Top_evening_120 : decode b_Top_evening 120 = .ok (.ireturn, 1) := kq_172 byq_r (by decide +kernel)
theorem d_Top_undo_0 : decode b_Top_undo 0 = .ok (.aload_n 0, 1) := kq_42 byq_r (by decide +kernel)
theorem d_Top_undo_1 : decode b_Top_undo 1 = .ok (.getfield 70, 3) := kq_180 byq_r (a := 0) (b := 70) (by decide +kernel)
theorem d_Top_undo_4 : decode b_Top_undo 4 = .ok (.aload_n 0, 1) := kq_42 byq_r (by decide +kernel)
theorem d_Top_undo_5 : decode b_Top_undo 5 = .ok (.getfield 33, 3) := kq_180 byq_r (a := 0) (b := 33) (by decide +kernel)
theorem d_Top_undo_8 : decode b_Top_undo 8 = .ok (.invokevirtual 279, 3) := kq_182 byq_r (a := 1) (b := 23) (by decide +kernel)
theorem d_Top_undo_11 : decode b_Top_undo 11 = .ok (.ifCond .ne 5, 3) := kq_154 byq_r (a := 0) (b := 5) (by decide +kernel)
theorem d_Top_undo_14 : decode b_Top_undo 14 = .ok (.iconst (-1), 1) := kq_2 byq_r (by decide +kernel)
theorem d_Top_undo_15 : decode b_Top_undo 15 = .ok (.ireturn, 1) := kq_172 byq_r (by decide +kernel)
theorem d_Top_undo_16 : decode b_Top_undo 16 = .ok (.aload_n 0, 1) := kq_42 byq_r (by decide +kernel)
theorem d_Top_undo_17 : decode b_Top_undo 17 = .ok (.getfield 46, 3) := kq_180 byq_r (a := 0) (b := 46) (by decide +kernel)
theorem d_Top_undo_20 : decode b_Top_undo 20 = .ok (.aload_n 0, 1) := kq_42 byq_r (by decide +kernel)
theorem d_Top_undo_21 : decode b_Top_undo 21 = .ok (.getfield 19, 3) := kq_180 byq_r (a := 0) (b := 19) (by decide +kernel)
theorem d_Top_undo_24 : decode b_Top_undo 24 = .ok (.aload_n 0, 1) := kq_42 byq_r (by decide +kernel)
theorem d_Top_undo_25 : decode b_Top_undo 25 = .ok (.getfield 33, 3) := kq_180 byq_r (a := 0) (b := 33) (by decide +kernel)
theorem d_Top_undo_28 : decode b_Top_undo 28 = .ok (.iconst (-1), 1) := kq_2 byq_r (by decide +kernel)
theorem d_Top_undo_29 : decode b_Top_undo 29 = .ok (.invokevirtual 122, 3) := kq_182 byq_r (a := 0) (b := 122) (by decide +kernel)
theorem d_Top_undo_32 : decode b_Top_undo 32 = .ok (.aload_n 0, 1) := kq_42 byq_r (by decide +kernel)
theorem d_Top_undo_33 : decode b_Top_undo 33 = .ok (.getfield 70, 3) := kq_180 byq_r (a := 0) (b := 70) (by decide +kernel)
theorem d_Top_undo_36 : decode b_Top_undo 36 = .ok (.getfield 283, 3) := kq_180 byq_r (a := 1) (b := 27) (by decide +kernel)
theorem d_Top_undo_39 : decode b_Top_undo 39 = .ok (.ireturn, 1) := kq_172 byq_r (by decide +kernel)
theorem d_Top_areTwo_0 : decode b_Top_areTwo 0 = .ok (.aload_n 0, 1) := kq_42 byq_r (by decide +kernel)
theorem d_Top_areTwo_1 : decode b_Top_areTwo 1 = .ok (.getfield 26, 3) := kq_180 byq_r (a := 0) (b := 26) (by decide +kernel)
theorem d_Top_areTwo_4 : decode b_Top_areTwo 4 = .ok (.iload_n 1, 1) := kq_27 byq_r (by decide +kernel)
theorem d_Top_areTwo_5 : decode b_Top_areTwo 5 = .ok (.invokevirtual 153, 3) := kq_182 byq_r (a := 0) (b := 153) (by decide +kernel)
theorem d_Top_areTwo_8 : decode b_Top_areTwo 8 = .ok (.ifCond .eq 23, 3) := kq_153 byq_r (a := 0) (b := 23) (by decide +kernel)
theorem d_Top_areTwo_11 : decode b_Top_areTwo 11 = .ok (.aload_n 0, 1) := kq_42 byq_r (by decide +kernel)
theorem d_Top_areTwo_12 : decode b_Top_areTwo 12 = .ok (.getfield 26, 3) := kq_180 byq_r (a := 0) (b := 26) (by decide +kernel)
theorem d_Top_areTwo_15 : decode b_Top_areTwo 15 = .ok (.iload_n 2, 1) := kq_28 byq_r (by decide +kernel)
theorem d_Top_areTwo_16 : decode b_Top_areTwo 16 = .ok (.invokevirtual 153, 3) := kq_182 byq_r (a := 0) (b := 153) (by decide +kernel)
theorem d_Top_areTwo_19 : decode b_Top_areTwo 19 = .ok (.ifCond .eq 12, 3) := kq_153 byq_r (a := 0) (b := 12) (by decide +kernel)
theorem d_Top_areTwo_22 : decode b_Top_areTwo 22 = .ok (.iload_n 1, 1) := kq_27 byq_r (by decide +kernel)
theorem d_Top_areTwo_23 : decode b_Top_areTwo 23 = .ok (.iload_n 2, 1) := kq_28 byq_r (by decide +kernel)
theorem d_Top_areTwo_24 : decode b_Top_areTwo 24 = .ok (.if_icmp .eq 7, 3) := kq_159 byq_r (a := 0) (b := 7) (by decide +kernel)
theorem d_Top_areTwo_27 : decode b_Top_areTwo 27 = .ok (.iconst 1, 1) := kq_4 byq_r (by decide +kernel)
theorem d_Top_areTwo_28 : decode b_Top_areTwo 28 = .ok (.goto 4, 3) := kq_167 byq_r (a := 0) (b := 4) (by decide +kernel)
theorem d_Top_areTwo_31 : decode b_Top_areTwo 31 = .ok (.iconst 0, 1) := kq_3 byq_r (by decide +kernel)
theorem d_Top_areTwo_32 : decode b_Top_areTwo 32 = .ok (.ireturn, 1) := kq_172 byq_r (by decide +kernel)
theorem d_Top_met_0 : decode b_Top_met 0 = .ok (.aload_n 0, 1) := kq_42 byq_r (by decide +kernel)
theorem d_Top_met_1 : decode b_Top_met 1 = .ok (.iload_n 1, 1) := kq_27 byq_r (by decide +kernel)
theorem d_Top_met_2 : decode b_Top_met 2 = .ok (.iload_n 2, 1) := kq_28 byq_r (by decide +kernel)
theorem d_Top_met_3 : decode b_Top_met 3 = .ok (.invokevirtual 284, 3) := kq_182 byq_r (a := 1) (b := 28) (by decide +kernel)
theorem d_Top_met_6 : decode b_Top_met 6 = .ok (.ifCond .ne 5, 3) := kq_154 byq_r (a := 0) (b := 5) (by decide +kernel)
theorem d_Top_met_9 : decode b_Top_met 9 = .ok (.iconst (-1), 1) := kq_2 byq_r (by decide +kernel)
theorem d_Top_met_10 : decode b_Top_met 10 = .ok (.ireturn, 1) := kq_172 byq_r (by decide +kernel)
theorem d_Top_met_11 : decode b_Top_met 11 = .ok (.aload_n 0, 1) := kq_42 byq_r (by decide +kernel)
theorem d_Top_met_12 : decode b_Top_met 12 = .ok (.getfield 33, 3) := kq_180 byq_r (a := 0) (b := 33) (by decide +kernel)
theorem d_Top_met_15 : decode b_Top_met 15 = .ok (.iload_n 1, 1) := kq_27 byq_r (by decide +kernel)
theorem d_Top_met_16 : decode b_Top_met 16 = .ok (.iload_n 2, 1) := kq_28 byq_r (by decide +kernel)
theorem d_Top_met_17 : decode b_Top_met 17 = .ok (.invokevirtual 287, 3) := kq_182 byq_r (a := 1) (b := 31) (by decide +kernel)
theorem d_Top_met_20 : decode b_Top_met 20 = .ok (.ireturn, 1) := kq_172 byq_r (by decide +kernel)
theorem d_Top_ahead_0 : decode b_Top_ahead 0 = .ok (.iload_n 1, 1) := kq_27 byq_r (by decide +kernel)
theorem d_Top_ahead_1 : decode b_Top_ahead 1 = .ok (.ifCond .lt 9, 3) := kq_155 byq_r (a := 0) (b := 9) (by decide +kernel)
theorem d_Top_ahead_4 : decode b_Top_ahead 4 = .ok (.iload_n 1, 1) := kq_27 byq_r (by decide +kernel)
theorem d_Top_ahead_5 : decode b_Top_ahead 5 = .ok (.bipush 60, 2) := kq_16 byq_r (b := 60) (by decide +kernel)
theorem d_Top_ahead_7 : decode b_Top_ahead 7 = .ok (.if_icmp .le 5, 3) := kq_164 byq_r (a := 0) (b := 5) (by decide +kernel)
theorem d_Top_ahead_10 : decode b_Top_ahead 10 = .ok (.iconst (-1), 1) := kq_2 byq_r (by decide +kernel)
theorem d_Top_ahead_11 : decode b_Top_ahead 11 = .ok (.ireturn, 1) := kq_172 byq_r (by decide +kernel)
theorem d_Top_ahead_12 : decode b_Top_ahead 12 = .ok (.aload_n 0, 1) := kq_42 byq_r (by decide +kernel)
theorem d_Top_ahead_13 : decode b_Top_ahead 13 = .ok (.getfield 40, 3) := kq_180 byq_r (a := 0) (b := 40) (by decide +kernel)
theorem d_Top_ahead_16 : decode b_Top_ahead 16 = .ok (.aload_n 0, 1) := kq_42 byq_r (by decide +kernel)
theorem d_Top_ahead_17 : decode b_Top_ahead 17 = .ok (.getfield 33, 3) := kq_180 byq_r (a := 0) (b := 33) (by decide +kernel)
theorem d_Top_ahead_20 : decode b_Top_ahead 20 = .ok (.invokevirtual 211, 3) := kq_182 byq_r (a := 0) (b := 211) (by decide +kernel)
theorem d_Top_ahead_23 : decode b_Top_ahead 23 = .ok (.aload_n 0, 1) := kq_42 byq_r (by decide +kernel)
theorem d_Top_ahead_24 : decode b_Top_ahead 24 = .ok (.getfield 63, 3) := kq_180 byq_r (a := 0) (b := 63) (by decide +kernel)
theorem d_Top_ahead_27 : decode b_Top_ahead 27 = .ok (.invokevirtual 266, 3) := kq_182 byq_r (a := 1) (b := 10) (by decide +kernel)
theorem d_Top_ahead_30 : decode b_Top_ahead 30 = .ok (.iconst 0, 1) := kq_3 byq_r (by decide +kernel)
theorem d_Top_ahead_31 : decode b_Top_ahead 31 = .ok (.istore_n 2, 1) := kq_61 byq_r (by decide +kernel)
theorem d_Top_ahead_32 : decode b_Top_ahead 32 = .ok (.iload_n 2, 1) := kq_28 byq_r (by decide +kernel)
theorem d_Top_ahead_33 : decode b_Top_ahead 33 = .ok (.iload_n 1, 1) := kq_27 byq_r (by decide +kernel)
theorem d_Top_ahead_34 : decode b_Top_ahead 34 = .ok (.if_icmp .ge 36, 3) := kq_162 byq_r (a := 0) (b := 36) (by decide +kernel)
theorem d_Top_ahead_37 : decode b_Top_ahead 37 = .ok (.aload_n 0, 1) := kq_42 byq_r (by decide +kernel)
theorem d_Top_ahead_38 : decode b_Top_ahead 38 = .ok (.getfield 63, 3) := kq_180 byq_r (a := 0) (b := 63) (by decide +kernel)
theorem d_Top_ahead_41 : decode b_Top_ahead 41 = .ok (.aload_n 0, 1) := kq_42 byq_r (by decide +kernel)
theorem d_Top_ahead_42 : decode b_Top_ahead 42 = .ok (.getfield 40, 3) := kq_180 byq_r (a := 0) (b := 40) (by decide +kernel)
theorem d_Top_ahead_45 : decode b_Top_ahead 45 = .ok (.aload_n 0, 1) := kq_42 byq_r (by decide +kernel)
theorem d_Top_ahead_46 : decode b_Top_ahead 46 = .ok (.getfield 26, 3) := kq_180 byq_r (a := 0) (b := 26) (by decide +kernel)
theorem d_Top_ahead_49 : decode b_Top_ahead 49 = .ok (.aload_n 0, 1) := kq_42 byq_r (by decide +kernel)
theorem d_Top_ahead_50 : decode b_Top_ahead 50 = .ok (.getfield 19, 3) := kq_180 byq_r (a := 0) (b := 19) (by decide +kernel)
theorem d_Top_ahead_53 : decode b_Top_ahead 53 = .ok (.aload_n 0, 1) := kq_42 byq_r (by decide +kernel)
theorem d_Top_ahead_54 : decode b_Top_ahead 54 = .ok (.getfield 56, 3) := kq_180 byq_r (a := 0) (b := 56) (by decide +kernel)
theorem d_Top_ahead_57 : decode b_Top_ahead 57 = .ok (.aload_n 0, 1) := kq_42 byq_r (by decide +kernel)
theorem d_Top_ahead_58 : decode b_Top_ahead 58 = .ok (.getfield 46, 3) := kq_180 byq_r (a := 0) (b := 46) (by decide +kernel)
theorem d_Top_ahead_61 : decode b_Top_ahead 61 = .ok (.invokevirtual 247, 3) := kq_182 byq_r (a := 0) (b := 247) (by decide +kernel)
theorem d_Top_ahead_64 : decode b_Top_ahead 64 = .ok (.iinc 2 1, 3) := kq_132 byq_r (b := 1) (by decide +kernel)
theorem d_Top_ahead_67 : decode b_Top_ahead 67 = .ok (.goto (-35), 3) := kq_167 byq_r (a := 255) (b := 221) (by decide +kernel)
theorem d_Top_ahead_70 : decode b_Top_ahead 70 = .ok (.aload_n 0, 1) := kq_42 byq_r (by decide +kernel)
theorem d_Top_ahead_71 : decode b_Top_ahead 71 = .ok (.invokevirtual 251, 3) := kq_182 byq_r (a := 0) (b := 251) (by decide +kernel)
theorem d_Top_ahead_74 : decode b_Top_ahead 74 = .ok (.iconst 0, 1) := kq_3 byq_r (by decide +kernel)
theorem d_Top_ahead_75 : decode b_Top_ahead 75 = .ok (.istore_n 2, 1) := kq_61 byq_r (by decide +kernel)
theorem d_Top_ahead_76 : decode b_Top_ahead 76 = .ok (.iload_n 2, 1) := kq_28 byq_r (by decide +kernel)
theorem d_Top_ahead_77 : decode b_Top_ahead 77 = .ok (.aload_n 0, 1) := kq_42 byq_r (by decide +kernel)
theorem d_Top_ahead_78 : decode b_Top_ahead 78 = .ok (.getfield 26, 3) := kq_180 byq_r (a := 0) (b := 26) (by decide +kernel)
theorem d_Top_ahead_81 : decode b_Top_ahead 81 = .ok (.getfield 129, 3) := kq_180 byq_r (a := 0) (b := 129) (by decide +kernel)
theorem d_Top_ahead_84 : decode b_Top_ahead 84 = .ok (.if_icmp .ge 22, 3) := kq_162 byq_r (a := 0) (b := 22) (by decide +kernel)
theorem d_Top_ahead_87 : decode b_Top_ahead 87 = .ok (.aload_n 0, 1) := kq_42 byq_r (by decide +kernel)
theorem d_Top_ahead_88 : decode b_Top_ahead 88 = .ok (.aload_n 0, 1) := kq_42 byq_r (by decide +kernel)
theorem d_Top_ahead_89 : decode b_Top_ahead 89 = .ok (.getfield 40, 3) := kq_180 byq_r (a := 0) (b := 40) (by decide +kernel)
theorem d_Top_ahead_92 : decode b_Top_ahead 92 = .ok (.getfield 188, 3) := kq_180 byq_r (a := 0) (b := 188) (by decide +kernel)
theorem d_Top_ahead_95 : decode b_Top_ahead 95 = .ok (.iload_n 2, 1) := kq_28 byq_r (by decide +kernel)
theorem d_Top_ahead_96 : decode b_Top_ahead 96 = .ok (.iaload, 1) := kq_46 byq_r (by decide +kernel)
theorem d_Top_ahead_97 : decode b_Top_ahead 97 = .ok (.invokevirtual 257, 3) := kq_182 byq_r (a := 1) (b := 1) (by decide +kernel)
theorem d_Top_ahead_100 : decode b_Top_ahead 100 = .ok (.iinc 2 1, 3) := kq_132 byq_r (b := 1) (by decide +kernel)
theorem d_Top_ahead_103 : decode b_Top_ahead 103 = .ok (.goto (-27), 3) := kq_167 byq_r (a := 255) (b := 229) (by decide +kernel)
theorem d_Top_ahead_106 : decode b_Top_ahead 106 = .ok (.aload_n 0, 1) := kq_42 byq_r (by decide +kernel)
theorem d_Top_ahead_107 : decode b_Top_ahead 107 = .ok (.getfield 63, 3) := kq_180 byq_r (a := 0) (b := 63) (by decide +kernel)
theorem d_Top_ahead_110 : decode b_Top_ahead 110 = .ok (.getfield 272, 3) := kq_180 byq_r (a := 1) (b := 16) (by decide +kernel)
theorem d_Top_ahead_113 : decode b_Top_ahead 113 = .ok (.ireturn, 1) := kq_172 byq_r (by decide +kernel)
theorem d_Top_meet_0 : decode b_Top_meet 0 = .ok (.aload_n 0, 1) := kq_42 byq_r (by decide +kernel)
theorem d_Top_meet_1 : decode b_Top_meet 1 = .ok (.iload_n 1, 1) := kq_27 byq_r (by decide +kernel)
theorem d_Top_meet_2 : decode b_Top_meet 2 = .ok (.iload_n 2, 1) := kq_28 byq_r (by decide +kernel)
theorem d_Top_meet_3 : decode b_Top_meet 3 = .ok (.invokevirtual 284, 3) := kq_182 byq_r (a := 1) (b := 28) (by decide +kernel)
theorem d_Top_meet_6 : decode b_Top_meet 6 = .ok (.ifCond .ne 5, 3) := kq_154 byq_r (a := 0) (b := 5) (by decide +kernel)
theorem d_Top_meet_9 : decode b_Top_meet 9 = .ok (.iconst (-1), 1) := kq_2 byq_r (by decide +kernel)
theorem d_Top_meet_10 : decode b_Top_meet 10 = .ok (.ireturn, 1) := kq_172 byq_r (by decide +kernel)
theorem d_Top_meet_11 : decode b_Top_meet 11 = .ok (.aload_n 0, 1) := kq_42 byq_r (by decide +kernel)
theorem d_Top_meet_12 : decode b_Top_meet 12 = .ok (.getfield 26, 3) := kq_180 byq_r (a := 0) (b := 26) (by decide +kernel)
theorem d_Top_meet_15 : decode b_Top_meet 15 = .ok (.iload_n 1, 1) := kq_27 byq_r (by decide +kernel)
theorem d_Top_meet_16 : decode b_Top_meet 16 = .ok (.invokevirtual 139, 3) := kq_182 byq_r (a := 0) (b := 139) (by decide +kernel)
theorem d_Top_meet_19 : decode b_Top_meet 19 = .ok (.aload_n 0, 1) := kq_42 byq_r (by decide +kernel)
theorem d_Top_meet_20 : decode b_Top_meet 20 = .ok (.getfield 26, 3) := kq_180 byq_r (a := 0) (b := 26) (by decide +kernel)
theorem d_Top_meet_23 : decode b_Top_meet 23 = .ok (.iload_n 2, 1) := kq_28 byq_r (by decide +kernel)
theorem d_Top_meet_24 : decode b_Top_meet 24 = .ok (.invokevirtual 139, 3) := kq_182 byq_r (a := 0) (b := 139) (by decide +kernel)
theorem d_Top_meet_27 : decode b_Top_meet 27 = .ok (.if_icmp .ne 6, 3) := kq_160 byq_r (a := 0) (b := 6) (by decide +kernel)
theorem d_Top_meet_30 : decode b_Top_meet 30 = .ok (.bipush (-2), 2) := kq_16 byq_r (b := 254) (by decide +kernel)
theorem d_Top_meet_32 : decode b_Top_meet 32 = .ok (.ireturn, 1) := kq_172 byq_r (by decide +kernel)
theorem d_Top_meet_33 : decode b_Top_meet 33 = .ok (.aload_n 0, 1) := kq_42 byq_r (by decide +kernel)
theorem d_Top_meet_34 : decode b_Top_meet 34 = .ok (.getfield 40, 3) := kq_180 byq_r (a := 0) (b := 40) (by decide +kernel)
theorem d_Top_meet_37 : decode b_Top_meet 37 = .ok (.aload_n 0, 1) := kq_42 byq_r (by decide +kernel)
theorem d_Top_meet_38 : decode b_Top_meet 38 = .ok (.getfield 33, 3) := kq_180 byq_r (a := 0) (b := 33) (by decide +kernel)
theorem d_Top_meet_41 : decode b_Top_meet 41 = .ok (.invokevirtual 211, 3) := kq_182 byq_r (a := 0) (b := 211) (by decide +kernel)
theorem d_Top_meet_44 : decode b_Top_meet 44 = .ok (.iconst 1, 1) := kq_4 byq_r (by decide +kernel)
theorem d_Top_meet_45 : decode b_Top_meet 45 = .ok (.istore_n 3, 1) := kq_62 byq_r (by decide +kernel)
theorem d_Top_meet_46 : decode b_Top_meet 46 = .ok (.iload_n 3, 1) := kq_29 byq_r (by decide +kernel)
theorem d_Top_meet_47 : decode b_Top_meet 47 = .ok (.bipush 60, 2) := kq_16 byq_r (b := 60) (by decide +kernel)
theorem d_Top_meet_49 : decode b_Top_meet 49 = .ok (.if_icmp .gt 85, 3) := kq_163 byq_r (a := 0) (b := 85) (by decide +kernel)
theorem d_Top_meet_52 : decode b_Top_meet 52 = .ok (.aload_n 0, 1) := kq_42 byq_r (by decide +kernel)
theorem d_Top_meet_53 : decode b_Top_meet 53 = .ok (.getfield 63, 3) := kq_180 byq_r (a := 0) (b := 63) (by decide +kernel)
theorem d_Top_meet_56 : decode b_Top_meet 56 = .ok (.aload_n 0, 1) := kq_42 byq_r (by decide +kernel)
theorem d_Top_meet_57 : decode b_Top_meet 57 = .ok (.getfield 40, 3) := kq_180 byq_r (a := 0) (b := 40) (by decide +kernel)
theorem d_Top_meet_60 : decode b_Top_meet 60 = .ok (.aload_n 0, 1) := kq_42 byq_r (by decide +kernel)
theorem d_Top_meet_61 : decode b_Top_meet 61 = .ok (.getfield 26, 3) := kq_180 byq_r (a := 0) (b := 26) (by decide +kernel)
theorem d_Top_meet_64 : decode b_Top_meet 64 = .ok (.aload_n 0, 1) := kq_42 byq_r (by decide +kernel)
theorem d_Top_meet_65 : decode b_Top_meet 65 = .ok (.getfield 19, 3) := kq_180 byq_r (a := 0) (b := 19) (by decide +kernel)
theorem d_Top_meet_68 : decode b_Top_meet 68 = .ok (.aload_n 0, 1) := kq_42 byq_r (by decide +kernel)
theorem d_Top_meet_69 : decode b_Top_meet 69 = .ok (.getfield 56, 3) := kq_180 byq_r (a := 0) (b := 56) (by decide +kernel)
theorem d_Top_meet_72 : decode b_Top_meet 72 = .ok (.aload_n 0, 1) := kq_42 byq_r (by decide +kernel)
theorem d_Top_meet_73 : decode b_Top_meet 73 = .ok (.getfield 46, 3) := kq_180 byq_r (a := 0) (b := 46) (by decide +kernel)
theorem d_Top_meet_76 : decode b_Top_meet 76 = .ok (.invokevirtual 247, 3) := kq_182 byq_r (a := 0) (b := 247) (by decide +kernel)
theorem d_Top_meet_79 : decode b_Top_meet 79 = .ok (.aload_n 0, 1) := kq_42 byq_r (by decide +kernel)
theorem d_Top_meet_80 : decode b_Top_meet 80 = .ok (.getfield 40, 3) := kq_180 byq_r (a := 0) (b := 40) (by decide +kernel)
theorem d_Top_meet_83 : decode b_Top_meet 83 = .ok (.getfield 188, 3) := kq_180 byq_r (a := 0) (b := 188) (by decide +kernel)
theorem d_Top_meet_86 : decode b_Top_meet 86 = .ok (.iload_n 1, 1) := kq_27 byq_r (by decide +kernel)
theorem d_Top_meet_87 : decode b_Top_meet 87 = .ok (.iaload, 1) := kq_46 byq_r (by decide +kernel)
theorem d_Top_meet_88 : decode b_Top_meet 88 = .ok (.istore 4, 2) := kq_54 byq_r (by decide +kernel)
theorem d_Top_meet_90 : decode b_Top_meet 90 = .ok (.iload 4, 2) := kq_21 byq_r (by decide +kernel)
theorem d_Top_meet_92 : decode b_Top_meet 92 = .ok (.aload_n 0, 1) := kq_42 byq_r (by decide +kernel)
theorem d_Top_meet_93 : decode b_Top_meet 93 = .ok (.getfield 40, 3) := kq_180 byq_r (a := 0) (b := 40) (by decide +kernel)
theorem d_Top_meet_96 : decode b_Top_meet 96 = .ok (.getfield 188, 3) := kq_180 byq_r (a := 0) (b := 188) (by decide +kernel)
theorem d_Top_meet_99 : decode b_Top_meet 99 = .ok (.iload_n 2, 1) := kq_28 byq_r (by decide +kernel)
theorem d_Top_meet_100 : decode b_Top_meet 100 = .ok (.iaload, 1) := kq_46 byq_r (by decide +kernel)
theorem d_Top_meet_101 : decode b_Top_meet 101 = .ok (.if_icmp .ne 27, 3) := kq_160 byq_r (a := 0) (b := 27) (by decide +kernel)
theorem d_Top_meet_104 : decode b_Top_meet 104 = .ok (.aload_n 0, 1) := kq_42 byq_r (by decide +kernel)
theorem d_Top_meet_105 : decode b_Top_meet 105 = .ok (.getfield 19, 3) := kq_180 byq_r (a := 0) (b := 19) (by decide +kernel)
theorem d_Top_meet_108 : decode b_Top_meet 108 = .ok (.iload 4, 2) := kq_21 byq_r (by decide +kernel)
theorem d_Top_meet_110 : decode b_Top_meet 110 = .ok (.invokevirtual 290, 3) := kq_182 byq_r (a := 1) (b := 34) (by decide +kernel)
theorem d_Top_meet_113 : decode b_Top_meet 113 = .ok (.ifCond .eq 15, 3) := kq_153 byq_r (a := 0) (b := 15) (by decide +kernel)
theorem d_Top_meet_116 : decode b_Top_meet 116 = .ok (.aload_n 0, 1) := kq_42 byq_r (by decide +kernel)
theorem d_Top_meet_117 : decode b_Top_meet 117 = .ok (.invokevirtual 251, 3) := kq_182 byq_r (a := 0) (b := 251) (by decide +kernel)
theorem d_Top_meet_120 : decode b_Top_meet 120 = .ok (.aload_n 0, 1) := kq_42 byq_r (by decide +kernel)
theorem d_Top_meet_121 : decode b_Top_meet 121 = .ok (.iload 4, 2) := kq_21 byq_r (by decide +kernel)
theorem d_Top_meet_123 : decode b_Top_meet 123 = .ok (.invokevirtual 257, 3) := kq_182 byq_r (a := 1) (b := 1) (by decide +kernel)
theorem d_Top_meet_126 : decode b_Top_meet 126 = .ok (.iload_n 3, 1) := kq_29 byq_r (by decide +kernel)
theorem d_Top_meet_127 : decode b_Top_meet 127 = .ok (.ireturn, 1) := kq_172 byq_r (by decide +kernel)
theorem d_Top_meet_128 : decode b_Top_meet 128 = .ok (.iinc 3 1, 3) := kq_132 byq_r (b := 1) (by decide +kernel)
theorem d_Top_meet_131 : decode b_Top_meet 131 = .ok (.goto (-85), 3) := kq_167 byq_r (a := 255) (b := 171) (by decide +kernel)
theorem d_Top_meet_134 : decode b_Top_meet 134 = .ok (.bipush (-2), 2) := kq_16 byq_r (b := 254) (by decide +kernel)
theorem d_Top_meet_136 : decode b_Top_meet 136 = .ok (.ireturn, 1) := kq_172 byq_r (by decide +kernel)
theorem d_Top_known_0 : decode b_Top_known 0 = .ok (.iconst 1, 1) := kq_4 byq_r (by decide +kernel)
theorem d_Top_known_1 : decode b_Top_known 1 = .ok (.aload_n 0, 1) := kq_42 byq_r (by decide +kernel)
theorem d_Top_known_2 : decode b_Top_known 2 = .ok (.getfield 26, 3) := kq_180 byq_r (a := 0) (b := 26) (by decide +kernel)
theorem d_Top_known_5 : decode b_Top_known 5 = .ok (.getfield 129, 3) := kq_180 byq_r (a := 0) (b := 129) (by decide +kernel)
theorem d_Top_known_8 : decode b_Top_known 8 = .ok (.ishl, 1) := kq_120 byq_r (by decide +kernel)
theorem d_Top_known_9 : decode b_Top_known 9 = .ok (.iconst 1, 1) := kq_4 byq_r (by decide +kernel)
theorem d_Top_known_10 : decode b_Top_known 10 = .ok (.isub, 1) := kq_100 byq_r (by decide +kernel)
theorem d_Top_known_11 : decode b_Top_known 11 = .ok (.istore_n 1, 1) := kq_60 byq_r (by decide +kernel)
theorem d_Top_known_12 : decode b_Top_known 12 = .ok (.aload_n 0, 1) := kq_42 byq_r (by decide +kernel)
theorem d_Top_known_13 : decode b_Top_known 13 = .ok (.getfield 40, 3) := kq_180 byq_r (a := 0) (b := 40) (by decide +kernel)
theorem d_Top_known_16 : decode b_Top_known 16 = .ok (.aload_n 0, 1) := kq_42 byq_r (by decide +kernel)
theorem d_Top_known_17 : decode b_Top_known 17 = .ok (.getfield 33, 3) := kq_180 byq_r (a := 0) (b := 33) (by decide +kernel)
theorem d_Top_known_20 : decode b_Top_known 20 = .ok (.invokevirtual 211, 3) := kq_182 byq_r (a := 0) (b := 211) (by decide +kernel)
theorem d_Top_known_23 : decode b_Top_known 23 = .ok (.iconst 0, 1) := kq_3 byq_r (by decide +kernel)
theorem d_Top_known_24 : decode b_Top_known 24 = .ok (.istore_n 2, 1) := kq_61 byq_r (by decide +kernel)
theorem d_Top_known_25 : decode b_Top_known 25 = .ok (.iconst 0, 1) := kq_3 byq_r (by decide +kernel)
theorem d_Top_known_26 : decode b_Top_known 26 = .ok (.istore_n 3, 1) := kq_62 byq_r (by decide +kernel)
theorem d_Top_known_27 : decode b_Top_known 27 = .ok (.iload_n 3, 1) := kq_29 byq_r (by decide +kernel)
theorem d_Top_known_28 : decode b_Top_known 28 = .ok (.bipush 60, 2) := kq_16 byq_r (b := 60) (by decide +kernel)
theorem d_Top_known_30 : decode b_Top_known 30 = .ok (.if_icmp .ge 50, 3) := kq_162 byq_r (a := 0) (b := 50) (by decide +kernel)
theorem d_Top_known_33 : decode b_Top_known 33 = .ok (.aload_n 0, 1) := kq_42 byq_r (by decide +kernel)
theorem d_Top_known_34 : decode b_Top_known 34 = .ok (.getfield 40, 3) := kq_180 byq_r (a := 0) (b := 40) (by decide +kernel)
theorem d_Top_known_37 : decode b_Top_known 37 = .ok (.getfield 197, 3) := kq_180 byq_r (a := 0) (b := 197) (by decide +kernel)
theorem d_Top_known_40 : decode b_Top_known 40 = .ok (.iload_n 1, 1) := kq_27 byq_r (by decide +kernel)
theorem d_Top_known_41 : decode b_Top_known 41 = .ok (.if_icmp .eq 39, 3) := kq_159 byq_r (a := 0) (b := 39) (by decide +kernel)
theorem d_Top_known_44 : decode b_Top_known 44 = .ok (.aload_n 0, 1) := kq_42 byq_r (by decide +kernel)
theorem d_Top_known_45 : decode b_Top_known 45 = .ok (.getfield 63, 3) := kq_180 byq_r (a := 0) (b := 63) (by decide +kernel)
theorem d_Top_known_48 : decode b_Top_known 48 = .ok (.aload_n 0, 1) := kq_42 byq_r (by decide +kernel)
theorem d_Top_known_49 : decode b_Top_known 49 = .ok (.getfield 40, 3) := kq_180 byq_r (a := 0) (b := 40) (by decide +kernel)
theorem d_Top_known_52 : decode b_Top_known 52 = .ok (.aload_n 0, 1) := kq_42 byq_r (by decide +kernel)
theorem d_Top_known_53 : decode b_Top_known 53 = .ok (.getfield 26, 3) := kq_180 byq_r (a := 0) (b := 26) (by decide +kernel)
theorem d_Top_known_56 : decode b_Top_known 56 = .ok (.aload_n 0, 1) := kq_42 byq_r (by decide +kernel)
theorem d_Top_known_57 : decode b_Top_known 57 = .ok (.getfield 19, 3) := kq_180 byq_r (a := 0) (b := 19) (by decide +kernel)
theorem d_Top_known_60 : decode b_Top_known 60 = .ok (.aload_n 0, 1) := kq_42 byq_r (by decide +kernel)
theorem d_Top_known_61 : decode b_Top_known 61 = .ok (.getfield 56, 3) := kq_180 byq_r (a := 0) (b := 56) (by decide +kernel)
theorem d_Top_known_64 : decode b_Top_known 64 = .ok (.aload_n 0, 1) := kq_42 byq_r (by decide +kernel)
theorem d_Top_known_65 : decode b_Top_known 65 = .ok (.getfield 46, 3) := kq_180 byq_r (a := 0) (b := 46) (by decide +kernel)
theorem d_Top_known_68 : decode b_Top_known 68 = .ok (.invokevirtual 247, 3) := kq_182 byq_r (a := 0) (b := 247) (by decide +kernel)
theorem d_Top_known_71 : decode b_Top_known 71 = .ok (.iinc 2 1, 3) := kq_132 byq_r (b := 1) (by decide +kernel)
theorem d_Top_known_74 : decode b_Top_known 74 = .ok (.iinc 3 1, 3) := kq_132 byq_r (b := 1) (by decide +kernel)
theorem d_Top_known_77 : decode b_Top_known 77 = .ok (.goto (-50), 3) := kq_167 byq_r (a := 255) (b := 206) (by decide +kernel)
theorem d_Top_known_80 : decode b_Top_known 80 = .ok (.aload_n 0, 1) := kq_42 byq_r (by decide +kernel)
theorem d_Top_known_81 : decode b_Top_known 81 = .ok (.invokevirtual 251, 3) := kq_182 byq_r (a := 0) (b := 251) (by decide +kernel)
theorem d_Top_known_84 : decode b_Top_known 84 = .ok (.aload_n 0, 1) := kq_42 byq_r (by decide +kernel)
theorem d_Top_known_85 : decode b_Top_known 85 = .ok (.aload_n 0, 1) := kq_42 byq_r (by decide +kernel)
theorem d_Top_known_86 : decode b_Top_known 86 = .ok (.getfield 40, 3) := kq_180 byq_r (a := 0) (b := 40) (by decide +kernel)
theorem d_Top_known_89 : decode b_Top_known 89 = .ok (.getfield 197, 3) := kq_180 byq_r (a := 0) (b := 197) (by decide +kernel)
theorem d_Top_known_92 : decode b_Top_known 92 = .ok (.invokevirtual 257, 3) := kq_182 byq_r (a := 1) (b := 1) (by decide +kernel)
theorem d_Top_known_95 : decode b_Top_known 95 = .ok (.aload_n 0, 1) := kq_42 byq_r (by decide +kernel)
theorem d_Top_known_96 : decode b_Top_known 96 = .ok (.getfield 40, 3) := kq_180 byq_r (a := 0) (b := 40) (by decide +kernel)
theorem d_Top_known_99 : decode b_Top_known 99 = .ok (.getfield 197, 3) := kq_180 byq_r (a := 0) (b := 197) (by decide +kernel)
theorem d_Top_known_102 : decode b_Top_known 102 = .ok (.iload_n 1, 1) := kq_27 byq_r (by decide +kernel)
theorem d_Top_known_103 : decode b_Top_known 103 = .ok (.if_icmp .ne 7, 3) := kq_160 byq_r (a := 0) (b := 7) (by decide +kernel)
theorem d_Top_known_106 : decode b_Top_known 106 = .ok (.iload_n 2, 1) := kq_28 byq_r (by decide +kernel)
theorem d_Top_known_107 : decode b_Top_known 107 = .ok (.goto 5, 3) := kq_167 byq_r (a := 0) (b := 5) (by decide +kernel)
theorem d_Top_known_110 : decode b_Top_known 110 = .ok (.bipush (-2), 2) := kq_16 byq_r (b := 254) (by decide +kernel)
theorem d_Top_known_112 : decode b_Top_known 112 = .ok (.ireturn, 1) := kq_172 byq_r (by decide +kernel)
theorem d_Top_hearers_0 : decode b_Top_hearers 0 = .ok (.aload_n 0, 1) := kq_42 byq_r (by decide +kernel)
theorem d_Top_hearers_1 : decode b_Top_hearers 1 = .ok (.getfield 40, 3) := kq_180 byq_r (a := 0) (b := 40) (by decide +kernel)
theorem d_Top_hearers_4 : decode b_Top_hearers 4 = .ok (.aload_n 0, 1) := kq_42 byq_r (by decide +kernel)
theorem d_Top_hearers_5 : decode b_Top_hearers 5 = .ok (.getfield 33, 3) := kq_180 byq_r (a := 0) (b := 33) (by decide +kernel)
theorem d_Top_hearers_8 : decode b_Top_hearers 8 = .ok (.invokevirtual 211, 3) := kq_182 byq_r (a := 0) (b := 211) (by decide +kernel)
theorem d_Top_hearers_11 : decode b_Top_hearers 11 = .ok (.aload_n 0, 1) := kq_42 byq_r (by decide +kernel)
theorem d_Top_hearers_12 : decode b_Top_hearers 12 = .ok (.getfield 40, 3) := kq_180 byq_r (a := 0) (b := 40) (by decide +kernel)
theorem d_Top_hearers_15 : decode b_Top_hearers 15 = .ok (.dup, 1) := kq_89 byq_r (by decide +kernel)
theorem d_Top_hearers_16 : decode b_Top_hearers 16 = .ok (.getfield 197, 3) := kq_180 byq_r (a := 0) (b := 197) (by decide +kernel)
theorem d_Top_hearers_19 : decode b_Top_hearers 19 = .ok (.iload_n 2, 1) := kq_28 byq_r (by decide +kernel)
theorem d_Top_hearers_20 : decode b_Top_hearers 20 = .ok (.ior, 1) := kq_128 byq_r (by decide +kernel)
theorem d_Top_hearers_21 : decode b_Top_hearers 21 = .ok (.putfield 197, 3) := kq_181 byq_r (a := 0) (b := 197) (by decide +kernel)
theorem d_Top_hearers_24 : decode b_Top_hearers 24 = .ok (.iconst 0, 1) := kq_3 byq_r (by decide +kernel)
theorem d_Top_hearers_25 : decode b_Top_hearers 25 = .ok (.istore_n 3, 1) := kq_62 byq_r (by decide +kernel)
theorem d_Top_hearers_26 : decode b_Top_hearers 26 = .ok (.iload_n 3, 1) := kq_29 byq_r (by decide +kernel)
theorem d_Top_hearers_27 : decode b_Top_hearers 27 = .ok (.iload_n 1, 1) := kq_27 byq_r (by decide +kernel)
theorem d_Top_hearers_28 : decode b_Top_hearers 28 = .ok (.if_icmp .ge 36, 3) := kq_162 byq_r (a := 0) (b := 36) (by decide +kernel)
theorem d_Top_hearers_31 : decode b_Top_hearers 31 = .ok (.aload_n 0, 1) := kq_42 byq_r (by decide +kernel)
theorem d_Top_hearers_32 : decode b_Top_hearers 32 = .ok (.getfield 63, 3) := kq_180 byq_r (a := 0) (b := 63) (by decide +kernel)
theorem d_Top_hearers_35 : decode b_Top_hearers 35 = .ok (.aload_n 0, 1) := kq_42 byq_r (by decide +kernel)
theorem d_Top_hearers_36 : decode b_Top_hearers 36 = .ok (.getfield 40, 3) := kq_180 byq_r (a := 0) (b := 40) (by decide +kernel)
theorem d_Top_hearers_39 : decode b_Top_hearers 39 = .ok (.aload_n 0, 1) := kq_42 byq_r (by decide +kernel)
theorem d_Top_hearers_40 : decode b_Top_hearers 40 = .ok (.getfield 26, 3) := kq_180 byq_r (a := 0) (b := 26) (by decide +kernel)
theorem d_Top_hearers_43 : decode b_Top_hearers 43 = .ok (.aload_n 0, 1) := kq_42 byq_r (by decide +kernel)
theorem d_Top_hearers_44 : decode b_Top_hearers 44 = .ok (.getfield 19, 3) := kq_180 byq_r (a := 0) (b := 19) (by decide +kernel)
theorem d_Top_hearers_47 : decode b_Top_hearers 47 = .ok (.aload_n 0, 1) := kq_42 byq_r (by decide +kernel)
theorem d_Top_hearers_48 : decode b_Top_hearers 48 = .ok (.getfield 56, 3) := kq_180 byq_r (a := 0) (b := 56) (by decide +kernel)
theorem d_Top_hearers_51 : decode b_Top_hearers 51 = .ok (.aload_n 0, 1) := kq_42 byq_r (by decide +kernel)
theorem d_Top_hearers_52 : decode b_Top_hearers 52 = .ok (.getfield 46, 3) := kq_180 byq_r (a := 0) (b := 46) (by decide +kernel)
theorem d_Top_hearers_55 : decode b_Top_hearers 55 = .ok (.invokevirtual 247, 3) := kq_182 byq_r (a := 0) (b := 247) (by decide +kernel)
theorem d_Top_hearers_58 : decode b_Top_hearers 58 = .ok (.iinc 3 1, 3) := kq_132 byq_r (b := 1) (by decide +kernel)
theorem d_Top_hearers_61 : decode b_Top_hearers 61 = .ok (.goto (-35), 3) := kq_167 byq_r (a := 255) (b := 221) (by decide +kernel)
theorem d_Top_hearers_64 : decode b_Top_hearers 64 = .ok (.aload_n 0, 1) := kq_42 byq_r (by decide +kernel)
theorem d_Top_hearers_65 : decode b_Top_hearers 65 = .ok (.getfield 40, 3) := kq_180 byq_r (a := 0) (b := 40) (by decide +kernel)
theorem d_Top_hearers_68 : decode b_Top_hearers 68 = .ok (.getfield 197, 3) := kq_180 byq_r (a := 0) (b := 197) (by decide +kernel)
theorem d_Top_hearers_71 : decode b_Top_hearers 71 = .ok (.invokestatic 236, 3) := kq_184 byq_r (a := 0) (b := 236) (by decide +kernel)
theorem d_Top_hearers_74 : decode b_Top_hearers 74 = .ok (.ireturn, 1) := kq_172 byq_r (by decide +kernel)
theorem d_Top_gossip_0 : decode b_Top_gossip 0 = .ok (.iload_n 1, 1) := kq_27 byq_r (by decide +kernel)
theorem d_Top_gossip_1 : decode b_Top_gossip 1 = .ok (.ifCond .lt 9, 3) := kq_155 byq_r (a := 0) (b := 9) (by decide +kernel)
theorem d_Top_gossip_4 : decode b_Top_gossip 4 = .ok (.iload_n 1, 1) := kq_27 byq_r (by decide +kernel)
theorem d_Top_gossip_5 : decode b_Top_gossip 5 = .ok (.bipush 60, 2) := kq_16 byq_r (b := 60) (by decide +kernel)
theorem d_Top_gossip_7 : decode b_Top_gossip 7 = .ok (.if_icmp .le 6, 3) := kq_164 byq_r (a := 0) (b := 6) (by decide +kernel)
theorem d_Top_gossip_10 : decode b_Top_gossip 10 = .ok (.bipush (-2), 2) := kq_16 byq_r (b := 254) (by decide +kernel)
theorem d_Top_gossip_12 : decode b_Top_gossip 12 = .ok (.ireturn, 1) := kq_172 byq_r (by decide +kernel)
theorem d_Top_gossip_13 : decode b_Top_gossip 13 = .ok (.iconst (-1), 1) := kq_2 byq_r (by decide +kernel)
theorem d_Top_gossip_14 : decode b_Top_gossip 14 = .ok (.istore_n 2, 1) := kq_61 byq_r (by decide +kernel)
theorem d_Top_gossip_15 : decode b_Top_gossip 15 = .ok (.aload_n 0, 1) := kq_42 byq_r (by decide +kernel)
theorem d_Top_gossip_16 : decode b_Top_gossip 16 = .ok (.iload_n 1, 1) := kq_27 byq_r (by decide +kernel)
theorem d_Top_gossip_17 : decode b_Top_gossip 17 = .ok (.iconst 0, 1) := kq_3 byq_r (by decide +kernel)
theorem d_Top_gossip_18 : decode b_Top_gossip 18 = .ok (.invokevirtual 293, 3) := kq_182 byq_r (a := 1) (b := 37) (by decide +kernel)
theorem d_Top_gossip_21 : decode b_Top_gossip 21 = .ok (.istore_n 3, 1) := kq_62 byq_r (by decide +kernel)
theorem d_Top_gossip_22 : decode b_Top_gossip 22 = .ok (.iconst 0, 1) := kq_3 byq_r (by decide +kernel)
theorem d_Top_gossip_23 : decode b_Top_gossip 23 = .ok (.istore 4, 2) := kq_54 byq_r (by decide +kernel)
theorem d_Top_gossip_25 : decode b_Top_gossip 25 = .ok (.iload 4, 2) := kq_21 byq_r (by decide +kernel)
theorem d_Top_gossip_27 : decode b_Top_gossip 27 = .ok (.aload_n 0, 1) := kq_42 byq_r (by decide +kernel)
theorem d_Top_gossip_28 : decode b_Top_gossip 28 = .ok (.getfield 26, 3) := kq_180 byq_r (a := 0) (b := 26) (by decide +kernel)
theorem d_Top_gossip_31 : decode b_Top_gossip 31 = .ok (.getfield 129, 3) := kq_180 byq_r (a := 0) (b := 129) (by decide +kernel)
theorem d_Top_gossip_34 : decode b_Top_gossip 34 = .ok (.if_icmp .ge 63, 3) := kq_162 byq_r (a := 0) (b := 63) (by decide +kernel)
theorem d_Top_gossip_37 : decode b_Top_gossip 37 = .ok (.aload_n 0, 1) := kq_42 byq_r (by decide +kernel)
theorem d_Top_gossip_38 : decode b_Top_gossip 38 = .ok (.getfield 33, 3) := kq_180 byq_r (a := 0) (b := 33) (by decide +kernel)
theorem d_Top_gossip_41 : decode b_Top_gossip 41 = .ok (.getfield 197, 3) := kq_180 byq_r (a := 0) (b := 197) (by decide +kernel)
theorem d_Top_gossip_44 : decode b_Top_gossip 44 = .ok (.iload 4, 2) := kq_21 byq_r (by decide +kernel)
theorem d_Top_gossip_46 : decode b_Top_gossip 46 = .ok (.ishr, 1) := kq_122 byq_r (by decide +kernel)
theorem d_Top_gossip_47 : decode b_Top_gossip 47 = .ok (.iconst 1, 1) := kq_4 byq_r (by decide +kernel)
theorem d_Top_gossip_48 : decode b_Top_gossip 48 = .ok (.iand, 1) := kq_126 byq_r (by decide +kernel)
theorem d_Top_gossip_49 : decode b_Top_gossip 49 = .ok (.ifCond .ne 7, 3) := kq_154 byq_r (a := 0) (b := 7) (by decide +kernel)
theorem d_Top_gossip_52 : decode b_Top_gossip 52 = .ok (.iconst 1, 1) := kq_4 byq_r (by decide +kernel)
theorem d_Top_gossip_53 : decode b_Top_gossip 53 = .ok (.goto 4, 3) := kq_167 byq_r (a := 0) (b := 4) (by decide +kernel)
theorem d_Top_gossip_56 : decode b_Top_gossip 56 = .ok (.iconst 0, 1) := kq_3 byq_r (by decide +kernel)
theorem d_Top_gossip_57 : decode b_Top_gossip 57 = .ok (.istore 5, 2) := kq_54 byq_r (by decide +kernel)
theorem d_Top_gossip_59 : decode b_Top_gossip 59 = .ok (.iload 5, 2) := kq_21 byq_r (by decide +kernel)
theorem d_Top_gossip_61 : decode b_Top_gossip 61 = .ok (.ifCond .eq 15, 3) := kq_153 byq_r (a := 0) (b := 15) (by decide +kernel)
theorem d_Top_gossip_64 : decode b_Top_gossip 64 = .ok (.aload_n 0, 1) := kq_42 byq_r (by decide +kernel)
theorem d_Top_gossip_65 : decode b_Top_gossip 65 = .ok (.iload_n 1, 1) := kq_27 byq_r (by decide +kernel)
theorem d_Top_gossip_66 : decode b_Top_gossip 66 = .ok (.iconst 1, 1) := kq_4 byq_r (by decide +kernel)
theorem d_Top_gossip_67 : decode b_Top_gossip 67 = .ok (.iload 4, 2) := kq_21 byq_r (by decide +kernel)
theorem d_Top_gossip_69 : decode b_Top_gossip 69 = .ok (.ishl, 1) := kq_120 byq_r (by decide +kernel)
theorem d_Top_gossip_70 : decode b_Top_gossip 70 = .ok (.invokevirtual 293, 3) := kq_182 byq_r (a := 1) (b := 37) (by decide +kernel)
theorem d_Top_gossip_73 : decode b_Top_gossip 73 = .ok (.goto 4, 3) := kq_167 byq_r (a := 0) (b := 4) (by decide +kernel)
theorem d_Top_gossip_76 : decode b_Top_gossip 76 = .ok (.iconst 0, 1) := kq_3 byq_r (by decide +kernel)
theorem d_Top_gossip_77 : decode b_Top_gossip 77 = .ok (.istore 6, 2) := kq_54 byq_r (by decide +kernel)
theorem d_Top_gossip_79 : decode b_Top_gossip 79 = .ok (.iload 6, 2) := kq_21 byq_r (by decide +kernel)
theorem d_Top_gossip_81 : decode b_Top_gossip 81 = .ok (.iload_n 3, 1) := kq_29 byq_r (by decide +kernel)
theorem d_Top_gossip_82 : decode b_Top_gossip 82 = .ok (.if_icmp .le 9, 3) := kq_164 byq_r (a := 0) (b := 9) (by decide +kernel)
theorem d_Top_gossip_85 : decode b_Top_gossip 85 = .ok (.iload 6, 2) := kq_21 byq_r (by decide +kernel)
theorem d_Top_gossip_87 : decode b_Top_gossip 87 = .ok (.istore_n 3, 1) := kq_62 byq_r (by decide +kernel)
theorem d_Top_gossip_88 : decode b_Top_gossip 88 = .ok (.iload 4, 2) := kq_21 byq_r (by decide +kernel)
theorem d_Top_gossip_90 : decode b_Top_gossip 90 = .ok (.istore_n 2, 1) := kq_61 byq_r (by decide +kernel)
theorem d_Top_gossip_91 : decode b_Top_gossip 91 = .ok (.iinc 4 1, 3) := kq_132 byq_r (b := 1) (by decide +kernel)
theorem d_Top_gossip_94 : decode b_Top_gossip 94 = .ok (.goto (-69), 3) := kq_167 byq_r (a := 255) (b := 187) (by decide +kernel)
theorem d_Top_gossip_97 : decode b_Top_gossip 97 = .ok (.aload_n 0, 1) := kq_42 byq_r (by decide +kernel)
theorem d_Top_gossip_98 : decode b_Top_gossip 98 = .ok (.invokevirtual 251, 3) := kq_182 byq_r (a := 0) (b := 251) (by decide +kernel)
theorem d_Top_gossip_101 : decode b_Top_gossip 101 = .ok (.aload_n 0, 1) := kq_42 byq_r (by decide +kernel)
theorem d_Top_gossip_102 : decode b_Top_gossip 102 = .ok (.iload_n 3, 1) := kq_29 byq_r (by decide +kernel)
theorem d_Top_gossip_103 : decode b_Top_gossip 103 = .ok (.invokevirtual 257, 3) := kq_182 byq_r (a := 1) (b := 1) (by decide +kernel)
theorem d_Top_gossip_106 : decode b_Top_gossip 106 = .ok (.iload_n 2, 1) := kq_28 byq_r (by decide +kernel)
theorem d_Top_gossip_107 : decode b_Top_gossip 107 = .ok (.ireturn, 1) := kq_172 byq_r (by decide +kernel)
theorem d_Top_pieces_0 : decode b_Top_pieces 0 = .ok (.iload_n 1, 1) := kq_27 byq_r (by decide +kernel)
theorem d_Top_pieces_1 : decode b_Top_pieces 1 = .ok (.ifCond .lt 8, 3) := kq_155 byq_r (a := 0) (b := 8) (by decide +kernel)
theorem d_Top_pieces_4 : decode b_Top_pieces 4 = .ok (.iload_n 1, 1) := kq_27 byq_r (by decide +kernel)
theorem d_Top_pieces_5 : decode b_Top_pieces 5 = .ok (.iconst 1, 1) := kq_4 byq_r (by decide +kernel)
theorem d_Top_pieces_6 : decode b_Top_pieces 6 = .ok (.if_icmp .le 5, 3) := kq_164 byq_r (a := 0) (b := 5) (by decide +kernel)
theorem d_Top_pieces_9 : decode b_Top_pieces 9 = .ok (.iconst (-1), 1) := kq_2 byq_r (by decide +kernel)
theorem d_Top_pieces_10 : decode b_Top_pieces 10 = .ok (.ireturn, 1) := kq_172 byq_r (by decide +kernel)
theorem d_Top_pieces_11 : decode b_Top_pieces 11 = .ok (.aload_n 0, 1) := kq_42 byq_r (by decide +kernel)
theorem d_Top_pieces_12 : decode b_Top_pieces 12 = .ok (.getfield 46, 3) := kq_180 byq_r (a := 0) (b := 46) (by decide +kernel)
theorem d_Top_pieces_15 : decode b_Top_pieces 15 = .ok (.getfield 296, 3) := kq_180 byq_r (a := 1) (b := 40) (by decide +kernel)
theorem d_Top_pieces_18 : decode b_Top_pieces 18 = .ok (.iload_n 1, 1) := kq_27 byq_r (by decide +kernel)
theorem d_Top_pieces_19 : decode b_Top_pieces 19 = .ok (.laload, 1) := kq_47 byq_r (by decide +kernel)
theorem d_Top_pieces_20 : decode b_Top_pieces 20 = .ok (.lstore_n 2, 1) := kq_65 byq_r (by decide +kernel)
theorem d_Top_pieces_21 : decode b_Top_pieces 21 = .ok (.iconst 0, 1) := kq_3 byq_r (by decide +kernel)
theorem d_Top_pieces_22 : decode b_Top_pieces 22 = .ok (.istore 4, 2) := kq_54 byq_r (by decide +kernel)
theorem d_Top_pieces_24 : decode b_Top_pieces 24 = .ok (.iconst 0, 1) := kq_3 byq_r (by decide +kernel)
theorem d_Top_pieces_25 : decode b_Top_pieces 25 = .ok (.istore 5, 2) := kq_54 byq_r (by decide +kernel)
theorem d_Top_pieces_27 : decode b_Top_pieces 27 = .ok (.iconst (-1), 1) := kq_2 byq_r (by decide +kernel)
theorem d_Top_pieces_28 : decode b_Top_pieces 28 = .ok (.istore 6, 2) := kq_54 byq_r (by decide +kernel)
theorem d_Top_pieces_30 : decode b_Top_pieces 30 = .ok (.iconst 0, 1) := kq_3 byq_r (by decide +kernel)
theorem d_Top_pieces_31 : decode b_Top_pieces 31 = .ok (.istore 7, 2) := kq_54 byq_r (by decide +kernel)
theorem d_Top_pieces_33 : decode b_Top_pieces 33 = .ok (.iload 7, 2) := kq_21 byq_r (by decide +kernel)
theorem d_Top_pieces_35 : decode b_Top_pieces 35 = .ok (.bipush 36, 2) := kq_16 byq_r (b := 36) (by decide +kernel)
theorem d_Top_pieces_37 : decode b_Top_pieces 37 = .ok (.if_icmp .ge 66, 3) := kq_162 byq_r (a := 0) (b := 66) (by decide +kernel)
theorem d_Top_pieces_40 : decode b_Top_pieces 40 = .ok (.lload_n 2, 1) := kq_32 byq_r (by decide +kernel)
theorem d_Top_pieces_41 : decode b_Top_pieces 41 = .ok (.iload 7, 2) := kq_21 byq_r (by decide +kernel)
theorem d_Top_pieces_43 : decode b_Top_pieces 43 = .ok (.lshr, 1) := kq_123 byq_r (by decide +kernel)
theorem d_Top_pieces_44 : decode b_Top_pieces 44 = .ok (.lconst 1, 1) := kq_10 byq_r (by decide +kernel)
theorem d_Top_pieces_45 : decode b_Top_pieces 45 = .ok (.land, 1) := kq_127 byq_r (by decide +kernel)
theorem d_Top_pieces_46 : decode b_Top_pieces 46 = .ok (.lconst 0, 1) := kq_9 byq_r (by decide +kernel)
theorem d_Top_pieces_47 : decode b_Top_pieces 47 = .ok (.lcmp, 1) := kq_148 byq_r (by decide +kernel)
theorem d_Top_pieces_48 : decode b_Top_pieces 48 = .ok (.ifCond .eq 49, 3) := kq_153 byq_r (a := 0) (b := 49) (by decide +kernel)
theorem d_Top_pieces_51 : decode b_Top_pieces 51 = .ok (.aload_n 0, 1) := kq_42 byq_r (by decide +kernel)
theorem d_Top_pieces_52 : decode b_Top_pieces 52 = .ok (.getfield 46, 3) := kq_180 byq_r (a := 0) (b := 46) (by decide +kernel)
theorem d_Top_pieces_55 : decode b_Top_pieces 55 = .ok (.iload_n 1, 1) := kq_27 byq_r (by decide +kernel)
theorem d_Top_pieces_56 : decode b_Top_pieces 56 = .ok (.iload 7, 2) := kq_21 byq_r (by decide +kernel)
theorem d_Top_pieces_58 : decode b_Top_pieces 58 = .ok (.lconst 0, 1) := kq_9 byq_r (by decide +kernel)
theorem d_Top_pieces_59 : decode b_Top_pieces 59 = .ok (.invokevirtual 299, 3) := kq_182 byq_r (a := 1) (b := 43) (by decide +kernel)
theorem d_Top_pieces_62 : decode b_Top_pieces 62 = .ok (.lstore 8, 2) := kq_55 byq_r (by decide +kernel)
theorem d_Top_pieces_64 : decode b_Top_pieces 64 = .ok (.lload_n 2, 1) := kq_32 byq_r (by decide +kernel)
theorem d_Top_pieces_65 : decode b_Top_pieces 65 = .ok (.lload 8, 2) := kq_22 byq_r (by decide +kernel)
theorem d_Top_pieces_67 : decode b_Top_pieces 67 = .ok (.ldc2_w 303, 3) := kq_20 byq_r (a := 1) (b := 47) (by decide +kernel)
theorem d_Top_pieces_70 : decode b_Top_pieces 70 = .ok (.lxor, 1) := kq_131 byq_r (by decide +kernel)
theorem d_Top_pieces_71 : decode b_Top_pieces 71 = .ok (.land, 1) := kq_127 byq_r (by decide +kernel)
theorem d_Top_pieces_72 : decode b_Top_pieces 72 = .ok (.lstore_n 2, 1) := kq_65 byq_r (by decide +kernel)
theorem d_Top_pieces_73 : decode b_Top_pieces 73 = .ok (.iinc 4 1, 3) := kq_132 byq_r (b := 1) (by decide +kernel)
theorem d_Top_pieces_76 : decode b_Top_pieces 76 = .ok (.lload 8, 2) := kq_22 byq_r (by decide +kernel)
theorem d_Top_pieces_78 : decode b_Top_pieces 78 = .ok (.invokestatic 182, 3) := kq_184 byq_r (a := 0) (b := 182) (by decide +kernel)
theorem d_Top_pieces_81 : decode b_Top_pieces 81 = .ok (.iload 5, 2) := kq_21 byq_r (by decide +kernel)
theorem d_Top_pieces_83 : decode b_Top_pieces 83 = .ok (.if_icmp .le 14, 3) := kq_164 byq_r (a := 0) (b := 14) (by decide +kernel)
theorem d_Top_pieces_86 : decode b_Top_pieces 86 = .ok (.lload 8, 2) := kq_22 byq_r (by decide +kernel)
theorem d_Top_pieces_88 : decode b_Top_pieces 88 = .ok (.invokestatic 182, 3) := kq_184 byq_r (a := 0) (b := 182) (by decide +kernel)
theorem d_Top_pieces_91 : decode b_Top_pieces 91 = .ok (.istore 5, 2) := kq_54 byq_r (by decide +kernel)
theorem d_Top_pieces_93 : decode b_Top_pieces 93 = .ok (.iload 7, 2) := kq_21 byq_r (by decide +kernel)
theorem d_Top_pieces_95 : decode b_Top_pieces 95 = .ok (.istore 6, 2) := kq_54 byq_r (by decide +kernel)
theorem d_Top_pieces_97 : decode b_Top_pieces 97 = .ok (.iinc 7 1, 3) := kq_132 byq_r (b := 1) (by decide +kernel)
theorem d_Top_pieces_100 : decode b_Top_pieces 100 = .ok (.goto (-67), 3) := kq_167 byq_r (a := 255) (b := 189) (by decide +kernel)
theorem d_Top_pieces_103 : decode b_Top_pieces 103 = .ok (.aload_n 0, 1) := kq_42 byq_r (by decide +kernel)
theorem d_Top_pieces_104 : decode b_Top_pieces 104 = .ok (.invokevirtual 251, 3) := kq_182 byq_r (a := 0) (b := 251) (by decide +kernel)
theorem d_Top_pieces_107 : decode b_Top_pieces 107 = .ok (.aload_n 0, 1) := kq_42 byq_r (by decide +kernel)
theorem d_Top_pieces_108 : decode b_Top_pieces 108 = .ok (.iload 5, 2) := kq_21 byq_r (by decide +kernel)
theorem d_Top_pieces_110 : decode b_Top_pieces 110 = .ok (.invokevirtual 257, 3) := kq_182 byq_r (a := 1) (b := 1) (by decide +kernel)
theorem d_Top_pieces_113 : decode b_Top_pieces 113 = .ok (.aload_n 0, 1) := kq_42 byq_r (by decide +kernel)
theorem d_Top_pieces_114 : decode b_Top_pieces 114 = .ok (.iload 6, 2) := kq_21 byq_r (by decide +kernel)
theorem d_Top_pieces_116 : decode b_Top_pieces 116 = .ok (.invokevirtual 257, 3) := kq_182 byq_r (a := 1) (b := 1) (by decide +kernel)
theorem d_Top_pieces_119 : decode b_Top_pieces 119 = .ok (.iload 4, 2) := kq_21 byq_r (by decide +kernel)
theorem d_Top_pieces_121 : decode b_Top_pieces 121 = .ok (.ireturn, 1) := kq_172 byq_r (by decide +kernel)
theorem d_Top_noteSet_0 : decode b_Top_noteSet 0 = .ok (.aload_n 0, 1) := kq_42 byq_r (by decide +kernel)
theorem d_Top_noteSet_1 : decode b_Top_noteSet 1 = .ok (.lload_n 1, 1) := kq_31 byq_r (by decide +kernel)
theorem d_Top_noteSet_2 : decode b_Top_noteSet 2 = .ok (.ldc2_w 455, 3) := kq_20 byq_r (a := 1) (b := 199) (by decide +kernel)
theorem d_Top_noteSet_5 : decode b_Top_noteSet 5 = .ok (.land, 1) := kq_127 byq_r (by decide +kernel)
theorem d_Top_noteSet_6 : decode b_Top_noteSet 6 = .ok (.l2i, 1) := kq_136 byq_r (by decide +kernel)
theorem d_Top_noteSet_7 : decode b_Top_noteSet 7 = .ok (.invokevirtual 257, 3) := kq_182 byq_r (a := 1) (b := 1) (by decide +kernel)
theorem d_Top_noteSet_10 : decode b_Top_noteSet 10 = .ok (.aload_n 0, 1) := kq_42 byq_r (by decide +kernel)
theorem d_Top_noteSet_11 : decode b_Top_noteSet 11 = .ok (.lload_n 1, 1) := kq_31 byq_r (by decide +kernel)
theorem d_Top_noteSet_12 : decode b_Top_noteSet 12 = .ok (.bipush 18, 2) := kq_16 byq_r (b := 18) (by decide +kernel)
theorem d_Top_noteSet_14 : decode b_Top_noteSet 14 = .ok (.lshr, 1) := kq_123 byq_r (by decide +kernel)
theorem d_Top_noteSet_15 : decode b_Top_noteSet 15 = .ok (.l2i, 1) := kq_136 byq_r (by decide +kernel)
theorem d_Top_noteSet_16 : decode b_Top_noteSet 16 = .ok (.invokevirtual 257, 3) := kq_182 byq_r (a := 1) (b := 1) (by decide +kernel)
theorem d_Top_noteSet_19 : decode b_Top_noteSet 19 = .ok (.return_, 1) := kq_177 byq_r (by decide +kernel)
theorem d_Top_reach_0 : decode b_Top_reach 0 = .ok (.iload_n 1, 1) := kq_27 byq_r (by decide +kernel)
theorem d_Top_reach_1 : decode b_Top_reach 1 = .ok (.ifCond .lt 19, 3) := kq_155 byq_r (a := 0) (b := 19) (by decide +kernel)
theorem d_Top_reach_4 : decode b_Top_reach 4 = .ok (.iload_n 1, 1) := kq_27 byq_r (by decide +kernel)
theorem d_Top_reach_5 : decode b_Top_reach 5 = .ok (.iconst 1, 1) := kq_4 byq_r (by decide +kernel)
theorem d_Top_reach_6 : decode b_Top_reach 6 = .ok (.if_icmp .gt 14, 3) := kq_163 byq_r (a := 0) (b := 14) (by decide +kernel)
theorem d_Top_reach_9 : decode b_Top_reach 9 = .ok (.aload_n 0, 1) := kq_42 byq_r (by decide +kernel)
theorem d_Top_reach_10 : decode b_Top_reach 10 = .ok (.getfield 19, 3) := kq_180 byq_r (a := 0) (b := 19) (by decide +kernel)
theorem d_Top_reach_13 : decode b_Top_reach 13 = .ok (.iload_n 2, 1) := kq_28 byq_r (by decide +kernel)
theorem d_Top_reach_14 : decode b_Top_reach 14 = .ok (.invokevirtual 163, 3) := kq_182 byq_r (a := 0) (b := 163) (by decide +kernel)
theorem d_Top_reach_17 : decode b_Top_reach 17 = .ok (.ifCond .ne 5, 3) := kq_154 byq_r (a := 0) (b := 5) (by decide +kernel)
theorem d_Top_reach_20 : decode b_Top_reach 20 = .ok (.iconst (-1), 1) := kq_2 byq_r (by decide +kernel)
theorem d_Top_reach_21 : decode b_Top_reach 21 = .ok (.ireturn, 1) := kq_172 byq_r (by decide +kernel)
theorem d_Top_reach_22 : decode b_Top_reach 22 = .ok (.aload_n 0, 1) := kq_42 byq_r (by decide +kernel)
theorem d_Top_reach_23 : decode b_Top_reach 23 = .ok (.getfield 19, 3) := kq_180 byq_r (a := 0) (b := 19) (by decide +kernel)
theorem d_Top_reach_26 : decode b_Top_reach 26 = .ok (.iload_n 1, 1) := kq_27 byq_r (by decide +kernel)
theorem d_Top_reach_27 : decode b_Top_reach 27 = .ok (.iload_n 2, 1) := kq_28 byq_r (by decide +kernel)
theorem d_Top_reach_28 : decode b_Top_reach 28 = .ok (.invokevirtual 305, 3) := kq_182 byq_r (a := 1) (b := 49) (by decide +kernel)
theorem d_Top_reach_31 : decode b_Top_reach 31 = .ok (.ifCond .ne 6, 3) := kq_154 byq_r (a := 0) (b := 6) (by decide +kernel)
theorem d_Top_reach_34 : decode b_Top_reach 34 = .ok (.bipush (-2), 2) := kq_16 byq_r (b := 254) (by decide +kernel)
theorem d_Top_reach_36 : decode b_Top_reach 36 = .ok (.ireturn, 1) := kq_172 byq_r (by decide +kernel)
theorem d_Top_reach_37 : decode b_Top_reach 37 = .ok (.aload_n 0, 1) := kq_42 byq_r (by decide +kernel)
theorem d_Top_reach_38 : decode b_Top_reach 38 = .ok (.getfield 46, 3) := kq_180 byq_r (a := 0) (b := 46) (by decide +kernel)
theorem d_Top_reach_41 : decode b_Top_reach 41 = .ok (.iload_n 1, 1) := kq_27 byq_r (by decide +kernel)
theorem d_Top_reach_42 : decode b_Top_reach 42 = .ok (.iload_n 2, 1) := kq_28 byq_r (by decide +kernel)
theorem d_Top_reach_43 : decode b_Top_reach 43 = .ok (.lconst 0, 1) := kq_9 byq_r (by decide +kernel)
theorem d_Top_reach_44 : decode b_Top_reach 44 = .ok (.invokevirtual 299, 3) := kq_182 byq_r (a := 1) (b := 43) (by decide +kernel)
theorem d_Top_reach_47 : decode b_Top_reach 47 = .ok (.lstore_n 3, 1) := kq_66 byq_r (by decide +kernel)
theorem d_Top_reach_48 : decode b_Top_reach 48 = .ok (.aload_n 0, 1) := kq_42 byq_r (by decide +kernel)
theorem d_Top_reach_49 : decode b_Top_reach 49 = .ok (.invokevirtual 251, 3) := kq_182 byq_r (a := 0) (b := 251) (by decide +kernel)
theorem d_Top_reach_52 : decode b_Top_reach 52 = .ok (.aload_n 0, 1) := kq_42 byq_r (by decide +kernel)
theorem d_Top_reach_53 : decode b_Top_reach 53 = .ok (.lload_n 3, 1) := kq_33 byq_r (by decide +kernel)
theorem d_Top_reach_54 : decode b_Top_reach 54 = .ok (.invokevirtual 308, 3) := kq_182 byq_r (a := 1) (b := 52) (by decide +kernel)
theorem d_Top_reach_57 : decode b_Top_reach 57 = .ok (.lload_n 3, 1) := kq_33 byq_r (by decide +kernel)
theorem d_Top_reach_58 : decode b_Top_reach 58 = .ok (.invokestatic 182, 3) := kq_184 byq_r (a := 0) (b := 182) (by decide +kernel)
theorem d_Top_reach_61 : decode b_Top_reach 61 = .ok (.ireturn, 1) := kq_172 byq_r (by decide +kernel)
theorem d_Top_path_0 : decode b_Top_path 0 = .ok (.aload_n 0, 1) := kq_42 byq_r (by decide +kernel)
theorem d_Top_path_1 : decode b_Top_path 1 = .ok (.getfield 19, 3) := kq_180 byq_r (a := 0) (b := 19) (by decide +kernel)
theorem d_Top_path_4 : decode b_Top_path 4 = .ok (.iload_n 1, 1) := kq_27 byq_r (by decide +kernel)
theorem d_Top_path_5 : decode b_Top_path 5 = .ok (.iload_n 2, 1) := kq_28 byq_r (by decide +kernel)
theorem d_Top_path_6 : decode b_Top_path 6 = .ok (.invokevirtual 305, 3) := kq_182 byq_r (a := 1) (b := 49) (by decide +kernel)
theorem d_Top_path_9 : decode b_Top_path 9 = .ok (.ifCond .eq 15, 3) := kq_153 byq_r (a := 0) (b := 15) (by decide +kernel)
theorem d_Top_path_12 : decode b_Top_path 12 = .ok (.aload_n 0, 1) := kq_42 byq_r (by decide +kernel)
theorem d_Top_path_13 : decode b_Top_path 13 = .ok (.getfield 19, 3) := kq_180 byq_r (a := 0) (b := 19) (by decide +kernel)
theorem d_Top_path_16 : decode b_Top_path 16 = .ok (.iload_n 1, 1) := kq_27 byq_r (by decide +kernel)
theorem d_Top_path_17 : decode b_Top_path 17 = .ok (.iload_n 3, 1) := kq_29 byq_r (by decide +kernel)
theorem d_Top_path_18 : decode b_Top_path 18 = .ok (.invokevirtual 305, 3) := kq_182 byq_r (a := 1) (b := 49) (by decide +kernel)
theorem d_Top_path_21 : decode b_Top_path 21 = .ok (.ifCond .ne 5, 3) := kq_154 byq_r (a := 0) (b := 5) (by decide +kernel)
theorem d_Top_path_24 : decode b_Top_path 24 = .ok (.iconst (-1), 1) := kq_2 byq_r (by decide +kernel)
theorem d_Top_path_25 : decode b_Top_path 25 = .ok (.ireturn, 1) := kq_172 byq_r (by decide +kernel)
theorem d_Top_path_26 : decode b_Top_path 26 = .ok (.aload_n 0, 1) := kq_42 byq_r (by decide +kernel)
theorem d_Top_path_27 : decode b_Top_path 27 = .ok (.getfield 46, 3) := kq_180 byq_r (a := 0) (b := 46) (by decide +kernel)
theorem d_Top_path_30 : decode b_Top_path 30 = .ok (.iload_n 1, 1) := kq_27 byq_r (by decide +kernel)
theorem d_Top_path_31 : decode b_Top_path 31 = .ok (.iload_n 3, 1) := kq_29 byq_r (by decide +kernel)
theorem d_Top_path_32 : decode b_Top_path 32 = .ok (.aload_n 0, 1) := kq_42 byq_r (by decide +kernel)
theorem d_Top_path_33 : decode b_Top_path 33 = .ok (.getfield 91, 3) := kq_180 byq_r (a := 0) (b := 91) (by decide +kernel)
theorem d_Top_path_36 : decode b_Top_path 36 = .ok (.getfield 312, 3) := kq_180 byq_r (a := 1) (b := 56) (by decide +kernel)
theorem d_Top_path_39 : decode b_Top_path 39 = .ok (.invokevirtual 315, 3) := kq_182 byq_r (a := 1) (b := 59) (by decide +kernel)
theorem d_Top_path_42 : decode b_Top_path 42 = .ok (.aload_n 0, 1) := kq_42 byq_r (by decide +kernel)
theorem d_Top_path_43 : decode b_Top_path 43 = .ok (.getfield 91, 3) := kq_180 byq_r (a := 0) (b := 91) (by decide +kernel)
theorem d_Top_path_46 : decode b_Top_path 46 = .ok (.getfield 312, 3) := kq_180 byq_r (a := 1) (b := 56) (by decide +kernel)
theorem d_Top_path_49 : decode b_Top_path 49 = .ok (.iload_n 2, 1) := kq_28 byq_r (by decide +kernel)
theorem d_Top_path_50 : decode b_Top_path 50 = .ok (.iaload, 1) := kq_46 byq_r (by decide +kernel)
theorem d_Top_path_51 : decode b_Top_path 51 = .ok (.istore 4, 2) := kq_54 byq_r (by decide +kernel)
theorem d_Top_path_53 : decode b_Top_path 53 = .ok (.iload 4, 2) := kq_21 byq_r (by decide +kernel)
theorem d_Top_path_55 : decode b_Top_path 55 = .ok (.ldc_w 319, 3) := kq_19 byq_r (a := 1) (b := 63) (by decide +kernel)
theorem d_Top_path_58 : decode b_Top_path 58 = .ok (.if_icmp .lt 6, 3) := kq_161 byq_r (a := 0) (b := 6) (by decide +kernel)
theorem d_Top_path_61 : decode b_Top_path 61 = .ok (.bipush (-2), 2) := kq_16 byq_r (b := 254) (by decide +kernel)
theorem d_Top_path_63 : decode b_Top_path 63 = .ok (.ireturn, 1) := kq_172 byq_r (by decide +kernel)
theorem d_Top_path_64 : decode b_Top_path 64 = .ok (.aload_n 0, 1) := kq_42 byq_r (by decide +kernel)
theorem d_Top_path_65 : decode b_Top_path 65 = .ok (.invokevirtual 251, 3) := kq_182 byq_r (a := 0) (b := 251) (by decide +kernel)
theorem d_Top_path_68 : decode b_Top_path 68 = .ok (.iload_n 2, 1) := kq_28 byq_r (by decide +kernel)
theorem d_Top_path_69 : decode b_Top_path 69 = .ok (.istore 5, 2) := kq_54 byq_r (by decide +kernel)
theorem d_Top_path_71 : decode b_Top_path 71 = .ok (.iconst 0, 1) := kq_3 byq_r (by decide +kernel)
theorem d_Top_path_72 : decode b_Top_path 72 = .ok (.istore 6, 2) := kq_54 byq_r (by decide +kernel)
theorem d_Top_path_74 : decode b_Top_path 74 = .ok (.iload 6, 2) := kq_21 byq_r (by decide +kernel)
theorem d_Top_path_76 : decode b_Top_path 76 = .ok (.iload 4, 2) := kq_21 byq_r (by decide +kernel)
theorem d_Top_path_78 : decode b_Top_path 78 = .ok (.if_icmp .ge 61, 3) := kq_162 byq_r (a := 0) (b := 61) (by decide +kernel)
theorem d_Top_path_81 : decode b_Top_path 81 = .ok (.iload 6, 2) := kq_21 byq_r (by decide +kernel)
theorem d_Top_path_83 : decode b_Top_path 83 = .ok (.bipush 10, 2) := kq_16 byq_r (b := 10) (by decide +kernel)
theorem d_Top_path_85 : decode b_Top_path 85 = .ok (.if_icmp .ge 54, 3) := kq_162 byq_r (a := 0) (b := 54) (by decide +kernel)
theorem d_Top_path_88 : decode b_Top_path 88 = .ok (.iload 5, 2) := kq_21 byq_r (by decide +kernel)
theorem d_Top_path_90 : decode b_Top_path 90 = .ok (.iconst (-1), 1) := kq_2 byq_r (by decide +kernel)
theorem d_Top_path_91 : decode b_Top_path 91 = .ok (.if_icmp .eq 48, 3) := kq_159 byq_r (a := 0) (b := 48) (by decide +kernel)
theorem d_Top_path_94 : decode b_Top_path 94 = .ok (.aload_n 0, 1) := kq_42 byq_r (by decide +kernel)
theorem d_Top_path_95 : decode b_Top_path 95 = .ok (.getfield 46, 3) := kq_180 byq_r (a := 0) (b := 46) (by decide +kernel)
theorem d_Top_path_98 : decode b_Top_path 98 = .ok (.iload_n 1, 1) := kq_27 byq_r (by decide +kernel)
theorem d_Top_path_99 : decode b_Top_path 99 = .ok (.iload 5, 2) := kq_21 byq_r (by decide +kernel)
theorem d_Top_path_101 : decode b_Top_path 101 = .ok (.aload_n 0, 1) := kq_42 byq_r (by decide +kernel)
theorem d_Top_path_102 : decode b_Top_path 102 = .ok (.getfield 91, 3) := kq_180 byq_r (a := 0) (b := 91) (by decide +kernel)
theorem d_Top_path_105 : decode b_Top_path 105 = .ok (.getfield 312, 3) := kq_180 byq_r (a := 1) (b := 56) (by decide +kernel)
theorem d_Top_path_108 : decode b_Top_path 108 = .ok (.invokevirtual 320, 3) := kq_182 byq_r (a := 1) (b := 64) (by decide +kernel)
theorem d_Top_path_111 : decode b_Top_path 111 = .ok (.istore 7, 2) := kq_54 byq_r (by decide +kernel)
theorem d_Top_path_113 : decode b_Top_path 113 = .ok (.aload_n 0, 1) := kq_42 byq_r (by decide +kernel)
theorem d_Top_path_114 : decode b_Top_path 114 = .ok (.iload 7, 2) := kq_21 byq_r (by decide +kernel)
theorem d_Top_path_116 : decode b_Top_path 116 = .ok (.invokevirtual 257, 3) := kq_182 byq_r (a := 1) (b := 1) (by decide +kernel)
theorem d_Top_path_119 : decode b_Top_path 119 = .ok (.aload_n 0, 1) := kq_42 byq_r (by decide +kernel)
theorem d_Top_path_120 : decode b_Top_path 120 = .ok (.getfield 46, 3) := kq_180 byq_r (a := 0) (b := 46) (by decide +kernel)
theorem d_Top_path_123 : decode b_Top_path 123 = .ok (.iload_n 1, 1) := kq_27 byq_r (by decide +kernel)
theorem d_Top_path_124 : decode b_Top_path 124 = .ok (.iload 5, 2) := kq_21 byq_r (by decide +kernel)
theorem d_Top_path_126 : decode b_Top_path 126 = .ok (.iload 7, 2) := kq_21 byq_r (by decide +kernel)
theorem d_Top_path_128 : decode b_Top_path 128 = .ok (.invokevirtual 324, 3) := kq_182 byq_r (a := 1) (b := 68) (by decide +kernel)
theorem d_Top_path_131 : decode b_Top_path 131 = .ok (.istore 5, 2) := kq_54 byq_r (by decide +kernel)
theorem d_Top_path_133 : decode b_Top_path 133 = .ok (.iinc 6 1, 3) := kq_132 byq_r (b := 1) (by decide +kernel)
theorem d_Top_path_136 : decode b_Top_path 136 = .ok (.goto (-62), 3) := kq_167 byq_r (a := 255) (b := 194) (by decide +kernel)
theorem d_Top_path_139 : decode b_Top_path 139 = .ok (.iload 4, 2) := kq_21 byq_r (by decide +kernel)
theorem d_Top_path_141 : decode b_Top_path 141 = .ok (.ireturn, 1) := kq_172 byq_r (by decide +kernel)
theorem d_Top_both_0 : decode b_Top_both 0 = .ok (.aload_n 0, 1) := kq_42 byq_r (by decide +kernel)
theorem d_Top_both_1 : decode b_Top_both 1 = .ok (.getfield 19, 3) := kq_180 byq_r (a := 0) (b := 19) (by decide +kernel)
theorem d_Top_both_4 : decode b_Top_both 4 = .ok (.iload_n 1, 1) := kq_27 byq_r (by decide +kernel)
theorem d_Top_both_5 : decode b_Top_both 5 = .ok (.iload_n 2, 1) := kq_28 byq_r (by decide +kernel)
theorem d_Top_both_6 : decode b_Top_both 6 = .ok (.invokevirtual 305, 3) := kq_182 byq_r (a := 1) (b := 49) (by decide +kernel)
theorem d_Top_both_9 : decode b_Top_both 9 = .ok (.ifCond .eq 16, 3) := kq_153 byq_r (a := 0) (b := 16) (by decide +kernel)
theorem d_Top_both_12 : decode b_Top_both 12 = .ok (.aload_n 0, 1) := kq_42 byq_r (by decide +kernel)
theorem d_Top_both_13 : decode b_Top_both 13 = .ok (.getfield 19, 3) := kq_180 byq_r (a := 0) (b := 19) (by decide +kernel)
theorem d_Top_both_16 : decode b_Top_both 16 = .ok (.iload_n 3, 1) := kq_29 byq_r (by decide +kernel)
theorem d_Top_both_17 : decode b_Top_both 17 = .ok (.iload 4, 2) := kq_21 byq_r (by decide +kernel)
theorem d_Top_both_19 : decode b_Top_both 19 = .ok (.invokevirtual 305, 3) := kq_182 byq_r (a := 1) (b := 49) (by decide +kernel)
theorem d_Top_both_22 : decode b_Top_both 22 = .ok (.ifCond .ne 5, 3) := kq_154 byq_r (a := 0) (b := 5) (by decide +kernel)
theorem d_Top_both_25 : decode b_Top_both 25 = .ok (.iconst (-1), 1) := kq_2 byq_r (by decide +kernel)
theorem d_Top_both_26 : decode b_Top_both 26 = .ok (.ireturn, 1) := kq_172 byq_r (by decide +kernel)
theorem d_Top_both_27 : decode b_Top_both 27 = .ok (.aload_n 0, 1) := kq_42 byq_r (by decide +kernel)
theorem d_Top_both_28 : decode b_Top_both 28 = .ok (.getfield 91, 3) := kq_180 byq_r (a := 0) (b := 91) (by decide +kernel)
theorem d_Top_both_31 : decode b_Top_both 31 = .ok (.aload_n 0, 1) := kq_42 byq_r (by decide +kernel)
theorem d_Top_both_32 : decode b_Top_both 32 = .ok (.getfield 46, 3) := kq_180 byq_r (a := 0) (b := 46) (by decide +kernel)
theorem d_Top_both_35 : decode b_Top_both 35 = .ok (.iload_n 1, 1) := kq_27 byq_r (by decide +kernel)
theorem d_Top_both_36 : decode b_Top_both 36 = .ok (.bipush 36, 2) := kq_16 byq_r (b := 36) (by decide +kernel)
theorem d_Top_both_38 : decode b_Top_both 38 = .ok (.imul, 1) := kq_104 byq_r (by decide +kernel)
theorem d_Top_both_39 : decode b_Top_both 39 = .ok (.iload_n 2, 1) := kq_28 byq_r (by decide +kernel)
theorem d_Top_both_40 : decode b_Top_both 40 = .ok (.iadd, 1) := kq_96 byq_r (by decide +kernel)
theorem d_Top_both_41 : decode b_Top_both 41 = .ok (.iload_n 3, 1) := kq_29 byq_r (by decide +kernel)
theorem d_Top_both_42 : decode b_Top_both 42 = .ok (.bipush 36, 2) := kq_16 byq_r (b := 36) (by decide +kernel)
theorem d_Top_both_44 : decode b_Top_both 44 = .ok (.imul, 1) := kq_104 byq_r (by decide +kernel)
theorem d_Top_both_45 : decode b_Top_both 45 = .ok (.iload 4, 2) := kq_21 byq_r (by decide +kernel)
theorem d_Top_both_47 : decode b_Top_both 47 = .ok (.iadd, 1) := kq_96 byq_r (by decide +kernel)
theorem d_Top_both_48 : decode b_Top_both 48 = .ok (.invokevirtual 327, 3) := kq_182 byq_r (a := 1) (b := 71) (by decide +kernel)
theorem d_Top_both_51 : decode b_Top_both 51 = .ok (.istore 5, 2) := kq_54 byq_r (by decide +kernel)
theorem d_Top_both_53 : decode b_Top_both 53 = .ok (.iload 5, 2) := kq_21 byq_r (by decide +kernel)
theorem d_Top_both_55 : decode b_Top_both 55 = .ok (.ldc_w 319, 3) := kq_19 byq_r (a := 1) (b := 63) (by decide +kernel)
theorem d_Top_both_58 : decode b_Top_both 58 = .ok (.if_icmp .lt 6, 3) := kq_161 byq_r (a := 0) (b := 6) (by decide +kernel)
theorem d_Top_both_61 : decode b_Top_both 61 = .ok (.bipush (-2), 2) := kq_16 byq_r (b := 254) (by decide +kernel)
theorem d_Top_both_63 : decode b_Top_both 63 = .ok (.ireturn, 1) := kq_172 byq_r (by decide +kernel)
theorem d_Top_both_64 : decode b_Top_both 64 = .ok (.aload_n 0, 1) := kq_42 byq_r (by decide +kernel)
theorem d_Top_both_65 : decode b_Top_both 65 = .ok (.invokevirtual 251, 3) := kq_182 byq_r (a := 0) (b := 251) (by decide +kernel)
theorem d_Top_both_68 : decode b_Top_both 68 = .ok (.aload_n 0, 1) := kq_42 byq_r (by decide +kernel)
theorem d_Top_both_69 : decode b_Top_both 69 = .ok (.iload 5, 2) := kq_21 byq_r (by decide +kernel)
theorem d_Top_both_71 : decode b_Top_both 71 = .ok (.bipush 100, 2) := kq_16 byq_r (b := 100) (by decide +kernel)
theorem d_Top_both_73 : decode b_Top_both 73 = .ok (.irem, 1) := kq_112 byq_r (by decide +kernel)
theorem d_Top_both_74 : decode b_Top_both 74 = .ok (.invokevirtual 257, 3) := kq_182 byq_r (a := 1) (b := 1) (by decide +kernel)
theorem d_Top_both_77 : decode b_Top_both 77 = .ok (.iload 5, 2) := kq_21 byq_r (by decide +kernel)
theorem d_Top_both_79 : decode b_Top_both 79 = .ok (.bipush 100, 2) := kq_16 byq_r (b := 100) (by decide +kernel)
theorem d_Top_both_81 : decode b_Top_both 81 = .ok (.idiv, 1) := kq_108 byq_r (by decide +kernel)
theorem d_Top_both_82 : decode b_Top_both 82 = .ok (.ireturn, 1) := kq_172 byq_r (by decide +kernel)
def lb_Top_lasts_10 (v1 : Int32) (s : Int32 × Mem) : Option ((Int32 × Mem) ⊕ ((Mem))) :=
  if v1 ≤ s.1 then
  some (.inr s.2)
  else
  Option.bind (f_Clock_pass 11 32 s.2) fun x1 =>
  some (.inl ((s.1 + (1 : Int32)), x1))
theorem lb_Top_lasts_10_ok {E : Ev} {G : Gw} {d : Nat} {post : Int32 → Mem → Prop} (X : Cx E G b_Top_lasts "WomenByTheRoofs" 3 d (some .boolean)) (hD : 5 ≤ d)  (v1 : Int32)   (s : Int32 × Mem) (o : (Int32 × Mem) ⊕ ((Mem))) (h : lb_Top_lasts_10 v1 s = some o) (kc : ∀ s9 : Int32 × Mem, o = .inl s9 → V E (0, 0) G 3 (QI E G post) s9.2 10 [(0, .ref (G.2.2 + 0)), (1, .int v1), (2, .int s9.1)] []) (kx0 : ∀ x9 : Mem, o = .inr x9 → V E (0, 0) G 3 (QI E G post) x9 48 [] []) : V E (0, 0) G 3 (QI E G post) s.2 10 [(0, .ref (G.2.2 + 0)), (1, .int v1), (2, .int s.1)] [] := by
  unfold lb_Top_lasts_10 at h
  refine V_iload_n (n := 2) X d_Top_lasts_10 rfl rfl rfl ?_
  refine V_iload_n (n := 1) X d_Top_lasts_11 rfl rfl rfl ?_
  refine V_icmp_ge (tgt := 48) X d_Top_lasts_12 (by decide) rfl (fun c2 => ?_) (fun c2 => ?_)
  · rw [if_pos c2] at h
    refine V_sub (lv' := []) [] rfl ?_
    exact kx0 s.2 (Option.some.inj h).symm
  · rw [if_neg c2] at h
    refine V_aload_n (n := 0) X d_Top_lasts_15 rfl rfl rfl ?_
    refine V_getr (k2 := 45) X fo_Top_63 kd_0 rfl rf_0_9 d_Top_lasts_16 rfl ?_
    refine V_aload_n (n := 0) X d_Top_lasts_19 rfl rfl rfl ?_
    refine V_getr (k2 := 11) X fo_Top_33 kd_0 rfl rf_0_3 d_Top_lasts_20 rfl ?_
    refine V_aload_n (n := 0) X d_Top_lasts_23 rfl rfl rfl ?_
    refine V_getr (k2 := 6) X fo_Top_26 kd_0 rfl rf_0_2 d_Top_lasts_24 rfl ?_
    refine V_aload_n (n := 0) X d_Top_lasts_27 rfl rfl rfl ?_
    refine V_getr (k2 := 3) X fo_Top_19 kd_0 rfl rf_0_1 d_Top_lasts_28 rfl ?_
    refine V_aload_n (n := 0) X d_Top_lasts_31 rfl rfl rfl ?_
    refine V_getr (k2 := 40) X fo_Top_56 kd_0 rfl rf_0_8 d_Top_lasts_32 rfl ?_
    refine V_aload_n (n := 0) X d_Top_lasts_35 rfl rfl rfl ?_
    refine V_getr (k2 := 32) X fo_Top_46 kd_0 rfl rf_0_6 d_Top_lasts_36 rfl ?_
    obtain ⟨x1, hx1, h⟩ := ob_s h
    refine V_cv (As := [.ref (G.2.2 + 11), .ref (G.2.2 + 6), .ref (G.2.2 + 3), .ref (G.2.2 + 40), .ref (G.2.2 + 32)]) X (Z0 E) ml_Top_247 yq_Clock_pass (c_Clock_pass E.2.1 G 11 32 s.2 x1 hx1 _ (Nat.le_refl _)) kd_45 rfl rfl (by omega) rfl (Nat.le_of_ble_eq_true rfl) d_Top_lasts_39 rfl (fun M9 hq => ?_)
    rw [hq]
    refine V_iinc (n := 2) (v := (s.1 + (1 : Int32))) (lv' := [(2, .int (s.1 + (1 : Int32))), (0, .ref (G.2.2 + 0)), (1, .int v1)]) X d_Top_lasts_42 rfl rfl (by decide) rfl rfl ?_
    refine V_goto (pc' := 10) X d_Top_lasts_45 (by decide) ?_
    refine V_sub (lv' := [(0, .ref (G.2.2 + 0)), (1, .int v1), (2, .int (s.1 + (1 : Int32)))]) [1, 2, 0] rfl ?_
    exact kc ((s.1 + (1 : Int32)), x1) (Option.some.inj h).symm
theorem lp_Top_lasts_10_ok {E : Ev} {G : Gw} {d : Nat} {post : Int32 → Mem → Prop} (X : Cx E G b_Top_lasts "WomenByTheRoofs" 3 d (some .boolean)) (hD : 5 ≤ d)  (v1 : Int32)   (n9 : Nat) (s : Int32 × Mem) (x : (Mem)) (h : iter (lb_Top_lasts_10 v1) n9 s = some x) (kx0 : ∀ x9 : Mem, x = x9 → V E (0, 0) G 3 (QI E G post) x9 48 [] []) : V E (0, 0) G 3 (QI E G post) s.2 10 [(0, .ref (G.2.2 + 0)), (1, .int v1), (2, .int s.1)] [] :=
  iter_P (P := fun s : Int32 × Mem => V E (0, 0) G 3 (QI E G post) s.2 10 [(0, .ref (G.2.2 + 0)), (1, .int v1), (2, .int s.1)] []) (fun s o hb kc ky => lb_Top_lasts_10_ok X hD v1 s o hb kc (fun x9 e9 => kx0 x9 (ky _ e9).symm)) n9 s h
def f_Top_lasts (v1 : Int32) (M : Mem) : Option (Int32 × Mem) :=
  if v1 ≤ (60 : Int32) then
  Option.bind (iter (lb_Top_lasts_10 v1) FU ((0 : Int32), M)) fun x3 =>
  some ((1 : Int32), x3)
  else
  some ((0 : Int32), M)
theorem c_Top_lasts (l : Launch) (G : Gw)  (v1 : Int32) (M : Mem) (x : Int32 × Mem) (h : f_Top_lasts v1 M = some x) (d : Nat) (hD : 5 ≤ d) : Ci l G y_Top_lasts b_Top_lasts 3 (some .boolean) d [.ref (G.2.2 + 0), .int v1] M (fun r9 M9 => r9 = x.1 ∧ M9 = x.2) := by
  refine Ci_of (by decide) (Nat.le_of_ble_eq_true rfl) (fun E hE X => ?_)
  subst hE
  have kr : ∀ x9 : Int32 × Mem, x = x9 → (fun r9 M9 => r9 = x.1 ∧ M9 = x.2) x9.1 x9.2 := fun x9 e9 => by subst e9; exact ⟨rfl, rfl⟩
  unfold f_Top_lasts at h
  refine V_iload_n (n := 1) X d_Top_lasts_0 rfl rfl rfl ?_
  refine V_bipush (v := 60) X d_Top_lasts_1 (by decide) rfl ?_
  refine V_icmp_le (tgt := 8) X d_Top_lasts_3 (by decide) rfl (fun c4 => ?_) (fun c4 => ?_)
  · rw [if_pos c4] at h
    refine V_iconst (v := 0) X d_Top_lasts_8 (by decide) rfl ?_
    refine V_istore_n (lv' := [(2, .int (0 : Int32)), (0, .ref (G.2.2 + 0)), (1, .int v1)]) X d_Top_lasts_9 rfl (by decide) rfl rfl ?_
    refine V_sub (lv' := [(0, .ref (G.2.2 + 0)), (1, .int v1), (2, .int (0 : Int32))]) [1, 2, 0] rfl ?_
    obtain ⟨x3, hx3, h⟩ := ob_s h
    refine (lp_Top_lasts_10_ok X hD v1 _ _ _ hx3 (fun x9 e9 => ?_) :)
    subst e9
    refine V_iconst (v := 1) X d_Top_lasts_48 (by decide) rfl ?_
    exact V_zret X (kr ((1 : Int32), x3) (Option.some.inj h).symm) (by decide) d_Top_lasts_49
  · rw [if_neg c4] at h
    refine V_iconst (v := 0) X d_Top_lasts_6 (by decide) rfl ?_
    exact V_zret X (kr ((0 : Int32), M) (Option.some.inj h).symm) (by decide) d_Top_lasts_7
def f_Top_does (v1 : Int32) (M : Mem) : Option (Int32 × Mem) :=
  if v1 < 0 then
  some ((0 : Int32), M)
  else
  if v1 < (32 : Int32) then
  if inb v1 32 = true then
  if (M.1 148 v1.toNatClampNeg) = (102 : Int32) then
  Option.bind (f_Top_celebrate ((1 : Int32) - (M.1 11 9)) M) fun x1 =>
  if x1.1 = 0 ∨ x1.1 = 1 then some (x1.1, x1.2) else none
  else if (M.1 148 v1.toNatClampNeg) = (109 : Int32) then
  if inb v1 32 = true then
  Option.bind (f_Top_lasts (M.1 149 v1.toNatClampNeg) M) fun x3 =>
  if x3.1 = 0 ∨ x3.1 = 1 then some (x3.1, x3.2) else none
  else none
  else if (M.1 148 v1.toNatClampNeg) = (110 : Int32) then
  if inb v1 32 = true then
  Option.bind (f_Top_give (M.1 149 v1.toNatClampNeg) M) fun x5 =>
  if x5.1 = 0 ∨ x5.1 = 1 then some (x5.1, x5.2) else none
  else none
  else if (M.1 148 v1.toNatClampNeg) = (112 : Int32) then
  if inb v1 32 = true then
  if inb v1 32 = true then
  Option.bind (f_Top_lay (M.1 149 v1.toNatClampNeg) (M.1 150 v1.toNatClampNeg) M) fun x7 =>
  if x7.1 < 0 then
  some ((0 : Int32), x7.2)
  else
  some ((1 : Int32), x7.2)
  else none
  else none
  else if (M.1 148 v1.toNatClampNeg) = (120 : Int32) then
  Option.bind (f_Top_lift M) fun x10 =>
  if x10.1 = 0 ∨ x10.1 = 1 then some (x10.1, x10.2) else none
  else some ((0 : Int32), M)
  else none
  else
  some ((0 : Int32), M)
theorem c_Top_does (l : Launch) (G : Gw)  (v1 : Int32) (M : Mem) (x : Int32 × Mem) (h : f_Top_does v1 M = some x) (d : Nat) (hD : 6 ≤ d) : Ci l G y_Top_does b_Top_does 2 (some .boolean) d [.ref (G.2.2 + 0), .int v1] M (fun r9 M9 => r9 = x.1 ∧ M9 = x.2) := by
  refine Ci_of (by decide) (Nat.le_of_ble_eq_true rfl) (fun E hE X => ?_)
  subst hE
  have kr : ∀ x9 : Int32 × Mem, x = x9 → (fun r9 M9 => r9 = x.1 ∧ M9 = x.2) x9.1 x9.2 := fun x9 e9 => by subst e9; exact ⟨rfl, rfl⟩
  unfold f_Top_does at h
  refine V_iload_n (n := 1) X d_Top_does_0 rfl rfl rfl ?_
  refine V_if_lt (tgt := 10) X d_Top_does_1 (by decide) rfl (fun c13 => ?_) (fun c13 => ?_)
  · rw [if_pos c13] at h
    refine V_iconst (v := 0) X d_Top_does_10 (by decide) rfl ?_
    exact V_zret X (kr ((0 : Int32), M) (Option.some.inj h).symm) (by decide) d_Top_does_11
  · rw [if_neg c13] at h
    refine V_iload_n (n := 1) X d_Top_does_4 rfl rfl rfl ?_
    refine V_bipush (v := 32) X d_Top_does_5 (by decide) rfl ?_
    refine V_icmp_lt (tgt := 12) X d_Top_does_7 (by decide) rfl (fun c12 => ?_) (fun c12 => ?_)
    · rw [if_pos c12] at h
      refine V_aload_n (n := 0) X d_Top_does_12 rfl rfl rfl ?_
      refine V_getr (k2 := 147) X fo_Top_77 kd_0 rfl rf_0_11 d_Top_does_13 rfl ?_
      refine V_getr (k2 := 148) X fo_Top_473 kd_147 rfl rf_147_0 d_Top_does_16 rfl ?_
      refine V_iload_n (n := 1) X d_Top_does_19 rfl rfl rfl ?_
      obtain ⟨hb, h⟩ := ifn h
      refine V_iald X kd_148 (inb_in ln_148 hb) d_Top_does_20 rfl ?_
      by_cases c2 : (M.1 148 v1.toNatClampNeg) = (102 : Int32)
      · rw [if_pos c2] at h
        refine V_lku (v := 102) (pc' := 136) (off := 115) X d_Top_does_21 c2 (by decide) (by decide +kernel) (by decide) ?_
        refine V_aload_n (n := 0) X d_Top_does_136 rfl rfl rfl ?_
        refine V_iconst (v := 1) X d_Top_does_137 (by decide) rfl ?_
        refine V_aload_n (n := 0) X d_Top_does_138 rfl rfl rfl ?_
        refine V_getr (k2 := 11) X fo_Top_33 kd_0 rfl rf_0_3 d_Top_does_139 rfl ?_
        refine V_geti X fo_Top_450 kd_11 rfl d_Top_does_142 rfl ?_
        refine V_isub X d_Top_does_145 rfl ?_
        obtain ⟨x1, hx1, h⟩ := ob_s h
        refine V_ci (As := [.int ((1 : Int32) - (M.1 11 9))]) X (Z0 E) ml_Top_240 yq_Top_celebrate (c_Top_celebrate E.2.1 G ((1 : Int32) - (M.1 11 9)) M x1 hx1 _ (Nat.le_refl _)) kd_0 rfl rfl (by omega) rfl (Nat.le_of_ble_eq_true rfl) d_Top_does_146 rfl (fun r9 M9 hq => ?_)
        rw [hq.1, hq.2]
        obtain ⟨hq, h⟩ := ifn h
        exact V_zret X (kr (x1.1, x1.2) (Option.some.inj h).symm) hq d_Top_does_149
      · rw [if_neg c2] at h
        by_cases c4 : (M.1 148 v1.toNatClampNeg) = (109 : Int32)
        · rw [if_pos c4] at h
          refine V_lku (v := 109) (pc' := 72) (off := 51) X d_Top_does_21 c4 (by decide) (by decide +kernel) (by decide) ?_
          refine V_aload_n (n := 0) X d_Top_does_72 rfl rfl rfl ?_
          refine V_aload_n (n := 0) X d_Top_does_73 rfl rfl rfl ?_
          refine V_getr (k2 := 147) X fo_Top_77 kd_0 rfl rf_0_11 d_Top_does_74 rfl ?_
          refine V_getr (k2 := 149) X fo_Top_476 kd_147 rfl rf_147_1 d_Top_does_77 rfl ?_
          refine V_iload_n (n := 1) X d_Top_does_80 rfl rfl rfl ?_
          obtain ⟨hb, h⟩ := ifn h
          refine V_iald X kd_149 (inb_in ln_149 hb) d_Top_does_81 rfl ?_
          obtain ⟨x3, hx3, h⟩ := ob_s h
          refine V_ci (As := [.int (M.1 149 v1.toNatClampNeg)]) X (Z0 E) ml_Top_479 yq_Top_lasts (c_Top_lasts E.2.1 G (M.1 149 v1.toNatClampNeg) M x3 hx3 _ (Nat.le_refl _)) kd_0 rfl rfl (by omega) rfl (Nat.le_of_ble_eq_true rfl) d_Top_does_82 rfl (fun r9 M9 hq => ?_)
          rw [hq.1, hq.2]
          obtain ⟨hq, h⟩ := ifn h
          exact V_zret X (kr (x3.1, x3.2) (Option.some.inj h).symm) hq d_Top_does_85
        · rw [if_neg c4] at h
          by_cases c6 : (M.1 148 v1.toNatClampNeg) = (110 : Int32)
          · rw [if_pos c6] at h
            refine V_lku (v := 110) (pc' := 86) (off := 65) X d_Top_does_21 c6 (by decide) (by decide +kernel) (by decide) ?_
            refine V_aload_n (n := 0) X d_Top_does_86 rfl rfl rfl ?_
            refine V_aload_n (n := 0) X d_Top_does_87 rfl rfl rfl ?_
            refine V_getr (k2 := 147) X fo_Top_77 kd_0 rfl rf_0_11 d_Top_does_88 rfl ?_
            refine V_getr (k2 := 149) X fo_Top_476 kd_147 rfl rf_147_1 d_Top_does_91 rfl ?_
            refine V_iload_n (n := 1) X d_Top_does_94 rfl rfl rfl ?_
            obtain ⟨hb, h⟩ := ifn h
            refine V_iald X kd_149 (inb_in ln_149 hb) d_Top_does_95 rfl ?_
            obtain ⟨x5, hx5, h⟩ := ob_s h
            refine V_ci (As := [.int (M.1 149 v1.toNatClampNeg)]) X (Z0 E) ml_Top_233 yq_Top_give (c_Top_give E.2.1 G (M.1 149 v1.toNatClampNeg) M x5 hx5 _ (Nat.le_refl _)) kd_0 rfl rfl (by omega) rfl (Nat.le_of_ble_eq_true rfl) d_Top_does_96 rfl (fun r9 M9 hq => ?_)
            rw [hq.1, hq.2]
            obtain ⟨hq, h⟩ := ifn h
            exact V_zret X (kr (x5.1, x5.2) (Option.some.inj h).symm) hq d_Top_does_99
          · rw [if_neg c6] at h
            by_cases c9 : (M.1 148 v1.toNatClampNeg) = (112 : Int32)
            · rw [if_pos c9] at h
              refine V_lku (v := 112) (pc' := 100) (off := 79) X d_Top_does_21 c9 (by decide) (by decide +kernel) (by decide) ?_
              refine V_aload_n (n := 0) X d_Top_does_100 rfl rfl rfl ?_
              refine V_aload_n (n := 0) X d_Top_does_101 rfl rfl rfl ?_
              refine V_getr (k2 := 147) X fo_Top_77 kd_0 rfl rf_0_11 d_Top_does_102 rfl ?_
              refine V_getr (k2 := 149) X fo_Top_476 kd_147 rfl rf_147_1 d_Top_does_105 rfl ?_
              refine V_iload_n (n := 1) X d_Top_does_108 rfl rfl rfl ?_
              obtain ⟨hb, h⟩ := ifn h
              refine V_iald X kd_149 (inb_in ln_149 hb) d_Top_does_109 rfl ?_
              refine V_aload_n (n := 0) X d_Top_does_110 rfl rfl rfl ?_
              refine V_getr (k2 := 147) X fo_Top_77 kd_0 rfl rf_0_11 d_Top_does_111 rfl ?_
              refine V_getr (k2 := 150) X fo_Top_482 kd_147 rfl rf_147_2 d_Top_does_114 rfl ?_
              refine V_iload_n (n := 1) X d_Top_does_117 rfl rfl rfl ?_
              obtain ⟨hb, h⟩ := ifn h
              refine V_iald X kd_150 (inb_in ln_150 hb) d_Top_does_118 rfl ?_
              obtain ⟨x7, hx7, h⟩ := ob_s h
              refine V_ci (As := [.int (M.1 149 v1.toNatClampNeg), .int (M.1 150 v1.toNatClampNeg)]) X (Z0 E) ml_Top_215 yq_Top_lay (c_Top_lay E.2.1 G (M.1 149 v1.toNatClampNeg) (M.1 150 v1.toNatClampNeg) M x7 hx7 _ (Nat.le_refl _)) kd_0 rfl rfl (by omega) rfl (Nat.le_of_ble_eq_true rfl) d_Top_does_119 rfl (fun r9 M9 hq => ?_)
              rw [hq.1, hq.2]
              refine V_if_lt (tgt := 129) X d_Top_does_122 (by decide) rfl (fun c8 => ?_) (fun c8 => ?_)
              · rw [if_pos c8] at h
                refine V_iconst (v := 0) X d_Top_does_129 (by decide) rfl ?_
                exact V_zret X (kr ((0 : Int32), x7.2) (Option.some.inj h).symm) (by decide) d_Top_does_130
              · rw [if_neg c8] at h
                refine V_iconst (v := 1) X d_Top_does_125 (by decide) rfl ?_
                refine V_goto (pc' := 130) X d_Top_does_126 (by decide) ?_
                exact V_zret X (kr ((1 : Int32), x7.2) (Option.some.inj h).symm) (by decide) d_Top_does_130
            · rw [if_neg c9] at h
              by_cases c11 : (M.1 148 v1.toNatClampNeg) = (120 : Int32)
              · rw [if_pos c11] at h
                refine V_lku (v := 120) (pc' := 131) (off := 110) X d_Top_does_21 c11 (by decide) (by decide +kernel) (by decide) ?_
                refine V_aload_n (n := 0) X d_Top_does_131 rfl rfl rfl ?_
                obtain ⟨x10, hx10, h⟩ := ob_s h
                refine V_ci (As := []) X (Z0 E) ml_Top_220 yq_Top_lift (c_Top_lift E.2.1 G  M x10 hx10 _ (Nat.le_refl _)) kd_0 rfl rfl (by omega) rfl (Nat.le_of_ble_eq_true rfl) d_Top_does_132 rfl (fun r9 M9 hq => ?_)
                rw [hq.1, hq.2]
                obtain ⟨hq, h⟩ := ifn h
                exact V_zret X (kr (x10.1, x10.2) (Option.some.inj h).symm) hq d_Top_does_135
              · rw [if_neg c11] at h
                refine V_lookup (pc' := 150) X d_Top_does_21 (by decide) (off := 129) (by simp [Op.lookupswitch.offset, (neT c2 (z := 102) (by decide)).symm, (neT c4 (z := 109) (by decide)).symm, (neT c6 (z := 110) (by decide)).symm, (neT c9 (z := 112) (by decide)).symm, (neT c11 (z := 120) (by decide)).symm]) (by decide) ?_
                refine V_iconst (v := 0) X d_Top_does_150 (by decide) rfl ?_
                exact V_zret X (kr ((0 : Int32), M) (Option.some.inj h).symm) (by decide) d_Top_does_151
    · rw [if_neg c12] at h
      refine V_iconst (v := 0) X d_Top_does_10 (by decide) rfl ?_
      exact V_zret X (kr ((0 : Int32), M) (Option.some.inj h).symm) (by decide) d_Top_does_11
def lb_Top_evening_48 (v1 : Int32) (s : Int32 × Int32 × Mem) : Option ((Int32 × Int32 × Mem) ⊕ ((Int32 × Mem))) :=
  if v1 ≤ s.2.1 then
  some (.inr (s.1, s.2.2))
  else
  if s.1 = s.2.1 then
  Option.bind (f_Top_does s.2.1 s.2.2) fun x5 =>
  if x5.1 = 0 then
  some (.inl (s.1, (s.2.1 + (1 : Int32)), x5.2))
  else
  some (.inl ((s.1 + (1 : Int32)), (s.2.1 + (1 : Int32)), x5.2))
  else
  some (.inr (s.1, s.2.2))
theorem lb_Top_evening_48_ok {E : Ev} {G : Gw} {d : Nat} {post : Int32 → Mem → Prop} (X : Cx E G b_Top_evening "WomenByTheRoofs" 4 d (some .int)) (hD : 7 ≤ d)  (v1 : Int32)   (s : Int32 × Int32 × Mem) (o : (Int32 × Int32 × Mem) ⊕ ((Int32 × Mem))) (h : lb_Top_evening_48 v1 s = some o) (kc : ∀ s9 : Int32 × Int32 × Mem, o = .inl s9 → V E (0, 0) G 4 (QI E G post) s9.2.2 48 [(0, .ref (G.2.2 + 0)), (1, .int v1), (2, .int s9.1), (3, .int s9.2.1)] []) (kx0 : ∀ x9 : Int32 × Mem, o = .inr x9 → V E (0, 0) G 4 (QI E G post) x9.2 75 [(0, .ref (G.2.2 + 0)), (1, .int v1), (2, .int x9.1)] []) : V E (0, 0) G 4 (QI E G post) s.2.2 48 [(0, .ref (G.2.2 + 0)), (1, .int v1), (2, .int s.1), (3, .int s.2.1)] [] := by
  unfold lb_Top_evening_48 at h
  refine V_iload_n (n := 3) X d_Top_evening_48 rfl rfl rfl ?_
  refine V_iload_n (n := 1) X d_Top_evening_49 rfl rfl rfl ?_
  refine V_icmp_ge (tgt := 75) X d_Top_evening_50 (by decide) rfl (fun c8 => ?_) (fun c8 => ?_)
  · rw [if_pos c8] at h
    refine V_sub (lv' := [(0, .ref (G.2.2 + 0)), (1, .int v1), (2, .int s.1)]) [0, 1, 2] rfl ?_
    exact kx0 (s.1, s.2.2) (Option.some.inj h).symm
  · rw [if_neg c8] at h
    refine V_iload_n (n := 2) X d_Top_evening_53 rfl rfl rfl ?_
    refine V_iload_n (n := 3) X d_Top_evening_54 rfl rfl rfl ?_
    refine V_icmp_ne (tgt := 75) X d_Top_evening_55 (by decide) rfl (fun c7 => ?_) (fun c7 => ?_)
    · rw [if_neg c7] at h
      refine V_sub (lv' := [(0, .ref (G.2.2 + 0)), (1, .int v1), (2, .int s.1)]) [0, 1, 2] rfl ?_
      exact kx0 (s.1, s.2.2) (Option.some.inj h).symm
    · rw [if_pos c7] at h
      refine V_aload_n (n := 0) X d_Top_evening_58 rfl rfl rfl ?_
      refine V_iload_n (n := 3) X d_Top_evening_59 rfl rfl rfl ?_
      obtain ⟨x5, hx5, h⟩ := ob_s h
      refine V_ci (As := [.int s.2.1]) X (Z0 E) ml_Top_276 yq_Top_does (c_Top_does E.2.1 G s.2.1 s.2.2 x5 hx5 _ (Nat.le_refl _)) kd_0 rfl rfl (by omega) rfl (Nat.le_of_ble_eq_true rfl) d_Top_evening_60 rfl (fun r9 M9 hq => ?_)
      rw [hq.1, hq.2]
      refine V_if_eq (tgt := 69) X d_Top_evening_63 (by decide) rfl (fun c6 => ?_) (fun c6 => ?_)
      · rw [if_pos c6] at h
        refine V_iinc (n := 3) (v := (s.2.1 + (1 : Int32))) (lv' := [(3, .int (s.2.1 + (1 : Int32))), (0, .ref (G.2.2 + 0)), (1, .int v1), (2, .int s.1)]) X d_Top_evening_69 rfl rfl (by decide) rfl rfl ?_
        refine V_goto (pc' := 48) X d_Top_evening_72 (by decide) ?_
        refine V_sub (lv' := [(0, .ref (G.2.2 + 0)), (1, .int v1), (2, .int s.1), (3, .int (s.2.1 + (1 : Int32)))]) [1, 2, 3, 0] rfl ?_
        exact kc (s.1, (s.2.1 + (1 : Int32)), x5.2) (Option.some.inj h).symm
      · rw [if_neg c6] at h
        refine V_iinc (n := 2) (v := (s.1 + (1 : Int32))) (lv' := [(2, .int (s.1 + (1 : Int32))), (0, .ref (G.2.2 + 0)), (1, .int v1), (3, .int s.2.1)]) X d_Top_evening_66 rfl rfl (by decide) rfl rfl ?_
        refine V_iinc (n := 3) (v := (s.2.1 + (1 : Int32))) (lv' := [(3, .int (s.2.1 + (1 : Int32))), (2, .int (s.1 + (1 : Int32))), (0, .ref (G.2.2 + 0)), (1, .int v1)]) X d_Top_evening_69 rfl rfl (by decide) rfl rfl ?_
        refine V_goto (pc' := 48) X d_Top_evening_72 (by decide) ?_
        refine V_sub (lv' := [(0, .ref (G.2.2 + 0)), (1, .int v1), (2, .int (s.1 + (1 : Int32))), (3, .int (s.2.1 + (1 : Int32)))]) [2, 3, 1, 0] rfl ?_
        exact kc ((s.1 + (1 : Int32)), (s.2.1 + (1 : Int32)), x5.2) (Option.some.inj h).symm
theorem lp_Top_evening_48_ok {E : Ev} {G : Gw} {d : Nat} {post : Int32 → Mem → Prop} (X : Cx E G b_Top_evening "WomenByTheRoofs" 4 d (some .int)) (hD : 7 ≤ d)  (v1 : Int32)   (n9 : Nat) (s : Int32 × Int32 × Mem) (x : (Int32 × Mem)) (h : iter (lb_Top_evening_48 v1) n9 s = some x) (kx0 : ∀ x9 : Int32 × Mem, x = x9 → V E (0, 0) G 4 (QI E G post) x9.2 75 [(0, .ref (G.2.2 + 0)), (1, .int v1), (2, .int x9.1)] []) : V E (0, 0) G 4 (QI E G post) s.2.2 48 [(0, .ref (G.2.2 + 0)), (1, .int v1), (2, .int s.1), (3, .int s.2.1)] [] :=
  iter_P (P := fun s : Int32 × Int32 × Mem => V E (0, 0) G 4 (QI E G post) s.2.2 48 [(0, .ref (G.2.2 + 0)), (1, .int v1), (2, .int s.1), (3, .int s.2.1)] []) (fun s o hb kc ky => lb_Top_evening_48_ok X hD v1 s o hb kc (fun x9 e9 => kx0 x9 (ky _ e9).symm)) n9 s h
def j_Top_evening_105 (v2 : Int32) (w0 : Int32) (M : Mem) : Option (Int32 × Mem) :=
  Option.bind (f_Top_note w0 M) fun x11 =>
  Option.bind (f_Top_note (x11.1 45 4) x11) fun x12 =>
  some (v2, x12)
theorem j_Top_evening_105_ok {E : Ev} {G : Gw} {d : Nat} {post : Int32 → Mem → Prop} (X : Cx E G b_Top_evening "WomenByTheRoofs" 4 d (some .int)) (hD : 7 ≤ d)  (v2 : Int32) (w0 : Int32)  (M : Mem)  (o : Int32 × Mem) (h : j_Top_evening_105 v2 w0 M = some o) (kr : ∀ x9 : Int32 × Mem, o = x9 → post x9.1 x9.2) : V E (0, 0) G 4 (QI E G post) M 105 [(0, .ref (G.2.2 + 0)), (2, .int v2)] [.int w0, .ref (G.2.2 + 0)] := by
  unfold j_Top_evening_105 at h
  obtain ⟨x11, hx11, h⟩ := ob_s h
  refine V_cv (As := [.int w0]) X (Z0 E) ml_Top_257 yq_Top_note (c_Top_note E.2.1 G w0 M x11 hx11 _ (Nat.le_refl _)) kd_0 rfl rfl (by omega) rfl (Nat.le_of_ble_eq_true rfl) d_Top_evening_105 rfl (fun M9 hq => ?_)
  rw [hq]
  refine V_aload_n (n := 0) X d_Top_evening_108 rfl rfl rfl ?_
  refine V_aload_n (n := 0) X d_Top_evening_109 rfl rfl rfl ?_
  refine V_getr (k2 := 45) X fo_Top_63 kd_0 rfl rf_0_9 d_Top_evening_110 rfl ?_
  refine V_geti X fo_Top_272 kd_45 rfl d_Top_evening_113 rfl ?_
  obtain ⟨x12, hx12, h⟩ := ob_s h
  refine V_cv (As := [.int (x11.1 45 4)]) X (Z0 E) ml_Top_257 yq_Top_note (c_Top_note E.2.1 G (x11.1 45 4) x11 x12 hx12 _ (Nat.le_refl _)) kd_0 rfl rfl (by omega) rfl (Nat.le_of_ble_eq_true rfl) d_Top_evening_116 rfl (fun M9 hq => ?_)
  rw [hq]
  refine V_iload_n (n := 1) X d_Top_evening_119 rfl rfl rfl ?_
  exact V_iret X (kr (v2, x12) (Option.some.inj h).symm) d_Top_evening_120
def j_Top_evening_90 (v1 : Int32) (v2 : Int32) (M : Mem) : Option (Int32 × Mem) :=
  Option.bind (f_Top_emptyRow M) fun x10 =>
  if v1 ≤ v2 then
  j_Top_evening_105 v2 (0 : Int32) x10
  else
  j_Top_evening_105 v2 (1 : Int32) x10
theorem j_Top_evening_90_ok {E : Ev} {G : Gw} {d : Nat} {post : Int32 → Mem → Prop} (X : Cx E G b_Top_evening "WomenByTheRoofs" 4 d (some .int)) (hD : 7 ≤ d)  (v1 : Int32) (v2 : Int32)  (M : Mem)  (o : Int32 × Mem) (h : j_Top_evening_90 v1 v2 M = some o) (kr : ∀ x9 : Int32 × Mem, o = x9 → post x9.1 x9.2) : V E (0, 0) G 4 (QI E G post) M 90 [(0, .ref (G.2.2 + 0)), (1, .int v1), (2, .int v2)] [] := by
  unfold j_Top_evening_90 at h
  refine V_aload_n (n := 0) X d_Top_evening_90 rfl rfl rfl ?_
  obtain ⟨x10, hx10, h⟩ := ob_s h
  refine V_cv (As := []) X (Z0 E) ml_Top_251 yq_Top_emptyRow (c_Top_emptyRow E.2.1 G  M x10 hx10 _ (Nat.le_refl _)) kd_0 rfl rfl (by omega) rfl (Nat.le_of_ble_eq_true rfl) d_Top_evening_91 rfl (fun M9 hq => ?_)
  rw [hq]
  refine V_aload_n (n := 0) X d_Top_evening_94 rfl rfl rfl ?_
  refine V_iload_n (n := 2) X d_Top_evening_95 rfl rfl rfl ?_
  refine V_iload_n (n := 1) X d_Top_evening_96 rfl rfl rfl ?_
  refine V_icmp_ge (tgt := 104) X d_Top_evening_97 (by decide) rfl (fun c13 => ?_) (fun c13 => ?_)
  · rw [if_pos c13] at h
    refine V_iconst (v := 0) X d_Top_evening_104 (by decide) rfl ?_
    refine V_sub (lv' := [(0, .ref (G.2.2 + 0)), (2, .int v2)]) [0, 2] rfl ?_
    exact j_Top_evening_105_ok X hD v2 (0 : Int32) x10 _ h kr
  · rw [if_neg c13] at h
    refine V_iconst (v := 1) X d_Top_evening_100 (by decide) rfl ?_
    refine V_goto (pc' := 105) X d_Top_evening_101 (by decide) ?_
    refine V_sub (lv' := [(0, .ref (G.2.2 + 0)), (2, .int v2)]) [0, 2] rfl ?_
    exact j_Top_evening_105_ok X hD v2 (1 : Int32) x10 _ h kr
def j_Top_evening_75 (v1 : Int32) (v2 : Int32) (M : Mem) : Option (Int32 × Mem) :=
  if v2 ≤ 0 then
  j_Top_evening_90 v1 v2 M
  else
  Option.bind (f_History_add 18 M) fun x14 =>
  j_Top_evening_90 v1 v2 x14
theorem j_Top_evening_75_ok {E : Ev} {G : Gw} {d : Nat} {post : Int32 → Mem → Prop} (X : Cx E G b_Top_evening "WomenByTheRoofs" 4 d (some .int)) (hD : 7 ≤ d)  (v1 : Int32) (v2 : Int32)  (M : Mem)  (o : Int32 × Mem) (h : j_Top_evening_75 v1 v2 M = some o) (kr : ∀ x9 : Int32 × Mem, o = x9 → post x9.1 x9.2) : V E (0, 0) G 4 (QI E G post) M 75 [(0, .ref (G.2.2 + 0)), (1, .int v1), (2, .int v2)] [] := by
  unfold j_Top_evening_75 at h
  refine V_iload_n (n := 2) X d_Top_evening_75 rfl rfl rfl ?_
  refine V_if_le (tgt := 90) X d_Top_evening_76 (by decide) rfl (fun c15 => ?_) (fun c15 => ?_)
  · rw [if_pos c15] at h
    exact j_Top_evening_90_ok X hD v1 v2 M _ h kr
  · rw [if_neg c15] at h
    refine V_aload_n (n := 0) X d_Top_evening_79 rfl rfl rfl ?_
    refine V_getr (k2 := 46) X fo_Top_70 kd_0 rfl rf_0_10 d_Top_evening_80 rfl ?_
    refine V_aload_n (n := 0) X d_Top_evening_83 rfl rfl rfl ?_
    refine V_getr (k2 := 18) X fo_Top_37 kd_0 rfl rf_0_4 d_Top_evening_84 rfl ?_
    obtain ⟨x14, hx14, h⟩ := ob_s h
    refine V_cv (As := [.ref (G.2.2 + 18)]) X (Z0 E) ml_Top_218 yq_History_add (c_History_add E.2.1 G 18 M x14 hx14 _ (Nat.le_refl _)) kd_46 rfl rfl (by omega) rfl (Nat.le_of_ble_eq_true rfl) d_Top_evening_87 rfl (fun M9 hq => ?_)
    rw [hq]
    exact j_Top_evening_90_ok X hD v1 v2 x14 _ h kr
def f_Top_evening (M : Mem) : Option (Int32 × Mem) :=
  Option.bind (f_Acts_read M) fun x1 =>
  mem_ (s_i x1.2 1 1 (0 : Int32)) fun M2 =>
  if 0 ≤ x1.1 then
  Option.bind (f_Scene_copy 18 11 M2) fun x3 =>
  Option.bind (f_Clock_reset x3) fun x4 =>
  Option.bind (iter (lb_Top_evening_48 x1.1) FU ((0 : Int32), (0 : Int32), x4)) fun x9 =>
  j_Top_evening_75 x1.1 x9.1 x9.2
  else
  some (x1.1, M2)
theorem c_Top_evening (l : Launch) (G : Gw)   (M : Mem) (x : Int32 × Mem) (h : f_Top_evening M = some x) (d : Nat) (hD : 7 ≤ d) : Ci l G y_Top_evening b_Top_evening 4 (some .int) d [.ref (G.2.2 + 0)] M (fun r9 M9 => r9 = x.1 ∧ M9 = x.2) := by
  refine Ci_of (by decide) (Nat.le_of_ble_eq_true rfl) (fun E hE X => ?_)
  subst hE
  have kr : ∀ x9 : Int32 × Mem, x = x9 → (fun r9 M9 => r9 = x.1 ∧ M9 = x.2) x9.1 x9.2 := fun x9 e9 => by subst e9; exact ⟨rfl, rfl⟩
  unfold f_Top_evening at h
  refine V_aload_n (n := 0) X d_Top_evening_0 rfl rfl rfl ?_
  refine V_getr (k2 := 147) X fo_Top_77 kd_0 rfl rf_0_11 d_Top_evening_1 rfl ?_
  refine V_aload_n (n := 0) X d_Top_evening_4 rfl rfl rfl ?_
  refine V_getr (k2 := 1) X fo_Top_10 kd_0 rfl rf_0_0 d_Top_evening_5 rfl ?_
  obtain ⟨x1, hx1, h⟩ := ob_s h
  refine V_ci (As := [.ref (G.2.2 + 1)]) X (Z0 E) ml_Top_275 yq_Acts_read (c_Acts_read E.2.1 G  M x1 hx1 _ (Nat.le_refl _)) kd_147 rfl rfl (by omega) rfl (Nat.le_of_ble_eq_true rfl) d_Top_evening_8 rfl (fun r9 M9 hq => ?_)
  rw [hq.1, hq.2]
  refine V_istore_n (lv' := [(1, .int x1.1), (0, .ref (G.2.2 + 0))]) X d_Top_evening_11 rfl (by decide) rfl rfl ?_
  refine V_aload_n (n := 1) X d_Top_evening_12 rfl rfl rfl ?_
  refine V_getr (k2 := 1) X fo_Top_10 kd_0 rfl rf_0_0 d_Top_evening_13 rfl ?_
  refine V_iconst (v := 0) X d_Top_evening_16 (by decide) rfl ?_
  obtain ⟨M2, eM2, h⟩ := memS h
  refine V_putI X fp_Top_110 kd_1 rfl d_Top_evening_17 rfl ?_
  rw [← eM2]
  refine V_iload_n (n := 0) X d_Top_evening_20 rfl rfl rfl ?_
  refine V_if_ge (tgt := 26) X d_Top_evening_21 (by decide) rfl (fun c16 => ?_) (fun c16 => ?_)
  · rw [if_pos c16] at h
    refine V_aload_n (n := 1) X d_Top_evening_26 rfl rfl rfl ?_
    refine V_getr (k2 := 18) X fo_Top_37 kd_0 rfl rf_0_4 d_Top_evening_27 rfl ?_
    refine V_aload_n (n := 1) X d_Top_evening_30 rfl rfl rfl ?_
    refine V_getr (k2 := 11) X fo_Top_33 kd_0 rfl rf_0_3 d_Top_evening_31 rfl ?_
    obtain ⟨x3, hx3, h⟩ := ob_s h
    refine V_cv (As := [.ref (G.2.2 + 11)]) X (Z0 E) ml_Top_211 yq_Scene_copy (c_Scene_copy E.2.1 G 18 11 M2 x3 hx3 _ (Nat.le_refl _)) kd_18 rfl rfl (by omega) rfl (Nat.le_of_ble_eq_true rfl) d_Top_evening_34 rfl (fun M9 hq => ?_)
    rw [hq]
    refine V_aload_n (n := 1) X d_Top_evening_37 rfl rfl rfl ?_
    refine V_getr (k2 := 45) X fo_Top_63 kd_0 rfl rf_0_9 d_Top_evening_38 rfl ?_
    obtain ⟨x4, hx4, h⟩ := ob_s h
    refine V_cv (As := []) X (Z0 E) ml_Top_266 yq_Clock_reset (c_Clock_reset E.2.1 G  x3 x4 hx4 _ (Nat.le_refl _)) kd_45 rfl rfl (by omega) rfl (Nat.le_of_ble_eq_true rfl) d_Top_evening_41 rfl (fun M9 hq => ?_)
    rw [hq]
    refine V_iconst (v := 0) X d_Top_evening_44 (by decide) rfl ?_
    refine V_istore_n (lv' := [(2, .int (0 : Int32)), (1, .int x1.1), (0, .ref (G.2.2 + 0))]) X d_Top_evening_45 rfl (by decide) rfl rfl ?_
    refine V_iconst (v := 0) X d_Top_evening_46 (by decide) rfl ?_
    refine V_istore_n (lv' := [(3, .int (0 : Int32)), (2, .int (0 : Int32)), (1, .int x1.1), (0, .ref (G.2.2 + 0))]) X d_Top_evening_47 rfl (by decide) rfl rfl ?_
    refine V_sub (lv' := [(0, .ref (G.2.2 + 0)), (1, .int x1.1), (2, .int (0 : Int32)), (3, .int (0 : Int32))]) [3, 2, 1, 0] rfl ?_
    obtain ⟨x9, hx9, h⟩ := ob_s h
    refine (lp_Top_evening_48_ok X hD x1.1 _ _ _ hx9 (fun x9 e9 => ?_) :)
    subst e9
    exact j_Top_evening_75_ok X hD x1.1 x9.1 x9.2 _ h kr
  · rw [if_neg c16] at h
    refine V_iload_n (n := 0) X d_Top_evening_24 rfl rfl rfl ?_
    exact V_iret X (kr (x1.1, M2) (Option.some.inj h).symm) d_Top_evening_25
def f_Top_undo (M : Mem) : Option (Int32 × Mem) :=
  Option.bind (f_History_back 11 M) fun x1 =>
  if x1.1 = 0 then
  some ((-1 : Int32), x1.2)
  else
  Option.bind (f_Nets_lay 32 11 (-1 : Int32) x1.2) fun x2 =>
  some ((x2.1 46 2), x2)
theorem c_Top_undo (l : Launch) (G : Gw)   (M : Mem) (x : Int32 × Mem) (h : f_Top_undo M = some x) (d : Nat) (hD : 5 ≤ d) : Ci l G y_Top_undo b_Top_undo 1 (some .int) d [.ref (G.2.2 + 0)] M (fun r9 M9 => r9 = x.1 ∧ M9 = x.2) := by
  refine Ci_of (by decide) (Nat.le_of_ble_eq_true rfl) (fun E hE X => ?_)
  subst hE
  have kr : ∀ x9 : Int32 × Mem, x = x9 → (fun r9 M9 => r9 = x.1 ∧ M9 = x.2) x9.1 x9.2 := fun x9 e9 => by subst e9; exact ⟨rfl, rfl⟩
  unfold f_Top_undo at h
  refine V_aload_n (n := 0) X d_Top_undo_0 rfl rfl rfl ?_
  refine V_getr (k2 := 46) X fo_Top_70 kd_0 rfl rf_0_10 d_Top_undo_1 rfl ?_
  refine V_aload_n (n := 0) X d_Top_undo_4 rfl rfl rfl ?_
  refine V_getr (k2 := 11) X fo_Top_33 kd_0 rfl rf_0_3 d_Top_undo_5 rfl ?_
  obtain ⟨x1, hx1, h⟩ := ob_s h
  refine V_ci (As := [.ref (G.2.2 + 11)]) X (Z0 E) ml_Top_279 yq_History_back (c_History_back E.2.1 G 11 M x1 hx1 _ (Nat.le_refl _)) kd_46 rfl rfl (by omega) rfl (Nat.le_of_ble_eq_true rfl) d_Top_undo_8 rfl (fun r9 M9 hq => ?_)
  rw [hq.1, hq.2]
  refine V_if_ne (tgt := 16) X d_Top_undo_11 (by decide) rfl (fun c3 => ?_) (fun c3 => ?_)
  · rw [if_neg c3] at h
    refine V_aload_n (n := 0) X d_Top_undo_16 rfl rfl rfl ?_
    refine V_getr (k2 := 32) X fo_Top_46 kd_0 rfl rf_0_6 d_Top_undo_17 rfl ?_
    refine V_aload_n (n := 0) X d_Top_undo_20 rfl rfl rfl ?_
    refine V_getr (k2 := 3) X fo_Top_19 kd_0 rfl rf_0_1 d_Top_undo_21 rfl ?_
    refine V_aload_n (n := 0) X d_Top_undo_24 rfl rfl rfl ?_
    refine V_getr (k2 := 11) X fo_Top_33 kd_0 rfl rf_0_3 d_Top_undo_25 rfl ?_
    refine V_iconst (v := -1) X d_Top_undo_28 (by decide) rfl ?_
    obtain ⟨x2, hx2, h⟩ := ob_s h
    refine V_cv (As := [.ref (G.2.2 + 3), .ref (G.2.2 + 11), .int (-1 : Int32)]) X (Z0 E) ml_Top_122 yq_Nets_lay (c_Nets_lay E.2.1 G 32 11 (-1 : Int32) x1.2 x2 hx2 _ (Nat.le_refl _)) kd_32 rfl rfl (by omega) rfl (Nat.le_of_ble_eq_true rfl) d_Top_undo_29 rfl (fun M9 hq => ?_)
    rw [hq]
    refine V_aload_n (n := 0) X d_Top_undo_32 rfl rfl rfl ?_
    refine V_getr (k2 := 46) X fo_Top_70 kd_0 rfl rf_0_10 d_Top_undo_33 rfl ?_
    refine V_geti X fo_Top_283 kd_46 rfl d_Top_undo_36 rfl ?_
    exact V_iret X (kr ((x2.1 46 2), x2) (Option.some.inj h).symm) d_Top_undo_39
  · rw [if_pos c3] at h
    refine V_iconst (v := -1) X d_Top_undo_14 (by decide) rfl ?_
    exact V_iret X (kr ((-1 : Int32), x1.2) (Option.some.inj h).symm) d_Top_undo_15
def f_Top_areTwo (v1 : Int32) (v2 : Int32) (M : Mem) : Option (Int32) :=
  Option.bind (f_Crowd_has v1 M) fun x1 =>
  if x1 = 0 then
  some (0 : Int32)
  else
  Option.bind (f_Crowd_has v2 M) fun x2 =>
  if x2 = 0 then
  some (0 : Int32)
  else
  if v1 = v2 then
  some (0 : Int32)
  else
  some (1 : Int32)
theorem c_Top_areTwo (l : Launch) (G : Gw)  (v1 : Int32) (v2 : Int32) (M : Mem) (x : Int32) (h : f_Top_areTwo v1 v2 M = some x) (d : Nat) (hD : 2 ≤ d) : Ci l G y_Top_areTwo b_Top_areTwo 3 (some .boolean) d [.ref (G.2.2 + 0), .int v1, .int v2] M (fun r9 M9 => r9 = x ∧ M9 = M) := by
  refine Ci_of (by decide) (Nat.le_of_ble_eq_true rfl) (fun E hE X => ?_)
  subst hE
  have kr : ∀ x9 : Int32, x = x9 → (fun r9 M9 => r9 = x ∧ M9 = M) x9 M := fun x9 e9 => by subst e9; exact ⟨rfl, rfl⟩
  unfold f_Top_areTwo at h
  refine V_aload_n (n := 0) X d_Top_areTwo_0 rfl rfl rfl ?_
  refine V_getr (k2 := 6) X fo_Top_26 kd_0 rfl rf_0_2 d_Top_areTwo_1 rfl ?_
  refine V_iload_n (n := 1) X d_Top_areTwo_4 rfl rfl rfl ?_
  obtain ⟨x1, hx1, h⟩ := ob_s h
  refine V_ci (As := [.int v1]) X (Z0 E) ml_Top_153 yq_Crowd_has (c_Crowd_has E.2.1 G v1 M x1 hx1 _ (Nat.le_refl _)) kd_6 rfl rfl (by omega) rfl (Nat.le_of_ble_eq_true rfl) d_Top_areTwo_5 rfl (fun r9 M9 hq => ?_)
  rw [hq.1, hq.2]
  refine V_if_eq (tgt := 31) X d_Top_areTwo_8 (by decide) rfl (fun c5 => ?_) (fun c5 => ?_)
  · rw [if_pos c5] at h
    refine V_iconst (v := 0) X d_Top_areTwo_31 (by decide) rfl ?_
    exact V_zret X (kr (0 : Int32) (Option.some.inj h).symm) (by decide) d_Top_areTwo_32
  · rw [if_neg c5] at h
    refine V_aload_n (n := 0) X d_Top_areTwo_11 rfl rfl rfl ?_
    refine V_getr (k2 := 6) X fo_Top_26 kd_0 rfl rf_0_2 d_Top_areTwo_12 rfl ?_
    refine V_iload_n (n := 2) X d_Top_areTwo_15 rfl rfl rfl ?_
    obtain ⟨x2, hx2, h⟩ := ob_s h
    refine V_ci (As := [.int v2]) X (Z0 E) ml_Top_153 yq_Crowd_has (c_Crowd_has E.2.1 G v2 M x2 hx2 _ (Nat.le_refl _)) kd_6 rfl rfl (by omega) rfl (Nat.le_of_ble_eq_true rfl) d_Top_areTwo_16 rfl (fun r9 M9 hq => ?_)
    rw [hq.1, hq.2]
    refine V_if_eq (tgt := 31) X d_Top_areTwo_19 (by decide) rfl (fun c4 => ?_) (fun c4 => ?_)
    · rw [if_pos c4] at h
      refine V_iconst (v := 0) X d_Top_areTwo_31 (by decide) rfl ?_
      exact V_zret X (kr (0 : Int32) (Option.some.inj h).symm) (by decide) d_Top_areTwo_32
    · rw [if_neg c4] at h
      refine V_iload_n (n := 1) X d_Top_areTwo_22 rfl rfl rfl ?_
      refine V_iload_n (n := 2) X d_Top_areTwo_23 rfl rfl rfl ?_
      refine V_icmp_eq (tgt := 31) X d_Top_areTwo_24 (by decide) rfl (fun c3 => ?_) (fun c3 => ?_)
      · rw [if_pos c3] at h
        refine V_iconst (v := 0) X d_Top_areTwo_31 (by decide) rfl ?_
        exact V_zret X (kr (0 : Int32) (Option.some.inj h).symm) (by decide) d_Top_areTwo_32
      · rw [if_neg c3] at h
        refine V_iconst (v := 1) X d_Top_areTwo_27 (by decide) rfl ?_
        refine V_goto (pc' := 32) X d_Top_areTwo_28 (by decide) ?_
        exact V_zret X (kr (1 : Int32) (Option.some.inj h).symm) (by decide) d_Top_areTwo_32
def f_Top_met (v1 : Int32) (v2 : Int32) (M : Mem) : Option (Int32) :=
  Option.bind (f_Top_areTwo v1 v2 M) fun x1 =>
  if x1 = 0 then
  some (-1 : Int32)
  else
  Option.bind (f_Scene_meetingsOfTwo 11 v1 v2 M) fun x2 =>
  some x2
theorem c_Top_met (l : Launch) (G : Gw)  (v1 : Int32) (v2 : Int32) (M : Mem) (x : Int32) (h : f_Top_met v1 v2 M = some x) (d : Nat) (hD : 3 ≤ d) : Ci l G y_Top_met b_Top_met 3 (some .int) d [.ref (G.2.2 + 0), .int v1, .int v2] M (fun r9 M9 => r9 = x ∧ M9 = M) := by
  refine Ci_of (by decide) (Nat.le_of_ble_eq_true rfl) (fun E hE X => ?_)
  subst hE
  have kr : ∀ x9 : Int32, x = x9 → (fun r9 M9 => r9 = x ∧ M9 = M) x9 M := fun x9 e9 => by subst e9; exact ⟨rfl, rfl⟩
  unfold f_Top_met at h
  refine V_aload_n (n := 0) X d_Top_met_0 rfl rfl rfl ?_
  refine V_iload_n (n := 1) X d_Top_met_1 rfl rfl rfl ?_
  refine V_iload_n (n := 2) X d_Top_met_2 rfl rfl rfl ?_
  obtain ⟨x1, hx1, h⟩ := ob_s h
  refine V_ci (As := [.int v1, .int v2]) X (Z0 E) ml_Top_284 yq_Top_areTwo (c_Top_areTwo E.2.1 G v1 v2 M x1 hx1 _ (Nat.le_refl _)) kd_0 rfl rfl (by omega) rfl (Nat.le_of_ble_eq_true rfl) d_Top_met_3 rfl (fun r9 M9 hq => ?_)
  rw [hq.1, hq.2]
  refine V_if_ne (tgt := 11) X d_Top_met_6 (by decide) rfl (fun c3 => ?_) (fun c3 => ?_)
  · rw [if_neg c3] at h
    refine V_aload_n (n := 0) X d_Top_met_11 rfl rfl rfl ?_
    refine V_getr (k2 := 11) X fo_Top_33 kd_0 rfl rf_0_3 d_Top_met_12 rfl ?_
    refine V_iload_n (n := 1) X d_Top_met_15 rfl rfl rfl ?_
    refine V_iload_n (n := 2) X d_Top_met_16 rfl rfl rfl ?_
    obtain ⟨x2, hx2, h⟩ := ob_s h
    refine V_ci (As := [.int v1, .int v2]) X (Z0 E) ml_Top_287 yq_Scene_meetingsOfTwo (c_Scene_meetingsOfTwo E.2.1 G 11 v1 v2 M x2 hx2 _ (Nat.le_refl _)) kd_11 rfl rfl (by omega) rfl (Nat.le_of_ble_eq_true rfl) d_Top_met_17 rfl (fun r9 M9 hq => ?_)
    rw [hq.1, hq.2]
    exact V_iret X (kr x2 (Option.some.inj h).symm) d_Top_met_20
  · rw [if_pos c3] at h
    refine V_iconst (v := -1) X d_Top_met_9 (by decide) rfl ?_
    exact V_iret X (kr (-1 : Int32) (Option.some.inj h).symm) d_Top_met_10
def lb_Top_ahead_32 (v1 : Int32) (s : Int32 × Mem) : Option ((Int32 × Mem) ⊕ ((Mem))) :=
  if v1 ≤ s.1 then
  some (.inr s.2)
  else
  Option.bind (f_Clock_pass 25 32 s.2) fun x3 =>
  some (.inl ((s.1 + (1 : Int32)), x3))
theorem lb_Top_ahead_32_ok {E : Ev} {G : Gw} {d : Nat} {post : Int32 → Mem → Prop} (X : Cx E G b_Top_ahead "WomenByTheRoofs" 3 d (some .int)) (hD : 5 ≤ d)  (v1 : Int32)   (s : Int32 × Mem) (o : (Int32 × Mem) ⊕ ((Mem))) (h : lb_Top_ahead_32 v1 s = some o) (kc : ∀ s9 : Int32 × Mem, o = .inl s9 → V E (0, 0) G 3 (QI E G post) s9.2 32 [(0, .ref (G.2.2 + 0)), (1, .int v1), (2, .int s9.1)] []) (kx0 : ∀ x9 : Mem, o = .inr x9 → V E (0, 0) G 3 (QI E G post) x9 70 [(0, .ref (G.2.2 + 0))] []) : V E (0, 0) G 3 (QI E G post) s.2 32 [(0, .ref (G.2.2 + 0)), (1, .int v1), (2, .int s.1)] [] := by
  unfold lb_Top_ahead_32 at h
  refine V_iload_n (n := 2) X d_Top_ahead_32 rfl rfl rfl ?_
  refine V_iload_n (n := 1) X d_Top_ahead_33 rfl rfl rfl ?_
  refine V_icmp_ge (tgt := 70) X d_Top_ahead_34 (by decide) rfl (fun c4 => ?_) (fun c4 => ?_)
  · rw [if_pos c4] at h
    refine V_sub (lv' := [(0, .ref (G.2.2 + 0))]) [0] rfl ?_
    exact kx0 s.2 (Option.some.inj h).symm
  · rw [if_neg c4] at h
    refine V_aload_n (n := 0) X d_Top_ahead_37 rfl rfl rfl ?_
    refine V_getr (k2 := 45) X fo_Top_63 kd_0 rfl rf_0_9 d_Top_ahead_38 rfl ?_
    refine V_aload_n (n := 0) X d_Top_ahead_41 rfl rfl rfl ?_
    refine V_getr (k2 := 25) X fo_Top_40 kd_0 rfl rf_0_5 d_Top_ahead_42 rfl ?_
    refine V_aload_n (n := 0) X d_Top_ahead_45 rfl rfl rfl ?_
    refine V_getr (k2 := 6) X fo_Top_26 kd_0 rfl rf_0_2 d_Top_ahead_46 rfl ?_
    refine V_aload_n (n := 0) X d_Top_ahead_49 rfl rfl rfl ?_
    refine V_getr (k2 := 3) X fo_Top_19 kd_0 rfl rf_0_1 d_Top_ahead_50 rfl ?_
    refine V_aload_n (n := 0) X d_Top_ahead_53 rfl rfl rfl ?_
    refine V_getr (k2 := 40) X fo_Top_56 kd_0 rfl rf_0_8 d_Top_ahead_54 rfl ?_
    refine V_aload_n (n := 0) X d_Top_ahead_57 rfl rfl rfl ?_
    refine V_getr (k2 := 32) X fo_Top_46 kd_0 rfl rf_0_6 d_Top_ahead_58 rfl ?_
    obtain ⟨x3, hx3, h⟩ := ob_s h
    refine V_cv (As := [.ref (G.2.2 + 25), .ref (G.2.2 + 6), .ref (G.2.2 + 3), .ref (G.2.2 + 40), .ref (G.2.2 + 32)]) X (Z0 E) ml_Top_247 yq_Clock_pass (c_Clock_pass E.2.1 G 25 32 s.2 x3 hx3 _ (Nat.le_refl _)) kd_45 rfl rfl (by omega) rfl (Nat.le_of_ble_eq_true rfl) d_Top_ahead_61 rfl (fun M9 hq => ?_)
    rw [hq]
    refine V_iinc (n := 2) (v := (s.1 + (1 : Int32))) (lv' := [(2, .int (s.1 + (1 : Int32))), (0, .ref (G.2.2 + 0)), (1, .int v1)]) X d_Top_ahead_64 rfl rfl (by decide) rfl rfl ?_
    refine V_goto (pc' := 32) X d_Top_ahead_67 (by decide) ?_
    refine V_sub (lv' := [(0, .ref (G.2.2 + 0)), (1, .int v1), (2, .int (s.1 + (1 : Int32)))]) [1, 2, 0] rfl ?_
    exact kc ((s.1 + (1 : Int32)), x3) (Option.some.inj h).symm
theorem lp_Top_ahead_32_ok {E : Ev} {G : Gw} {d : Nat} {post : Int32 → Mem → Prop} (X : Cx E G b_Top_ahead "WomenByTheRoofs" 3 d (some .int)) (hD : 5 ≤ d)  (v1 : Int32)   (n9 : Nat) (s : Int32 × Mem) (x : (Mem)) (h : iter (lb_Top_ahead_32 v1) n9 s = some x) (kx0 : ∀ x9 : Mem, x = x9 → V E (0, 0) G 3 (QI E G post) x9 70 [(0, .ref (G.2.2 + 0))] []) : V E (0, 0) G 3 (QI E G post) s.2 32 [(0, .ref (G.2.2 + 0)), (1, .int v1), (2, .int s.1)] [] :=
  iter_P (P := fun s : Int32 × Mem => V E (0, 0) G 3 (QI E G post) s.2 32 [(0, .ref (G.2.2 + 0)), (1, .int v1), (2, .int s.1)] []) (fun s o hb kc ky => lb_Top_ahead_32_ok X hD v1 s o hb kc (fun x9 e9 => kx0 x9 (ky _ e9).symm)) n9 s h
def lb_Top_ahead_76  (s : Int32 × Mem) : Option ((Int32 × Mem) ⊕ ((Mem))) :=
  if (s.2.1 6 4) ≤ s.1 then
  some (.inr s.2)
  else
  if inb s.1 8 = true then
  Option.bind (f_Top_note (s.2.1 26 s.1.toNatClampNeg) s.2) fun x7 =>
  some (.inl ((s.1 + (1 : Int32)), x7))
  else none
theorem lb_Top_ahead_76_ok {E : Ev} {G : Gw} {d : Nat} {post : Int32 → Mem → Prop} (X : Cx E G b_Top_ahead "WomenByTheRoofs" 3 d (some .int)) (hD : 5 ≤ d)     (s : Int32 × Mem) (o : (Int32 × Mem) ⊕ ((Mem))) (h : lb_Top_ahead_76 s = some o) (kc : ∀ s9 : Int32 × Mem, o = .inl s9 → V E (0, 0) G 3 (QI E G post) s9.2 76 [(0, .ref (G.2.2 + 0)), (2, .int s9.1)] []) (kx0 : ∀ x9 : Mem, o = .inr x9 → V E (0, 0) G 3 (QI E G post) x9 106 [(0, .ref (G.2.2 + 0))] []) : V E (0, 0) G 3 (QI E G post) s.2 76 [(0, .ref (G.2.2 + 0)), (2, .int s.1)] [] := by
  unfold lb_Top_ahead_76 at h
  refine V_iload_n (n := 1) X d_Top_ahead_76 rfl rfl rfl ?_
  refine V_aload_n (n := 0) X d_Top_ahead_77 rfl rfl rfl ?_
  refine V_getr (k2 := 6) X fo_Top_26 kd_0 rfl rf_0_2 d_Top_ahead_78 rfl ?_
  refine V_geti X fo_Top_129 kd_6 rfl d_Top_ahead_81 rfl ?_
  refine V_icmp_ge (tgt := 106) X d_Top_ahead_84 (by decide) rfl (fun c8 => ?_) (fun c8 => ?_)
  · rw [if_pos c8] at h
    refine V_sub (lv' := [(0, .ref (G.2.2 + 0))]) [0] rfl ?_
    exact kx0 s.2 (Option.some.inj h).symm
  · rw [if_neg c8] at h
    refine V_aload_n (n := 0) X d_Top_ahead_87 rfl rfl rfl ?_
    refine V_aload_n (n := 0) X d_Top_ahead_88 rfl rfl rfl ?_
    refine V_getr (k2 := 25) X fo_Top_40 kd_0 rfl rf_0_5 d_Top_ahead_89 rfl ?_
    refine V_getr (k2 := 26) X fo_Top_188 kd_25 rfl rf_25_0 d_Top_ahead_92 rfl ?_
    refine V_iload_n (n := 1) X d_Top_ahead_95 rfl rfl rfl ?_
    obtain ⟨hb, h⟩ := ifn h
    refine V_iald X kd_26 (inb_in ln_26 hb) d_Top_ahead_96 rfl ?_
    obtain ⟨x7, hx7, h⟩ := ob_s h
    refine V_cv (As := [.int (s.2.1 26 s.1.toNatClampNeg)]) X (Z0 E) ml_Top_257 yq_Top_note (c_Top_note E.2.1 G (s.2.1 26 s.1.toNatClampNeg) s.2 x7 hx7 _ (Nat.le_refl _)) kd_0 rfl rfl (by omega) rfl (Nat.le_of_ble_eq_true rfl) d_Top_ahead_97 rfl (fun M9 hq => ?_)
    rw [hq]
    refine V_iinc (n := 1) (v := (s.1 + (1 : Int32))) (lv' := [(2, .int (s.1 + (1 : Int32))), (0, .ref (G.2.2 + 0))]) X d_Top_ahead_100 rfl rfl (by decide) rfl rfl ?_
    refine V_goto (pc' := 76) X d_Top_ahead_103 (by decide) ?_
    refine V_sub (lv' := [(0, .ref (G.2.2 + 0)), (2, .int (s.1 + (1 : Int32)))]) [1, 0] rfl ?_
    exact kc ((s.1 + (1 : Int32)), x7) (Option.some.inj h).symm
theorem lp_Top_ahead_76_ok {E : Ev} {G : Gw} {d : Nat} {post : Int32 → Mem → Prop} (X : Cx E G b_Top_ahead "WomenByTheRoofs" 3 d (some .int)) (hD : 5 ≤ d)     (n9 : Nat) (s : Int32 × Mem) (x : (Mem)) (h : iter (lb_Top_ahead_76) n9 s = some x) (kx0 : ∀ x9 : Mem, x = x9 → V E (0, 0) G 3 (QI E G post) x9 106 [(0, .ref (G.2.2 + 0))] []) : V E (0, 0) G 3 (QI E G post) s.2 76 [(0, .ref (G.2.2 + 0)), (2, .int s.1)] [] :=
  iter_P (P := fun s : Int32 × Mem => V E (0, 0) G 3 (QI E G post) s.2 76 [(0, .ref (G.2.2 + 0)), (2, .int s.1)] []) (fun s o hb kc ky => lb_Top_ahead_76_ok X hD  s o hb kc (fun x9 e9 => kx0 x9 (ky _ e9).symm)) n9 s h
def f_Top_ahead (v1 : Int32) (M : Mem) : Option (Int32 × Mem) :=
  if v1 < 0 then
  some ((-1 : Int32), M)
  else
  if v1 ≤ (60 : Int32) then
  Option.bind (f_Scene_copy 25 11 M) fun x1 =>
  Option.bind (f_Clock_reset x1) fun x2 =>
  Option.bind (iter (lb_Top_ahead_32 v1) FU ((0 : Int32), x2)) fun x5 =>
  Option.bind (f_Top_emptyRow x5) fun x6 =>
  Option.bind (iter (lb_Top_ahead_76) FU ((0 : Int32), x6)) fun x9 =>
  some ((x9.1 45 4), x9)
  else
  some ((-1 : Int32), M)
theorem c_Top_ahead (l : Launch) (G : Gw)  (v1 : Int32) (M : Mem) (x : Int32 × Mem) (h : f_Top_ahead v1 M = some x) (d : Nat) (hD : 5 ≤ d) : Ci l G y_Top_ahead b_Top_ahead 3 (some .int) d [.ref (G.2.2 + 0), .int v1] M (fun r9 M9 => r9 = x.1 ∧ M9 = x.2) := by
  refine Ci_of (by decide) (Nat.le_of_ble_eq_true rfl) (fun E hE X => ?_)
  subst hE
  have kr : ∀ x9 : Int32 × Mem, x = x9 → (fun r9 M9 => r9 = x.1 ∧ M9 = x.2) x9.1 x9.2 := fun x9 e9 => by subst e9; exact ⟨rfl, rfl⟩
  unfold f_Top_ahead at h
  refine V_iload_n (n := 1) X d_Top_ahead_0 rfl rfl rfl ?_
  refine V_if_lt (tgt := 10) X d_Top_ahead_1 (by decide) rfl (fun c11 => ?_) (fun c11 => ?_)
  · rw [if_pos c11] at h
    refine V_iconst (v := -1) X d_Top_ahead_10 (by decide) rfl ?_
    exact V_iret X (kr ((-1 : Int32), M) (Option.some.inj h).symm) d_Top_ahead_11
  · rw [if_neg c11] at h
    refine V_iload_n (n := 1) X d_Top_ahead_4 rfl rfl rfl ?_
    refine V_bipush (v := 60) X d_Top_ahead_5 (by decide) rfl ?_
    refine V_icmp_le (tgt := 12) X d_Top_ahead_7 (by decide) rfl (fun c10 => ?_) (fun c10 => ?_)
    · rw [if_pos c10] at h
      refine V_aload_n (n := 0) X d_Top_ahead_12 rfl rfl rfl ?_
      refine V_getr (k2 := 25) X fo_Top_40 kd_0 rfl rf_0_5 d_Top_ahead_13 rfl ?_
      refine V_aload_n (n := 0) X d_Top_ahead_16 rfl rfl rfl ?_
      refine V_getr (k2 := 11) X fo_Top_33 kd_0 rfl rf_0_3 d_Top_ahead_17 rfl ?_
      obtain ⟨x1, hx1, h⟩ := ob_s h
      refine V_cv (As := [.ref (G.2.2 + 11)]) X (Z0 E) ml_Top_211 yq_Scene_copy (c_Scene_copy E.2.1 G 25 11 M x1 hx1 _ (Nat.le_refl _)) kd_25 rfl rfl (by omega) rfl (Nat.le_of_ble_eq_true rfl) d_Top_ahead_20 rfl (fun M9 hq => ?_)
      rw [hq]
      refine V_aload_n (n := 0) X d_Top_ahead_23 rfl rfl rfl ?_
      refine V_getr (k2 := 45) X fo_Top_63 kd_0 rfl rf_0_9 d_Top_ahead_24 rfl ?_
      obtain ⟨x2, hx2, h⟩ := ob_s h
      refine V_cv (As := []) X (Z0 E) ml_Top_266 yq_Clock_reset (c_Clock_reset E.2.1 G  x1 x2 hx2 _ (Nat.le_refl _)) kd_45 rfl rfl (by omega) rfl (Nat.le_of_ble_eq_true rfl) d_Top_ahead_27 rfl (fun M9 hq => ?_)
      rw [hq]
      refine V_iconst (v := 0) X d_Top_ahead_30 (by decide) rfl ?_
      refine V_istore_n (lv' := [(2, .int (0 : Int32)), (0, .ref (G.2.2 + 0)), (1, .int v1)]) X d_Top_ahead_31 rfl (by decide) rfl rfl ?_
      refine V_sub (lv' := [(0, .ref (G.2.2 + 0)), (1, .int v1), (2, .int (0 : Int32))]) [1, 2, 0] rfl ?_
      obtain ⟨x5, hx5, h⟩ := ob_s h
      refine (lp_Top_ahead_32_ok X hD v1 _ _ _ hx5 (fun x9 e9 => ?_) :)
      subst e9
      refine V_aload_n (n := 0) X d_Top_ahead_70 rfl rfl rfl ?_
      obtain ⟨x6, hx6, h⟩ := ob_s h
      refine V_cv (As := []) X (Z0 E) ml_Top_251 yq_Top_emptyRow (c_Top_emptyRow E.2.1 G  x5 x6 hx6 _ (Nat.le_refl _)) kd_0 rfl rfl (by omega) rfl (Nat.le_of_ble_eq_true rfl) d_Top_ahead_71 rfl (fun M9 hq => ?_)
      rw [hq]
      refine V_iconst (v := 0) X d_Top_ahead_74 (by decide) rfl ?_
      refine V_istore_n (lv' := [(2, .int (0 : Int32)), (0, .ref (G.2.2 + 0))]) X d_Top_ahead_75 rfl (by decide) rfl rfl ?_
      refine V_sub (lv' := [(0, .ref (G.2.2 + 0)), (2, .int (0 : Int32))]) [1, 0] rfl ?_
      obtain ⟨x9, hx9, h⟩ := ob_s h
      refine (lp_Top_ahead_76_ok X hD  _ _ _ hx9 (fun x9 e9 => ?_) :)
      subst e9
      refine V_aload_n (n := 0) X d_Top_ahead_106 rfl rfl rfl ?_
      refine V_getr (k2 := 45) X fo_Top_63 kd_0 rfl rf_0_9 d_Top_ahead_107 rfl ?_
      refine V_geti X fo_Top_272 kd_45 rfl d_Top_ahead_110 rfl ?_
      exact V_iret X (kr ((x9.1 45 4), x9) (Option.some.inj h).symm) d_Top_ahead_113
    · rw [if_neg c10] at h
      refine V_iconst (v := -1) X d_Top_ahead_10 (by decide) rfl ?_
      exact V_iret X (kr ((-1 : Int32), M) (Option.some.inj h).symm) d_Top_ahead_11
def lb_Top_meet_46 (v1 : Int32) (v2 : Int32) (s : Int32 × Mem) : Option ((Int32 × Mem) ⊕ ((Mem) ⊕ (Int32 × Int32 × Mem))) :=
  if (60 : Int32) < s.1 then
  some (.inr (Sum.inl s.2))
  else
  Option.bind (f_Clock_pass 25 32 s.2) fun x5 =>
  if inb v1 8 = true then
  if inb v2 8 = true then
  if (x5.1 26 v1.toNatClampNeg) = (x5.1 26 v2.toNatClampNeg) then
  Option.bind (f_Ground_isStair (x5.1 26 v1.toNatClampNeg) x5) fun x6 =>
  if x6 = 0 then
  some (.inl ((s.1 + (1 : Int32)), x5))
  else
  some (.inr (Sum.inr (s.1, (x5.1 26 v1.toNatClampNeg), x5)))
  else
  some (.inl ((s.1 + (1 : Int32)), x5))
  else none
  else none
theorem lb_Top_meet_46_ok {E : Ev} {G : Gw} {d : Nat} {post : Int32 → Mem → Prop} (X : Cx E G b_Top_meet "WomenByTheRoofs" 5 d (some .int)) (hD : 5 ≤ d)  (v1 : Int32) (v2 : Int32)   (s : Int32 × Mem) (o : (Int32 × Mem) ⊕ ((Mem) ⊕ (Int32 × Int32 × Mem))) (h : lb_Top_meet_46 v1 v2 s = some o) (kc : ∀ s9 : Int32 × Mem, o = .inl s9 → V E (0, 0) G 5 (QI E G post) s9.2 46 [(0, .ref (G.2.2 + 0)), (1, .int v1), (2, .int v2), (3, .int s9.1)] []) (kx0 : ∀ x9 : Mem, o = .inr (Sum.inl x9) → V E (0, 0) G 5 (QI E G post) x9 134 [] []) (kx1 : ∀ x9 : Int32 × Int32 × Mem, o = .inr (Sum.inr x9) → V E (0, 0) G 5 (QI E G post) x9.2.2 116 [(0, .ref (G.2.2 + 0)), (3, .int x9.1), (4, .int x9.2.1)] []) : V E (0, 0) G 5 (QI E G post) s.2 46 [(0, .ref (G.2.2 + 0)), (1, .int v1), (2, .int v2), (3, .int s.1)] [] := by
  unfold lb_Top_meet_46 at h
  refine V_iload_n (n := 3) X d_Top_meet_46 rfl rfl rfl ?_
  refine V_bipush (v := 60) X d_Top_meet_47 (by decide) rfl ?_
  refine V_icmp_gt (tgt := 134) X d_Top_meet_49 (by decide) rfl (fun c9 => ?_) (fun c9 => ?_)
  · rw [if_pos c9] at h
    refine V_sub (lv' := []) [] rfl ?_
    exact kx0 s.2 (Option.some.inj h).symm
  · rw [if_neg c9] at h
    refine V_aload_n (n := 0) X d_Top_meet_52 rfl rfl rfl ?_
    refine V_getr (k2 := 45) X fo_Top_63 kd_0 rfl rf_0_9 d_Top_meet_53 rfl ?_
    refine V_aload_n (n := 0) X d_Top_meet_56 rfl rfl rfl ?_
    refine V_getr (k2 := 25) X fo_Top_40 kd_0 rfl rf_0_5 d_Top_meet_57 rfl ?_
    refine V_aload_n (n := 0) X d_Top_meet_60 rfl rfl rfl ?_
    refine V_getr (k2 := 6) X fo_Top_26 kd_0 rfl rf_0_2 d_Top_meet_61 rfl ?_
    refine V_aload_n (n := 0) X d_Top_meet_64 rfl rfl rfl ?_
    refine V_getr (k2 := 3) X fo_Top_19 kd_0 rfl rf_0_1 d_Top_meet_65 rfl ?_
    refine V_aload_n (n := 0) X d_Top_meet_68 rfl rfl rfl ?_
    refine V_getr (k2 := 40) X fo_Top_56 kd_0 rfl rf_0_8 d_Top_meet_69 rfl ?_
    refine V_aload_n (n := 0) X d_Top_meet_72 rfl rfl rfl ?_
    refine V_getr (k2 := 32) X fo_Top_46 kd_0 rfl rf_0_6 d_Top_meet_73 rfl ?_
    obtain ⟨x5, hx5, h⟩ := ob_s h
    refine V_cv (As := [.ref (G.2.2 + 25), .ref (G.2.2 + 6), .ref (G.2.2 + 3), .ref (G.2.2 + 40), .ref (G.2.2 + 32)]) X (Z0 E) ml_Top_247 yq_Clock_pass (c_Clock_pass E.2.1 G 25 32 s.2 x5 hx5 _ (Nat.le_refl _)) kd_45 rfl rfl (by omega) rfl (Nat.le_of_ble_eq_true rfl) d_Top_meet_76 rfl (fun M9 hq => ?_)
    rw [hq]
    refine V_aload_n (n := 0) X d_Top_meet_79 rfl rfl rfl ?_
    refine V_getr (k2 := 25) X fo_Top_40 kd_0 rfl rf_0_5 d_Top_meet_80 rfl ?_
    refine V_getr (k2 := 26) X fo_Top_188 kd_25 rfl rf_25_0 d_Top_meet_83 rfl ?_
    refine V_iload_n (n := 1) X d_Top_meet_86 rfl rfl rfl ?_
    obtain ⟨hb, h⟩ := ifn h
    refine V_iald X kd_26 (inb_in ln_26 hb) d_Top_meet_87 rfl ?_
    refine V_istore (lv' := [(4, .int (x5.1 26 v1.toNatClampNeg)), (0, .ref (G.2.2 + 0)), (1, .int v1), (2, .int v2), (3, .int s.1)]) X d_Top_meet_88 (by decide) rfl rfl ?_
    refine V_iload (n := 0) X d_Top_meet_90 rfl rfl ?_
    refine V_aload_n (n := 1) X d_Top_meet_92 rfl rfl rfl ?_
    refine V_getr (k2 := 25) X fo_Top_40 kd_0 rfl rf_0_5 d_Top_meet_93 rfl ?_
    refine V_getr (k2 := 26) X fo_Top_188 kd_25 rfl rf_25_0 d_Top_meet_96 rfl ?_
    refine V_iload_n (n := 3) X d_Top_meet_99 rfl rfl rfl ?_
    obtain ⟨hb, h⟩ := ifn h
    refine V_iald X kd_26 (inb_in ln_26 hb) d_Top_meet_100 rfl ?_
    refine V_icmp_ne (tgt := 128) X d_Top_meet_101 (by decide) rfl (fun c8 => ?_) (fun c8 => ?_)
    · rw [if_neg c8] at h
      refine V_iinc (n := 4) (v := (s.1 + (1 : Int32))) (lv' := [(3, .int (s.1 + (1 : Int32))), (4, .int (x5.1 26 v1.toNatClampNeg)), (0, .ref (G.2.2 + 0)), (1, .int v1), (2, .int v2)]) X d_Top_meet_128 rfl rfl (by decide) rfl rfl ?_
      refine V_goto (pc' := 46) X d_Top_meet_131 (by decide) ?_
      refine V_sub (lv' := [(0, .ref (G.2.2 + 0)), (1, .int v1), (2, .int v2), (3, .int (s.1 + (1 : Int32)))]) [2, 3, 4, 0] rfl ?_
      exact kc ((s.1 + (1 : Int32)), x5) (Option.some.inj h).symm
    · rw [if_pos c8] at h
      refine V_aload_n (n := 1) X d_Top_meet_104 rfl rfl rfl ?_
      refine V_getr (k2 := 3) X fo_Top_19 kd_0 rfl rf_0_1 d_Top_meet_105 rfl ?_
      refine V_iload (n := 0) X d_Top_meet_108 rfl rfl ?_
      obtain ⟨x6, hx6, h⟩ := ob_s h
      refine V_ci (As := [.int (x5.1 26 v1.toNatClampNeg)]) X (Z0 E) ml_Top_290 yq_Ground_isStair (c_Ground_isStair E.2.1 G (x5.1 26 v1.toNatClampNeg) x5 x6 hx6 _ (Nat.le_refl _)) kd_3 rfl rfl (by omega) rfl (Nat.le_of_ble_eq_true rfl) d_Top_meet_110 rfl (fun r9 M9 hq => ?_)
      rw [hq.1, hq.2]
      refine V_if_eq (tgt := 128) X d_Top_meet_113 (by decide) rfl (fun c7 => ?_) (fun c7 => ?_)
      · rw [if_pos c7] at h
        refine V_iinc (n := 4) (v := (s.1 + (1 : Int32))) (lv' := [(3, .int (s.1 + (1 : Int32))), (4, .int (x5.1 26 v1.toNatClampNeg)), (0, .ref (G.2.2 + 0)), (1, .int v1), (2, .int v2)]) X d_Top_meet_128 rfl rfl (by decide) rfl rfl ?_
        refine V_goto (pc' := 46) X d_Top_meet_131 (by decide) ?_
        refine V_sub (lv' := [(0, .ref (G.2.2 + 0)), (1, .int v1), (2, .int v2), (3, .int (s.1 + (1 : Int32)))]) [2, 3, 4, 0] rfl ?_
        exact kc ((s.1 + (1 : Int32)), x5) (Option.some.inj h).symm
      · rw [if_neg c7] at h
        refine V_sub (lv' := [(0, .ref (G.2.2 + 0)), (3, .int s.1), (4, .int (x5.1 26 v1.toNatClampNeg))]) [1, 4, 0] rfl ?_
        exact kx1 (s.1, (x5.1 26 v1.toNatClampNeg), x5) (Option.some.inj h).symm
theorem lp_Top_meet_46_ok {E : Ev} {G : Gw} {d : Nat} {post : Int32 → Mem → Prop} (X : Cx E G b_Top_meet "WomenByTheRoofs" 5 d (some .int)) (hD : 5 ≤ d)  (v1 : Int32) (v2 : Int32)   (n9 : Nat) (s : Int32 × Mem) (x : (Mem) ⊕ (Int32 × Int32 × Mem)) (h : iter (lb_Top_meet_46 v1 v2) n9 s = some x) (kx0 : ∀ x9 : Mem, x = (Sum.inl x9) → V E (0, 0) G 5 (QI E G post) x9 134 [] []) (kx1 : ∀ x9 : Int32 × Int32 × Mem, x = (Sum.inr x9) → V E (0, 0) G 5 (QI E G post) x9.2.2 116 [(0, .ref (G.2.2 + 0)), (3, .int x9.1), (4, .int x9.2.1)] []) : V E (0, 0) G 5 (QI E G post) s.2 46 [(0, .ref (G.2.2 + 0)), (1, .int v1), (2, .int v2), (3, .int s.1)] [] :=
  iter_P (P := fun s : Int32 × Mem => V E (0, 0) G 5 (QI E G post) s.2 46 [(0, .ref (G.2.2 + 0)), (1, .int v1), (2, .int v2), (3, .int s.1)] []) (fun s o hb kc ky => lb_Top_meet_46_ok X hD v1 v2 s o hb kc (fun x9 e9 => kx0 x9 (ky _ e9).symm) (fun x9 e9 => kx1 x9 (ky _ e9).symm)) n9 s h
def f_Top_meet (v1 : Int32) (v2 : Int32) (M : Mem) : Option (Int32 × Mem) :=
  Option.bind (f_Top_areTwo v1 v2 M) fun x1 =>
  if x1 = 0 then
  some ((-1 : Int32), M)
  else
  Option.bind (f_Crowd_woman v1 M) fun x2 =>
  Option.bind (f_Crowd_woman v2 M) fun x3 =>
  if x2 = x3 then
  some ((-2 : Int32), M)
  else
  Option.bind (f_Scene_copy 25 11 M) fun x4 =>
  Option.bind (iter (lb_Top_meet_46 v1 v2) FU ((1 : Int32), x4)) (Sum.elim (fun y11 => some ((-2 : Int32), y11)) (fun y12 => Option.bind (f_Top_emptyRow y12.2.2) fun x13 =>
  Option.bind (f_Top_note y12.2.1 x13) fun x14 =>
  some (y12.1, x14)))
theorem c_Top_meet (l : Launch) (G : Gw)  (v1 : Int32) (v2 : Int32) (M : Mem) (x : Int32 × Mem) (h : f_Top_meet v1 v2 M = some x) (d : Nat) (hD : 5 ≤ d) : Ci l G y_Top_meet b_Top_meet 5 (some .int) d [.ref (G.2.2 + 0), .int v1, .int v2] M (fun r9 M9 => r9 = x.1 ∧ M9 = x.2) := by
  refine Ci_of (by decide) (Nat.le_of_ble_eq_true rfl) (fun E hE X => ?_)
  subst hE
  have kr : ∀ x9 : Int32 × Mem, x = x9 → (fun r9 M9 => r9 = x.1 ∧ M9 = x.2) x9.1 x9.2 := fun x9 e9 => by subst e9; exact ⟨rfl, rfl⟩
  unfold f_Top_meet at h
  refine V_aload_n (n := 0) X d_Top_meet_0 rfl rfl rfl ?_
  refine V_iload_n (n := 1) X d_Top_meet_1 rfl rfl rfl ?_
  refine V_iload_n (n := 2) X d_Top_meet_2 rfl rfl rfl ?_
  obtain ⟨x1, hx1, h⟩ := ob_s h
  refine V_ci (As := [.int v1, .int v2]) X (Z0 E) ml_Top_284 yq_Top_areTwo (c_Top_areTwo E.2.1 G v1 v2 M x1 hx1 _ (Nat.le_refl _)) kd_0 rfl rfl (by omega) rfl (Nat.le_of_ble_eq_true rfl) d_Top_meet_3 rfl (fun r9 M9 hq => ?_)
  rw [hq.1, hq.2]
  refine V_if_ne (tgt := 11) X d_Top_meet_6 (by decide) rfl (fun c16 => ?_) (fun c16 => ?_)
  · rw [if_neg c16] at h
    refine V_aload_n (n := 0) X d_Top_meet_11 rfl rfl rfl ?_
    refine V_getr (k2 := 6) X fo_Top_26 kd_0 rfl rf_0_2 d_Top_meet_12 rfl ?_
    refine V_iload_n (n := 1) X d_Top_meet_15 rfl rfl rfl ?_
    obtain ⟨x2, hx2, h⟩ := ob_s h
    refine V_ci (As := [.int v1]) X (Z0 E) ml_Top_139 yq_Crowd_woman (c_Crowd_woman E.2.1 G v1 M x2 hx2 _ (Nat.le_refl _)) kd_6 rfl rfl (by omega) rfl (Nat.le_of_ble_eq_true rfl) d_Top_meet_16 rfl (fun r9 M9 hq => ?_)
    rw [hq.1, hq.2]
    refine V_aload_n (n := 0) X d_Top_meet_19 rfl rfl rfl ?_
    refine V_getr (k2 := 6) X fo_Top_26 kd_0 rfl rf_0_2 d_Top_meet_20 rfl ?_
    refine V_iload_n (n := 2) X d_Top_meet_23 rfl rfl rfl ?_
    obtain ⟨x3, hx3, h⟩ := ob_s h
    refine V_ci (As := [.int v2]) X (Z0 E) ml_Top_139 yq_Crowd_woman (c_Crowd_woman E.2.1 G v2 M x3 hx3 _ (Nat.le_refl _)) kd_6 rfl rfl (by omega) rfl (Nat.le_of_ble_eq_true rfl) d_Top_meet_24 rfl (fun r9 M9 hq => ?_)
    rw [hq.1, hq.2]
    refine V_icmp_ne (tgt := 33) X d_Top_meet_27 (by decide) rfl (fun c15 => ?_) (fun c15 => ?_)
    · rw [if_neg c15] at h
      refine V_aload_n (n := 0) X d_Top_meet_33 rfl rfl rfl ?_
      refine V_getr (k2 := 25) X fo_Top_40 kd_0 rfl rf_0_5 d_Top_meet_34 rfl ?_
      refine V_aload_n (n := 0) X d_Top_meet_37 rfl rfl rfl ?_
      refine V_getr (k2 := 11) X fo_Top_33 kd_0 rfl rf_0_3 d_Top_meet_38 rfl ?_
      obtain ⟨x4, hx4, h⟩ := ob_s h
      refine V_cv (As := [.ref (G.2.2 + 11)]) X (Z0 E) ml_Top_211 yq_Scene_copy (c_Scene_copy E.2.1 G 25 11 M x4 hx4 _ (Nat.le_refl _)) kd_25 rfl rfl (by omega) rfl (Nat.le_of_ble_eq_true rfl) d_Top_meet_41 rfl (fun M9 hq => ?_)
      rw [hq]
      refine V_iconst (v := 1) X d_Top_meet_44 (by decide) rfl ?_
      refine V_istore_n (lv' := [(3, .int (1 : Int32)), (0, .ref (G.2.2 + 0)), (1, .int v1), (2, .int v2)]) X d_Top_meet_45 rfl (by decide) rfl rfl ?_
      refine V_sub (lv' := [(0, .ref (G.2.2 + 0)), (1, .int v1), (2, .int v2), (3, .int (1 : Int32))]) [1, 2, 3, 0] rfl ?_
      obtain ⟨x10, hx10, h⟩ := ob_s h
      rcases x10 with y11 | y12
      · simp only [Sum.elim_inl, Sum.elim_inr] at h
        refine (lp_Top_meet_46_ok X hD v1 v2 _ _ _ hx10 (fun x9 e9 => ?_) (fun x9 e9 => by cases e9) :)
        cases e9
        refine V_bipush (v := -2) X d_Top_meet_134 (by decide) rfl ?_
        exact V_iret X (kr ((-2 : Int32), y11) (Option.some.inj h).symm) d_Top_meet_136
      · simp only [Sum.elim_inl, Sum.elim_inr] at h
        refine (lp_Top_meet_46_ok X hD v1 v2 _ _ _ hx10 (fun x9 e9 => by cases e9) (fun x9 e9 => ?_) :)
        cases e9
        refine V_aload_n (n := 0) X d_Top_meet_116 rfl rfl rfl ?_
        obtain ⟨x13, hx13, h⟩ := ob_s h
        refine V_cv (As := []) X (Z0 E) ml_Top_251 yq_Top_emptyRow (c_Top_emptyRow E.2.1 G  y12.2.2 x13 hx13 _ (Nat.le_refl _)) kd_0 rfl rfl (by omega) rfl (Nat.le_of_ble_eq_true rfl) d_Top_meet_117 rfl (fun M9 hq => ?_)
        rw [hq]
        refine V_aload_n (n := 0) X d_Top_meet_120 rfl rfl rfl ?_
        refine V_iload (n := 2) X d_Top_meet_121 rfl rfl ?_
        obtain ⟨x14, hx14, h⟩ := ob_s h
        refine V_cv (As := [.int y12.2.1]) X (Z0 E) ml_Top_257 yq_Top_note (c_Top_note E.2.1 G y12.2.1 x13 x14 hx14 _ (Nat.le_refl _)) kd_0 rfl rfl (by omega) rfl (Nat.le_of_ble_eq_true rfl) d_Top_meet_123 rfl (fun M9 hq => ?_)
        rw [hq]
        refine V_iload_n (n := 1) X d_Top_meet_126 rfl rfl rfl ?_
        exact V_iret X (kr (y12.1, x14) (Option.some.inj h).symm) d_Top_meet_127
    · rw [if_pos c15] at h
      refine V_bipush (v := -2) X d_Top_meet_30 (by decide) rfl ?_
      exact V_iret X (kr ((-2 : Int32), M) (Option.some.inj h).symm) d_Top_meet_32
  · rw [if_pos c16] at h
    refine V_iconst (v := -1) X d_Top_meet_9 (by decide) rfl ?_
    exact V_iret X (kr ((-1 : Int32), M) (Option.some.inj h).symm) d_Top_meet_10
def lb_Top_known_27 (v1 : Int32) (s : Int32 × Int32 × Mem) : Option ((Int32 × Int32 × Mem) ⊕ ((Int32 × Mem))) :=
  if (60 : Int32) ≤ s.2.1 then
  some (.inr (s.1, s.2.2))
  else
  if (s.2.2.1 25 8) = v1 then
  some (.inr (s.1, s.2.2))
  else
  Option.bind (f_Clock_pass 25 32 s.2.2) fun x2 =>
  some (.inl ((s.1 + (1 : Int32)), (s.2.1 + (1 : Int32)), x2))
theorem lb_Top_known_27_ok {E : Ev} {G : Gw} {d : Nat} {post : Int32 → Mem → Prop} (X : Cx E G b_Top_known "WomenByTheRoofs" 4 d (some .int)) (hD : 5 ≤ d)  (v1 : Int32)   (s : Int32 × Int32 × Mem) (o : (Int32 × Int32 × Mem) ⊕ ((Int32 × Mem))) (h : lb_Top_known_27 v1 s = some o) (kc : ∀ s9 : Int32 × Int32 × Mem, o = .inl s9 → V E (0, 0) G 4 (QI E G post) s9.2.2 27 [(0, .ref (G.2.2 + 0)), (1, .int v1), (2, .int s9.1), (3, .int s9.2.1)] []) (kx0 : ∀ x9 : Int32 × Mem, o = .inr x9 → V E (0, 0) G 4 (QI E G post) x9.2 80 [(0, .ref (G.2.2 + 0)), (1, .int v1), (2, .int x9.1)] []) : V E (0, 0) G 4 (QI E G post) s.2.2 27 [(0, .ref (G.2.2 + 0)), (1, .int v1), (2, .int s.1), (3, .int s.2.1)] [] := by
  unfold lb_Top_known_27 at h
  refine V_iload_n (n := 3) X d_Top_known_27 rfl rfl rfl ?_
  refine V_bipush (v := 60) X d_Top_known_28 (by decide) rfl ?_
  refine V_icmp_ge (tgt := 80) X d_Top_known_30 (by decide) rfl (fun c4 => ?_) (fun c4 => ?_)
  · rw [if_pos c4] at h
    refine V_sub (lv' := [(0, .ref (G.2.2 + 0)), (1, .int v1), (2, .int s.1)]) [0, 1, 2] rfl ?_
    exact kx0 (s.1, s.2.2) (Option.some.inj h).symm
  · rw [if_neg c4] at h
    refine V_aload_n (n := 0) X d_Top_known_33 rfl rfl rfl ?_
    refine V_getr (k2 := 25) X fo_Top_40 kd_0 rfl rf_0_5 d_Top_known_34 rfl ?_
    refine V_geti X fo_Top_197 kd_25 rfl d_Top_known_37 rfl ?_
    refine V_iload_n (n := 1) X d_Top_known_40 rfl rfl rfl ?_
    refine V_icmp_eq (tgt := 80) X d_Top_known_41 (by decide) rfl (fun c3 => ?_) (fun c3 => ?_)
    · rw [if_pos c3] at h
      refine V_sub (lv' := [(0, .ref (G.2.2 + 0)), (1, .int v1), (2, .int s.1)]) [0, 1, 2] rfl ?_
      exact kx0 (s.1, s.2.2) (Option.some.inj h).symm
    · rw [if_neg c3] at h
      refine V_aload_n (n := 0) X d_Top_known_44 rfl rfl rfl ?_
      refine V_getr (k2 := 45) X fo_Top_63 kd_0 rfl rf_0_9 d_Top_known_45 rfl ?_
      refine V_aload_n (n := 0) X d_Top_known_48 rfl rfl rfl ?_
      refine V_getr (k2 := 25) X fo_Top_40 kd_0 rfl rf_0_5 d_Top_known_49 rfl ?_
      refine V_aload_n (n := 0) X d_Top_known_52 rfl rfl rfl ?_
      refine V_getr (k2 := 6) X fo_Top_26 kd_0 rfl rf_0_2 d_Top_known_53 rfl ?_
      refine V_aload_n (n := 0) X d_Top_known_56 rfl rfl rfl ?_
      refine V_getr (k2 := 3) X fo_Top_19 kd_0 rfl rf_0_1 d_Top_known_57 rfl ?_
      refine V_aload_n (n := 0) X d_Top_known_60 rfl rfl rfl ?_
      refine V_getr (k2 := 40) X fo_Top_56 kd_0 rfl rf_0_8 d_Top_known_61 rfl ?_
      refine V_aload_n (n := 0) X d_Top_known_64 rfl rfl rfl ?_
      refine V_getr (k2 := 32) X fo_Top_46 kd_0 rfl rf_0_6 d_Top_known_65 rfl ?_
      obtain ⟨x2, hx2, h⟩ := ob_s h
      refine V_cv (As := [.ref (G.2.2 + 25), .ref (G.2.2 + 6), .ref (G.2.2 + 3), .ref (G.2.2 + 40), .ref (G.2.2 + 32)]) X (Z0 E) ml_Top_247 yq_Clock_pass (c_Clock_pass E.2.1 G 25 32 s.2.2 x2 hx2 _ (Nat.le_refl _)) kd_45 rfl rfl (by omega) rfl (Nat.le_of_ble_eq_true rfl) d_Top_known_68 rfl (fun M9 hq => ?_)
      rw [hq]
      refine V_iinc (n := 2) (v := (s.1 + (1 : Int32))) (lv' := [(2, .int (s.1 + (1 : Int32))), (0, .ref (G.2.2 + 0)), (1, .int v1), (3, .int s.2.1)]) X d_Top_known_71 rfl rfl (by decide) rfl rfl ?_
      refine V_iinc (n := 3) (v := (s.2.1 + (1 : Int32))) (lv' := [(3, .int (s.2.1 + (1 : Int32))), (2, .int (s.1 + (1 : Int32))), (0, .ref (G.2.2 + 0)), (1, .int v1)]) X d_Top_known_74 rfl rfl (by decide) rfl rfl ?_
      refine V_goto (pc' := 27) X d_Top_known_77 (by decide) ?_
      refine V_sub (lv' := [(0, .ref (G.2.2 + 0)), (1, .int v1), (2, .int (s.1 + (1 : Int32))), (3, .int (s.2.1 + (1 : Int32)))]) [2, 3, 1, 0] rfl ?_
      exact kc ((s.1 + (1 : Int32)), (s.2.1 + (1 : Int32)), x2) (Option.some.inj h).symm
theorem lp_Top_known_27_ok {E : Ev} {G : Gw} {d : Nat} {post : Int32 → Mem → Prop} (X : Cx E G b_Top_known "WomenByTheRoofs" 4 d (some .int)) (hD : 5 ≤ d)  (v1 : Int32)   (n9 : Nat) (s : Int32 × Int32 × Mem) (x : (Int32 × Mem)) (h : iter (lb_Top_known_27 v1) n9 s = some x) (kx0 : ∀ x9 : Int32 × Mem, x = x9 → V E (0, 0) G 4 (QI E G post) x9.2 80 [(0, .ref (G.2.2 + 0)), (1, .int v1), (2, .int x9.1)] []) : V E (0, 0) G 4 (QI E G post) s.2.2 27 [(0, .ref (G.2.2 + 0)), (1, .int v1), (2, .int s.1), (3, .int s.2.1)] [] :=
  iter_P (P := fun s : Int32 × Int32 × Mem => V E (0, 0) G 4 (QI E G post) s.2.2 27 [(0, .ref (G.2.2 + 0)), (1, .int v1), (2, .int s.1), (3, .int s.2.1)] []) (fun s o hb kc ky => lb_Top_known_27_ok X hD v1 s o hb kc (fun x9 e9 => kx0 x9 (ky _ e9).symm)) n9 s h
def j_Top_known_80 (v1 : Int32) (v2 : Int32) (M : Mem) : Option (Int32 × Mem) :=
  Option.bind (f_Top_emptyRow M) fun x6 =>
  Option.bind (f_Top_note (x6.1 25 8) x6) fun x7 =>
  if (x7.1 25 8) = v1 then
  some (v2, x7)
  else
  some ((-2 : Int32), x7)
theorem j_Top_known_80_ok {E : Ev} {G : Gw} {d : Nat} {post : Int32 → Mem → Prop} (X : Cx E G b_Top_known "WomenByTheRoofs" 4 d (some .int)) (hD : 5 ≤ d)  (v1 : Int32) (v2 : Int32)  (M : Mem)  (o : Int32 × Mem) (h : j_Top_known_80 v1 v2 M = some o) (kr : ∀ x9 : Int32 × Mem, o = x9 → post x9.1 x9.2) : V E (0, 0) G 4 (QI E G post) M 80 [(0, .ref (G.2.2 + 0)), (1, .int v1), (2, .int v2)] [] := by
  unfold j_Top_known_80 at h
  refine V_aload_n (n := 0) X d_Top_known_80 rfl rfl rfl ?_
  obtain ⟨x6, hx6, h⟩ := ob_s h
  refine V_cv (As := []) X (Z0 E) ml_Top_251 yq_Top_emptyRow (c_Top_emptyRow E.2.1 G  M x6 hx6 _ (Nat.le_refl _)) kd_0 rfl rfl (by omega) rfl (Nat.le_of_ble_eq_true rfl) d_Top_known_81 rfl (fun M9 hq => ?_)
  rw [hq]
  refine V_aload_n (n := 0) X d_Top_known_84 rfl rfl rfl ?_
  refine V_aload_n (n := 0) X d_Top_known_85 rfl rfl rfl ?_
  refine V_getr (k2 := 25) X fo_Top_40 kd_0 rfl rf_0_5 d_Top_known_86 rfl ?_
  refine V_geti X fo_Top_197 kd_25 rfl d_Top_known_89 rfl ?_
  obtain ⟨x7, hx7, h⟩ := ob_s h
  refine V_cv (As := [.int (x6.1 25 8)]) X (Z0 E) ml_Top_257 yq_Top_note (c_Top_note E.2.1 G (x6.1 25 8) x6 x7 hx7 _ (Nat.le_refl _)) kd_0 rfl rfl (by omega) rfl (Nat.le_of_ble_eq_true rfl) d_Top_known_92 rfl (fun M9 hq => ?_)
  rw [hq]
  refine V_aload_n (n := 0) X d_Top_known_95 rfl rfl rfl ?_
  refine V_getr (k2 := 25) X fo_Top_40 kd_0 rfl rf_0_5 d_Top_known_96 rfl ?_
  refine V_geti X fo_Top_197 kd_25 rfl d_Top_known_99 rfl ?_
  refine V_iload_n (n := 1) X d_Top_known_102 rfl rfl rfl ?_
  refine V_icmp_ne (tgt := 110) X d_Top_known_103 (by decide) rfl (fun c8 => ?_) (fun c8 => ?_)
  · rw [if_neg c8] at h
    refine V_bipush (v := -2) X d_Top_known_110 (by decide) rfl ?_
    exact V_iret X (kr ((-2 : Int32), x7) (Option.some.inj h).symm) d_Top_known_112
  · rw [if_pos c8] at h
    refine V_iload_n (n := 2) X d_Top_known_106 rfl rfl rfl ?_
    refine V_goto (pc' := 112) X d_Top_known_107 (by decide) ?_
    exact V_iret X (kr (v2, x7) (Option.some.inj h).symm) d_Top_known_112
def f_Top_known (M : Mem) : Option (Int32 × Mem) :=
  Option.bind (f_Scene_copy 25 11 M) fun x1 =>
  Option.bind (iter (lb_Top_known_27 (((1 : Int32) <<< ((M.1 6 4) &&& 31)) - (1 : Int32))) FU ((0 : Int32), (0 : Int32), x1)) fun x5 =>
  j_Top_known_80 (((1 : Int32) <<< ((M.1 6 4) &&& 31)) - (1 : Int32)) x5.1 x5.2
theorem c_Top_known (l : Launch) (G : Gw)   (M : Mem) (x : Int32 × Mem) (h : f_Top_known M = some x) (d : Nat) (hD : 5 ≤ d) : Ci l G y_Top_known b_Top_known 4 (some .int) d [.ref (G.2.2 + 0)] M (fun r9 M9 => r9 = x.1 ∧ M9 = x.2) := by
  refine Ci_of (by decide) (Nat.le_of_ble_eq_true rfl) (fun E hE X => ?_)
  subst hE
  have kr : ∀ x9 : Int32 × Mem, x = x9 → (fun r9 M9 => r9 = x.1 ∧ M9 = x.2) x9.1 x9.2 := fun x9 e9 => by subst e9; exact ⟨rfl, rfl⟩
  unfold f_Top_known at h
  refine V_iconst (v := 1) X d_Top_known_0 (by decide) rfl ?_
  refine V_aload_n (n := 0) X d_Top_known_1 rfl rfl rfl ?_
  refine V_getr (k2 := 6) X fo_Top_26 kd_0 rfl rf_0_2 d_Top_known_2 rfl ?_
  refine V_geti X fo_Top_129 kd_6 rfl d_Top_known_5 rfl ?_
  refine V_ishl X d_Top_known_8 rfl ?_
  refine V_iconst (v := 1) X d_Top_known_9 (by decide) rfl ?_
  refine V_isub X d_Top_known_10 rfl ?_
  refine V_istore_n (lv' := [(1, .int (((1 : Int32) <<< ((M.1 6 4) &&& 31)) - (1 : Int32))), (0, .ref (G.2.2 + 0))]) X d_Top_known_11 rfl (by decide) rfl rfl ?_
  refine V_aload_n (n := 1) X d_Top_known_12 rfl rfl rfl ?_
  refine V_getr (k2 := 25) X fo_Top_40 kd_0 rfl rf_0_5 d_Top_known_13 rfl ?_
  refine V_aload_n (n := 1) X d_Top_known_16 rfl rfl rfl ?_
  refine V_getr (k2 := 11) X fo_Top_33 kd_0 rfl rf_0_3 d_Top_known_17 rfl ?_
  obtain ⟨x1, hx1, h⟩ := ob_s h
  refine V_cv (As := [.ref (G.2.2 + 11)]) X (Z0 E) ml_Top_211 yq_Scene_copy (c_Scene_copy E.2.1 G 25 11 M x1 hx1 _ (Nat.le_refl _)) kd_25 rfl rfl (by omega) rfl (Nat.le_of_ble_eq_true rfl) d_Top_known_20 rfl (fun M9 hq => ?_)
  rw [hq]
  refine V_iconst (v := 0) X d_Top_known_23 (by decide) rfl ?_
  refine V_istore_n (lv' := [(2, .int (0 : Int32)), (1, .int (((1 : Int32) <<< ((M.1 6 4) &&& 31)) - (1 : Int32))), (0, .ref (G.2.2 + 0))]) X d_Top_known_24 rfl (by decide) rfl rfl ?_
  refine V_iconst (v := 0) X d_Top_known_25 (by decide) rfl ?_
  refine V_istore_n (lv' := [(3, .int (0 : Int32)), (2, .int (0 : Int32)), (1, .int (((1 : Int32) <<< ((M.1 6 4) &&& 31)) - (1 : Int32))), (0, .ref (G.2.2 + 0))]) X d_Top_known_26 rfl (by decide) rfl rfl ?_
  refine V_sub (lv' := [(0, .ref (G.2.2 + 0)), (1, .int (((1 : Int32) <<< ((M.1 6 4) &&& 31)) - (1 : Int32))), (2, .int (0 : Int32)), (3, .int (0 : Int32))]) [3, 2, 1, 0] rfl ?_
  obtain ⟨x5, hx5, h⟩ := ob_s h
  refine (lp_Top_known_27_ok X hD (((1 : Int32) <<< ((M.1 6 4) &&& 31)) - (1 : Int32)) _ _ _ hx5 (fun x9 e9 => ?_) :)
  subst e9
  exact j_Top_known_80_ok X hD (((1 : Int32) <<< ((M.1 6 4) &&& 31)) - (1 : Int32)) x5.1 x5.2 _ h kr
def lb_Top_hearers_26 (v1 : Int32) (s : Int32 × Mem) : Option ((Int32 × Mem) ⊕ ((Mem))) :=
  if v1 ≤ s.1 then
  some (.inr s.2)
  else
  Option.bind (f_Clock_pass 25 32 s.2) fun x3 =>
  some (.inl ((s.1 + (1 : Int32)), x3))
theorem lb_Top_hearers_26_ok {E : Ev} {G : Gw} {d : Nat} {post : Int32 → Mem → Prop} (X : Cx E G b_Top_hearers "WomenByTheRoofs" 4 d (some .int)) (hD : 5 ≤ d)  (v1 : Int32)   (s : Int32 × Mem) (o : (Int32 × Mem) ⊕ ((Mem))) (h : lb_Top_hearers_26 v1 s = some o) (kc : ∀ s9 : Int32 × Mem, o = .inl s9 → V E (0, 0) G 4 (QI E G post) s9.2 26 [(0, .ref (G.2.2 + 0)), (1, .int v1), (3, .int s9.1)] []) (kx0 : ∀ x9 : Mem, o = .inr x9 → V E (0, 0) G 4 (QI E G post) x9 64 [(0, .ref (G.2.2 + 0))] []) : V E (0, 0) G 4 (QI E G post) s.2 26 [(0, .ref (G.2.2 + 0)), (1, .int v1), (3, .int s.1)] [] := by
  unfold lb_Top_hearers_26 at h
  refine V_iload_n (n := 2) X d_Top_hearers_26 rfl rfl rfl ?_
  refine V_iload_n (n := 1) X d_Top_hearers_27 rfl rfl rfl ?_
  refine V_icmp_ge (tgt := 64) X d_Top_hearers_28 (by decide) rfl (fun c4 => ?_) (fun c4 => ?_)
  · rw [if_pos c4] at h
    refine V_sub (lv' := [(0, .ref (G.2.2 + 0))]) [0] rfl ?_
    exact kx0 s.2 (Option.some.inj h).symm
  · rw [if_neg c4] at h
    refine V_aload_n (n := 0) X d_Top_hearers_31 rfl rfl rfl ?_
    refine V_getr (k2 := 45) X fo_Top_63 kd_0 rfl rf_0_9 d_Top_hearers_32 rfl ?_
    refine V_aload_n (n := 0) X d_Top_hearers_35 rfl rfl rfl ?_
    refine V_getr (k2 := 25) X fo_Top_40 kd_0 rfl rf_0_5 d_Top_hearers_36 rfl ?_
    refine V_aload_n (n := 0) X d_Top_hearers_39 rfl rfl rfl ?_
    refine V_getr (k2 := 6) X fo_Top_26 kd_0 rfl rf_0_2 d_Top_hearers_40 rfl ?_
    refine V_aload_n (n := 0) X d_Top_hearers_43 rfl rfl rfl ?_
    refine V_getr (k2 := 3) X fo_Top_19 kd_0 rfl rf_0_1 d_Top_hearers_44 rfl ?_
    refine V_aload_n (n := 0) X d_Top_hearers_47 rfl rfl rfl ?_
    refine V_getr (k2 := 40) X fo_Top_56 kd_0 rfl rf_0_8 d_Top_hearers_48 rfl ?_
    refine V_aload_n (n := 0) X d_Top_hearers_51 rfl rfl rfl ?_
    refine V_getr (k2 := 32) X fo_Top_46 kd_0 rfl rf_0_6 d_Top_hearers_52 rfl ?_
    obtain ⟨x3, hx3, h⟩ := ob_s h
    refine V_cv (As := [.ref (G.2.2 + 25), .ref (G.2.2 + 6), .ref (G.2.2 + 3), .ref (G.2.2 + 40), .ref (G.2.2 + 32)]) X (Z0 E) ml_Top_247 yq_Clock_pass (c_Clock_pass E.2.1 G 25 32 s.2 x3 hx3 _ (Nat.le_refl _)) kd_45 rfl rfl (by omega) rfl (Nat.le_of_ble_eq_true rfl) d_Top_hearers_55 rfl (fun M9 hq => ?_)
    rw [hq]
    refine V_iinc (n := 2) (v := (s.1 + (1 : Int32))) (lv' := [(3, .int (s.1 + (1 : Int32))), (0, .ref (G.2.2 + 0)), (1, .int v1)]) X d_Top_hearers_58 rfl rfl (by decide) rfl rfl ?_
    refine V_goto (pc' := 26) X d_Top_hearers_61 (by decide) ?_
    refine V_sub (lv' := [(0, .ref (G.2.2 + 0)), (1, .int v1), (3, .int (s.1 + (1 : Int32)))]) [1, 2, 0] rfl ?_
    exact kc ((s.1 + (1 : Int32)), x3) (Option.some.inj h).symm
theorem lp_Top_hearers_26_ok {E : Ev} {G : Gw} {d : Nat} {post : Int32 → Mem → Prop} (X : Cx E G b_Top_hearers "WomenByTheRoofs" 4 d (some .int)) (hD : 5 ≤ d)  (v1 : Int32)   (n9 : Nat) (s : Int32 × Mem) (x : (Mem)) (h : iter (lb_Top_hearers_26 v1) n9 s = some x) (kx0 : ∀ x9 : Mem, x = x9 → V E (0, 0) G 4 (QI E G post) x9 64 [(0, .ref (G.2.2 + 0))] []) : V E (0, 0) G 4 (QI E G post) s.2 26 [(0, .ref (G.2.2 + 0)), (1, .int v1), (3, .int s.1)] [] :=
  iter_P (P := fun s : Int32 × Mem => V E (0, 0) G 4 (QI E G post) s.2 26 [(0, .ref (G.2.2 + 0)), (1, .int v1), (3, .int s.1)] []) (fun s o hb kc ky => lb_Top_hearers_26_ok X hD v1 s o hb kc (fun x9 e9 => kx0 x9 (ky _ e9).symm)) n9 s h
def f_Top_hearers (v1 : Int32) (v2 : Int32) (M : Mem) : Option (Int32 × Mem) :=
  Option.bind (f_Scene_copy 25 11 M) fun x1 =>
  mem_ (s_i x1 25 8 ((x1.1 25 8) ||| v2)) fun M2 =>
  Option.bind (iter (lb_Top_hearers_26 v1) FU ((0 : Int32), M2)) fun x5 =>
  Option.bind (f_JInteger_bitCount (x5.1 25 8)) fun x6 =>
  some (x6, x5)
theorem c_Top_hearers (l : Launch) (G : Gw)  (v1 : Int32) (v2 : Int32) (M : Mem) (x : Int32 × Mem) (h : f_Top_hearers v1 v2 M = some x) (d : Nat) (hD : 5 ≤ d) : Ci l G y_Top_hearers b_Top_hearers 4 (some .int) d [.ref (G.2.2 + 0), .int v1, .int v2] M (fun r9 M9 => r9 = x.1 ∧ M9 = x.2) := by
  refine Ci_of (by decide) (Nat.le_of_ble_eq_true rfl) (fun E hE X => ?_)
  subst hE
  have kr : ∀ x9 : Int32 × Mem, x = x9 → (fun r9 M9 => r9 = x.1 ∧ M9 = x.2) x9.1 x9.2 := fun x9 e9 => by subst e9; exact ⟨rfl, rfl⟩
  unfold f_Top_hearers at h
  refine V_aload_n (n := 0) X d_Top_hearers_0 rfl rfl rfl ?_
  refine V_getr (k2 := 25) X fo_Top_40 kd_0 rfl rf_0_5 d_Top_hearers_1 rfl ?_
  refine V_aload_n (n := 0) X d_Top_hearers_4 rfl rfl rfl ?_
  refine V_getr (k2 := 11) X fo_Top_33 kd_0 rfl rf_0_3 d_Top_hearers_5 rfl ?_
  obtain ⟨x1, hx1, h⟩ := ob_s h
  refine V_cv (As := [.ref (G.2.2 + 11)]) X (Z0 E) ml_Top_211 yq_Scene_copy (c_Scene_copy E.2.1 G 25 11 M x1 hx1 _ (Nat.le_refl _)) kd_25 rfl rfl (by omega) rfl (Nat.le_of_ble_eq_true rfl) d_Top_hearers_8 rfl (fun M9 hq => ?_)
  rw [hq]
  refine V_aload_n (n := 0) X d_Top_hearers_11 rfl rfl rfl ?_
  refine V_getr (k2 := 25) X fo_Top_40 kd_0 rfl rf_0_5 d_Top_hearers_12 rfl ?_
  refine V_dup X d_Top_hearers_15 rfl rfl ?_
  refine V_geti X fo_Top_197 kd_25 rfl d_Top_hearers_16 rfl ?_
  refine V_iload_n (n := 2) X d_Top_hearers_19 rfl rfl rfl ?_
  refine V_ior X d_Top_hearers_20 rfl ?_
  obtain ⟨M2, eM2, h⟩ := memS h
  refine V_putI X fp_Top_197 kd_25 rfl d_Top_hearers_21 rfl ?_
  rw [← eM2]
  refine V_iconst (v := 0) X d_Top_hearers_24 (by decide) rfl ?_
  refine V_istore_n (lv' := [(3, .int (0 : Int32)), (0, .ref (G.2.2 + 0)), (1, .int v1), (2, .int v2)]) X d_Top_hearers_25 rfl (by decide) rfl rfl ?_
  refine V_sub (lv' := [(0, .ref (G.2.2 + 0)), (1, .int v1), (3, .int (0 : Int32))]) [1, 2, 0] rfl ?_
  obtain ⟨x5, hx5, h⟩ := ob_s h
  refine (lp_Top_hearers_26_ok X hD v1 _ _ _ hx5 (fun x9 e9 => ?_) :)
  subst e9
  refine V_aload_n (n := 0) X d_Top_hearers_64 rfl rfl rfl ?_
  refine V_getr (k2 := 25) X fo_Top_40 kd_0 rfl rf_0_5 d_Top_hearers_65 rfl ?_
  refine V_geti X fo_Top_197 kd_25 rfl d_Top_hearers_68 rfl ?_
  obtain ⟨x6, hx6, h⟩ := ob_s h
  refine V_si (As := [.int (x5.1 25 8)]) X (Z0 E) ml_Top_236 yq_JInteger_bitCount (c_JInteger_bitCount E.2.1 G (x5.1 25 8) x5 x6 hx6 _ (Nat.le_refl _)) rfl (by omega) rfl (Nat.le_of_ble_eq_true rfl) d_Top_hearers_71 rfl (fun r9 M9 hq => ?_)
  rw [hq.1, hq.2]
  exact V_iret X (kr (x6, x5) (Option.some.inj h).symm) d_Top_hearers_74
def j_Top_gossip_77_25 (v1 : Int32) (v2 : Int32) (v3 : Int32) (v4 : Int32) (w0 : Int32) (M : Mem) : Option ((Int32 × Int32 × Int32 × Mem) ⊕ ((Int32 × Int32 × Mem))) :=
  if w0 ≤ v3 then
  some (.inl (v2, v3, (v4 + (1 : Int32)), M))
  else
  some (.inl (v4, w0, (v4 + (1 : Int32)), M))
theorem j_Top_gossip_77_25_ok {E : Ev} {G : Gw} {d : Nat} {post : Int32 → Mem → Prop} (X : Cx E G b_Top_gossip "WomenByTheRoofs" 7 d (some .int)) (hD : 6 ≤ d)  (v1 : Int32) (v2 : Int32) (v3 : Int32) (v4 : Int32) (w0 : Int32)  (M : Mem)  (o : (Int32 × Int32 × Int32 × Mem) ⊕ ((Int32 × Int32 × Mem))) (h : j_Top_gossip_77_25 v1 v2 v3 v4 w0 M = some o) (kc : ∀ s9 : Int32 × Int32 × Int32 × Mem, o = .inl s9 → V E (0, 0) G 7 (QI E G post) s9.2.2.2 25 [(0, .ref (G.2.2 + 0)), (1, .int v1), (2, .int s9.1), (3, .int s9.2.1), (4, .int s9.2.2.1)] []) (kx0 : ∀ x9 : Int32 × Int32 × Mem, o = .inr x9 → V E (0, 0) G 7 (QI E G post) x9.2.2 97 [(0, .ref (G.2.2 + 0)), (2, .int x9.1), (3, .int x9.2.1)] []) : V E (0, 0) G 7 (QI E G post) M 77 [(0, .ref (G.2.2 + 0)), (1, .int v1), (2, .int v2), (3, .int v3), (4, .int v4)] [.int w0] := by
  unfold j_Top_gossip_77_25 at h
  refine V_istore (lv' := [(6, .int w0), (0, .ref (G.2.2 + 0)), (1, .int v1), (2, .int v2), (3, .int v3), (4, .int v4)]) X d_Top_gossip_77 (by decide) rfl rfl ?_
  refine V_iload (n := 0) X d_Top_gossip_79 rfl rfl ?_
  refine V_iload_n (n := 4) X d_Top_gossip_81 rfl rfl rfl ?_
  refine V_icmp_le (tgt := 91) X d_Top_gossip_82 (by decide) rfl (fun c2 => ?_) (fun c2 => ?_)
  · rw [if_pos c2] at h
    refine V_iinc (n := 5) (v := (v4 + (1 : Int32))) (lv' := [(4, .int (v4 + (1 : Int32))), (6, .int w0), (0, .ref (G.2.2 + 0)), (1, .int v1), (2, .int v2), (3, .int v3)]) X d_Top_gossip_91 rfl rfl (by decide) rfl rfl ?_
    refine V_goto (pc' := 25) X d_Top_gossip_94 (by decide) ?_
    refine V_sub (lv' := [(0, .ref (G.2.2 + 0)), (1, .int v1), (2, .int v2), (3, .int v3), (4, .int (v4 + (1 : Int32)))]) [2, 3, 4, 5, 0] rfl ?_
    exact kc (v2, v3, (v4 + (1 : Int32)), M) (Option.some.inj h).symm
  · rw [if_neg c2] at h
    refine V_iload (n := 0) X d_Top_gossip_85 rfl rfl ?_
    refine V_istore_n (lv' := [(3, .int w0), (6, .int w0), (0, .ref (G.2.2 + 0)), (1, .int v1), (2, .int v2), (4, .int v4)]) X d_Top_gossip_87 rfl (by decide) rfl rfl ?_
    refine V_iload (n := 5) X d_Top_gossip_88 rfl rfl ?_
    refine V_istore_n (lv' := [(2, .int v4), (3, .int w0), (6, .int w0), (0, .ref (G.2.2 + 0)), (1, .int v1), (4, .int v4)]) X d_Top_gossip_90 rfl (by decide) rfl rfl ?_
    refine V_iinc (n := 5) (v := (v4 + (1 : Int32))) (lv' := [(4, .int (v4 + (1 : Int32))), (2, .int v4), (3, .int w0), (6, .int w0), (0, .ref (G.2.2 + 0)), (1, .int v1)]) X d_Top_gossip_91 rfl rfl (by decide) rfl rfl ?_
    refine V_goto (pc' := 25) X d_Top_gossip_94 (by decide) ?_
    refine V_sub (lv' := [(0, .ref (G.2.2 + 0)), (1, .int v1), (2, .int v4), (3, .int w0), (4, .int (v4 + (1 : Int32)))]) [4, 5, 1, 2, 0] rfl ?_
    exact kc (v4, w0, (v4 + (1 : Int32)), M) (Option.some.inj h).symm
def j_Top_gossip_57_25 (v1 : Int32) (v2 : Int32) (v3 : Int32) (v4 : Int32) (w0 : Int32) (M : Mem) : Option ((Int32 × Int32 × Int32 × Mem) ⊕ ((Int32 × Int32 × Mem))) :=
  if w0 = 0 then
  j_Top_gossip_77_25 v1 v2 v3 v4 (0 : Int32) M
  else
  Option.bind (f_Top_hearers v1 ((1 : Int32) <<< (v4 &&& 31)) M) fun x3 =>
  j_Top_gossip_77_25 v1 v2 v3 v4 x3.1 x3.2
theorem j_Top_gossip_57_25_ok {E : Ev} {G : Gw} {d : Nat} {post : Int32 → Mem → Prop} (X : Cx E G b_Top_gossip "WomenByTheRoofs" 7 d (some .int)) (hD : 6 ≤ d)  (v1 : Int32) (v2 : Int32) (v3 : Int32) (v4 : Int32) (w0 : Int32)  (M : Mem)  (o : (Int32 × Int32 × Int32 × Mem) ⊕ ((Int32 × Int32 × Mem))) (h : j_Top_gossip_57_25 v1 v2 v3 v4 w0 M = some o) (kc : ∀ s9 : Int32 × Int32 × Int32 × Mem, o = .inl s9 → V E (0, 0) G 7 (QI E G post) s9.2.2.2 25 [(0, .ref (G.2.2 + 0)), (1, .int v1), (2, .int s9.1), (3, .int s9.2.1), (4, .int s9.2.2.1)] []) (kx0 : ∀ x9 : Int32 × Int32 × Mem, o = .inr x9 → V E (0, 0) G 7 (QI E G post) x9.2.2 97 [(0, .ref (G.2.2 + 0)), (2, .int x9.1), (3, .int x9.2.1)] []) : V E (0, 0) G 7 (QI E G post) M 57 [(0, .ref (G.2.2 + 0)), (1, .int v1), (2, .int v2), (3, .int v3), (4, .int v4)] [.int w0] := by
  unfold j_Top_gossip_57_25 at h
  refine V_istore (lv' := [(5, .int w0), (0, .ref (G.2.2 + 0)), (1, .int v1), (2, .int v2), (3, .int v3), (4, .int v4)]) X d_Top_gossip_57 (by decide) rfl rfl ?_
  refine V_iload (n := 0) X d_Top_gossip_59 rfl rfl ?_
  refine V_if_eq (tgt := 76) X d_Top_gossip_61 (by decide) rfl (fun c4 => ?_) (fun c4 => ?_)
  · rw [if_pos c4] at h
    refine V_iconst (v := 0) X d_Top_gossip_76 (by decide) rfl ?_
    refine V_sub (lv' := [(0, .ref (G.2.2 + 0)), (1, .int v1), (2, .int v2), (3, .int v3), (4, .int v4)]) [1, 2, 3, 4, 5] rfl ?_
    exact j_Top_gossip_77_25_ok X hD v1 v2 v3 v4 (0 : Int32) M _ h kc kx0
  · rw [if_neg c4] at h
    refine V_aload_n (n := 1) X d_Top_gossip_64 rfl rfl rfl ?_
    refine V_iload_n (n := 2) X d_Top_gossip_65 rfl rfl rfl ?_
    refine V_iconst (v := 1) X d_Top_gossip_66 (by decide) rfl ?_
    refine V_iload (n := 5) X d_Top_gossip_67 rfl rfl ?_
    refine V_ishl X d_Top_gossip_69 rfl ?_
    obtain ⟨x3, hx3, h⟩ := ob_s h
    refine V_ci (As := [.int v1, .int ((1 : Int32) <<< (v4 &&& 31))]) X (Z0 E) ml_Top_293 yq_Top_hearers (c_Top_hearers E.2.1 G v1 ((1 : Int32) <<< (v4 &&& 31)) M x3 hx3 _ (Nat.le_refl _)) kd_0 rfl rfl (by omega) rfl (Nat.le_of_ble_eq_true rfl) d_Top_gossip_70 rfl (fun r9 M9 hq => ?_)
    rw [hq.1, hq.2]
    refine V_goto (pc' := 77) X d_Top_gossip_73 (by decide) ?_
    refine V_sub (lv' := [(0, .ref (G.2.2 + 0)), (1, .int v1), (2, .int v2), (3, .int v3), (4, .int v4)]) [1, 2, 3, 4, 5] rfl ?_
    exact j_Top_gossip_77_25_ok X hD v1 v2 v3 v4 x3.1 x3.2 _ h kc kx0
def lb_Top_gossip_25 (v1 : Int32) (s : Int32 × Int32 × Int32 × Mem) : Option ((Int32 × Int32 × Int32 × Mem) ⊕ ((Int32 × Int32 × Mem))) :=
  if (s.2.2.2.1 6 4) ≤ s.2.2.1 then
  some (.inr (s.1, s.2.1, s.2.2.2))
  else
  if (((s.2.2.2.1 11 8) >>> (s.2.2.1 &&& 31)) &&& (1 : Int32)) = 0 then
  j_Top_gossip_57_25 v1 s.1 s.2.1 s.2.2.1 (1 : Int32) s.2.2.2
  else
  j_Top_gossip_57_25 v1 s.1 s.2.1 s.2.2.1 (0 : Int32) s.2.2.2
theorem lb_Top_gossip_25_ok {E : Ev} {G : Gw} {d : Nat} {post : Int32 → Mem → Prop} (X : Cx E G b_Top_gossip "WomenByTheRoofs" 7 d (some .int)) (hD : 6 ≤ d)  (v1 : Int32)   (s : Int32 × Int32 × Int32 × Mem) (o : (Int32 × Int32 × Int32 × Mem) ⊕ ((Int32 × Int32 × Mem))) (h : lb_Top_gossip_25 v1 s = some o) (kc : ∀ s9 : Int32 × Int32 × Int32 × Mem, o = .inl s9 → V E (0, 0) G 7 (QI E G post) s9.2.2.2 25 [(0, .ref (G.2.2 + 0)), (1, .int v1), (2, .int s9.1), (3, .int s9.2.1), (4, .int s9.2.2.1)] []) (kx0 : ∀ x9 : Int32 × Int32 × Mem, o = .inr x9 → V E (0, 0) G 7 (QI E G post) x9.2.2 97 [(0, .ref (G.2.2 + 0)), (2, .int x9.1), (3, .int x9.2.1)] []) : V E (0, 0) G 7 (QI E G post) s.2.2.2 25 [(0, .ref (G.2.2 + 0)), (1, .int v1), (2, .int s.1), (3, .int s.2.1), (4, .int s.2.2.1)] [] := by
  unfold lb_Top_gossip_25 at h
  refine V_iload (n := 4) X d_Top_gossip_25 rfl rfl ?_
  refine V_aload_n (n := 0) X d_Top_gossip_27 rfl rfl rfl ?_
  refine V_getr (k2 := 6) X fo_Top_26 kd_0 rfl rf_0_2 d_Top_gossip_28 rfl ?_
  refine V_geti X fo_Top_129 kd_6 rfl d_Top_gossip_31 rfl ?_
  refine V_icmp_ge (tgt := 97) X d_Top_gossip_34 (by decide) rfl (fun c6 => ?_) (fun c6 => ?_)
  · rw [if_pos c6] at h
    refine V_sub (lv' := [(0, .ref (G.2.2 + 0)), (2, .int s.1), (3, .int s.2.1)]) [0, 2, 3] rfl ?_
    exact kx0 (s.1, s.2.1, s.2.2.2) (Option.some.inj h).symm
  · rw [if_neg c6] at h
    refine V_aload_n (n := 0) X d_Top_gossip_37 rfl rfl rfl ?_
    refine V_getr (k2 := 11) X fo_Top_33 kd_0 rfl rf_0_3 d_Top_gossip_38 rfl ?_
    refine V_geti X fo_Top_197 kd_11 rfl d_Top_gossip_41 rfl ?_
    refine V_iload (n := 4) X d_Top_gossip_44 rfl rfl ?_
    refine V_ishr X d_Top_gossip_46 rfl ?_
    refine V_iconst (v := 1) X d_Top_gossip_47 (by decide) rfl ?_
    refine V_iand X d_Top_gossip_48 rfl ?_
    refine V_if_ne (tgt := 56) X d_Top_gossip_49 (by decide) rfl (fun c5 => ?_) (fun c5 => ?_)
    · rw [if_neg c5] at h
      refine V_iconst (v := 0) X d_Top_gossip_56 (by decide) rfl ?_
      exact j_Top_gossip_57_25_ok X hD v1 s.1 s.2.1 s.2.2.1 (0 : Int32) s.2.2.2 _ h kc kx0
    · rw [if_pos c5] at h
      refine V_iconst (v := 1) X d_Top_gossip_52 (by decide) rfl ?_
      refine V_goto (pc' := 57) X d_Top_gossip_53 (by decide) ?_
      exact j_Top_gossip_57_25_ok X hD v1 s.1 s.2.1 s.2.2.1 (1 : Int32) s.2.2.2 _ h kc kx0
theorem lp_Top_gossip_25_ok {E : Ev} {G : Gw} {d : Nat} {post : Int32 → Mem → Prop} (X : Cx E G b_Top_gossip "WomenByTheRoofs" 7 d (some .int)) (hD : 6 ≤ d)  (v1 : Int32)   (n9 : Nat) (s : Int32 × Int32 × Int32 × Mem) (x : (Int32 × Int32 × Mem)) (h : iter (lb_Top_gossip_25 v1) n9 s = some x) (kx0 : ∀ x9 : Int32 × Int32 × Mem, x = x9 → V E (0, 0) G 7 (QI E G post) x9.2.2 97 [(0, .ref (G.2.2 + 0)), (2, .int x9.1), (3, .int x9.2.1)] []) : V E (0, 0) G 7 (QI E G post) s.2.2.2 25 [(0, .ref (G.2.2 + 0)), (1, .int v1), (2, .int s.1), (3, .int s.2.1), (4, .int s.2.2.1)] [] :=
  iter_P (P := fun s : Int32 × Int32 × Int32 × Mem => V E (0, 0) G 7 (QI E G post) s.2.2.2 25 [(0, .ref (G.2.2 + 0)), (1, .int v1), (2, .int s.1), (3, .int s.2.1), (4, .int s.2.2.1)] []) (fun s o hb kc ky => lb_Top_gossip_25_ok X hD v1 s o hb kc (fun x9 e9 => kx0 x9 (ky _ e9).symm)) n9 s h
def f_Top_gossip (v1 : Int32) (M : Mem) : Option (Int32 × Mem) :=
  if v1 < 0 then
  some ((-2 : Int32), M)
  else
  if v1 ≤ (60 : Int32) then
  Option.bind (f_Top_hearers v1 (0 : Int32) M) fun x1 =>
  Option.bind (iter (lb_Top_gossip_25 v1) FU ((-1 : Int32), x1.1, (0 : Int32), x1.2)) fun x7 =>
  Option.bind (f_Top_emptyRow x7.2.2) fun x8 =>
  Option.bind (f_Top_note x7.2.1 x8) fun x9 =>
  some (x7.1, x9)
  else
  some ((-2 : Int32), M)
theorem c_Top_gossip (l : Launch) (G : Gw)  (v1 : Int32) (M : Mem) (x : Int32 × Mem) (h : f_Top_gossip v1 M = some x) (d : Nat) (hD : 6 ≤ d) : Ci l G y_Top_gossip b_Top_gossip 7 (some .int) d [.ref (G.2.2 + 0), .int v1] M (fun r9 M9 => r9 = x.1 ∧ M9 = x.2) := by
  refine Ci_of (by decide) (Nat.le_of_ble_eq_true rfl) (fun E hE X => ?_)
  subst hE
  have kr : ∀ x9 : Int32 × Mem, x = x9 → (fun r9 M9 => r9 = x.1 ∧ M9 = x.2) x9.1 x9.2 := fun x9 e9 => by subst e9; exact ⟨rfl, rfl⟩
  unfold f_Top_gossip at h
  refine V_iload_n (n := 1) X d_Top_gossip_0 rfl rfl rfl ?_
  refine V_if_lt (tgt := 10) X d_Top_gossip_1 (by decide) rfl (fun c11 => ?_) (fun c11 => ?_)
  · rw [if_pos c11] at h
    refine V_bipush (v := -2) X d_Top_gossip_10 (by decide) rfl ?_
    exact V_iret X (kr ((-2 : Int32), M) (Option.some.inj h).symm) d_Top_gossip_12
  · rw [if_neg c11] at h
    refine V_iload_n (n := 1) X d_Top_gossip_4 rfl rfl rfl ?_
    refine V_bipush (v := 60) X d_Top_gossip_5 (by decide) rfl ?_
    refine V_icmp_le (tgt := 13) X d_Top_gossip_7 (by decide) rfl (fun c10 => ?_) (fun c10 => ?_)
    · rw [if_pos c10] at h
      refine V_iconst (v := -1) X d_Top_gossip_13 (by decide) rfl ?_
      refine V_istore_n (lv' := [(2, .int (-1 : Int32)), (0, .ref (G.2.2 + 0)), (1, .int v1)]) X d_Top_gossip_14 rfl (by decide) rfl rfl ?_
      refine V_aload_n (n := 1) X d_Top_gossip_15 rfl rfl rfl ?_
      refine V_iload_n (n := 2) X d_Top_gossip_16 rfl rfl rfl ?_
      refine V_iconst (v := 0) X d_Top_gossip_17 (by decide) rfl ?_
      obtain ⟨x1, hx1, h⟩ := ob_s h
      refine V_ci (As := [.int v1, .int (0 : Int32)]) X (Z0 E) ml_Top_293 yq_Top_hearers (c_Top_hearers E.2.1 G v1 (0 : Int32) M x1 hx1 _ (Nat.le_refl _)) kd_0 rfl rfl (by omega) rfl (Nat.le_of_ble_eq_true rfl) d_Top_gossip_18 rfl (fun r9 M9 hq => ?_)
      rw [hq.1, hq.2]
      refine V_istore_n (lv' := [(3, .int x1.1), (2, .int (-1 : Int32)), (0, .ref (G.2.2 + 0)), (1, .int v1)]) X d_Top_gossip_21 rfl (by decide) rfl rfl ?_
      refine V_iconst (v := 0) X d_Top_gossip_22 (by decide) rfl ?_
      refine V_istore (lv' := [(4, .int (0 : Int32)), (3, .int x1.1), (2, .int (-1 : Int32)), (0, .ref (G.2.2 + 0)), (1, .int v1)]) X d_Top_gossip_23 (by decide) rfl rfl ?_
      refine V_sub (lv' := [(0, .ref (G.2.2 + 0)), (1, .int v1), (2, .int (-1 : Int32)), (3, .int x1.1), (4, .int (0 : Int32))]) [3, 4, 2, 1, 0] rfl ?_
      obtain ⟨x7, hx7, h⟩ := ob_s h
      refine (lp_Top_gossip_25_ok X hD v1 _ _ _ hx7 (fun x9 e9 => ?_) :)
      subst e9
      refine V_aload_n (n := 0) X d_Top_gossip_97 rfl rfl rfl ?_
      obtain ⟨x8, hx8, h⟩ := ob_s h
      refine V_cv (As := []) X (Z0 E) ml_Top_251 yq_Top_emptyRow (c_Top_emptyRow E.2.1 G  x7.2.2 x8 hx8 _ (Nat.le_refl _)) kd_0 rfl rfl (by omega) rfl (Nat.le_of_ble_eq_true rfl) d_Top_gossip_98 rfl (fun M9 hq => ?_)
      rw [hq]
      refine V_aload_n (n := 0) X d_Top_gossip_101 rfl rfl rfl ?_
      refine V_iload_n (n := 2) X d_Top_gossip_102 rfl rfl rfl ?_
      obtain ⟨x9, hx9, h⟩ := ob_s h
      refine V_cv (As := [.int x7.2.1]) X (Z0 E) ml_Top_257 yq_Top_note (c_Top_note E.2.1 G x7.2.1 x8 x9 hx9 _ (Nat.le_refl _)) kd_0 rfl rfl (by omega) rfl (Nat.le_of_ble_eq_true rfl) d_Top_gossip_103 rfl (fun M9 hq => ?_)
      rw [hq]
      refine V_iload_n (n := 1) X d_Top_gossip_106 rfl rfl rfl ?_
      exact V_iret X (kr (x7.1, x9) (Option.some.inj h).symm) d_Top_gossip_107
    · rw [if_neg c10] at h
      refine V_bipush (v := -2) X d_Top_gossip_10 (by decide) rfl ?_
      exact V_iret X (kr ((-2 : Int32), M) (Option.some.inj h).symm) d_Top_gossip_12
def lb_Top_pieces_33 (v1 : Int32) (M : Mem) (s : Int64 × Int32 × Int32 × Int32 × Int32) : Option ((Int64 × Int32 × Int32 × Int32 × Int32) ⊕ ((Int32 × Int32 × Int32))) :=
  if (36 : Int32) ≤ s.2.2.2.2 then
  some (.inr (s.2.1, s.2.2.1, s.2.2.2.1))
  else
  if (lg_cmp ((s.1 >>> (s.2.2.2.2.toInt64 &&& 63)) &&& (1 : Int64)) (0 : Int64)) = 0 then
  some (.inl (s.1, s.2.1, s.2.2.1, s.2.2.2.1, (s.2.2.2.2 + (1 : Int32))))
  else
  Option.bind (f_Nets_flood 32 v1 s.2.2.2.2 (0 : Int64) M) fun x1 =>
  Option.bind (f_JLong_bitCount x1) fun x2 =>
  if x2 ≤ s.2.2.1 then
  some (.inl ((s.1 &&& (x1 ^^^ (-1 : Int64))), (s.2.1 + (1 : Int32)), s.2.2.1, s.2.2.2.1, (s.2.2.2.2 + (1 : Int32))))
  else
  Option.bind (f_JLong_bitCount x1) fun x3 =>
  some (.inl ((s.1 &&& (x1 ^^^ (-1 : Int64))), (s.2.1 + (1 : Int32)), x3, s.2.2.2.2, (s.2.2.2.2 + (1 : Int32))))
theorem lb_Top_pieces_33_ok {E : Ev} {G : Gw} {d : Nat} {post : Int32 → Mem → Prop} (X : Cx E G b_Top_pieces "WomenByTheRoofs" 10 d (some .int)) (hD : 4 ≤ d)  (v1 : Int32)  (M : Mem) (s : Int64 × Int32 × Int32 × Int32 × Int32) (o : (Int64 × Int32 × Int32 × Int32 × Int32) ⊕ ((Int32 × Int32 × Int32))) (h : lb_Top_pieces_33 v1 M s = some o) (kc : ∀ s9 : Int64 × Int32 × Int32 × Int32 × Int32, o = .inl s9 → V E (0, 0) G 10 (QI E G post) M 33 [(0, .ref (G.2.2 + 0)), (1, .int v1), (2, .long s9.1), (4, .int s9.2.1), (5, .int s9.2.2.1), (6, .int s9.2.2.2.1), (7, .int s9.2.2.2.2)] []) (kx0 : ∀ x9 : Int32 × Int32 × Int32, o = .inr x9 → V E (0, 0) G 10 (QI E G post) M 103 [(0, .ref (G.2.2 + 0)), (4, .int x9.1), (5, .int x9.2.1), (6, .int x9.2.2)] []) : V E (0, 0) G 10 (QI E G post) M 33 [(0, .ref (G.2.2 + 0)), (1, .int v1), (2, .long s.1), (4, .int s.2.1), (5, .int s.2.2.1), (6, .int s.2.2.2.1), (7, .int s.2.2.2.2)] [] := by
  unfold lb_Top_pieces_33 at h
  refine V_iload (n := 6) X d_Top_pieces_33 rfl rfl ?_
  refine V_bipush (v := 36) X d_Top_pieces_35 (by decide) rfl ?_
  refine V_icmp_ge (tgt := 103) X d_Top_pieces_37 (by decide) rfl (fun c6 => ?_) (fun c6 => ?_)
  · rw [if_pos c6] at h
    refine V_sub (lv' := [(0, .ref (G.2.2 + 0)), (4, .int s.2.1), (5, .int s.2.2.1), (6, .int s.2.2.2.1)]) [0, 3, 4, 5] rfl ?_
    exact kx0 (s.2.1, s.2.2.1, s.2.2.2.1) (Option.some.inj h).symm
  · rw [if_neg c6] at h
    refine V_lload_n (n := 2) X d_Top_pieces_40 rfl rfl rfl ?_
    refine V_iload (n := 6) X d_Top_pieces_41 rfl rfl ?_
    refine V_lshr X d_Top_pieces_43 rfl ?_
    refine V_lconst (v := 1) X d_Top_pieces_44 (by decide) rfl ?_
    refine V_land X d_Top_pieces_45 rfl ?_
    refine V_lconst (v := 0) X d_Top_pieces_46 (by decide) rfl ?_
    refine V_lcmp X d_Top_pieces_47 rfl ?_
    refine V_if_eq (tgt := 97) X d_Top_pieces_48 (by decide) rfl (fun c5 => ?_) (fun c5 => ?_)
    · rw [if_pos c5] at h
      refine V_iinc (n := 6) (v := (s.2.2.2.2 + (1 : Int32))) (lv' := [(7, .int (s.2.2.2.2 + (1 : Int32))), (0, .ref (G.2.2 + 0)), (1, .int v1), (2, .long s.1), (4, .int s.2.1), (5, .int s.2.2.1), (6, .int s.2.2.2.1)]) X d_Top_pieces_97 rfl rfl (by decide) rfl rfl ?_
      refine V_goto (pc' := 33) X d_Top_pieces_100 (by decide) ?_
      refine V_sub (lv' := [(0, .ref (G.2.2 + 0)), (1, .int v1), (2, .long s.1), (4, .int s.2.1), (5, .int s.2.2.1), (6, .int s.2.2.2.1), (7, .int (s.2.2.2.2 + (1 : Int32)))]) [1, 2, 3, 4, 5, 6, 0] rfl ?_
      exact kc (s.1, s.2.1, s.2.2.1, s.2.2.2.1, (s.2.2.2.2 + (1 : Int32))) (Option.some.inj h).symm
    · rw [if_neg c5] at h
      refine V_aload_n (n := 0) X d_Top_pieces_51 rfl rfl rfl ?_
      refine V_getr (k2 := 32) X fo_Top_46 kd_0 rfl rf_0_6 d_Top_pieces_52 rfl ?_
      refine V_iload_n (n := 1) X d_Top_pieces_55 rfl rfl rfl ?_
      refine V_iload (n := 6) X d_Top_pieces_56 rfl rfl ?_
      refine V_lconst (v := 0) X d_Top_pieces_58 (by decide) rfl ?_
      obtain ⟨x1, hx1, h⟩ := ob_s h
      refine V_cl (As := [.int v1, .int s.2.2.2.2, .long (0 : Int64)]) X (Z0 E) ml_Top_299 yq_Nets_flood (c_Nets_flood E.2.1 G 32 v1 s.2.2.2.2 (0 : Int64) M x1 hx1 _ (Nat.le_refl _)) kd_32 rfl rfl (by omega) rfl (Nat.le_of_ble_eq_true rfl) d_Top_pieces_59 rfl (fun r9 M9 hq => ?_)
      rw [hq.1, hq.2]
      refine V_lstore (lv' := [(8, .long x1), (0, .ref (G.2.2 + 0)), (1, .int v1), (2, .long s.1), (4, .int s.2.1), (5, .int s.2.2.1), (6, .int s.2.2.2.1), (7, .int s.2.2.2.2)]) X d_Top_pieces_62 (by decide) rfl rfl ?_
      refine V_lload_n (n := 3) X d_Top_pieces_64 rfl rfl rfl ?_
      refine V_lload (n := 0) X d_Top_pieces_65 rfl rfl ?_
      refine V_ldc2_w (v := -1) X d_Top_pieces_67 kc_Top_303 rfl ?_
      refine V_lxor X d_Top_pieces_70 rfl ?_
      refine V_land X d_Top_pieces_71 rfl ?_
      refine V_lstore_n (lv' := [(2, .long (s.1 &&& (x1 ^^^ (-1 : Int64)))), (8, .long x1), (0, .ref (G.2.2 + 0)), (1, .int v1), (4, .int s.2.1), (5, .int s.2.2.1), (6, .int s.2.2.2.1), (7, .int s.2.2.2.2)]) X d_Top_pieces_72 rfl (by decide) rfl rfl ?_
      refine V_iinc (n := 4) (v := (s.2.1 + (1 : Int32))) (lv' := [(4, .int (s.2.1 + (1 : Int32))), (2, .long (s.1 &&& (x1 ^^^ (-1 : Int64)))), (8, .long x1), (0, .ref (G.2.2 + 0)), (1, .int v1), (5, .int s.2.2.1), (6, .int s.2.2.2.1), (7, .int s.2.2.2.2)]) X d_Top_pieces_73 rfl rfl (by decide) rfl rfl ?_
      refine V_lload (n := 2) X d_Top_pieces_76 rfl rfl ?_
      obtain ⟨x2, hx2, h⟩ := ob_s h
      refine V_si (As := [.long x1]) X (Z0 E) ml_Top_182 yq_JLong_bitCount (c_JLong_bitCount E.2.1 G x1 M x2 hx2 _ (Nat.le_refl _)) rfl (by omega) rfl (Nat.le_of_ble_eq_true rfl) d_Top_pieces_78 rfl (fun r9 M9 hq => ?_)
      rw [hq.1, hq.2]
      refine V_iload (n := 5) X d_Top_pieces_81 rfl rfl ?_
      refine V_icmp_le (tgt := 97) X d_Top_pieces_83 (by decide) rfl (fun c4 => ?_) (fun c4 => ?_)
      · rw [if_pos c4] at h
        refine V_iinc (n := 7) (v := (s.2.2.2.2 + (1 : Int32))) (lv' := [(7, .int (s.2.2.2.2 + (1 : Int32))), (4, .int (s.2.1 + (1 : Int32))), (2, .long (s.1 &&& (x1 ^^^ (-1 : Int64)))), (8, .long x1), (0, .ref (G.2.2 + 0)), (1, .int v1), (5, .int s.2.2.1), (6, .int s.2.2.2.1)]) X d_Top_pieces_97 rfl rfl (by decide) rfl rfl ?_
        refine V_goto (pc' := 33) X d_Top_pieces_100 (by decide) ?_
        refine V_sub (lv' := [(0, .ref (G.2.2 + 0)), (1, .int v1), (2, .long (s.1 &&& (x1 ^^^ (-1 : Int64)))), (4, .int (s.2.1 + (1 : Int32))), (5, .int s.2.2.1), (6, .int s.2.2.2.1), (7, .int (s.2.2.2.2 + (1 : Int32)))]) [4, 5, 2, 1, 6, 7, 0] rfl ?_
        exact kc ((s.1 &&& (x1 ^^^ (-1 : Int64))), (s.2.1 + (1 : Int32)), s.2.2.1, s.2.2.2.1, (s.2.2.2.2 + (1 : Int32))) (Option.some.inj h).symm
      · rw [if_neg c4] at h
        refine V_lload (n := 2) X d_Top_pieces_86 rfl rfl ?_
        obtain ⟨x3, hx3, h⟩ := ob_s h
        refine V_si (As := [.long x1]) X (Z0 E) ml_Top_182 yq_JLong_bitCount (c_JLong_bitCount E.2.1 G x1 M x3 hx3 _ (Nat.le_refl _)) rfl (by omega) rfl (Nat.le_of_ble_eq_true rfl) d_Top_pieces_88 rfl (fun r9 M9 hq => ?_)
        rw [hq.1, hq.2]
        refine V_istore (lv' := [(5, .int x3), (4, .int (s.2.1 + (1 : Int32))), (2, .long (s.1 &&& (x1 ^^^ (-1 : Int64)))), (8, .long x1), (0, .ref (G.2.2 + 0)), (1, .int v1), (6, .int s.2.2.2.1), (7, .int s.2.2.2.2)]) X d_Top_pieces_91 (by decide) rfl rfl ?_
        refine V_iload (n := 7) X d_Top_pieces_93 rfl rfl ?_
        refine V_istore (lv' := [(6, .int s.2.2.2.2), (5, .int x3), (4, .int (s.2.1 + (1 : Int32))), (2, .long (s.1 &&& (x1 ^^^ (-1 : Int64)))), (8, .long x1), (0, .ref (G.2.2 + 0)), (1, .int v1), (7, .int s.2.2.2.2)]) X d_Top_pieces_95 (by decide) rfl rfl ?_
        refine V_iinc (n := 7) (v := (s.2.2.2.2 + (1 : Int32))) (lv' := [(7, .int (s.2.2.2.2 + (1 : Int32))), (6, .int s.2.2.2.2), (5, .int x3), (4, .int (s.2.1 + (1 : Int32))), (2, .long (s.1 &&& (x1 ^^^ (-1 : Int64)))), (8, .long x1), (0, .ref (G.2.2 + 0)), (1, .int v1)]) X d_Top_pieces_97 rfl rfl (by decide) rfl rfl ?_
        refine V_goto (pc' := 33) X d_Top_pieces_100 (by decide) ?_
        refine V_sub (lv' := [(0, .ref (G.2.2 + 0)), (1, .int v1), (2, .long (s.1 &&& (x1 ^^^ (-1 : Int64)))), (4, .int (s.2.1 + (1 : Int32))), (5, .int x3), (6, .int s.2.2.2.2), (7, .int (s.2.2.2.2 + (1 : Int32)))]) [6, 7, 4, 3, 2, 1, 0] rfl ?_
        exact kc ((s.1 &&& (x1 ^^^ (-1 : Int64))), (s.2.1 + (1 : Int32)), x3, s.2.2.2.2, (s.2.2.2.2 + (1 : Int32))) (Option.some.inj h).symm
theorem lp_Top_pieces_33_ok {E : Ev} {G : Gw} {d : Nat} {post : Int32 → Mem → Prop} (X : Cx E G b_Top_pieces "WomenByTheRoofs" 10 d (some .int)) (hD : 4 ≤ d)  (v1 : Int32)  (M : Mem) (n9 : Nat) (s : Int64 × Int32 × Int32 × Int32 × Int32) (x : (Int32 × Int32 × Int32)) (h : iter (lb_Top_pieces_33 v1 M) n9 s = some x) (kx0 : ∀ x9 : Int32 × Int32 × Int32, x = x9 → V E (0, 0) G 10 (QI E G post) M 103 [(0, .ref (G.2.2 + 0)), (4, .int x9.1), (5, .int x9.2.1), (6, .int x9.2.2)] []) : V E (0, 0) G 10 (QI E G post) M 33 [(0, .ref (G.2.2 + 0)), (1, .int v1), (2, .long s.1), (4, .int s.2.1), (5, .int s.2.2.1), (6, .int s.2.2.2.1), (7, .int s.2.2.2.2)] [] :=
  iter_P (P := fun s : Int64 × Int32 × Int32 × Int32 × Int32 => V E (0, 0) G 10 (QI E G post) M 33 [(0, .ref (G.2.2 + 0)), (1, .int v1), (2, .long s.1), (4, .int s.2.1), (5, .int s.2.2.1), (6, .int s.2.2.2.1), (7, .int s.2.2.2.2)] []) (fun s o hb kc ky => lb_Top_pieces_33_ok X hD v1 M s o hb kc (fun x9 e9 => kx0 x9 (ky _ e9).symm)) n9 s h
def f_Top_pieces (v1 : Int32) (M : Mem) : Option (Int32 × Mem) :=
  if v1 < 0 then
  some ((-1 : Int32), M)
  else
  if v1 ≤ (1 : Int32) then
  if inb v1 2 = true then
  Option.bind (iter (lb_Top_pieces_33 v1 M) FU ((M.2.1 33 v1.toNatClampNeg), (0 : Int32), (0 : Int32), (-1 : Int32), (0 : Int32))) fun x7 =>
  Option.bind (f_Top_emptyRow M) fun x8 =>
  Option.bind (f_Top_note x7.2.1 x8) fun x9 =>
  Option.bind (f_Top_note x7.2.2 x9) fun x10 =>
  some (x7.1, x10)
  else none
  else
  some ((-1 : Int32), M)
theorem c_Top_pieces (l : Launch) (G : Gw)  (v1 : Int32) (M : Mem) (x : Int32 × Mem) (h : f_Top_pieces v1 M = some x) (d : Nat) (hD : 4 ≤ d) : Ci l G y_Top_pieces b_Top_pieces 10 (some .int) d [.ref (G.2.2 + 0), .int v1] M (fun r9 M9 => r9 = x.1 ∧ M9 = x.2) := by
  refine Ci_of (by decide) (Nat.le_of_ble_eq_true rfl) (fun E hE X => ?_)
  subst hE
  have kr : ∀ x9 : Int32 × Mem, x = x9 → (fun r9 M9 => r9 = x.1 ∧ M9 = x.2) x9.1 x9.2 := fun x9 e9 => by subst e9; exact ⟨rfl, rfl⟩
  unfold f_Top_pieces at h
  refine V_iload_n (n := 1) X d_Top_pieces_0 rfl rfl rfl ?_
  refine V_if_lt (tgt := 9) X d_Top_pieces_1 (by decide) rfl (fun c12 => ?_) (fun c12 => ?_)
  · rw [if_pos c12] at h
    refine V_iconst (v := -1) X d_Top_pieces_9 (by decide) rfl ?_
    exact V_iret X (kr ((-1 : Int32), M) (Option.some.inj h).symm) d_Top_pieces_10
  · rw [if_neg c12] at h
    refine V_iload_n (n := 1) X d_Top_pieces_4 rfl rfl rfl ?_
    refine V_iconst (v := 1) X d_Top_pieces_5 (by decide) rfl ?_
    refine V_icmp_le (tgt := 11) X d_Top_pieces_6 (by decide) rfl (fun c11 => ?_) (fun c11 => ?_)
    · rw [if_pos c11] at h
      refine V_aload_n (n := 0) X d_Top_pieces_11 rfl rfl rfl ?_
      refine V_getr (k2 := 32) X fo_Top_46 kd_0 rfl rf_0_6 d_Top_pieces_12 rfl ?_
      refine V_getr (k2 := 33) X fo_Top_296 kd_32 rfl rf_32_0 d_Top_pieces_15 rfl ?_
      refine V_iload_n (n := 1) X d_Top_pieces_18 rfl rfl rfl ?_
      obtain ⟨hb, h⟩ := ifn h
      refine V_lald X kd_33 (inb_in ln_33 hb) d_Top_pieces_19 rfl ?_
      refine V_lstore_n (lv' := [(2, .long (M.2.1 33 v1.toNatClampNeg)), (0, .ref (G.2.2 + 0)), (1, .int v1)]) X d_Top_pieces_20 rfl (by decide) rfl rfl ?_
      refine V_iconst (v := 0) X d_Top_pieces_21 (by decide) rfl ?_
      refine V_istore (lv' := [(4, .int (0 : Int32)), (2, .long (M.2.1 33 v1.toNatClampNeg)), (0, .ref (G.2.2 + 0)), (1, .int v1)]) X d_Top_pieces_22 (by decide) rfl rfl ?_
      refine V_iconst (v := 0) X d_Top_pieces_24 (by decide) rfl ?_
      refine V_istore (lv' := [(5, .int (0 : Int32)), (4, .int (0 : Int32)), (2, .long (M.2.1 33 v1.toNatClampNeg)), (0, .ref (G.2.2 + 0)), (1, .int v1)]) X d_Top_pieces_25 (by decide) rfl rfl ?_
      refine V_iconst (v := -1) X d_Top_pieces_27 (by decide) rfl ?_
      refine V_istore (lv' := [(6, .int (-1 : Int32)), (5, .int (0 : Int32)), (4, .int (0 : Int32)), (2, .long (M.2.1 33 v1.toNatClampNeg)), (0, .ref (G.2.2 + 0)), (1, .int v1)]) X d_Top_pieces_28 (by decide) rfl rfl ?_
      refine V_iconst (v := 0) X d_Top_pieces_30 (by decide) rfl ?_
      refine V_istore (lv' := [(7, .int (0 : Int32)), (6, .int (-1 : Int32)), (5, .int (0 : Int32)), (4, .int (0 : Int32)), (2, .long (M.2.1 33 v1.toNatClampNeg)), (0, .ref (G.2.2 + 0)), (1, .int v1)]) X d_Top_pieces_31 (by decide) rfl rfl ?_
      refine V_sub (lv' := [(0, .ref (G.2.2 + 0)), (1, .int v1), (2, .long (M.2.1 33 v1.toNatClampNeg)), (4, .int (0 : Int32)), (5, .int (0 : Int32)), (6, .int (-1 : Int32)), (7, .int (0 : Int32))]) [5, 6, 4, 3, 2, 1, 0] rfl ?_
      obtain ⟨x7, hx7, h⟩ := ob_s h
      refine (lp_Top_pieces_33_ok X hD v1 M _ _ _ hx7 (fun x9 e9 => ?_) :)
      subst e9
      refine V_aload_n (n := 0) X d_Top_pieces_103 rfl rfl rfl ?_
      obtain ⟨x8, hx8, h⟩ := ob_s h
      refine V_cv (As := []) X (Z0 E) ml_Top_251 yq_Top_emptyRow (c_Top_emptyRow E.2.1 G  M x8 hx8 _ (Nat.le_refl _)) kd_0 rfl rfl (by omega) rfl (Nat.le_of_ble_eq_true rfl) d_Top_pieces_104 rfl (fun M9 hq => ?_)
      rw [hq]
      refine V_aload_n (n := 0) X d_Top_pieces_107 rfl rfl rfl ?_
      refine V_iload (n := 2) X d_Top_pieces_108 rfl rfl ?_
      obtain ⟨x9, hx9, h⟩ := ob_s h
      refine V_cv (As := [.int x7.2.1]) X (Z0 E) ml_Top_257 yq_Top_note (c_Top_note E.2.1 G x7.2.1 x8 x9 hx9 _ (Nat.le_refl _)) kd_0 rfl rfl (by omega) rfl (Nat.le_of_ble_eq_true rfl) d_Top_pieces_110 rfl (fun M9 hq => ?_)
      rw [hq]
      refine V_aload_n (n := 0) X d_Top_pieces_113 rfl rfl rfl ?_
      refine V_iload (n := 3) X d_Top_pieces_114 rfl rfl ?_
      obtain ⟨x10, hx10, h⟩ := ob_s h
      refine V_cv (As := [.int x7.2.2]) X (Z0 E) ml_Top_257 yq_Top_note (c_Top_note E.2.1 G x7.2.2 x9 x10 hx10 _ (Nat.le_refl _)) kd_0 rfl rfl (by omega) rfl (Nat.le_of_ble_eq_true rfl) d_Top_pieces_116 rfl (fun M9 hq => ?_)
      rw [hq]
      refine V_iload (n := 1) X d_Top_pieces_119 rfl rfl ?_
      exact V_iret X (kr (x7.1, x10) (Option.some.inj h).symm) d_Top_pieces_121
    · rw [if_neg c11] at h
      refine V_iconst (v := -1) X d_Top_pieces_9 (by decide) rfl ?_
      exact V_iret X (kr ((-1 : Int32), M) (Option.some.inj h).symm) d_Top_pieces_10
def f_Top_noteSet (v1 : Int64) (M : Mem) : Option (Mem) :=
  Option.bind (f_Top_note ((v1 &&& (262143 : Int64)).toInt32) M) fun x1 =>
  Option.bind (f_Top_note ((v1 >>> ((18 : Int32).toInt64 &&& 63)).toInt32) x1) fun x2 =>
  some x2
theorem c_Top_noteSet (l : Launch) (G : Gw)  (v1 : Int64) (M : Mem) (x : Mem) (h : f_Top_noteSet v1 M = some x) (d : Nat) (hD : 2 ≤ d) : Cv l G y_Top_noteSet b_Top_noteSet 3 none d [.ref (G.2.2 + 0), .long v1] M (fun M9 => M9 = x) := by
  refine Cv_of (by decide) (Nat.le_of_ble_eq_true rfl) (fun E hE X => ?_)
  subst hE
  have kr : ∀ x9 : Mem, x = x9 → (fun M9 => M9 = x) x9 := fun x9 e9 => by subst e9; exact rfl
  unfold f_Top_noteSet at h
  refine V_aload_n (n := 0) X d_Top_noteSet_0 rfl rfl rfl ?_
  refine V_lload_n (n := 1) X d_Top_noteSet_1 rfl rfl rfl ?_
  refine V_ldc2_w (v := 262143) X d_Top_noteSet_2 kc_Top_455 rfl ?_
  refine V_land X d_Top_noteSet_5 rfl ?_
  refine V_l2i X d_Top_noteSet_6 rfl ?_
  obtain ⟨x1, hx1, h⟩ := ob_s h
  refine V_cv (As := [.int ((v1 &&& (262143 : Int64)).toInt32)]) X (Z0 E) ml_Top_257 yq_Top_note (c_Top_note E.2.1 G ((v1 &&& (262143 : Int64)).toInt32) M x1 hx1 _ (Nat.le_refl _)) kd_0 rfl rfl (by omega) rfl (Nat.le_of_ble_eq_true rfl) d_Top_noteSet_7 rfl (fun M9 hq => ?_)
  rw [hq]
  refine V_aload_n (n := 0) X d_Top_noteSet_10 rfl rfl rfl ?_
  refine V_lload_n (n := 1) X d_Top_noteSet_11 rfl rfl rfl ?_
  refine V_bipush (v := 18) X d_Top_noteSet_12 (by decide) rfl ?_
  refine V_lshr X d_Top_noteSet_14 rfl ?_
  refine V_l2i X d_Top_noteSet_15 rfl ?_
  obtain ⟨x2, hx2, h⟩ := ob_s h
  refine V_cv (As := [.int ((v1 >>> ((18 : Int32).toInt64 &&& 63)).toInt32)]) X (Z0 E) ml_Top_257 yq_Top_note (c_Top_note E.2.1 G ((v1 >>> ((18 : Int32).toInt64 &&& 63)).toInt32) x1 x2 hx2 _ (Nat.le_refl _)) kd_0 rfl rfl (by omega) rfl (Nat.le_of_ble_eq_true rfl) d_Top_noteSet_16 rfl (fun M9 hq => ?_)
  rw [hq]
  exact V_vret X (kr x2 (Option.some.inj h).symm) d_Top_noteSet_19
def f_Top_reach (v1 : Int32) (v2 : Int32) (M : Mem) : Option (Int32 × Mem) :=
  if v1 < 0 then
  some ((-1 : Int32), M)
  else
  if (1 : Int32) < v1 then
  some ((-1 : Int32), M)
  else
  Option.bind (f_Ground_has v2 M) fun x1 =>
  if x1 = 0 then
  some ((-1 : Int32), M)
  else
  Option.bind (f_Ground_holds v1 v2 M) fun x2 =>
  if x2 = 0 then
  some ((-2 : Int32), M)
  else
  Option.bind (f_Nets_flood 32 v1 v2 (0 : Int64) M) fun x3 =>
  Option.bind (f_Top_emptyRow M) fun x4 =>
  Option.bind (f_Top_noteSet x3 x4) fun x5 =>
  Option.bind (f_JLong_bitCount x3) fun x6 =>
  some (x6, x5)
theorem c_Top_reach (l : Launch) (G : Gw)  (v1 : Int32) (v2 : Int32) (M : Mem) (x : Int32 × Mem) (h : f_Top_reach v1 v2 M = some x) (d : Nat) (hD : 4 ≤ d) : Ci l G y_Top_reach b_Top_reach 5 (some .int) d [.ref (G.2.2 + 0), .int v1, .int v2] M (fun r9 M9 => r9 = x.1 ∧ M9 = x.2) := by
  refine Ci_of (by decide) (Nat.le_of_ble_eq_true rfl) (fun E hE X => ?_)
  subst hE
  have kr : ∀ x9 : Int32 × Mem, x = x9 → (fun r9 M9 => r9 = x.1 ∧ M9 = x.2) x9.1 x9.2 := fun x9 e9 => by subst e9; exact ⟨rfl, rfl⟩
  unfold f_Top_reach at h
  refine V_iload_n (n := 1) X d_Top_reach_0 rfl rfl rfl ?_
  refine V_if_lt (tgt := 20) X d_Top_reach_1 (by decide) rfl (fun c10 => ?_) (fun c10 => ?_)
  · rw [if_pos c10] at h
    refine V_iconst (v := -1) X d_Top_reach_20 (by decide) rfl ?_
    exact V_iret X (kr ((-1 : Int32), M) (Option.some.inj h).symm) d_Top_reach_21
  · rw [if_neg c10] at h
    refine V_iload_n (n := 1) X d_Top_reach_4 rfl rfl rfl ?_
    refine V_iconst (v := 1) X d_Top_reach_5 (by decide) rfl ?_
    refine V_icmp_gt (tgt := 20) X d_Top_reach_6 (by decide) rfl (fun c9 => ?_) (fun c9 => ?_)
    · rw [if_pos c9] at h
      refine V_iconst (v := -1) X d_Top_reach_20 (by decide) rfl ?_
      exact V_iret X (kr ((-1 : Int32), M) (Option.some.inj h).symm) d_Top_reach_21
    · rw [if_neg c9] at h
      refine V_aload_n (n := 0) X d_Top_reach_9 rfl rfl rfl ?_
      refine V_getr (k2 := 3) X fo_Top_19 kd_0 rfl rf_0_1 d_Top_reach_10 rfl ?_
      refine V_iload_n (n := 2) X d_Top_reach_13 rfl rfl rfl ?_
      obtain ⟨x1, hx1, h⟩ := ob_s h
      refine V_ci (As := [.int v2]) X (Z0 E) ml_Top_163 yq_Ground_has (c_Ground_has E.2.1 G v2 M x1 hx1 _ (Nat.le_refl _)) kd_3 rfl rfl (by omega) rfl (Nat.le_of_ble_eq_true rfl) d_Top_reach_14 rfl (fun r9 M9 hq => ?_)
      rw [hq.1, hq.2]
      refine V_if_ne (tgt := 22) X d_Top_reach_17 (by decide) rfl (fun c8 => ?_) (fun c8 => ?_)
      · rw [if_neg c8] at h
        refine V_aload_n (n := 0) X d_Top_reach_22 rfl rfl rfl ?_
        refine V_getr (k2 := 3) X fo_Top_19 kd_0 rfl rf_0_1 d_Top_reach_23 rfl ?_
        refine V_iload_n (n := 1) X d_Top_reach_26 rfl rfl rfl ?_
        refine V_iload_n (n := 2) X d_Top_reach_27 rfl rfl rfl ?_
        obtain ⟨x2, hx2, h⟩ := ob_s h
        refine V_ci (As := [.int v1, .int v2]) X (Z0 E) ml_Top_305 yq_Ground_holds (c_Ground_holds E.2.1 G v1 v2 M x2 hx2 _ (Nat.le_refl _)) kd_3 rfl rfl (by omega) rfl (Nat.le_of_ble_eq_true rfl) d_Top_reach_28 rfl (fun r9 M9 hq => ?_)
        rw [hq.1, hq.2]
        refine V_if_ne (tgt := 37) X d_Top_reach_31 (by decide) rfl (fun c7 => ?_) (fun c7 => ?_)
        · rw [if_neg c7] at h
          refine V_aload_n (n := 0) X d_Top_reach_37 rfl rfl rfl ?_
          refine V_getr (k2 := 32) X fo_Top_46 kd_0 rfl rf_0_6 d_Top_reach_38 rfl ?_
          refine V_iload_n (n := 1) X d_Top_reach_41 rfl rfl rfl ?_
          refine V_iload_n (n := 2) X d_Top_reach_42 rfl rfl rfl ?_
          refine V_lconst (v := 0) X d_Top_reach_43 (by decide) rfl ?_
          obtain ⟨x3, hx3, h⟩ := ob_s h
          refine V_cl (As := [.int v1, .int v2, .long (0 : Int64)]) X (Z0 E) ml_Top_299 yq_Nets_flood (c_Nets_flood E.2.1 G 32 v1 v2 (0 : Int64) M x3 hx3 _ (Nat.le_refl _)) kd_32 rfl rfl (by omega) rfl (Nat.le_of_ble_eq_true rfl) d_Top_reach_44 rfl (fun r9 M9 hq => ?_)
          rw [hq.1, hq.2]
          refine V_lstore_n (lv' := [(3, .long x3), (0, .ref (G.2.2 + 0)), (1, .int v1), (2, .int v2)]) X d_Top_reach_47 rfl (by decide) rfl rfl ?_
          refine V_aload_n (n := 1) X d_Top_reach_48 rfl rfl rfl ?_
          obtain ⟨x4, hx4, h⟩ := ob_s h
          refine V_cv (As := []) X (Z0 E) ml_Top_251 yq_Top_emptyRow (c_Top_emptyRow E.2.1 G  M x4 hx4 _ (Nat.le_refl _)) kd_0 rfl rfl (by omega) rfl (Nat.le_of_ble_eq_true rfl) d_Top_reach_49 rfl (fun M9 hq => ?_)
          rw [hq]
          refine V_aload_n (n := 1) X d_Top_reach_52 rfl rfl rfl ?_
          refine V_lload_n (n := 0) X d_Top_reach_53 rfl rfl rfl ?_
          obtain ⟨x5, hx5, h⟩ := ob_s h
          refine V_cv (As := [.long x3]) X (Z0 E) ml_Top_308 yq_Top_noteSet (c_Top_noteSet E.2.1 G x3 x4 x5 hx5 _ (Nat.le_refl _)) kd_0 rfl rfl (by omega) rfl (Nat.le_of_ble_eq_true rfl) d_Top_reach_54 rfl (fun M9 hq => ?_)
          rw [hq]
          refine V_lload_n (n := 0) X d_Top_reach_57 rfl rfl rfl ?_
          obtain ⟨x6, hx6, h⟩ := ob_s h
          refine V_si (As := [.long x3]) X (Z0 E) ml_Top_182 yq_JLong_bitCount (c_JLong_bitCount E.2.1 G x3 x5 x6 hx6 _ (Nat.le_refl _)) rfl (by omega) rfl (Nat.le_of_ble_eq_true rfl) d_Top_reach_58 rfl (fun r9 M9 hq => ?_)
          rw [hq.1, hq.2]
          exact V_iret X (kr (x6, x5) (Option.some.inj h).symm) d_Top_reach_61
        · rw [if_pos c7] at h
          refine V_bipush (v := -2) X d_Top_reach_34 (by decide) rfl ?_
          exact V_iret X (kr ((-2 : Int32), M) (Option.some.inj h).symm) d_Top_reach_36
      · rw [if_pos c8] at h
        refine V_iconst (v := -1) X d_Top_reach_20 (by decide) rfl ?_
        exact V_iret X (kr ((-1 : Int32), M) (Option.some.inj h).symm) d_Top_reach_21
def lb_Top_path_74 (v1 : Int32) (v4 : Int32) (s : Int32 × Int32 × Mem) : Option ((Int32 × Int32 × Mem) ⊕ ((Mem))) :=
  if v4 ≤ s.2.1 then
  some (.inr s.2.2)
  else
  if (10 : Int32) ≤ s.2.1 then
  some (.inr s.2.2)
  else
  if s.1 = (-1 : Int32) then
  some (.inr s.2.2)
  else
  Option.bind (f_Nets_stepNearer 32 v1 s.1 155 s.2.2) fun x5 =>
  Option.bind (f_Top_note x5 s.2.2) fun x6 =>
  Option.bind (f_Nets_toward 32 v1 s.1 x5 x6) fun x7 =>
  some (.inl (x7, (s.2.1 + (1 : Int32)), x6))
theorem lb_Top_path_74_ok {E : Ev} {G : Gw} {d : Nat} {post : Int32 → Mem → Prop} (X : Cx E G b_Top_path "WomenByTheRoofs" 8 d (some .int)) (hD : 3 ≤ d)  (v1 : Int32) (v4 : Int32)   (s : Int32 × Int32 × Mem) (o : (Int32 × Int32 × Mem) ⊕ ((Mem))) (h : lb_Top_path_74 v1 v4 s = some o) (kc : ∀ s9 : Int32 × Int32 × Mem, o = .inl s9 → V E (0, 0) G 8 (QI E G post) s9.2.2 74 [(0, .ref (G.2.2 + 0)), (1, .int v1), (4, .int v4), (5, .int s9.1), (6, .int s9.2.1)] []) (kx0 : ∀ x9 : Mem, o = .inr x9 → V E (0, 0) G 8 (QI E G post) x9 139 [(4, .int v4)] []) : V E (0, 0) G 8 (QI E G post) s.2.2 74 [(0, .ref (G.2.2 + 0)), (1, .int v1), (4, .int v4), (5, .int s.1), (6, .int s.2.1)] [] := by
  unfold lb_Top_path_74 at h
  refine V_iload (n := 4) X d_Top_path_74 rfl rfl ?_
  refine V_iload (n := 2) X d_Top_path_76 rfl rfl ?_
  refine V_icmp_ge (tgt := 139) X d_Top_path_78 (by decide) rfl (fun c10 => ?_) (fun c10 => ?_)
  · rw [if_pos c10] at h
    refine V_sub (lv' := [(4, .int v4)]) [2] rfl ?_
    exact kx0 s.2.2 (Option.some.inj h).symm
  · rw [if_neg c10] at h
    refine V_iload (n := 4) X d_Top_path_81 rfl rfl ?_
    refine V_bipush (v := 10) X d_Top_path_83 (by decide) rfl ?_
    refine V_icmp_ge (tgt := 139) X d_Top_path_85 (by decide) rfl (fun c9 => ?_) (fun c9 => ?_)
    · rw [if_pos c9] at h
      refine V_sub (lv' := [(4, .int v4)]) [2] rfl ?_
      exact kx0 s.2.2 (Option.some.inj h).symm
    · rw [if_neg c9] at h
      refine V_iload (n := 3) X d_Top_path_88 rfl rfl ?_
      refine V_iconst (v := -1) X d_Top_path_90 (by decide) rfl ?_
      refine V_icmp_eq (tgt := 139) X d_Top_path_91 (by decide) rfl (fun c8 => ?_) (fun c8 => ?_)
      · rw [if_pos c8] at h
        refine V_sub (lv' := [(4, .int v4)]) [2] rfl ?_
        exact kx0 s.2.2 (Option.some.inj h).symm
      · rw [if_neg c8] at h
        refine V_aload_n (n := 0) X d_Top_path_94 rfl rfl rfl ?_
        refine V_getr (k2 := 32) X fo_Top_46 kd_0 rfl rf_0_6 d_Top_path_95 rfl ?_
        refine V_iload_n (n := 1) X d_Top_path_98 rfl rfl rfl ?_
        refine V_iload (n := 3) X d_Top_path_99 rfl rfl ?_
        refine V_aload_n (n := 0) X d_Top_path_101 rfl rfl rfl ?_
        refine V_getr (k2 := 154) X fo_Top_91 kd_0 rfl rf_0_13 d_Top_path_102 rfl ?_
        refine V_getr (k2 := 155) X fo_Top_312 kd_154 rfl rf_154_0 d_Top_path_105 rfl ?_
        obtain ⟨x5, hx5, h⟩ := ob_s h
        refine V_ci (As := [.int v1, .int s.1, .ref (G.2.2 + 155)]) X (Z0 E) ml_Top_320 yq_Nets_stepNearer (c_Nets_stepNearer E.2.1 G 32 v1 s.1 155 s.2.2 x5 hx5 _ (Nat.le_refl _)) kd_32 rfl rfl (by omega) rfl (Nat.le_of_ble_eq_true rfl) d_Top_path_108 rfl (fun r9 M9 hq => ?_)
        rw [hq.1, hq.2]
        refine V_istore (lv' := [(7, .int x5), (0, .ref (G.2.2 + 0)), (1, .int v1), (4, .int v4), (5, .int s.1), (6, .int s.2.1)]) X d_Top_path_111 (by decide) rfl rfl ?_
        refine V_aload_n (n := 1) X d_Top_path_113 rfl rfl rfl ?_
        refine V_iload (n := 0) X d_Top_path_114 rfl rfl ?_
        obtain ⟨x6, hx6, h⟩ := ob_s h
        refine V_cv (As := [.int x5]) X (Z0 E) ml_Top_257 yq_Top_note (c_Top_note E.2.1 G x5 s.2.2 x6 hx6 _ (Nat.le_refl _)) kd_0 rfl rfl (by omega) rfl (Nat.le_of_ble_eq_true rfl) d_Top_path_116 rfl (fun M9 hq => ?_)
        rw [hq]
        refine V_aload_n (n := 1) X d_Top_path_119 rfl rfl rfl ?_
        refine V_getr (k2 := 32) X fo_Top_46 kd_0 rfl rf_0_6 d_Top_path_120 rfl ?_
        refine V_iload_n (n := 2) X d_Top_path_123 rfl rfl rfl ?_
        refine V_iload (n := 4) X d_Top_path_124 rfl rfl ?_
        refine V_iload (n := 0) X d_Top_path_126 rfl rfl ?_
        obtain ⟨x7, hx7, h⟩ := ob_s h
        refine V_ci (As := [.int v1, .int s.1, .int x5]) X (Z0 E) ml_Top_324 yq_Nets_toward (c_Nets_toward E.2.1 G 32 v1 s.1 x5 x6 x7 hx7 _ (Nat.le_refl _)) kd_32 rfl rfl (by omega) rfl (Nat.le_of_ble_eq_true rfl) d_Top_path_128 rfl (fun r9 M9 hq => ?_)
        rw [hq.1, hq.2]
        refine V_istore (lv' := [(5, .int x7), (7, .int x5), (0, .ref (G.2.2 + 0)), (1, .int v1), (4, .int v4), (6, .int s.2.1)]) X d_Top_path_131 (by decide) rfl rfl ?_
        refine V_iinc (n := 5) (v := (s.2.1 + (1 : Int32))) (lv' := [(6, .int (s.2.1 + (1 : Int32))), (5, .int x7), (7, .int x5), (0, .ref (G.2.2 + 0)), (1, .int v1), (4, .int v4)]) X d_Top_path_133 rfl rfl (by decide) rfl rfl ?_
        refine V_goto (pc' := 74) X d_Top_path_136 (by decide) ?_
        refine V_sub (lv' := [(0, .ref (G.2.2 + 0)), (1, .int v1), (4, .int v4), (5, .int x7), (6, .int (s.2.1 + (1 : Int32)))]) [3, 4, 5, 1, 0] rfl ?_
        exact kc (x7, (s.2.1 + (1 : Int32)), x6) (Option.some.inj h).symm
theorem lp_Top_path_74_ok {E : Ev} {G : Gw} {d : Nat} {post : Int32 → Mem → Prop} (X : Cx E G b_Top_path "WomenByTheRoofs" 8 d (some .int)) (hD : 3 ≤ d)  (v1 : Int32) (v4 : Int32)   (n9 : Nat) (s : Int32 × Int32 × Mem) (x : (Mem)) (h : iter (lb_Top_path_74 v1 v4) n9 s = some x) (kx0 : ∀ x9 : Mem, x = x9 → V E (0, 0) G 8 (QI E G post) x9 139 [(4, .int v4)] []) : V E (0, 0) G 8 (QI E G post) s.2.2 74 [(0, .ref (G.2.2 + 0)), (1, .int v1), (4, .int v4), (5, .int s.1), (6, .int s.2.1)] [] :=
  iter_P (P := fun s : Int32 × Int32 × Mem => V E (0, 0) G 8 (QI E G post) s.2.2 74 [(0, .ref (G.2.2 + 0)), (1, .int v1), (4, .int v4), (5, .int s.1), (6, .int s.2.1)] []) (fun s o hb kc ky => lb_Top_path_74_ok X hD v1 v4 s o hb kc (fun x9 e9 => kx0 x9 (ky _ e9).symm)) n9 s h
def f_Top_path (v1 : Int32) (v2 : Int32) (v3 : Int32) (M : Mem) : Option (Int32 × Mem) :=
  Option.bind (f_Ground_holds v1 v2 M) fun x1 =>
  if x1 = 0 then
  some ((-1 : Int32), M)
  else
  Option.bind (f_Ground_holds v1 v3 M) fun x2 =>
  if x2 = 0 then
  some ((-1 : Int32), M)
  else
  Option.bind (f_Nets_measure 32 v1 v3 155 M) fun x3 =>
  if inb v2 36 = true then
  if (x3.1 155 v2.toNatClampNeg) < (1000000 : Int32) then
  Option.bind (f_Top_emptyRow x3) fun x4 =>
  Option.bind (iter (lb_Top_path_74 v1 (x3.1 155 v2.toNatClampNeg)) FU (v2, (0 : Int32), x4)) fun x11 =>
  some ((x3.1 155 v2.toNatClampNeg), x11)
  else
  some ((-2 : Int32), x3)
  else none
theorem c_Top_path (l : Launch) (G : Gw)  (v1 : Int32) (v2 : Int32) (v3 : Int32) (M : Mem) (x : Int32 × Mem) (h : f_Top_path v1 v2 v3 M = some x) (d : Nat) (hD : 3 ≤ d) : Ci l G y_Top_path b_Top_path 8 (some .int) d [.ref (G.2.2 + 0), .int v1, .int v2, .int v3] M (fun r9 M9 => r9 = x.1 ∧ M9 = x.2) := by
  refine Ci_of (by decide) (Nat.le_of_ble_eq_true rfl) (fun E hE X => ?_)
  subst hE
  have kr : ∀ x9 : Int32 × Mem, x = x9 → (fun r9 M9 => r9 = x.1 ∧ M9 = x.2) x9.1 x9.2 := fun x9 e9 => by subst e9; exact ⟨rfl, rfl⟩
  unfold f_Top_path at h
  refine V_aload_n (n := 0) X d_Top_path_0 rfl rfl rfl ?_
  refine V_getr (k2 := 3) X fo_Top_19 kd_0 rfl rf_0_1 d_Top_path_1 rfl ?_
  refine V_iload_n (n := 1) X d_Top_path_4 rfl rfl rfl ?_
  refine V_iload_n (n := 2) X d_Top_path_5 rfl rfl rfl ?_
  obtain ⟨x1, hx1, h⟩ := ob_s h
  refine V_ci (As := [.int v1, .int v2]) X (Z0 E) ml_Top_305 yq_Ground_holds (c_Ground_holds E.2.1 G v1 v2 M x1 hx1 _ (Nat.le_refl _)) kd_3 rfl rfl (by omega) rfl (Nat.le_of_ble_eq_true rfl) d_Top_path_6 rfl (fun r9 M9 hq => ?_)
  rw [hq.1, hq.2]
  refine V_if_eq (tgt := 24) X d_Top_path_9 (by decide) rfl (fun c14 => ?_) (fun c14 => ?_)
  · rw [if_pos c14] at h
    refine V_iconst (v := -1) X d_Top_path_24 (by decide) rfl ?_
    exact V_iret X (kr ((-1 : Int32), M) (Option.some.inj h).symm) d_Top_path_25
  · rw [if_neg c14] at h
    refine V_aload_n (n := 0) X d_Top_path_12 rfl rfl rfl ?_
    refine V_getr (k2 := 3) X fo_Top_19 kd_0 rfl rf_0_1 d_Top_path_13 rfl ?_
    refine V_iload_n (n := 1) X d_Top_path_16 rfl rfl rfl ?_
    refine V_iload_n (n := 3) X d_Top_path_17 rfl rfl rfl ?_
    obtain ⟨x2, hx2, h⟩ := ob_s h
    refine V_ci (As := [.int v1, .int v3]) X (Z0 E) ml_Top_305 yq_Ground_holds (c_Ground_holds E.2.1 G v1 v3 M x2 hx2 _ (Nat.le_refl _)) kd_3 rfl rfl (by omega) rfl (Nat.le_of_ble_eq_true rfl) d_Top_path_18 rfl (fun r9 M9 hq => ?_)
    rw [hq.1, hq.2]
    refine V_if_ne (tgt := 26) X d_Top_path_21 (by decide) rfl (fun c13 => ?_) (fun c13 => ?_)
    · rw [if_neg c13] at h
      refine V_aload_n (n := 0) X d_Top_path_26 rfl rfl rfl ?_
      refine V_getr (k2 := 32) X fo_Top_46 kd_0 rfl rf_0_6 d_Top_path_27 rfl ?_
      refine V_iload_n (n := 1) X d_Top_path_30 rfl rfl rfl ?_
      refine V_iload_n (n := 3) X d_Top_path_31 rfl rfl rfl ?_
      refine V_aload_n (n := 0) X d_Top_path_32 rfl rfl rfl ?_
      refine V_getr (k2 := 154) X fo_Top_91 kd_0 rfl rf_0_13 d_Top_path_33 rfl ?_
      refine V_getr (k2 := 155) X fo_Top_312 kd_154 rfl rf_154_0 d_Top_path_36 rfl ?_
      obtain ⟨x3, hx3, h⟩ := ob_s h
      refine V_cv (As := [.int v1, .int v3, .ref (G.2.2 + 155)]) X (Z0 E) ml_Top_315 yq_Nets_measure (c_Nets_measure E.2.1 G 32 v1 v3 155 M x3 hx3 _ (Nat.le_refl _)) kd_32 rfl rfl (by omega) rfl (Nat.le_of_ble_eq_true rfl) d_Top_path_39 rfl (fun M9 hq => ?_)
      rw [hq]
      refine V_aload_n (n := 0) X d_Top_path_42 rfl rfl rfl ?_
      refine V_getr (k2 := 154) X fo_Top_91 kd_0 rfl rf_0_13 d_Top_path_43 rfl ?_
      refine V_getr (k2 := 155) X fo_Top_312 kd_154 rfl rf_154_0 d_Top_path_46 rfl ?_
      refine V_iload_n (n := 2) X d_Top_path_49 rfl rfl rfl ?_
      obtain ⟨hb, h⟩ := ifn h
      refine V_iald X kd_155 (inb_in ln_155 hb) d_Top_path_50 rfl ?_
      refine V_istore (lv' := [(4, .int (x3.1 155 v2.toNatClampNeg)), (0, .ref (G.2.2 + 0)), (1, .int v1), (2, .int v2), (3, .int v3)]) X d_Top_path_51 (by decide) rfl rfl ?_
      refine V_iload (n := 0) X d_Top_path_53 rfl rfl ?_
      refine V_ldc_w (v := 1000000) X d_Top_path_55 kc_Top_319 rfl ?_
      refine V_icmp_lt (tgt := 64) X d_Top_path_58 (by decide) rfl (fun c12 => ?_) (fun c12 => ?_)
      · rw [if_pos c12] at h
        refine V_aload_n (n := 1) X d_Top_path_64 rfl rfl rfl ?_
        obtain ⟨x4, hx4, h⟩ := ob_s h
        refine V_cv (As := []) X (Z0 E) ml_Top_251 yq_Top_emptyRow (c_Top_emptyRow E.2.1 G  x3 x4 hx4 _ (Nat.le_refl _)) kd_0 rfl rfl (by omega) rfl (Nat.le_of_ble_eq_true rfl) d_Top_path_65 rfl (fun M9 hq => ?_)
        rw [hq]
        refine V_iload_n (n := 3) X d_Top_path_68 rfl rfl rfl ?_
        refine V_istore (lv' := [(5, .int v2), (4, .int (x3.1 155 v2.toNatClampNeg)), (0, .ref (G.2.2 + 0)), (1, .int v1), (2, .int v2), (3, .int v3)]) X d_Top_path_69 (by decide) rfl rfl ?_
        refine V_iconst (v := 0) X d_Top_path_71 (by decide) rfl ?_
        refine V_istore (lv' := [(6, .int (0 : Int32)), (5, .int v2), (4, .int (x3.1 155 v2.toNatClampNeg)), (0, .ref (G.2.2 + 0)), (1, .int v1), (2, .int v2), (3, .int v3)]) X d_Top_path_72 (by decide) rfl rfl ?_
        refine V_sub (lv' := [(0, .ref (G.2.2 + 0)), (1, .int v1), (4, .int (x3.1 155 v2.toNatClampNeg)), (5, .int v2), (6, .int (0 : Int32))]) [3, 4, 2, 1, 0] rfl ?_
        obtain ⟨x11, hx11, h⟩ := ob_s h
        refine (lp_Top_path_74_ok X hD v1 (x3.1 155 v2.toNatClampNeg) _ _ _ hx11 (fun x9 e9 => ?_) :)
        subst e9
        refine V_iload (n := 0) X d_Top_path_139 rfl rfl ?_
        exact V_iret X (kr ((x3.1 155 v2.toNatClampNeg), x11) (Option.some.inj h).symm) d_Top_path_141
      · rw [if_neg c12] at h
        refine V_bipush (v := -2) X d_Top_path_61 (by decide) rfl ?_
        exact V_iret X (kr ((-2 : Int32), x3) (Option.some.inj h).symm) d_Top_path_63
    · rw [if_pos c13] at h
      refine V_iconst (v := -1) X d_Top_path_24 (by decide) rfl ?_
      exact V_iret X (kr ((-1 : Int32), M) (Option.some.inj h).symm) d_Top_path_25
def f_Top_both (v1 : Int32) (v2 : Int32) (v3 : Int32) (v4 : Int32) (M : Mem) : Option (Int32 × Mem) :=
  Option.bind (f_Ground_holds v1 v2 M) fun x1 =>
  if x1 = 0 then
  some ((-1 : Int32), M)
  else
  Option.bind (f_Ground_holds v3 v4 M) fun x2 =>
  if x2 = 0 then
  some ((-1 : Int32), M)
  else
  Option.bind (f_Ways_acrossLevels 32 ((v1 * (36 : Int32)) + v2) ((v3 * (36 : Int32)) + v4) M) fun x3 =>
  if x3.1 < (1000000 : Int32) then
  Option.bind (f_Top_emptyRow x3.2) fun x4 =>
  Option.bind (f_Top_note (x3.1 - x3.1 / (100 : Int32) * (100 : Int32)) x4) fun x5 =>
  some ((x3.1 / (100 : Int32)), x5)
  else
  some ((-2 : Int32), x3.2)
theorem c_Top_both (l : Launch) (G : Gw)  (v1 : Int32) (v2 : Int32) (v3 : Int32) (v4 : Int32) (M : Mem) (x : Int32 × Mem) (h : f_Top_both v1 v2 v3 v4 M = some x) (d : Nat) (hD : 4 ≤ d) : Ci l G y_Top_both b_Top_both 6 (some .int) d [.ref (G.2.2 + 0), .int v1, .int v2, .int v3, .int v4] M (fun r9 M9 => r9 = x.1 ∧ M9 = x.2) := by
  refine Ci_of (by decide) (Nat.le_of_ble_eq_true rfl) (fun E hE X => ?_)
  subst hE
  have kr : ∀ x9 : Int32 × Mem, x = x9 → (fun r9 M9 => r9 = x.1 ∧ M9 = x.2) x9.1 x9.2 := fun x9 e9 => by subst e9; exact ⟨rfl, rfl⟩
  unfold f_Top_both at h
  refine V_aload_n (n := 0) X d_Top_both_0 rfl rfl rfl ?_
  refine V_getr (k2 := 3) X fo_Top_19 kd_0 rfl rf_0_1 d_Top_both_1 rfl ?_
  refine V_iload_n (n := 1) X d_Top_both_4 rfl rfl rfl ?_
  refine V_iload_n (n := 2) X d_Top_both_5 rfl rfl rfl ?_
  obtain ⟨x1, hx1, h⟩ := ob_s h
  refine V_ci (As := [.int v1, .int v2]) X (Z0 E) ml_Top_305 yq_Ground_holds (c_Ground_holds E.2.1 G v1 v2 M x1 hx1 _ (Nat.le_refl _)) kd_3 rfl rfl (by omega) rfl (Nat.le_of_ble_eq_true rfl) d_Top_both_6 rfl (fun r9 M9 hq => ?_)
  rw [hq.1, hq.2]
  refine V_if_eq (tgt := 25) X d_Top_both_9 (by decide) rfl (fun c8 => ?_) (fun c8 => ?_)
  · rw [if_pos c8] at h
    refine V_iconst (v := -1) X d_Top_both_25 (by decide) rfl ?_
    exact V_iret X (kr ((-1 : Int32), M) (Option.some.inj h).symm) d_Top_both_26
  · rw [if_neg c8] at h
    refine V_aload_n (n := 0) X d_Top_both_12 rfl rfl rfl ?_
    refine V_getr (k2 := 3) X fo_Top_19 kd_0 rfl rf_0_1 d_Top_both_13 rfl ?_
    refine V_iload_n (n := 3) X d_Top_both_16 rfl rfl rfl ?_
    refine V_iload (n := 4) X d_Top_both_17 rfl rfl ?_
    obtain ⟨x2, hx2, h⟩ := ob_s h
    refine V_ci (As := [.int v3, .int v4]) X (Z0 E) ml_Top_305 yq_Ground_holds (c_Ground_holds E.2.1 G v3 v4 M x2 hx2 _ (Nat.le_refl _)) kd_3 rfl rfl (by omega) rfl (Nat.le_of_ble_eq_true rfl) d_Top_both_19 rfl (fun r9 M9 hq => ?_)
    rw [hq.1, hq.2]
    refine V_if_ne (tgt := 27) X d_Top_both_22 (by decide) rfl (fun c7 => ?_) (fun c7 => ?_)
    · rw [if_neg c7] at h
      refine V_aload_n (n := 0) X d_Top_both_27 rfl rfl rfl ?_
      refine V_getr (k2 := 154) X fo_Top_91 kd_0 rfl rf_0_13 d_Top_both_28 rfl ?_
      refine V_aload_n (n := 0) X d_Top_both_31 rfl rfl rfl ?_
      refine V_getr (k2 := 32) X fo_Top_46 kd_0 rfl rf_0_6 d_Top_both_32 rfl ?_
      refine V_iload_n (n := 1) X d_Top_both_35 rfl rfl rfl ?_
      refine V_bipush (v := 36) X d_Top_both_36 (by decide) rfl ?_
      refine V_imul X d_Top_both_38 rfl ?_
      refine V_iload_n (n := 2) X d_Top_both_39 rfl rfl rfl ?_
      refine V_iadd X d_Top_both_40 rfl ?_
      refine V_iload_n (n := 3) X d_Top_both_41 rfl rfl rfl ?_
      refine V_bipush (v := 36) X d_Top_both_42 (by decide) rfl ?_
      refine V_imul X d_Top_both_44 rfl ?_
      refine V_iload (n := 4) X d_Top_both_45 rfl rfl ?_
      refine V_iadd X d_Top_both_47 rfl ?_
      obtain ⟨x3, hx3, h⟩ := ob_s h
      refine V_ci (As := [.ref (G.2.2 + 32), .int ((v1 * (36 : Int32)) + v2), .int ((v3 * (36 : Int32)) + v4)]) X (Z0 E) ml_Top_327 yq_Ways_acrossLevels (c_Ways_acrossLevels E.2.1 G 32 ((v1 * (36 : Int32)) + v2) ((v3 * (36 : Int32)) + v4) M x3 hx3 _ (Nat.le_refl _)) kd_154 rfl rfl (by omega) rfl (Nat.le_of_ble_eq_true rfl) d_Top_both_48 rfl (fun r9 M9 hq => ?_)
      rw [hq.1, hq.2]
      refine V_istore (lv' := [(5, .int x3.1), (0, .ref (G.2.2 + 0)), (1, .int v1), (2, .int v2), (3, .int v3), (4, .int v4)]) X d_Top_both_51 (by decide) rfl rfl ?_
      refine V_iload (n := 0) X d_Top_both_53 rfl rfl ?_
      refine V_ldc_w (v := 1000000) X d_Top_both_55 kc_Top_319 rfl ?_
      refine V_icmp_lt (tgt := 64) X d_Top_both_58 (by decide) rfl (fun c6 => ?_) (fun c6 => ?_)
      · rw [if_pos c6] at h
        refine V_aload_n (n := 1) X d_Top_both_64 rfl rfl rfl ?_
        obtain ⟨x4, hx4, h⟩ := ob_s h
        refine V_cv (As := []) X (Z0 E) ml_Top_251 yq_Top_emptyRow (c_Top_emptyRow E.2.1 G  x3.2 x4 hx4 _ (Nat.le_refl _)) kd_0 rfl rfl (by omega) rfl (Nat.le_of_ble_eq_true rfl) d_Top_both_65 rfl (fun M9 hq => ?_)
        rw [hq]
        refine V_aload_n (n := 1) X d_Top_both_68 rfl rfl rfl ?_
        refine V_iload (n := 0) X d_Top_both_69 rfl rfl ?_
        refine V_bipush (v := 100) X d_Top_both_71 (by decide) rfl ?_
        refine V_irem X d_Top_both_73 (by decide) rfl ?_
        obtain ⟨x5, hx5, h⟩ := ob_s h
        refine V_cv (As := [.int (x3.1 - x3.1 / (100 : Int32) * (100 : Int32))]) X (Z0 E) ml_Top_257 yq_Top_note (c_Top_note E.2.1 G (x3.1 - x3.1 / (100 : Int32) * (100 : Int32)) x4 x5 hx5 _ (Nat.le_refl _)) kd_0 rfl rfl (by omega) rfl (Nat.le_of_ble_eq_true rfl) d_Top_both_74 rfl (fun M9 hq => ?_)
        rw [hq]
        refine V_iload (n := 0) X d_Top_both_77 rfl rfl ?_
        refine V_bipush (v := 100) X d_Top_both_79 (by decide) rfl ?_
        refine V_idiv X d_Top_both_81 (by decide) rfl ?_
        exact V_iret X (kr ((x3.1 / (100 : Int32)), x5) (Option.some.inj h).symm) d_Top_both_82
      · rw [if_neg c6] at h
        refine V_bipush (v := -2) X d_Top_both_61 (by decide) rfl ?_
        exact V_iret X (kr ((-2 : Int32), x3.2) (Option.some.inj h).symm) d_Top_both_63
    · rw [if_pos c7] at h
      refine V_iconst (v := -1) X d_Top_both_25 (by decide) rfl ?_
      exact V_iret X (kr ((-1 : Int32), M) (Option.some.inj h).symm) d_Top_both_26
