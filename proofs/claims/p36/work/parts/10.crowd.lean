theorem d_Crowd_clear_0 : decode b_Crowd_clear 0 = .ok (.aload_n 0, 1) := kq_42 byq_r (by decide +kernel)
theorem d_Crowd_clear_1 : decode b_Crowd_clear 1 = .ok (.iconst 0, 1) := kq_3 byq_r (by decide +kernel)
theorem d_Crowd_clear_2 : decode b_Crowd_clear 2 = .ok (.putfield 24, 3) := kq_181 byq_r (a := 0) (b := 24) (by decide +kernel)
theorem d_Crowd_clear_5 : decode b_Crowd_clear 5 = .ok (.aload_n 0, 1) := kq_42 byq_r (by decide +kernel)
theorem d_Crowd_clear_6 : decode b_Crowd_clear 6 = .ok (.iconst 0, 1) := kq_3 byq_r (by decide +kernel)
theorem d_Crowd_clear_7 : decode b_Crowd_clear 7 = .ok (.putfield 28, 3) := kq_181 byq_r (a := 0) (b := 28) (by decide +kernel)
theorem d_Crowd_clear_10 : decode b_Crowd_clear 10 = .ok (.return_, 1) := kq_177 byq_r (by decide +kernel)
theorem d_Crowd_isCutOff_0 : decode b_Crowd_isCutOff 0 = .ok (.iload 4, 2) := kq_21 byq_r (by decide +kernel)
theorem d_Crowd_isCutOff_2 : decode b_Crowd_isCutOff 2 = .ok (.iconst 1, 1) := kq_4 byq_r (by decide +kernel)
theorem d_Crowd_isCutOff_3 : decode b_Crowd_isCutOff 3 = .ok (.if_icmp .ne 18, 3) := kq_160 byq_r (a := 0) (b := 18) (by decide +kernel)
theorem d_Crowd_isCutOff_6 : decode b_Crowd_isCutOff 6 = .ok (.iload_n 3, 1) := kq_29 byq_r (by decide +kernel)
theorem d_Crowd_isCutOff_7 : decode b_Crowd_isCutOff 7 = .ok (.bipush 76, 2) := kq_16 byq_r (b := 76) (by decide +kernel)
theorem d_Crowd_isCutOff_9 : decode b_Crowd_isCutOff 9 = .ok (.if_icmp .ne 12, 3) := kq_160 byq_r (a := 0) (b := 12) (by decide +kernel)
theorem d_Crowd_isCutOff_12 : decode b_Crowd_isCutOff 12 = .ok (.aload_n 0, 1) := kq_42 byq_r (by decide +kernel)
theorem d_Crowd_isCutOff_13 : decode b_Crowd_isCutOff 13 = .ok (.getfield 44, 3) := kq_180 byq_r (a := 0) (b := 44) (by decide +kernel)
theorem d_Crowd_isCutOff_16 : decode b_Crowd_isCutOff 16 = .ok (.bipush 76, 2) := kq_16 byq_r (b := 76) (by decide +kernel)
theorem d_Crowd_isCutOff_18 : decode b_Crowd_isCutOff 18 = .ok (.if_icmp .gt 5, 3) := kq_163 byq_r (a := 0) (b := 5) (by decide +kernel)
theorem d_Crowd_isCutOff_21 : decode b_Crowd_isCutOff 21 = .ok (.iconst 0, 1) := kq_3 byq_r (by decide +kernel)
theorem d_Crowd_isCutOff_22 : decode b_Crowd_isCutOff 22 = .ok (.ireturn, 1) := kq_172 byq_r (by decide +kernel)
theorem d_Crowd_isCutOff_23 : decode b_Crowd_isCutOff 23 = .ok (.iconst 0, 1) := kq_3 byq_r (by decide +kernel)
theorem d_Crowd_isCutOff_24 : decode b_Crowd_isCutOff 24 = .ok (.istore 5, 2) := kq_54 byq_r (by decide +kernel)
theorem d_Crowd_isCutOff_26 : decode b_Crowd_isCutOff 26 = .ok (.iload 5, 2) := kq_21 byq_r (by decide +kernel)
theorem d_Crowd_isCutOff_28 : decode b_Crowd_isCutOff 28 = .ok (.bipush 10, 2) := kq_16 byq_r (b := 10) (by decide +kernel)
theorem d_Crowd_isCutOff_30 : decode b_Crowd_isCutOff 30 = .ok (.if_icmp .ge 29, 3) := kq_162 byq_r (a := 0) (b := 29) (by decide +kernel)
theorem d_Crowd_isCutOff_33 : decode b_Crowd_isCutOff 33 = .ok (.aload_n 1, 1) := kq_43 byq_r (by decide +kernel)
theorem d_Crowd_isCutOff_34 : decode b_Crowd_isCutOff 34 = .ok (.iload_n 2, 1) := kq_28 byq_r (by decide +kernel)
theorem d_Crowd_isCutOff_35 : decode b_Crowd_isCutOff 35 = .ok (.aload_n 0, 1) := kq_42 byq_r (by decide +kernel)
theorem d_Crowd_isCutOff_36 : decode b_Crowd_isCutOff 36 = .ok (.getfield 63, 3) := kq_180 byq_r (a := 0) (b := 63) (by decide +kernel)
theorem d_Crowd_isCutOff_39 : decode b_Crowd_isCutOff 39 = .ok (.bipush 10, 2) := kq_16 byq_r (b := 10) (by decide +kernel)
theorem d_Crowd_isCutOff_41 : decode b_Crowd_isCutOff 41 = .ok (.imul, 1) := kq_104 byq_r (by decide +kernel)
theorem d_Crowd_isCutOff_42 : decode b_Crowd_isCutOff 42 = .ok (.iload 5, 2) := kq_21 byq_r (by decide +kernel)
theorem d_Crowd_isCutOff_44 : decode b_Crowd_isCutOff 44 = .ok (.iadd, 1) := kq_96 byq_r (by decide +kernel)
theorem d_Crowd_isCutOff_45 : decode b_Crowd_isCutOff 45 = .ok (.invokevirtual 66, 3) := kq_182 byq_r (a := 0) (b := 66) (by decide +kernel)
theorem d_Crowd_isCutOff_48 : decode b_Crowd_isCutOff 48 = .ok (.ifCond .eq 5, 3) := kq_153 byq_r (a := 0) (b := 5) (by decide +kernel)
theorem d_Crowd_isCutOff_51 : decode b_Crowd_isCutOff 51 = .ok (.iconst 1, 1) := kq_4 byq_r (by decide +kernel)
theorem d_Crowd_isCutOff_52 : decode b_Crowd_isCutOff 52 = .ok (.ireturn, 1) := kq_172 byq_r (by decide +kernel)
theorem d_Crowd_isCutOff_53 : decode b_Crowd_isCutOff 53 = .ok (.iinc 5 1, 3) := kq_132 byq_r (b := 1) (by decide +kernel)
theorem d_Crowd_isCutOff_56 : decode b_Crowd_isCutOff 56 = .ok (.goto (-30), 3) := kq_167 byq_r (a := 255) (b := 226) (by decide +kernel)
theorem d_Crowd_isCutOff_59 : decode b_Crowd_isCutOff 59 = .ok (.iconst 0, 1) := kq_3 byq_r (by decide +kernel)
theorem d_Crowd_isCutOff_60 : decode b_Crowd_isCutOff 60 = .ok (.ireturn, 1) := kq_172 byq_r (by decide +kernel)
theorem d_Crowd_readLine_0 : decode b_Crowd_readLine 0 = .ok (.aload_n 1, 1) := kq_43 byq_r (by decide +kernel)
theorem d_Crowd_readLine_1 : decode b_Crowd_readLine 1 = .ok (.iload 4, 2) := kq_21 byq_r (by decide +kernel)
theorem d_Crowd_readLine_3 : decode b_Crowd_readLine 3 = .ok (.bipush 76, 2) := kq_16 byq_r (b := 76) (by decide +kernel)
theorem d_Crowd_readLine_5 : decode b_Crowd_readLine 5 = .ok (.invokevirtual 56, 3) := kq_182 byq_r (a := 0) (b := 56) (by decide +kernel)
theorem d_Crowd_readLine_8 : decode b_Crowd_readLine 8 = .ok (.istore 5, 2) := kq_54 byq_r (by decide +kernel)
theorem d_Crowd_readLine_10 : decode b_Crowd_readLine 10 = .ok (.iload_n 3, 1) := kq_29 byq_r (by decide +kernel)
theorem d_Crowd_readLine_11 : decode b_Crowd_readLine 11 = .ok (.ifCond .lt 23, 3) := kq_155 byq_r (a := 0) (b := 23) (by decide +kernel)
theorem d_Crowd_readLine_14 : decode b_Crowd_readLine 14 = .ok (.iload_n 3, 1) := kq_29 byq_r (by decide +kernel)
theorem d_Crowd_readLine_15 : decode b_Crowd_readLine 15 = .ok (.bipush 8, 2) := kq_16 byq_r (b := 8) (by decide +kernel)
theorem d_Crowd_readLine_17 : decode b_Crowd_readLine 17 = .ok (.if_icmp .ge 17, 3) := kq_162 byq_r (a := 0) (b := 17) (by decide +kernel)
theorem d_Crowd_readLine_20 : decode b_Crowd_readLine 20 = .ok (.iload 5, 2) := kq_21 byq_r (by decide +kernel)
theorem d_Crowd_readLine_22 : decode b_Crowd_readLine 22 = .ok (.bipush 109, 2) := kq_16 byq_r (b := 109) (by decide +kernel)
theorem d_Crowd_readLine_24 : decode b_Crowd_readLine 24 = .ok (.if_icmp .eq 15, 3) := kq_159 byq_r (a := 0) (b := 15) (by decide +kernel)
theorem d_Crowd_readLine_27 : decode b_Crowd_readLine 27 = .ok (.iload 5, 2) := kq_21 byq_r (by decide +kernel)
theorem d_Crowd_readLine_29 : decode b_Crowd_readLine 29 = .ok (.bipush 119, 2) := kq_16 byq_r (b := 119) (by decide +kernel)
theorem d_Crowd_readLine_31 : decode b_Crowd_readLine 31 = .ok (.if_icmp .eq 8, 3) := kq_159 byq_r (a := 0) (b := 8) (by decide +kernel)
theorem d_Crowd_readLine_34 : decode b_Crowd_readLine 34 = .ok (.iconst (-1), 1) := kq_2 byq_r (by decide +kernel)
theorem d_Crowd_readLine_35 : decode b_Crowd_readLine 35 = .ok (.iload 4, 2) := kq_21 byq_r (by decide +kernel)
theorem d_Crowd_readLine_37 : decode b_Crowd_readLine 37 = .ok (.isub, 1) := kq_100 byq_r (by decide +kernel)
theorem d_Crowd_readLine_38 : decode b_Crowd_readLine 38 = .ok (.ireturn, 1) := kq_172 byq_r (by decide +kernel)
theorem d_Crowd_readLine_39 : decode b_Crowd_readLine 39 = .ok (.iload 5, 2) := kq_21 byq_r (by decide +kernel)
theorem d_Crowd_readLine_41 : decode b_Crowd_readLine 41 = .ok (.bipush 119, 2) := kq_16 byq_r (b := 119) (by decide +kernel)
theorem d_Crowd_readLine_43 : decode b_Crowd_readLine 43 = .ok (.if_icmp .ne 7, 3) := kq_160 byq_r (a := 0) (b := 7) (by decide +kernel)
theorem d_Crowd_readLine_46 : decode b_Crowd_readLine 46 = .ok (.iconst 1, 1) := kq_4 byq_r (by decide +kernel)
theorem d_Crowd_readLine_47 : decode b_Crowd_readLine 47 = .ok (.goto 4, 3) := kq_167 byq_r (a := 0) (b := 4) (by decide +kernel)
theorem d_Crowd_readLine_50 : decode b_Crowd_readLine 50 = .ok (.iconst 0, 1) := kq_3 byq_r (by decide +kernel)
theorem d_Crowd_readLine_51 : decode b_Crowd_readLine 51 = .ok (.istore 6, 2) := kq_54 byq_r (by decide +kernel)
theorem d_Crowd_readLine_53 : decode b_Crowd_readLine 53 = .ok (.aload_n 1, 1) := kq_43 byq_r (by decide +kernel)
theorem d_Crowd_readLine_54 : decode b_Crowd_readLine 54 = .ok (.iload 4, 2) := kq_21 byq_r (by decide +kernel)
theorem d_Crowd_readLine_56 : decode b_Crowd_readLine 56 = .ok (.iconst 1, 1) := kq_4 byq_r (by decide +kernel)
theorem d_Crowd_readLine_57 : decode b_Crowd_readLine 57 = .ok (.iadd, 1) := kq_96 byq_r (by decide +kernel)
theorem d_Crowd_readLine_58 : decode b_Crowd_readLine 58 = .ok (.bipush 76, 2) := kq_16 byq_r (b := 76) (by decide +kernel)
theorem d_Crowd_readLine_60 : decode b_Crowd_readLine 60 = .ok (.iconst 2, 1) := kq_5 byq_r (by decide +kernel)
theorem d_Crowd_readLine_61 : decode b_Crowd_readLine 61 = .ok (.invokevirtual 59, 3) := kq_182 byq_r (a := 0) (b := 59) (by decide +kernel)
theorem d_Crowd_readLine_64 : decode b_Crowd_readLine 64 = .ok (.istore 7, 2) := kq_54 byq_r (by decide +kernel)
theorem d_Crowd_readLine_66 : decode b_Crowd_readLine 66 = .ok (.iload 4, 2) := kq_21 byq_r (by decide +kernel)
theorem d_Crowd_readLine_68 : decode b_Crowd_readLine 68 = .ok (.iconst 1, 1) := kq_4 byq_r (by decide +kernel)
theorem d_Crowd_readLine_69 : decode b_Crowd_readLine 69 = .ok (.iadd, 1) := kq_96 byq_r (by decide +kernel)
theorem d_Crowd_readLine_70 : decode b_Crowd_readLine 70 = .ok (.iload 7, 2) := kq_21 byq_r (by decide +kernel)
theorem d_Crowd_readLine_72 : decode b_Crowd_readLine 72 = .ok (.iadd, 1) := kq_96 byq_r (by decide +kernel)
theorem d_Crowd_readLine_73 : decode b_Crowd_readLine 73 = .ok (.istore 8, 2) := kq_54 byq_r (by decide +kernel)
theorem d_Crowd_readLine_75 : decode b_Crowd_readLine 75 = .ok (.iload 7, 2) := kq_21 byq_r (by decide +kernel)
theorem d_Crowd_readLine_77 : decode b_Crowd_readLine 77 = .ok (.ifCond .ne 8, 3) := kq_154 byq_r (a := 0) (b := 8) (by decide +kernel)
theorem d_Crowd_readLine_80 : decode b_Crowd_readLine 80 = .ok (.iconst (-1), 1) := kq_2 byq_r (by decide +kernel)
theorem d_Crowd_readLine_81 : decode b_Crowd_readLine 81 = .ok (.iload 8, 2) := kq_21 byq_r (by decide +kernel)
theorem d_Crowd_readLine_83 : decode b_Crowd_readLine 83 = .ok (.isub, 1) := kq_100 byq_r (by decide +kernel)
theorem d_Crowd_readLine_84 : decode b_Crowd_readLine 84 = .ok (.ireturn, 1) := kq_172 byq_r (by decide +kernel)
theorem d_Crowd_readLine_85 : decode b_Crowd_readLine 85 = .ok (.aload_n 2, 1) := kq_44 byq_r (by decide +kernel)
theorem d_Crowd_readLine_86 : decode b_Crowd_readLine 86 = .ok (.iload 6, 2) := kq_21 byq_r (by decide +kernel)
theorem d_Crowd_readLine_88 : decode b_Crowd_readLine 88 = .ok (.aload_n 1, 1) := kq_43 byq_r (by decide +kernel)
theorem d_Crowd_readLine_89 : decode b_Crowd_readLine 89 = .ok (.getfield 63, 3) := kq_180 byq_r (a := 0) (b := 63) (by decide +kernel)
theorem d_Crowd_readLine_92 : decode b_Crowd_readLine 92 = .ok (.invokevirtual 66, 3) := kq_182 byq_r (a := 0) (b := 66) (by decide +kernel)
theorem d_Crowd_readLine_95 : decode b_Crowd_readLine 95 = .ok (.ifCond .ne 28, 3) := kq_154 byq_r (a := 0) (b := 28) (by decide +kernel)
theorem d_Crowd_readLine_98 : decode b_Crowd_readLine 98 = .ok (.aload_n 1, 1) := kq_43 byq_r (by decide +kernel)
theorem d_Crowd_readLine_99 : decode b_Crowd_readLine 99 = .ok (.aload_n 2, 1) := kq_44 byq_r (by decide +kernel)
theorem d_Crowd_readLine_100 : decode b_Crowd_readLine 100 = .ok (.iload 6, 2) := kq_21 byq_r (by decide +kernel)
theorem d_Crowd_readLine_102 : decode b_Crowd_readLine 102 = .ok (.iload 8, 2) := kq_21 byq_r (by decide +kernel)
theorem d_Crowd_readLine_104 : decode b_Crowd_readLine 104 = .ok (.iload 7, 2) := kq_21 byq_r (by decide +kernel)
theorem d_Crowd_readLine_106 : decode b_Crowd_readLine 106 = .ok (.invokestatic 72, 3) := kq_184 byq_r (a := 0) (b := 72) (by decide +kernel)
theorem d_Crowd_readLine_109 : decode b_Crowd_readLine 109 = .ok (.ifCond .eq 10, 3) := kq_153 byq_r (a := 0) (b := 10) (by decide +kernel)
theorem d_Crowd_readLine_112 : decode b_Crowd_readLine 112 = .ok (.iconst (-1), 1) := kq_2 byq_r (by decide +kernel)
theorem d_Crowd_readLine_113 : decode b_Crowd_readLine 113 = .ok (.iload 8, 2) := kq_21 byq_r (by decide +kernel)
theorem d_Crowd_readLine_115 : decode b_Crowd_readLine 115 = .ok (.isub, 1) := kq_100 byq_r (by decide +kernel)
theorem d_Crowd_readLine_116 : decode b_Crowd_readLine 116 = .ok (.goto 6, 3) := kq_167 byq_r (a := 0) (b := 6) (by decide +kernel)
theorem d_Crowd_readLine_119 : decode b_Crowd_readLine 119 = .ok (.iload 8, 2) := kq_21 byq_r (by decide +kernel)
theorem d_Crowd_readLine_121 : decode b_Crowd_readLine 121 = .ok (.ineg, 1) := kq_116 byq_r (by decide +kernel)
theorem d_Crowd_readLine_122 : decode b_Crowd_readLine 122 = .ok (.ireturn, 1) := kq_172 byq_r (by decide +kernel)
theorem d_Crowd_readLine_123 : decode b_Crowd_readLine 123 = .ok (.aload_n 1, 1) := kq_43 byq_r (by decide +kernel)
theorem d_Crowd_readLine_124 : decode b_Crowd_readLine 124 = .ok (.iload 8, 2) := kq_21 byq_r (by decide +kernel)
theorem d_Crowd_readLine_126 : decode b_Crowd_readLine 126 = .ok (.bipush 76, 2) := kq_16 byq_r (b := 76) (by decide +kernel)
theorem d_Crowd_readLine_128 : decode b_Crowd_readLine 128 = .ok (.invokevirtual 56, 3) := kq_182 byq_r (a := 0) (b := 56) (by decide +kernel)
theorem d_Crowd_readLine_131 : decode b_Crowd_readLine 131 = .ok (.bipush 58, 2) := kq_16 byq_r (b := 58) (by decide +kernel)
theorem d_Crowd_readLine_133 : decode b_Crowd_readLine 133 = .ok (.if_icmp .eq 8, 3) := kq_159 byq_r (a := 0) (b := 8) (by decide +kernel)
theorem d_Crowd_readLine_136 : decode b_Crowd_readLine 136 = .ok (.iconst (-1), 1) := kq_2 byq_r (by decide +kernel)
theorem d_Crowd_readLine_137 : decode b_Crowd_readLine 137 = .ok (.iload 8, 2) := kq_21 byq_r (by decide +kernel)
theorem d_Crowd_readLine_139 : decode b_Crowd_readLine 139 = .ok (.isub, 1) := kq_100 byq_r (by decide +kernel)
theorem d_Crowd_readLine_140 : decode b_Crowd_readLine 140 = .ok (.ireturn, 1) := kq_172 byq_r (by decide +kernel)
theorem d_Crowd_readLine_141 : decode b_Crowd_readLine 141 = .ok (.aload_n 0, 1) := kq_42 byq_r (by decide +kernel)
theorem d_Crowd_readLine_142 : decode b_Crowd_readLine 142 = .ok (.getfield 18, 3) := kq_180 byq_r (a := 0) (b := 18) (by decide +kernel)
theorem d_Crowd_readLine_145 : decode b_Crowd_readLine 145 = .ok (.iload_n 3, 1) := kq_29 byq_r (by decide +kernel)
theorem d_Crowd_readLine_146 : decode b_Crowd_readLine 146 = .ok (.aload_n 1, 1) := kq_43 byq_r (by decide +kernel)
theorem d_Crowd_readLine_147 : decode b_Crowd_readLine 147 = .ok (.getfield 63, 3) := kq_180 byq_r (a := 0) (b := 63) (by decide +kernel)
theorem d_Crowd_readLine_150 : decode b_Crowd_readLine 150 = .ok (.iastore, 1) := kq_79 byq_r (by decide +kernel)
theorem d_Crowd_readLine_151 : decode b_Crowd_readLine 151 = .ok (.aload_n 0, 1) := kq_42 byq_r (by decide +kernel)
theorem d_Crowd_readLine_152 : decode b_Crowd_readLine 152 = .ok (.dup, 1) := kq_89 byq_r (by decide +kernel)
theorem d_Crowd_readLine_153 : decode b_Crowd_readLine 153 = .ok (.getfield 49, 3) := kq_180 byq_r (a := 0) (b := 49) (by decide +kernel)
theorem d_Crowd_readLine_156 : decode b_Crowd_readLine 156 = .ok (.iload 6, 2) := kq_21 byq_r (by decide +kernel)
theorem d_Crowd_readLine_158 : decode b_Crowd_readLine 158 = .ok (.iload_n 3, 1) := kq_29 byq_r (by decide +kernel)
theorem d_Crowd_readLine_159 : decode b_Crowd_readLine 159 = .ok (.ishl, 1) := kq_120 byq_r (by decide +kernel)
theorem d_Crowd_readLine_160 : decode b_Crowd_readLine 160 = .ok (.ior, 1) := kq_128 byq_r (by decide +kernel)
theorem d_Crowd_readLine_161 : decode b_Crowd_readLine 161 = .ok (.putfield 49, 3) := kq_181 byq_r (a := 0) (b := 49) (by decide +kernel)
theorem d_Crowd_readLine_164 : decode b_Crowd_readLine 164 = .ok (.aload_n 0, 1) := kq_42 byq_r (by decide +kernel)
theorem d_Crowd_readLine_165 : decode b_Crowd_readLine 165 = .ok (.getfield 15, 3) := kq_180 byq_r (a := 0) (b := 15) (by decide +kernel)
theorem d_Crowd_readLine_168 : decode b_Crowd_readLine 168 = .ok (.iload_n 3, 1) := kq_29 byq_r (by decide +kernel)
theorem d_Crowd_readLine_169 : decode b_Crowd_readLine 169 = .ok (.aload_n 1, 1) := kq_43 byq_r (by decide +kernel)
theorem d_Crowd_readLine_170 : decode b_Crowd_readLine 170 = .ok (.iload 8, 2) := kq_21 byq_r (by decide +kernel)
theorem d_Crowd_readLine_172 : decode b_Crowd_readLine 172 = .ok (.iconst 1, 1) := kq_4 byq_r (by decide +kernel)
theorem d_Crowd_readLine_173 : decode b_Crowd_readLine 173 = .ok (.iadd, 1) := kq_96 byq_r (by decide +kernel)
theorem d_Crowd_readLine_174 : decode b_Crowd_readLine 174 = .ok (.bipush 76, 2) := kq_16 byq_r (b := 76) (by decide +kernel)
theorem d_Crowd_readLine_176 : decode b_Crowd_readLine 176 = .ok (.aload_n 0, 1) := kq_42 byq_r (by decide +kernel)
theorem d_Crowd_readLine_177 : decode b_Crowd_readLine 177 = .ok (.getfield 9, 3) := kq_180 byq_r (a := 0) (b := 9) (by decide +kernel)
theorem d_Crowd_readLine_180 : decode b_Crowd_readLine 180 = .ok (.iload_n 3, 1) := kq_29 byq_r (by decide +kernel)
theorem d_Crowd_readLine_181 : decode b_Crowd_readLine 181 = .ok (.bipush 9, 2) := kq_16 byq_r (b := 9) (by decide +kernel)
theorem d_Crowd_readLine_183 : decode b_Crowd_readLine 183 = .ok (.imul, 1) := kq_104 byq_r (by decide +kernel)
theorem d_Crowd_readLine_184 : decode b_Crowd_readLine 184 = .ok (.invokevirtual 76, 3) := kq_182 byq_r (a := 0) (b := 76) (by decide +kernel)
theorem d_Crowd_readLine_187 : decode b_Crowd_readLine 187 = .ok (.iastore, 1) := kq_79 byq_r (by decide +kernel)
theorem d_Crowd_readLine_188 : decode b_Crowd_readLine 188 = .ok (.iload 8, 2) := kq_21 byq_r (by decide +kernel)
theorem d_Crowd_readLine_190 : decode b_Crowd_readLine 190 = .ok (.iconst 1, 1) := kq_4 byq_r (by decide +kernel)
theorem d_Crowd_readLine_191 : decode b_Crowd_readLine 191 = .ok (.iadd, 1) := kq_96 byq_r (by decide +kernel)
theorem d_Crowd_readLine_192 : decode b_Crowd_readLine 192 = .ok (.aload_n 0, 1) := kq_42 byq_r (by decide +kernel)
theorem d_Crowd_readLine_193 : decode b_Crowd_readLine 193 = .ok (.getfield 15, 3) := kq_180 byq_r (a := 0) (b := 15) (by decide +kernel)
theorem d_Crowd_readLine_196 : decode b_Crowd_readLine 196 = .ok (.iload_n 3, 1) := kq_29 byq_r (by decide +kernel)
theorem d_Crowd_readLine_197 : decode b_Crowd_readLine 197 = .ok (.iaload, 1) := kq_46 byq_r (by decide +kernel)
theorem d_Crowd_readLine_198 : decode b_Crowd_readLine 198 = .ok (.iadd, 1) := kq_96 byq_r (by decide +kernel)
theorem d_Crowd_readLine_199 : decode b_Crowd_readLine 199 = .ok (.istore 9, 2) := kq_54 byq_r (by decide +kernel)
theorem d_Crowd_readLine_201 : decode b_Crowd_readLine 201 = .ok (.aload_n 0, 1) := kq_42 byq_r (by decide +kernel)
theorem d_Crowd_readLine_202 : decode b_Crowd_readLine 202 = .ok (.getfield 15, 3) := kq_180 byq_r (a := 0) (b := 15) (by decide +kernel)
theorem d_Crowd_readLine_205 : decode b_Crowd_readLine 205 = .ok (.iload_n 3, 1) := kq_29 byq_r (by decide +kernel)
theorem d_Crowd_readLine_206 : decode b_Crowd_readLine 206 = .ok (.iaload, 1) := kq_46 byq_r (by decide +kernel)
theorem d_Crowd_readLine_207 : decode b_Crowd_readLine 207 = .ok (.ifCond .ne 10, 3) := kq_154 byq_r (a := 0) (b := 10) (by decide +kernel)
theorem d_Crowd_readLine_210 : decode b_Crowd_readLine 210 = .ok (.iconst (-1), 1) := kq_2 byq_r (by decide +kernel)
theorem d_Crowd_readLine_211 : decode b_Crowd_readLine 211 = .ok (.iload 9, 2) := kq_21 byq_r (by decide +kernel)
theorem d_Crowd_readLine_213 : decode b_Crowd_readLine 213 = .ok (.isub, 1) := kq_100 byq_r (by decide +kernel)
theorem d_Crowd_readLine_214 : decode b_Crowd_readLine 214 = .ok (.goto 5, 3) := kq_167 byq_r (a := 0) (b := 5) (by decide +kernel)
theorem d_Crowd_readLine_217 : decode b_Crowd_readLine 217 = .ok (.iload 9, 2) := kq_21 byq_r (by decide +kernel)
theorem d_Crowd_readLine_219 : decode b_Crowd_readLine 219 = .ok (.ireturn, 1) := kq_172 byq_r (by decide +kernel)
theorem d_Crowd_read_0 : decode b_Crowd_read 0 = .ok (.aload_n 1, 1) := kq_43 byq_r (by decide +kernel)
theorem d_Crowd_read_1 : decode b_Crowd_read 1 = .ok (.getfield 44, 3) := kq_180 byq_r (a := 0) (b := 44) (by decide +kernel)
theorem d_Crowd_read_4 : decode b_Crowd_read 4 = .ok (.ifCond .ne 5, 3) := kq_154 byq_r (a := 0) (b := 5) (by decide +kernel)
theorem d_Crowd_read_7 : decode b_Crowd_read 7 = .ok (.iconst 0, 1) := kq_3 byq_r (by decide +kernel)
theorem d_Crowd_read_8 : decode b_Crowd_read 8 = .ok (.ireturn, 1) := kq_172 byq_r (by decide +kernel)
theorem d_Crowd_read_9 : decode b_Crowd_read 9 = .ok (.aload_n 0, 1) := kq_42 byq_r (by decide +kernel)
theorem d_Crowd_read_10 : decode b_Crowd_read 10 = .ok (.iconst 0, 1) := kq_3 byq_r (by decide +kernel)
theorem d_Crowd_read_11 : decode b_Crowd_read 11 = .ok (.putfield 49, 3) := kq_181 byq_r (a := 0) (b := 49) (by decide +kernel)
theorem d_Crowd_read_14 : decode b_Crowd_read 14 = .ok (.iconst 0, 1) := kq_3 byq_r (by decide +kernel)
theorem d_Crowd_read_15 : decode b_Crowd_read 15 = .ok (.istore_n 3, 1) := kq_62 byq_r (by decide +kernel)
theorem d_Crowd_read_16 : decode b_Crowd_read 16 = .ok (.iconst 0, 1) := kq_3 byq_r (by decide +kernel)
theorem d_Crowd_read_17 : decode b_Crowd_read 17 = .ok (.istore 4, 2) := kq_54 byq_r (by decide +kernel)
theorem d_Crowd_read_19 : decode b_Crowd_read 19 = .ok (.iload 4, 2) := kq_21 byq_r (by decide +kernel)
theorem d_Crowd_read_21 : decode b_Crowd_read 21 = .ok (.bipush 8, 2) := kq_16 byq_r (b := 8) (by decide +kernel)
theorem d_Crowd_read_23 : decode b_Crowd_read 23 = .ok (.if_icmp .gt 78, 3) := kq_163 byq_r (a := 0) (b := 78) (by decide +kernel)
theorem d_Crowd_read_26 : decode b_Crowd_read 26 = .ok (.aload_n 0, 1) := kq_42 byq_r (by decide +kernel)
theorem d_Crowd_read_27 : decode b_Crowd_read 27 = .ok (.aload_n 1, 1) := kq_43 byq_r (by decide +kernel)
theorem d_Crowd_read_28 : decode b_Crowd_read 28 = .ok (.aload_n 2, 1) := kq_44 byq_r (by decide +kernel)
theorem d_Crowd_read_29 : decode b_Crowd_read 29 = .ok (.aload_n 0, 1) := kq_42 byq_r (by decide +kernel)
theorem d_Crowd_read_30 : decode b_Crowd_read 30 = .ok (.getfield 24, 3) := kq_180 byq_r (a := 0) (b := 24) (by decide +kernel)
theorem d_Crowd_read_33 : decode b_Crowd_read 33 = .ok (.iload 4, 2) := kq_21 byq_r (by decide +kernel)
theorem d_Crowd_read_35 : decode b_Crowd_read 35 = .ok (.iadd, 1) := kq_96 byq_r (by decide +kernel)
theorem d_Crowd_read_36 : decode b_Crowd_read 36 = .ok (.iload_n 3, 1) := kq_29 byq_r (by decide +kernel)
theorem d_Crowd_read_37 : decode b_Crowd_read 37 = .ok (.invokevirtual 52, 3) := kq_182 byq_r (a := 0) (b := 52) (by decide +kernel)
theorem d_Crowd_read_40 : decode b_Crowd_read 40 = .ok (.istore_n 3, 1) := kq_62 byq_r (by decide +kernel)
theorem d_Crowd_read_41 : decode b_Crowd_read 41 = .ok (.iload_n 3, 1) := kq_29 byq_r (by decide +kernel)
theorem d_Crowd_read_42 : decode b_Crowd_read 42 = .ok (.ifCond .ge 5, 3) := kq_156 byq_r (a := 0) (b := 5) (by decide +kernel)
theorem d_Crowd_read_45 : decode b_Crowd_read 45 = .ok (.iload_n 3, 1) := kq_29 byq_r (by decide +kernel)
theorem d_Crowd_read_46 : decode b_Crowd_read 46 = .ok (.ireturn, 1) := kq_172 byq_r (by decide +kernel)
theorem d_Crowd_read_47 : decode b_Crowd_read 47 = .ok (.aload_n 1, 1) := kq_43 byq_r (by decide +kernel)
theorem d_Crowd_read_48 : decode b_Crowd_read 48 = .ok (.iload_n 3, 1) := kq_29 byq_r (by decide +kernel)
theorem d_Crowd_read_49 : decode b_Crowd_read 49 = .ok (.bipush 76, 2) := kq_16 byq_r (b := 76) (by decide +kernel)
theorem d_Crowd_read_51 : decode b_Crowd_read 51 = .ok (.invokevirtual 56, 3) := kq_182 byq_r (a := 0) (b := 56) (by decide +kernel)
theorem d_Crowd_read_54 : decode b_Crowd_read 54 = .ok (.istore 5, 2) := kq_54 byq_r (by decide +kernel)
theorem d_Crowd_read_56 : decode b_Crowd_read 56 = .ok (.iload 5, 2) := kq_21 byq_r (by decide +kernel)
theorem d_Crowd_read_58 : decode b_Crowd_read 58 = .ok (.iconst (-1), 1) := kq_2 byq_r (by decide +kernel)
theorem d_Crowd_read_59 : decode b_Crowd_read 59 = .ok (.if_icmp .ne 22, 3) := kq_160 byq_r (a := 0) (b := 22) (by decide +kernel)
theorem d_Crowd_read_62 : decode b_Crowd_read 62 = .ok (.aload_n 1, 1) := kq_43 byq_r (by decide +kernel)
theorem d_Crowd_read_63 : decode b_Crowd_read 63 = .ok (.getfield 44, 3) := kq_180 byq_r (a := 0) (b := 44) (by decide +kernel)
theorem d_Crowd_read_66 : decode b_Crowd_read 66 = .ok (.bipush 76, 2) := kq_16 byq_r (b := 76) (by decide +kernel)
theorem d_Crowd_read_68 : decode b_Crowd_read 68 = .ok (.if_icmp .le 8, 3) := kq_164 byq_r (a := 0) (b := 8) (by decide +kernel)
theorem d_Crowd_read_71 : decode b_Crowd_read 71 = .ok (.bipush (-77), 2) := kq_16 byq_r (b := 179) (by decide +kernel)
theorem d_Crowd_read_73 : decode b_Crowd_read 73 = .ok (.goto 7, 3) := kq_167 byq_r (a := 0) (b := 7) (by decide +kernel)
theorem d_Crowd_read_76 : decode b_Crowd_read 76 = .ok (.iload 4, 2) := kq_21 byq_r (by decide +kernel)
theorem d_Crowd_read_78 : decode b_Crowd_read 78 = .ok (.iconst 1, 1) := kq_4 byq_r (by decide +kernel)
theorem d_Crowd_read_79 : decode b_Crowd_read 79 = .ok (.iadd, 1) := kq_96 byq_r (by decide +kernel)
theorem d_Crowd_read_80 : decode b_Crowd_read 80 = .ok (.ireturn, 1) := kq_172 byq_r (by decide +kernel)
theorem d_Crowd_read_81 : decode b_Crowd_read 81 = .ok (.iload 5, 2) := kq_21 byq_r (by decide +kernel)
theorem d_Crowd_read_83 : decode b_Crowd_read 83 = .ok (.bipush 59, 2) := kq_16 byq_r (b := 59) (by decide +kernel)
theorem d_Crowd_read_85 : decode b_Crowd_read 85 = .ok (.if_icmp .eq 7, 3) := kq_159 byq_r (a := 0) (b := 7) (by decide +kernel)
theorem d_Crowd_read_88 : decode b_Crowd_read 88 = .ok (.iconst (-1), 1) := kq_2 byq_r (by decide +kernel)
theorem d_Crowd_read_89 : decode b_Crowd_read 89 = .ok (.iload_n 3, 1) := kq_29 byq_r (by decide +kernel)
theorem d_Crowd_read_90 : decode b_Crowd_read 90 = .ok (.isub, 1) := kq_100 byq_r (by decide +kernel)
theorem d_Crowd_read_91 : decode b_Crowd_read 91 = .ok (.ireturn, 1) := kq_172 byq_r (by decide +kernel)
theorem d_Crowd_read_92 : decode b_Crowd_read 92 = .ok (.iinc 3 1, 3) := kq_132 byq_r (b := 1) (by decide +kernel)
theorem d_Crowd_read_95 : decode b_Crowd_read 95 = .ok (.iinc 4 1, 3) := kq_132 byq_r (b := 1) (by decide +kernel)
theorem d_Crowd_read_98 : decode b_Crowd_read 98 = .ok (.goto (-79), 3) := kq_167 byq_r (a := 255) (b := 177) (by decide +kernel)
theorem d_Crowd_read_101 : decode b_Crowd_read 101 = .ok (.iconst (-1), 1) := kq_2 byq_r (by decide +kernel)
theorem d_Crowd_read_102 : decode b_Crowd_read 102 = .ok (.iload_n 3, 1) := kq_29 byq_r (by decide +kernel)
theorem d_Crowd_read_103 : decode b_Crowd_read 103 = .ok (.isub, 1) := kq_100 byq_r (by decide +kernel)
theorem d_Crowd_read_104 : decode b_Crowd_read 104 = .ok (.ireturn, 1) := kq_172 byq_r (by decide +kernel)
theorem d_Crowd_letIn_0 : decode b_Crowd_letIn 0 = .ok (.aload_n 0, 1) := kq_42 byq_r (by decide +kernel)
theorem d_Crowd_letIn_1 : decode b_Crowd_letIn 1 = .ok (.dup, 1) := kq_89 byq_r (by decide +kernel)
theorem d_Crowd_letIn_2 : decode b_Crowd_letIn 2 = .ok (.getfield 24, 3) := kq_180 byq_r (a := 0) (b := 24) (by decide +kernel)
theorem d_Crowd_letIn_5 : decode b_Crowd_letIn 5 = .ok (.iload_n 1, 1) := kq_27 byq_r (by decide +kernel)
theorem d_Crowd_letIn_6 : decode b_Crowd_letIn 6 = .ok (.iadd, 1) := kq_96 byq_r (by decide +kernel)
theorem d_Crowd_letIn_7 : decode b_Crowd_letIn 7 = .ok (.putfield 24, 3) := kq_181 byq_r (a := 0) (b := 24) (by decide +kernel)
theorem d_Crowd_letIn_10 : decode b_Crowd_letIn 10 = .ok (.aload_n 0, 1) := kq_42 byq_r (by decide +kernel)
theorem d_Crowd_letIn_11 : decode b_Crowd_letIn 11 = .ok (.dup, 1) := kq_89 byq_r (by decide +kernel)
theorem d_Crowd_letIn_12 : decode b_Crowd_letIn 12 = .ok (.getfield 28, 3) := kq_180 byq_r (a := 0) (b := 28) (by decide +kernel)
theorem d_Crowd_letIn_15 : decode b_Crowd_letIn 15 = .ok (.aload_n 0, 1) := kq_42 byq_r (by decide +kernel)
theorem d_Crowd_letIn_16 : decode b_Crowd_letIn 16 = .ok (.getfield 49, 3) := kq_180 byq_r (a := 0) (b := 49) (by decide +kernel)
theorem d_Crowd_letIn_19 : decode b_Crowd_letIn 19 = .ok (.ior, 1) := kq_128 byq_r (by decide +kernel)
theorem d_Crowd_letIn_20 : decode b_Crowd_letIn 20 = .ok (.putfield 28, 3) := kq_181 byq_r (a := 0) (b := 28) (by decide +kernel)
theorem d_Crowd_letIn_23 : decode b_Crowd_letIn 23 = .ok (.return_, 1) := kq_177 byq_r (by decide +kernel)
theorem d_Crowd_woman_0 : decode b_Crowd_woman 0 = .ok (.aload_n 0, 1) := kq_42 byq_r (by decide +kernel)
theorem d_Crowd_woman_1 : decode b_Crowd_woman 1 = .ok (.getfield 28, 3) := kq_180 byq_r (a := 0) (b := 28) (by decide +kernel)
theorem d_Crowd_woman_4 : decode b_Crowd_woman 4 = .ok (.iload_n 1, 1) := kq_27 byq_r (by decide +kernel)
theorem d_Crowd_woman_5 : decode b_Crowd_woman 5 = .ok (.ishr, 1) := kq_122 byq_r (by decide +kernel)
theorem d_Crowd_woman_6 : decode b_Crowd_woman 6 = .ok (.iconst 1, 1) := kq_4 byq_r (by decide +kernel)
theorem d_Crowd_woman_7 : decode b_Crowd_woman 7 = .ok (.iand, 1) := kq_126 byq_r (by decide +kernel)
theorem d_Crowd_woman_8 : decode b_Crowd_woman 8 = .ok (.ifCond .eq 7, 3) := kq_153 byq_r (a := 0) (b := 7) (by decide +kernel)
theorem d_Crowd_woman_11 : decode b_Crowd_woman 11 = .ok (.iconst 1, 1) := kq_4 byq_r (by decide +kernel)
theorem d_Crowd_woman_12 : decode b_Crowd_woman 12 = .ok (.goto 4, 3) := kq_167 byq_r (a := 0) (b := 4) (by decide +kernel)
theorem d_Crowd_woman_15 : decode b_Crowd_woman 15 = .ok (.iconst 0, 1) := kq_3 byq_r (by decide +kernel)
theorem d_Crowd_woman_16 : decode b_Crowd_woman 16 = .ok (.ireturn, 1) := kq_172 byq_r (by decide +kernel)
theorem d_Crowd_has_0 : decode b_Crowd_has 0 = .ok (.iload_n 1, 1) := kq_27 byq_r (by decide +kernel)
theorem d_Crowd_has_1 : decode b_Crowd_has 1 = .ok (.ifCond .lt 21, 3) := kq_155 byq_r (a := 0) (b := 21) (by decide +kernel)
theorem d_Crowd_has_4 : decode b_Crowd_has 4 = .ok (.iload_n 1, 1) := kq_27 byq_r (by decide +kernel)
theorem d_Crowd_has_5 : decode b_Crowd_has 5 = .ok (.aload_n 0, 1) := kq_42 byq_r (by decide +kernel)
theorem d_Crowd_has_6 : decode b_Crowd_has 6 = .ok (.getfield 24, 3) := kq_180 byq_r (a := 0) (b := 24) (by decide +kernel)
theorem d_Crowd_has_9 : decode b_Crowd_has 9 = .ok (.if_icmp .ge 13, 3) := kq_162 byq_r (a := 0) (b := 13) (by decide +kernel)
theorem d_Crowd_has_12 : decode b_Crowd_has 12 = .ok (.iload_n 1, 1) := kq_27 byq_r (by decide +kernel)
theorem d_Crowd_has_13 : decode b_Crowd_has 13 = .ok (.bipush 8, 2) := kq_16 byq_r (b := 8) (by decide +kernel)
theorem d_Crowd_has_15 : decode b_Crowd_has 15 = .ok (.if_icmp .ge 7, 3) := kq_162 byq_r (a := 0) (b := 7) (by decide +kernel)
theorem d_Crowd_has_18 : decode b_Crowd_has 18 = .ok (.iconst 1, 1) := kq_4 byq_r (by decide +kernel)
theorem d_Crowd_has_19 : decode b_Crowd_has 19 = .ok (.goto 4, 3) := kq_167 byq_r (a := 0) (b := 4) (by decide +kernel)
theorem d_Crowd_has_22 : decode b_Crowd_has 22 = .ok (.iconst 0, 1) := kq_3 byq_r (by decide +kernel)
theorem d_Crowd_has_23 : decode b_Crowd_has 23 = .ok (.ireturn, 1) := kq_172 byq_r (by decide +kernel)
theorem d_Crowd_tellWay_0 : decode b_Crowd_tellWay 0 = .ok (.aload_n 2, 1) := kq_44 byq_r (by decide +kernel)
theorem d_Crowd_tellWay_1 : decode b_Crowd_tellWay 1 = .ok (.iconst 0, 1) := kq_3 byq_r (by decide +kernel)
theorem d_Crowd_tellWay_2 : decode b_Crowd_tellWay 2 = .ok (.bipush 80, 2) := kq_16 byq_r (b := 80) (by decide +kernel)
theorem d_Crowd_tellWay_4 : decode b_Crowd_tellWay 4 = .ok (.aload_n 0, 1) := kq_42 byq_r (by decide +kernel)
theorem d_Crowd_tellWay_5 : decode b_Crowd_tellWay 5 = .ok (.getfield 21, 3) := kq_180 byq_r (a := 0) (b := 21) (by decide +kernel)
theorem d_Crowd_tellWay_8 : decode b_Crowd_tellWay 8 = .ok (.iconst 0, 1) := kq_3 byq_r (by decide +kernel)
theorem d_Crowd_tellWay_9 : decode b_Crowd_tellWay 9 = .ok (.invokevirtual 76, 3) := kq_182 byq_r (a := 0) (b := 76) (by decide +kernel)
theorem d_Crowd_tellWay_12 : decode b_Crowd_tellWay 12 = .ok (.istore_n 3, 1) := kq_62 byq_r (by decide +kernel)
theorem d_Crowd_tellWay_13 : decode b_Crowd_tellWay 13 = .ok (.aload_n 0, 1) := kq_42 byq_r (by decide +kernel)
theorem d_Crowd_tellWay_14 : decode b_Crowd_tellWay 14 = .ok (.iload_n 1, 1) := kq_27 byq_r (by decide +kernel)
theorem d_Crowd_tellWay_15 : decode b_Crowd_tellWay 15 = .ok (.invokevirtual 31, 3) := kq_182 byq_r (a := 0) (b := 31) (by decide +kernel)
theorem d_Crowd_tellWay_18 : decode b_Crowd_tellWay 18 = .ok (.ifCond .eq 15, 3) := kq_153 byq_r (a := 0) (b := 15) (by decide +kernel)
theorem d_Crowd_tellWay_21 : decode b_Crowd_tellWay 21 = .ok (.iload_n 3, 1) := kq_29 byq_r (by decide +kernel)
theorem d_Crowd_tellWay_22 : decode b_Crowd_tellWay 22 = .ok (.ifCond .eq 11, 3) := kq_153 byq_r (a := 0) (b := 11) (by decide +kernel)
theorem d_Crowd_tellWay_25 : decode b_Crowd_tellWay 25 = .ok (.aload_n 2, 1) := kq_44 byq_r (by decide +kernel)
theorem d_Crowd_tellWay_26 : decode b_Crowd_tellWay 26 = .ok (.getfield 44, 3) := kq_180 byq_r (a := 0) (b := 44) (by decide +kernel)
theorem d_Crowd_tellWay_29 : decode b_Crowd_tellWay 29 = .ok (.iload_n 3, 1) := kq_29 byq_r (by decide +kernel)
theorem d_Crowd_tellWay_30 : decode b_Crowd_tellWay 30 = .ok (.if_icmp .le 7, 3) := kq_164 byq_r (a := 0) (b := 7) (by decide +kernel)
theorem d_Crowd_tellWay_33 : decode b_Crowd_tellWay 33 = .ok (.iconst (-1), 1) := kq_2 byq_r (by decide +kernel)
theorem d_Crowd_tellWay_34 : decode b_Crowd_tellWay 34 = .ok (.iload_n 3, 1) := kq_29 byq_r (by decide +kernel)
theorem d_Crowd_tellWay_35 : decode b_Crowd_tellWay 35 = .ok (.isub, 1) := kq_100 byq_r (by decide +kernel)
theorem d_Crowd_tellWay_36 : decode b_Crowd_tellWay 36 = .ok (.ireturn, 1) := kq_172 byq_r (by decide +kernel)
theorem d_Crowd_tellWay_37 : decode b_Crowd_tellWay 37 = .ok (.iconst 0, 1) := kq_3 byq_r (by decide +kernel)
theorem d_Crowd_tellWay_38 : decode b_Crowd_tellWay 38 = .ok (.istore 4, 2) := kq_54 byq_r (by decide +kernel)
theorem d_Crowd_tellWay_40 : decode b_Crowd_tellWay 40 = .ok (.iload 4, 2) := kq_21 byq_r (by decide +kernel)
theorem d_Crowd_tellWay_42 : decode b_Crowd_tellWay 42 = .ok (.bipush 9, 2) := kq_16 byq_r (b := 9) (by decide +kernel)
theorem d_Crowd_tellWay_44 : decode b_Crowd_tellWay 44 = .ok (.if_icmp .ge 28, 3) := kq_162 byq_r (a := 0) (b := 28) (by decide +kernel)
theorem d_Crowd_tellWay_47 : decode b_Crowd_tellWay 47 = .ok (.aload_n 0, 1) := kq_42 byq_r (by decide +kernel)
theorem d_Crowd_tellWay_48 : decode b_Crowd_tellWay 48 = .ok (.getfield 9, 3) := kq_180 byq_r (a := 0) (b := 9) (by decide +kernel)
theorem d_Crowd_tellWay_51 : decode b_Crowd_tellWay 51 = .ok (.iload_n 1, 1) := kq_27 byq_r (by decide +kernel)
theorem d_Crowd_tellWay_52 : decode b_Crowd_tellWay 52 = .ok (.bipush 9, 2) := kq_16 byq_r (b := 9) (by decide +kernel)
theorem d_Crowd_tellWay_54 : decode b_Crowd_tellWay 54 = .ok (.imul, 1) := kq_104 byq_r (by decide +kernel)
theorem d_Crowd_tellWay_55 : decode b_Crowd_tellWay 55 = .ok (.iload 4, 2) := kq_21 byq_r (by decide +kernel)
theorem d_Crowd_tellWay_57 : decode b_Crowd_tellWay 57 = .ok (.iadd, 1) := kq_96 byq_r (by decide +kernel)
theorem d_Crowd_tellWay_58 : decode b_Crowd_tellWay 58 = .ok (.aload_n 0, 1) := kq_42 byq_r (by decide +kernel)
theorem d_Crowd_tellWay_59 : decode b_Crowd_tellWay 59 = .ok (.getfield 21, 3) := kq_180 byq_r (a := 0) (b := 21) (by decide +kernel)
theorem d_Crowd_tellWay_62 : decode b_Crowd_tellWay 62 = .ok (.iload 4, 2) := kq_21 byq_r (by decide +kernel)
theorem d_Crowd_tellWay_64 : decode b_Crowd_tellWay 64 = .ok (.iaload, 1) := kq_46 byq_r (by decide +kernel)
theorem d_Crowd_tellWay_65 : decode b_Crowd_tellWay 65 = .ok (.iastore, 1) := kq_79 byq_r (by decide +kernel)
theorem d_Crowd_tellWay_66 : decode b_Crowd_tellWay 66 = .ok (.iinc 4 1, 3) := kq_132 byq_r (b := 1) (by decide +kernel)
theorem d_Crowd_tellWay_69 : decode b_Crowd_tellWay 69 = .ok (.goto (-29), 3) := kq_167 byq_r (a := 255) (b := 227) (by decide +kernel)
theorem d_Crowd_tellWay_72 : decode b_Crowd_tellWay 72 = .ok (.aload_n 0, 1) := kq_42 byq_r (by decide +kernel)
theorem d_Crowd_tellWay_73 : decode b_Crowd_tellWay 73 = .ok (.getfield 15, 3) := kq_180 byq_r (a := 0) (b := 15) (by decide +kernel)
theorem d_Crowd_tellWay_76 : decode b_Crowd_tellWay 76 = .ok (.iload_n 1, 1) := kq_27 byq_r (by decide +kernel)
theorem d_Crowd_tellWay_77 : decode b_Crowd_tellWay 77 = .ok (.iload_n 3, 1) := kq_29 byq_r (by decide +kernel)
theorem d_Crowd_tellWay_78 : decode b_Crowd_tellWay 78 = .ok (.iastore, 1) := kq_79 byq_r (by decide +kernel)
theorem d_Crowd_tellWay_79 : decode b_Crowd_tellWay 79 = .ok (.iload_n 3, 1) := kq_29 byq_r (by decide +kernel)
theorem d_Crowd_tellWay_80 : decode b_Crowd_tellWay 80 = .ok (.ireturn, 1) := kq_172 byq_r (by decide +kernel)
theorem d_Crowd_within_0 : decode b_Crowd_within 0 = .ok (.aload_n 0, 1) := kq_42 byq_r (by decide +kernel)
theorem d_Crowd_within_1 : decode b_Crowd_within 1 = .ok (.iload_n 1, 1) := kq_27 byq_r (by decide +kernel)
theorem d_Crowd_within_2 : decode b_Crowd_within 2 = .ok (.invokevirtual 31, 3) := kq_182 byq_r (a := 0) (b := 31) (by decide +kernel)
theorem d_Crowd_within_5 : decode b_Crowd_within 5 = .ok (.ifCond .ne 5, 3) := kq_154 byq_r (a := 0) (b := 5) (by decide +kernel)
theorem d_Crowd_within_8 : decode b_Crowd_within 8 = .ok (.iconst 0, 1) := kq_3 byq_r (by decide +kernel)
theorem d_Crowd_within_9 : decode b_Crowd_within 9 = .ok (.ireturn, 1) := kq_172 byq_r (by decide +kernel)
theorem d_Crowd_within_10 : decode b_Crowd_within 10 = .ok (.iconst 0, 1) := kq_3 byq_r (by decide +kernel)
theorem d_Crowd_within_11 : decode b_Crowd_within 11 = .ok (.iload_n 2, 1) := kq_28 byq_r (by decide +kernel)
theorem d_Crowd_within_12 : decode b_Crowd_within 12 = .ok (.aload_n 0, 1) := kq_42 byq_r (by decide +kernel)
theorem d_Crowd_within_13 : decode b_Crowd_within 13 = .ok (.getfield 15, 3) := kq_180 byq_r (a := 0) (b := 15) (by decide +kernel)
theorem d_Crowd_within_16 : decode b_Crowd_within 16 = .ok (.iload_n 1, 1) := kq_27 byq_r (by decide +kernel)
theorem d_Crowd_within_17 : decode b_Crowd_within 17 = .ok (.iaload, 1) := kq_46 byq_r (by decide +kernel)
theorem d_Crowd_within_18 : decode b_Crowd_within 18 = .ok (.iconst 1, 1) := kq_4 byq_r (by decide +kernel)
theorem d_Crowd_within_19 : decode b_Crowd_within 19 = .ok (.isub, 1) := kq_100 byq_r (by decide +kernel)
theorem d_Crowd_within_20 : decode b_Crowd_within 20 = .ok (.invokestatic 35, 3) := kq_184 byq_r (a := 0) (b := 35) (by decide +kernel)
theorem d_Crowd_within_23 : decode b_Crowd_within 23 = .ok (.invokestatic 41, 3) := kq_184 byq_r (a := 0) (b := 41) (by decide +kernel)
theorem d_Crowd_within_26 : decode b_Crowd_within 26 = .ok (.ireturn, 1) := kq_172 byq_r (by decide +kernel)
theorem d_Crowd_stepAt_0 : decode b_Crowd_stepAt 0 = .ok (.aload_n 0, 1) := kq_42 byq_r (by decide +kernel)
theorem d_Crowd_stepAt_1 : decode b_Crowd_stepAt 1 = .ok (.iload_n 1, 1) := kq_27 byq_r (by decide +kernel)
theorem d_Crowd_stepAt_2 : decode b_Crowd_stepAt 2 = .ok (.invokevirtual 31, 3) := kq_182 byq_r (a := 0) (b := 31) (by decide +kernel)
theorem d_Crowd_stepAt_5 : decode b_Crowd_stepAt 5 = .ok (.ifCond .eq 23, 3) := kq_153 byq_r (a := 0) (b := 23) (by decide +kernel)
theorem d_Crowd_stepAt_8 : decode b_Crowd_stepAt 8 = .ok (.iload_n 2, 1) := kq_28 byq_r (by decide +kernel)
theorem d_Crowd_stepAt_9 : decode b_Crowd_stepAt 9 = .ok (.ifCond .lt 19, 3) := kq_155 byq_r (a := 0) (b := 19) (by decide +kernel)
theorem d_Crowd_stepAt_12 : decode b_Crowd_stepAt 12 = .ok (.iload_n 2, 1) := kq_28 byq_r (by decide +kernel)
theorem d_Crowd_stepAt_13 : decode b_Crowd_stepAt 13 = .ok (.aload_n 0, 1) := kq_42 byq_r (by decide +kernel)
theorem d_Crowd_stepAt_14 : decode b_Crowd_stepAt 14 = .ok (.getfield 15, 3) := kq_180 byq_r (a := 0) (b := 15) (by decide +kernel)
theorem d_Crowd_stepAt_17 : decode b_Crowd_stepAt 17 = .ok (.iload_n 1, 1) := kq_27 byq_r (by decide +kernel)
theorem d_Crowd_stepAt_18 : decode b_Crowd_stepAt 18 = .ok (.iaload, 1) := kq_46 byq_r (by decide +kernel)
theorem d_Crowd_stepAt_19 : decode b_Crowd_stepAt 19 = .ok (.if_icmp .ge 9, 3) := kq_162 byq_r (a := 0) (b := 9) (by decide +kernel)
theorem d_Crowd_stepAt_22 : decode b_Crowd_stepAt 22 = .ok (.iload_n 2, 1) := kq_28 byq_r (by decide +kernel)
theorem d_Crowd_stepAt_23 : decode b_Crowd_stepAt 23 = .ok (.bipush 9, 2) := kq_16 byq_r (b := 9) (by decide +kernel)
theorem d_Crowd_stepAt_25 : decode b_Crowd_stepAt 25 = .ok (.if_icmp .lt 5, 3) := kq_161 byq_r (a := 0) (b := 5) (by decide +kernel)
theorem d_Crowd_stepAt_28 : decode b_Crowd_stepAt 28 = .ok (.iconst 4, 1) := kq_7 byq_r (by decide +kernel)
theorem d_Crowd_stepAt_29 : decode b_Crowd_stepAt 29 = .ok (.ireturn, 1) := kq_172 byq_r (by decide +kernel)
theorem d_Crowd_stepAt_30 : decode b_Crowd_stepAt 30 = .ok (.aload_n 0, 1) := kq_42 byq_r (by decide +kernel)
theorem d_Crowd_stepAt_31 : decode b_Crowd_stepAt 31 = .ok (.getfield 9, 3) := kq_180 byq_r (a := 0) (b := 9) (by decide +kernel)
theorem d_Crowd_stepAt_34 : decode b_Crowd_stepAt 34 = .ok (.iload_n 1, 1) := kq_27 byq_r (by decide +kernel)
theorem d_Crowd_stepAt_35 : decode b_Crowd_stepAt 35 = .ok (.bipush 9, 2) := kq_16 byq_r (b := 9) (by decide +kernel)
theorem d_Crowd_stepAt_37 : decode b_Crowd_stepAt 37 = .ok (.imul, 1) := kq_104 byq_r (by decide +kernel)
theorem d_Crowd_stepAt_38 : decode b_Crowd_stepAt 38 = .ok (.iload_n 2, 1) := kq_28 byq_r (by decide +kernel)
theorem d_Crowd_stepAt_39 : decode b_Crowd_stepAt 39 = .ok (.iadd, 1) := kq_96 byq_r (by decide +kernel)
theorem d_Crowd_stepAt_40 : decode b_Crowd_stepAt 40 = .ok (.iaload, 1) := kq_46 byq_r (by decide +kernel)
theorem d_Crowd_stepAt_41 : decode b_Crowd_stepAt 41 = .ok (.ireturn, 1) := kq_172 byq_r (by decide +kernel)
theorem d_Crowd_placeBehind_0 : decode b_Crowd_placeBehind 0 = .ok (.aload_n 0, 1) := kq_42 byq_r (by decide +kernel)
theorem d_Crowd_placeBehind_1 : decode b_Crowd_placeBehind 1 = .ok (.iload_n 1, 1) := kq_27 byq_r (by decide +kernel)
theorem d_Crowd_placeBehind_2 : decode b_Crowd_placeBehind 2 = .ok (.invokevirtual 31, 3) := kq_182 byq_r (a := 0) (b := 31) (by decide +kernel)
theorem d_Crowd_placeBehind_5 : decode b_Crowd_placeBehind 5 = .ok (.ifCond .eq 21, 3) := kq_153 byq_r (a := 0) (b := 21) (by decide +kernel)
theorem d_Crowd_placeBehind_8 : decode b_Crowd_placeBehind 8 = .ok (.iload_n 2, 1) := kq_28 byq_r (by decide +kernel)
theorem d_Crowd_placeBehind_9 : decode b_Crowd_placeBehind 9 = .ok (.iconst 1, 1) := kq_4 byq_r (by decide +kernel)
theorem d_Crowd_placeBehind_10 : decode b_Crowd_placeBehind 10 = .ok (.iadd, 1) := kq_96 byq_r (by decide +kernel)
theorem d_Crowd_placeBehind_11 : decode b_Crowd_placeBehind 11 = .ok (.aload_n 0, 1) := kq_42 byq_r (by decide +kernel)
theorem d_Crowd_placeBehind_12 : decode b_Crowd_placeBehind 12 = .ok (.getfield 15, 3) := kq_180 byq_r (a := 0) (b := 15) (by decide +kernel)
theorem d_Crowd_placeBehind_15 : decode b_Crowd_placeBehind 15 = .ok (.iload_n 1, 1) := kq_27 byq_r (by decide +kernel)
theorem d_Crowd_placeBehind_16 : decode b_Crowd_placeBehind 16 = .ok (.iaload, 1) := kq_46 byq_r (by decide +kernel)
theorem d_Crowd_placeBehind_17 : decode b_Crowd_placeBehind 17 = .ok (.if_icmp .ge 9, 3) := kq_162 byq_r (a := 0) (b := 9) (by decide +kernel)
theorem d_Crowd_placeBehind_20 : decode b_Crowd_placeBehind 20 = .ok (.iload_n 2, 1) := kq_28 byq_r (by decide +kernel)
theorem d_Crowd_placeBehind_21 : decode b_Crowd_placeBehind 21 = .ok (.iconst 1, 1) := kq_4 byq_r (by decide +kernel)
theorem d_Crowd_placeBehind_22 : decode b_Crowd_placeBehind 22 = .ok (.iadd, 1) := kq_96 byq_r (by decide +kernel)
theorem d_Crowd_placeBehind_23 : decode b_Crowd_placeBehind 23 = .ok (.goto 4, 3) := kq_167 byq_r (a := 0) (b := 4) (by decide +kernel)
theorem d_Crowd_placeBehind_26 : decode b_Crowd_placeBehind 26 = .ok (.iconst 0, 1) := kq_3 byq_r (by decide +kernel)
theorem d_Crowd_placeBehind_27 : decode b_Crowd_placeBehind 27 = .ok (.ireturn, 1) := kq_172 byq_r (by decide +kernel)
def f_Crowd_clear (M : Mem) : Option (Mem) :=
  mem_ (s_i M 6 4 (0 : Int32)) fun M1 =>
  mem_ (s_i M1 6 5 (0 : Int32)) fun M2 =>
  some M2
theorem c_Crowd_clear (l : Launch) (G : Gw)   (M : Mem) (x : Mem) (h : f_Crowd_clear M = some x) (d : Nat) (hD : 1 ≤ d) : Cv l G y_Crowd_clear b_Crowd_clear 1 none d [.ref (G.2.2 + 6)] M (fun M9 => M9 = x) := by
  refine Cv_of (by decide) (Nat.le_of_ble_eq_true rfl) (fun E hE X => ?_)
  subst hE
  have kr : ∀ x9 : Mem, x = x9 → (fun M9 => M9 = x) x9 := fun x9 e9 => by subst e9; exact rfl
  unfold f_Crowd_clear at h
  refine V_aload_n (n := 0) X d_Crowd_clear_0 rfl rfl rfl ?_
  refine V_iconst (v := 0) X d_Crowd_clear_1 (by decide) rfl ?_
  obtain ⟨M1, eM1, h⟩ := memS h
  refine V_putI X fp_Crowd_24 kd_6 rfl d_Crowd_clear_2 rfl ?_
  rw [← eM1]
  refine V_aload_n (n := 0) X d_Crowd_clear_5 rfl rfl rfl ?_
  refine V_iconst (v := 0) X d_Crowd_clear_6 (by decide) rfl ?_
  obtain ⟨M2, eM2, h⟩ := memS h
  refine V_putI X fp_Crowd_28 kd_6 rfl d_Crowd_clear_7 rfl ?_
  rw [← eM2]
  exact V_vret X (kr M2 (Option.some.inj h).symm) d_Crowd_clear_10
def lb_Crowd_isCutOff_26 (v2 : Int32) (M : Mem) (s : Int32) : Option ((Int32) ⊕ ((Unit) ⊕ (Unit))) :=
  if (10 : Int32) ≤ s then
  some (.inr (Sum.inl ()))
  else
  Option.bind (f_Ground_holds v2 (((M.1 1 2) * (10 : Int32)) + s) M) fun x1 =>
  if x1 = 0 then
  some (.inl (s + (1 : Int32)))
  else
  some (.inr (Sum.inr ()))
theorem lb_Crowd_isCutOff_26_ok {E : Ev} {G : Gw} {d : Nat} {post : Int32 → Mem → Prop} (X : Cx E G b_Crowd_isCutOff "WomenByTheRoofs$Crowd" 6 d (some .boolean)) (hD : 2 ≤ d)  (v2 : Int32)  (M : Mem) (s : Int32) (o : (Int32) ⊕ ((Unit) ⊕ (Unit))) (h : lb_Crowd_isCutOff_26 v2 M s = some o) (kc : ∀ s9 : Int32, o = .inl s9 → V E (0, 0) G 6 (QI E G post) M 26 [(0, .ref (G.2.2 + 1)), (1, .ref (G.2.2 + 3)), (2, .int v2), (5, .int s9)] []) (kx0 : ∀ x9 : Unit, o = .inr (Sum.inl x9) → V E (0, 0) G 6 (QI E G post) M 59 [] []) (kx1 : ∀ x9 : Unit, o = .inr (Sum.inr x9) → V E (0, 0) G 6 (QI E G post) M 51 [] []) : V E (0, 0) G 6 (QI E G post) M 26 [(0, .ref (G.2.2 + 1)), (1, .ref (G.2.2 + 3)), (2, .int v2), (5, .int s)] [] := by
  unfold lb_Crowd_isCutOff_26 at h
  refine V_iload (n := 3) X d_Crowd_isCutOff_26 rfl rfl ?_
  refine V_bipush (v := 10) X d_Crowd_isCutOff_28 (by decide) rfl ?_
  refine V_icmp_ge (tgt := 59) X d_Crowd_isCutOff_30 (by decide) rfl (fun c3 => ?_) (fun c3 => ?_)
  · rw [if_pos c3] at h
    refine V_sub (lv' := []) [] rfl ?_
    exact kx0 () (Option.some.inj h).symm
  · rw [if_neg c3] at h
    refine V_aload_n (n := 1) X d_Crowd_isCutOff_33 rfl rfl rfl ?_
    refine V_iload_n (n := 2) X d_Crowd_isCutOff_34 rfl rfl rfl ?_
    refine V_aload_n (n := 0) X d_Crowd_isCutOff_35 rfl rfl rfl ?_
    refine V_geti X fo_Crowd_63 kd_1 rfl d_Crowd_isCutOff_36 rfl ?_
    refine V_bipush (v := 10) X d_Crowd_isCutOff_39 (by decide) rfl ?_
    refine V_imul X d_Crowd_isCutOff_41 rfl ?_
    refine V_iload (n := 3) X d_Crowd_isCutOff_42 rfl rfl ?_
    refine V_iadd X d_Crowd_isCutOff_44 rfl ?_
    obtain ⟨x1, hx1, h⟩ := ob_s h
    refine V_ci (As := [.int v2, .int (((M.1 1 2) * (10 : Int32)) + s)]) X (Z0 E) ml_Crowd_66 yq_Ground_holds (c_Ground_holds E.2.1 G v2 (((M.1 1 2) * (10 : Int32)) + s) M x1 hx1 _ (Nat.le_refl _)) kd_3 rfl rfl (by omega) rfl (Nat.le_of_ble_eq_true rfl) d_Crowd_isCutOff_45 rfl (fun r9 M9 hq => ?_)
    rw [hq.1, hq.2]
    refine V_if_eq (tgt := 53) X d_Crowd_isCutOff_48 (by decide) rfl (fun c2 => ?_) (fun c2 => ?_)
    · rw [if_pos c2] at h
      refine V_iinc (n := 3) (v := (s + (1 : Int32))) (lv' := [(5, .int (s + (1 : Int32))), (0, .ref (G.2.2 + 1)), (1, .ref (G.2.2 + 3)), (2, .int v2)]) X d_Crowd_isCutOff_53 rfl rfl (by decide) rfl rfl ?_
      refine V_goto (pc' := 26) X d_Crowd_isCutOff_56 (by decide) ?_
      refine V_sub (lv' := [(0, .ref (G.2.2 + 1)), (1, .ref (G.2.2 + 3)), (2, .int v2), (5, .int (s + (1 : Int32)))]) [1, 2, 3, 0] rfl ?_
      exact kc (s + (1 : Int32)) (Option.some.inj h).symm
    · rw [if_neg c2] at h
      refine V_sub (lv' := []) [] rfl ?_
      exact kx1 () (Option.some.inj h).symm
theorem lp_Crowd_isCutOff_26_ok {E : Ev} {G : Gw} {d : Nat} {post : Int32 → Mem → Prop} (X : Cx E G b_Crowd_isCutOff "WomenByTheRoofs$Crowd" 6 d (some .boolean)) (hD : 2 ≤ d)  (v2 : Int32)  (M : Mem) (n9 : Nat) (s : Int32) (x : (Unit) ⊕ (Unit)) (h : iter (lb_Crowd_isCutOff_26 v2 M) n9 s = some x) (kx0 : ∀ x9 : Unit, x = (Sum.inl x9) → V E (0, 0) G 6 (QI E G post) M 59 [] []) (kx1 : ∀ x9 : Unit, x = (Sum.inr x9) → V E (0, 0) G 6 (QI E G post) M 51 [] []) : V E (0, 0) G 6 (QI E G post) M 26 [(0, .ref (G.2.2 + 1)), (1, .ref (G.2.2 + 3)), (2, .int v2), (5, .int s)] [] :=
  iter_P (P := fun s : Int32 => V E (0, 0) G 6 (QI E G post) M 26 [(0, .ref (G.2.2 + 1)), (1, .ref (G.2.2 + 3)), (2, .int v2), (5, .int s)] []) (fun s o hb kc ky => lb_Crowd_isCutOff_26_ok X hD v2 M s o hb kc (fun x9 e9 => kx0 x9 (ky _ e9).symm) (fun x9 e9 => kx1 x9 (ky _ e9).symm)) n9 s h
def f_Crowd_isCutOff (v2 : Int32) (v3 : Int32) (v4 : Int32) (M : Mem) : Option (Int32) :=
  if v4 = (1 : Int32) then
  if v3 = (76 : Int32) then
  if (76 : Int32) < (M.1 1 1) then
  Option.bind (iter (lb_Crowd_isCutOff_26 v2 M) FU (0 : Int32)) (Sum.elim (fun y5 => some (0 : Int32)) (fun y6 => some (1 : Int32)))
  else
  some (0 : Int32)
  else
  some (0 : Int32)
  else
  some (0 : Int32)
theorem c_Crowd_isCutOff (l : Launch) (G : Gw)  (v2 : Int32) (v3 : Int32) (v4 : Int32) (M : Mem) (x : Int32) (h : f_Crowd_isCutOff v2 v3 v4 M = some x) (d : Nat) (hD : 2 ≤ d) : Ci l G y_Crowd_isCutOff b_Crowd_isCutOff 6 (some .boolean) d [.ref (G.2.2 + 1), .ref (G.2.2 + 3), .int v2, .int v3, .int v4] M (fun r9 M9 => r9 = x ∧ M9 = M) := by
  refine Ci_of (by decide) (Nat.le_of_ble_eq_true rfl) (fun E hE X => ?_)
  subst hE
  have kr : ∀ x9 : Int32, x = x9 → (fun r9 M9 => r9 = x ∧ M9 = M) x9 M := fun x9 e9 => by subst e9; exact ⟨rfl, rfl⟩
  unfold f_Crowd_isCutOff at h
  refine V_iload (n := 4) X d_Crowd_isCutOff_0 rfl rfl ?_
  refine V_iconst (v := 1) X d_Crowd_isCutOff_2 (by decide) rfl ?_
  refine V_icmp_ne (tgt := 21) X d_Crowd_isCutOff_3 (by decide) rfl (fun c9 => ?_) (fun c9 => ?_)
  · rw [if_neg c9] at h
    refine V_iconst (v := 0) X d_Crowd_isCutOff_21 (by decide) rfl ?_
    exact V_zret X (kr (0 : Int32) (Option.some.inj h).symm) (by decide) d_Crowd_isCutOff_22
  · rw [if_pos c9] at h
    refine V_iload_n (n := 3) X d_Crowd_isCutOff_6 rfl rfl rfl ?_
    refine V_bipush (v := 76) X d_Crowd_isCutOff_7 (by decide) rfl ?_
    refine V_icmp_ne (tgt := 21) X d_Crowd_isCutOff_9 (by decide) rfl (fun c8 => ?_) (fun c8 => ?_)
    · rw [if_neg c8] at h
      refine V_iconst (v := 0) X d_Crowd_isCutOff_21 (by decide) rfl ?_
      exact V_zret X (kr (0 : Int32) (Option.some.inj h).symm) (by decide) d_Crowd_isCutOff_22
    · rw [if_pos c8] at h
      refine V_aload_n (n := 0) X d_Crowd_isCutOff_12 rfl rfl rfl ?_
      refine V_geti X fo_Crowd_44 kd_1 rfl d_Crowd_isCutOff_13 rfl ?_
      refine V_bipush (v := 76) X d_Crowd_isCutOff_16 (by decide) rfl ?_
      refine V_icmp_gt (tgt := 23) X d_Crowd_isCutOff_18 (by decide) rfl (fun c7 => ?_) (fun c7 => ?_)
      · rw [if_pos c7] at h
        refine V_iconst (v := 0) X d_Crowd_isCutOff_23 (by decide) rfl ?_
        refine V_istore (lv' := [(5, .int (0 : Int32)), (0, .ref (G.2.2 + 1)), (1, .ref (G.2.2 + 3)), (2, .int v2), (3, .int v3), (4, .int v4)]) X d_Crowd_isCutOff_24 (by decide) rfl rfl ?_
        refine V_sub (lv' := [(0, .ref (G.2.2 + 1)), (1, .ref (G.2.2 + 3)), (2, .int v2), (5, .int (0 : Int32))]) [1, 2, 3, 0] rfl ?_
        obtain ⟨x4, hx4, h⟩ := ob_s h
        rcases x4 with y5 | y6
        · simp only [Sum.elim_inl, Sum.elim_inr] at h
          refine (lp_Crowd_isCutOff_26_ok X hD v2 M _ _ _ hx4 (fun x9 e9 => ?_) (fun x9 e9 => by cases e9) :)
          cases e9
          refine V_iconst (v := 0) X d_Crowd_isCutOff_59 (by decide) rfl ?_
          exact V_zret X (kr (0 : Int32) (Option.some.inj h).symm) (by decide) d_Crowd_isCutOff_60
        · simp only [Sum.elim_inl, Sum.elim_inr] at h
          refine (lp_Crowd_isCutOff_26_ok X hD v2 M _ _ _ hx4 (fun x9 e9 => by cases e9) (fun x9 e9 => ?_) :)
          cases e9
          refine V_iconst (v := 1) X d_Crowd_isCutOff_51 (by decide) rfl ?_
          exact V_zret X (kr (1 : Int32) (Option.some.inj h).symm) (by decide) d_Crowd_isCutOff_52
      · rw [if_neg c7] at h
        refine V_iconst (v := 0) X d_Crowd_isCutOff_21 (by decide) rfl ?_
        exact V_zret X (kr (0 : Int32) (Option.some.inj h).symm) (by decide) d_Crowd_isCutOff_22
def j_Crowd_readLine_51 (v3 : Int32) (v4 : Int32) (w0 : Int32) (M : Mem) : Option (Int32 × Mem) :=
  Option.bind (f_Signs_digits (v4 + (1 : Int32)) (76 : Int32) (2 : Int32) M) fun x2 =>
  if x2.1 = 0 then
  some (((-1 : Int32) - ((v4 + (1 : Int32)) + x2.1)), x2.2)
  else
  Option.bind (f_Ground_holds w0 (x2.2.1 1 2) x2.2) fun x3 =>
  if x3 = 0 then
  Option.bind (f_Crowd_isCutOff w0 ((v4 + (1 : Int32)) + x2.1) x2.1 x2.2) fun x11 =>
  if x11 = 0 then
  some ((-((v4 + (1 : Int32)) + x2.1)), x2.2)
  else
  some (((-1 : Int32) - ((v4 + (1 : Int32)) + x2.1)), x2.2)
  else
  Option.bind (f_Signs_at ((v4 + (1 : Int32)) + x2.1) (76 : Int32) x2.2) fun x4 =>
  if x4 = (58 : Int32) then
  if inb v3 8 = true then
  mem_ (s_i x2.2 9 v3.toNatClampNeg (x2.2.1 1 2)) fun M5 =>
  mem_ (s_i M5 6 6 ((M5.1 6 6) ||| (w0 <<< (v3 &&& 31)))) fun M6 =>
  Option.bind (f_Signs_steps (((v4 + (1 : Int32)) + x2.1) + (1 : Int32)) (76 : Int32) 7 (v3 * (9 : Int32)) M6) fun x7 =>
  if inb v3 8 = true then
  mem_ (s_i x7.2 8 v3.toNatClampNeg x7.1) fun M8 =>
  if inb v3 8 = true then
  if inb v3 8 = true then
  if (M8.1 8 v3.toNatClampNeg) = 0 then
  some (((-1 : Int32) - ((((v4 + (1 : Int32)) + x2.1) + (1 : Int32)) + (M8.1 8 v3.toNatClampNeg))), M8)
  else
  some (((((v4 + (1 : Int32)) + x2.1) + (1 : Int32)) + (M8.1 8 v3.toNatClampNeg)), M8)
  else none
  else none
  else none
  else none
  else
  some (((-1 : Int32) - ((v4 + (1 : Int32)) + x2.1)), x2.2)
theorem j_Crowd_readLine_51_ok {E : Ev} {G : Gw} {d : Nat} {post : Int32 → Mem → Prop} (X : Cx E G b_Crowd_readLine "WomenByTheRoofs$Crowd" 10 d (some .int)) (hD : 3 ≤ d)  (v3 : Int32) (v4 : Int32) (w0 : Int32)  (M : Mem)  (o : Int32 × Mem) (h : j_Crowd_readLine_51 v3 v4 w0 M = some o) (kr : ∀ x9 : Int32 × Mem, o = x9 → post x9.1 x9.2) : V E (0, 0) G 10 (QI E G post) M 51 [(0, .ref (G.2.2 + 6)), (1, .ref (G.2.2 + 1)), (2, .ref (G.2.2 + 3)), (3, .int v3), (4, .int v4)] [.int w0] := by
  unfold j_Crowd_readLine_51 at h
  refine V_istore (lv' := [(6, .int w0), (0, .ref (G.2.2 + 6)), (1, .ref (G.2.2 + 1)), (2, .ref (G.2.2 + 3)), (3, .int v3), (4, .int v4)]) X d_Crowd_readLine_51 (by decide) rfl rfl ?_
  refine V_aload_n (n := 2) X d_Crowd_readLine_53 rfl rfl rfl ?_
  refine V_iload (n := 5) X d_Crowd_readLine_54 rfl rfl ?_
  refine V_iconst (v := 1) X d_Crowd_readLine_56 (by decide) rfl ?_
  refine V_iadd X d_Crowd_readLine_57 rfl ?_
  refine V_bipush (v := 76) X d_Crowd_readLine_58 (by decide) rfl ?_
  refine V_iconst (v := 2) X d_Crowd_readLine_60 (by decide) rfl ?_
  obtain ⟨x2, hx2, h⟩ := ob_s h
  refine V_ci (As := [.int (v4 + (1 : Int32)), .int (76 : Int32), .int (2 : Int32)]) X (Z0 E) ml_Crowd_59 yq_Signs_digits (c_Signs_digits E.2.1 G (v4 + (1 : Int32)) (76 : Int32) (2 : Int32) M x2 hx2 _ (Nat.le_refl _)) kd_1 rfl rfl (by omega) rfl (Nat.le_of_ble_eq_true rfl) d_Crowd_readLine_61 rfl (fun r9 M9 hq => ?_)
  rw [hq.1, hq.2]
  refine V_istore (lv' := [(7, .int x2.1), (6, .int w0), (0, .ref (G.2.2 + 6)), (1, .ref (G.2.2 + 1)), (2, .ref (G.2.2 + 3)), (3, .int v3), (4, .int v4)]) X d_Crowd_readLine_64 (by decide) rfl rfl ?_
  refine V_iload (n := 6) X d_Crowd_readLine_66 rfl rfl ?_
  refine V_iconst (v := 1) X d_Crowd_readLine_68 (by decide) rfl ?_
  refine V_iadd X d_Crowd_readLine_69 rfl ?_
  refine V_iload (n := 0) X d_Crowd_readLine_70 rfl rfl ?_
  refine V_iadd X d_Crowd_readLine_72 rfl ?_
  refine V_istore (lv' := [(8, .int ((v4 + (1 : Int32)) + x2.1)), (7, .int x2.1), (6, .int w0), (0, .ref (G.2.2 + 6)), (1, .ref (G.2.2 + 1)), (2, .ref (G.2.2 + 3)), (3, .int v3), (4, .int v4)]) X d_Crowd_readLine_73 (by decide) rfl rfl ?_
  refine V_iload (n := 1) X d_Crowd_readLine_75 rfl rfl ?_
  refine V_if_ne (tgt := 85) X d_Crowd_readLine_77 (by decide) rfl (fun c14 => ?_) (fun c14 => ?_)
  · rw [if_neg c14] at h
    refine V_aload_n (n := 5) X d_Crowd_readLine_85 rfl rfl rfl ?_
    refine V_iload (n := 2) X d_Crowd_readLine_86 rfl rfl ?_
    refine V_aload_n (n := 4) X d_Crowd_readLine_88 rfl rfl rfl ?_
    refine V_geti X fo_Crowd_63 kd_1 rfl d_Crowd_readLine_89 rfl ?_
    obtain ⟨x3, hx3, h⟩ := ob_s h
    refine V_ci (As := [.int w0, .int (x2.2.1 1 2)]) X (Z0 E) ml_Crowd_66 yq_Ground_holds (c_Ground_holds E.2.1 G w0 (x2.2.1 1 2) x2.2 x3 hx3 _ (Nat.le_refl _)) kd_3 rfl rfl (by omega) rfl (Nat.le_of_ble_eq_true rfl) d_Crowd_readLine_92 rfl (fun r9 M9 hq => ?_)
    rw [hq.1, hq.2]
    refine V_if_ne (tgt := 123) X d_Crowd_readLine_95 (by decide) rfl (fun c13 => ?_) (fun c13 => ?_)
    · rw [if_neg c13] at h
      refine V_aload_n (n := 4) X d_Crowd_readLine_123 rfl rfl rfl ?_
      refine V_iload (n := 0) X d_Crowd_readLine_124 rfl rfl ?_
      refine V_bipush (v := 76) X d_Crowd_readLine_126 (by decide) rfl ?_
      obtain ⟨x4, hx4, h⟩ := ob_s h
      refine V_ci (As := [.int ((v4 + (1 : Int32)) + x2.1), .int (76 : Int32)]) X (Z0 E) ml_Crowd_56 yq_Signs_at (c_Signs_at E.2.1 G ((v4 + (1 : Int32)) + x2.1) (76 : Int32) x2.2 x4 hx4 _ (Nat.le_refl _)) kd_1 rfl rfl (by omega) rfl (Nat.le_of_ble_eq_true rfl) d_Crowd_readLine_128 rfl (fun r9 M9 hq => ?_)
      rw [hq.1, hq.2]
      refine V_bipush (v := 58) X d_Crowd_readLine_131 (by decide) rfl ?_
      refine V_icmp_eq (tgt := 141) X d_Crowd_readLine_133 (by decide) rfl (fun c10 => ?_) (fun c10 => ?_)
      · rw [if_pos c10] at h
        refine V_aload_n (n := 3) X d_Crowd_readLine_141 rfl rfl rfl ?_
        refine V_getr (k2 := 9) X fo_Crowd_18 kd_6 rfl rf_6_2 d_Crowd_readLine_142 rfl ?_
        refine V_iload_n (n := 6) X d_Crowd_readLine_145 rfl rfl rfl ?_
        refine V_aload_n (n := 4) X d_Crowd_readLine_146 rfl rfl rfl ?_
        refine V_geti X fo_Crowd_63 kd_1 rfl d_Crowd_readLine_147 rfl ?_
        obtain ⟨hb, h⟩ := ifn h
        obtain ⟨M5, eM5, h⟩ := memS h
        refine V_iast X kd_9 (inb_in ln_9 hb) d_Crowd_readLine_150 rfl ?_
        rw [← eM5]
        refine V_aload_n (n := 3) X d_Crowd_readLine_151 rfl rfl rfl ?_
        refine V_dup X d_Crowd_readLine_152 rfl rfl ?_
        refine V_geti X fo_Crowd_49 kd_6 rfl d_Crowd_readLine_153 rfl ?_
        refine V_iload (n := 2) X d_Crowd_readLine_156 rfl rfl ?_
        refine V_iload_n (n := 6) X d_Crowd_readLine_158 rfl rfl rfl ?_
        refine V_ishl X d_Crowd_readLine_159 rfl ?_
        refine V_ior X d_Crowd_readLine_160 rfl ?_
        obtain ⟨M6, eM6, h⟩ := memS h
        refine V_putI X fp_Crowd_49 kd_6 rfl d_Crowd_readLine_161 rfl ?_
        rw [← eM6]
        refine V_aload_n (n := 3) X d_Crowd_readLine_164 rfl rfl rfl ?_
        refine V_getr (k2 := 8) X fo_Crowd_15 kd_6 rfl rf_6_1 d_Crowd_readLine_165 rfl ?_
        refine V_iload_n (n := 6) X d_Crowd_readLine_168 rfl rfl rfl ?_
        refine V_aload_n (n := 4) X d_Crowd_readLine_169 rfl rfl rfl ?_
        refine V_iload (n := 0) X d_Crowd_readLine_170 rfl rfl ?_
        refine V_iconst (v := 1) X d_Crowd_readLine_172 (by decide) rfl ?_
        refine V_iadd X d_Crowd_readLine_173 rfl ?_
        refine V_bipush (v := 76) X d_Crowd_readLine_174 (by decide) rfl ?_
        refine V_aload_n (n := 3) X d_Crowd_readLine_176 rfl rfl rfl ?_
        refine V_getr (k2 := 7) X fo_Crowd_9 kd_6 rfl rf_6_0 d_Crowd_readLine_177 rfl ?_
        refine V_iload_n (n := 6) X d_Crowd_readLine_180 rfl rfl rfl ?_
        refine V_bipush (v := 9) X d_Crowd_readLine_181 (by decide) rfl ?_
        refine V_imul X d_Crowd_readLine_183 rfl ?_
        obtain ⟨x7, hx7, h⟩ := ob_s h
        refine V_ci (As := [.int (((v4 + (1 : Int32)) + x2.1) + (1 : Int32)), .int (76 : Int32), .ref (G.2.2 + 7), .int (v3 * (9 : Int32))]) X (Z0 E) ml_Crowd_76 yq_Signs_steps (c_Signs_steps E.2.1 G (((v4 + (1 : Int32)) + x2.1) + (1 : Int32)) (76 : Int32) 7 (v3 * (9 : Int32)) M6 x7 hx7 _ (Nat.le_refl _)) kd_1 rfl rfl (by omega) rfl (Nat.le_of_ble_eq_true rfl) d_Crowd_readLine_184 rfl (fun r9 M9 hq => ?_)
        rw [hq.1, hq.2]
        obtain ⟨hb, h⟩ := ifn h
        obtain ⟨M8, eM8, h⟩ := memS h
        refine V_iast X kd_8 (inb_in ln_8 hb) d_Crowd_readLine_187 rfl ?_
        rw [← eM8]
        refine V_iload (n := 0) X d_Crowd_readLine_188 rfl rfl ?_
        refine V_iconst (v := 1) X d_Crowd_readLine_190 (by decide) rfl ?_
        refine V_iadd X d_Crowd_readLine_191 rfl ?_
        refine V_aload_n (n := 3) X d_Crowd_readLine_192 rfl rfl rfl ?_
        refine V_getr (k2 := 8) X fo_Crowd_15 kd_6 rfl rf_6_1 d_Crowd_readLine_193 rfl ?_
        refine V_iload_n (n := 6) X d_Crowd_readLine_196 rfl rfl rfl ?_
        obtain ⟨hb, h⟩ := ifn h
        refine V_iald X kd_8 (inb_in ln_8 hb) d_Crowd_readLine_197 rfl ?_
        refine V_iadd X d_Crowd_readLine_198 rfl ?_
        refine V_istore (lv' := [(9, .int ((((v4 + (1 : Int32)) + x2.1) + (1 : Int32)) + (M8.1 8 v3.toNatClampNeg))), (8, .int ((v4 + (1 : Int32)) + x2.1)), (7, .int x2.1), (6, .int w0), (0, .ref (G.2.2 + 6)), (1, .ref (G.2.2 + 1)), (2, .ref (G.2.2 + 3)), (3, .int v3), (4, .int v4)]) X d_Crowd_readLine_199 (by decide) rfl rfl ?_
        refine V_aload_n (n := 4) X d_Crowd_readLine_201 rfl rfl rfl ?_
        refine V_getr (k2 := 8) X fo_Crowd_15 kd_6 rfl rf_6_1 d_Crowd_readLine_202 rfl ?_
        refine V_iload_n (n := 7) X d_Crowd_readLine_205 rfl rfl rfl ?_
        obtain ⟨hb, h⟩ := ifn h
        refine V_iald X kd_8 (inb_in ln_8 hb) d_Crowd_readLine_206 rfl ?_
        refine V_if_ne (tgt := 217) X d_Crowd_readLine_207 (by decide) rfl (fun c9 => ?_) (fun c9 => ?_)
        · rw [if_neg c9] at h
          refine V_iload (n := 0) X d_Crowd_readLine_217 rfl rfl ?_
          exact V_iret X (kr (((((v4 + (1 : Int32)) + x2.1) + (1 : Int32)) + (M8.1 8 v3.toNatClampNeg)), M8) (Option.some.inj h).symm) d_Crowd_readLine_219
        · rw [if_pos c9] at h
          refine V_iconst (v := -1) X d_Crowd_readLine_210 (by decide) rfl ?_
          refine V_iload (n := 0) X d_Crowd_readLine_211 rfl rfl ?_
          refine V_isub X d_Crowd_readLine_213 rfl ?_
          refine V_goto (pc' := 219) X d_Crowd_readLine_214 (by decide) ?_
          exact V_iret X (kr (((-1 : Int32) - ((((v4 + (1 : Int32)) + x2.1) + (1 : Int32)) + (M8.1 8 v3.toNatClampNeg))), M8) (Option.some.inj h).symm) d_Crowd_readLine_219
      · rw [if_neg c10] at h
        refine V_iconst (v := -1) X d_Crowd_readLine_136 (by decide) rfl ?_
        refine V_iload (n := 0) X d_Crowd_readLine_137 rfl rfl ?_
        refine V_isub X d_Crowd_readLine_139 rfl ?_
        exact V_iret X (kr (((-1 : Int32) - ((v4 + (1 : Int32)) + x2.1)), x2.2) (Option.some.inj h).symm) d_Crowd_readLine_140
    · rw [if_pos c13] at h
      refine V_aload_n (n := 4) X d_Crowd_readLine_98 rfl rfl rfl ?_
      refine V_aload_n (n := 5) X d_Crowd_readLine_99 rfl rfl rfl ?_
      refine V_iload (n := 2) X d_Crowd_readLine_100 rfl rfl ?_
      refine V_iload (n := 0) X d_Crowd_readLine_102 rfl rfl ?_
      refine V_iload (n := 1) X d_Crowd_readLine_104 rfl rfl ?_
      obtain ⟨x11, hx11, h⟩ := ob_s h
      refine V_si (As := [.ref (G.2.2 + 1), .ref (G.2.2 + 3), .int w0, .int ((v4 + (1 : Int32)) + x2.1), .int x2.1]) X (Z0 E) ml_Crowd_72 yq_Crowd_isCutOff (c_Crowd_isCutOff E.2.1 G w0 ((v4 + (1 : Int32)) + x2.1) x2.1 x2.2 x11 hx11 _ (Nat.le_refl _)) rfl (by omega) rfl (Nat.le_of_ble_eq_true rfl) d_Crowd_readLine_106 rfl (fun r9 M9 hq => ?_)
      rw [hq.1, hq.2]
      refine V_if_eq (tgt := 119) X d_Crowd_readLine_109 (by decide) rfl (fun c12 => ?_) (fun c12 => ?_)
      · rw [if_pos c12] at h
        refine V_iload (n := 0) X d_Crowd_readLine_119 rfl rfl ?_
        refine V_ineg X d_Crowd_readLine_121 rfl ?_
        exact V_iret X (kr ((-((v4 + (1 : Int32)) + x2.1)), x2.2) (Option.some.inj h).symm) d_Crowd_readLine_122
      · rw [if_neg c12] at h
        refine V_iconst (v := -1) X d_Crowd_readLine_112 (by decide) rfl ?_
        refine V_iload (n := 0) X d_Crowd_readLine_113 rfl rfl ?_
        refine V_isub X d_Crowd_readLine_115 rfl ?_
        refine V_goto (pc' := 122) X d_Crowd_readLine_116 (by decide) ?_
        exact V_iret X (kr (((-1 : Int32) - ((v4 + (1 : Int32)) + x2.1)), x2.2) (Option.some.inj h).symm) d_Crowd_readLine_122
  · rw [if_pos c14] at h
    refine V_iconst (v := -1) X d_Crowd_readLine_80 (by decide) rfl ?_
    refine V_iload (n := 0) X d_Crowd_readLine_81 rfl rfl ?_
    refine V_isub X d_Crowd_readLine_83 rfl ?_
    exact V_iret X (kr (((-1 : Int32) - ((v4 + (1 : Int32)) + x2.1)), x2.2) (Option.some.inj h).symm) d_Crowd_readLine_84
def j_Crowd_readLine_39 (v3 : Int32) (v4 : Int32) (v5 : Int32) (M : Mem) : Option (Int32 × Mem) :=
  if v5 = (119 : Int32) then
  j_Crowd_readLine_51 v3 v4 (1 : Int32) M
  else
  j_Crowd_readLine_51 v3 v4 (0 : Int32) M
theorem j_Crowd_readLine_39_ok {E : Ev} {G : Gw} {d : Nat} {post : Int32 → Mem → Prop} (X : Cx E G b_Crowd_readLine "WomenByTheRoofs$Crowd" 10 d (some .int)) (hD : 3 ≤ d)  (v3 : Int32) (v4 : Int32) (v5 : Int32)  (M : Mem)  (o : Int32 × Mem) (h : j_Crowd_readLine_39 v3 v4 v5 M = some o) (kr : ∀ x9 : Int32 × Mem, o = x9 → post x9.1 x9.2) : V E (0, 0) G 10 (QI E G post) M 39 [(0, .ref (G.2.2 + 6)), (1, .ref (G.2.2 + 1)), (2, .ref (G.2.2 + 3)), (3, .int v3), (4, .int v4), (5, .int v5)] [] := by
  unfold j_Crowd_readLine_39 at h
  refine V_iload (n := 5) X d_Crowd_readLine_39 rfl rfl ?_
  refine V_bipush (v := 119) X d_Crowd_readLine_41 (by decide) rfl ?_
  refine V_icmp_ne (tgt := 50) X d_Crowd_readLine_43 (by decide) rfl (fun c15 => ?_) (fun c15 => ?_)
  · rw [if_neg c15] at h
    refine V_iconst (v := 0) X d_Crowd_readLine_50 (by decide) rfl ?_
    refine V_sub (lv' := [(0, .ref (G.2.2 + 6)), (1, .ref (G.2.2 + 1)), (2, .ref (G.2.2 + 3)), (3, .int v3), (4, .int v4)]) [0, 1, 2, 3, 4] rfl ?_
    exact j_Crowd_readLine_51_ok X hD v3 v4 (0 : Int32) M _ h kr
  · rw [if_pos c15] at h
    refine V_iconst (v := 1) X d_Crowd_readLine_46 (by decide) rfl ?_
    refine V_goto (pc' := 51) X d_Crowd_readLine_47 (by decide) ?_
    refine V_sub (lv' := [(0, .ref (G.2.2 + 6)), (1, .ref (G.2.2 + 1)), (2, .ref (G.2.2 + 3)), (3, .int v3), (4, .int v4)]) [0, 1, 2, 3, 4] rfl ?_
    exact j_Crowd_readLine_51_ok X hD v3 v4 (1 : Int32) M _ h kr
def f_Crowd_readLine (v3 : Int32) (v4 : Int32) (M : Mem) : Option (Int32 × Mem) :=
  Option.bind (f_Signs_at v4 (76 : Int32) M) fun x1 =>
  if v3 < 0 then
  some (((-1 : Int32) - v4), M)
  else
  if (8 : Int32) ≤ v3 then
  some (((-1 : Int32) - v4), M)
  else
  if x1 = (109 : Int32) then
  j_Crowd_readLine_39 v3 v4 x1 M
  else
  if x1 = (119 : Int32) then
  j_Crowd_readLine_39 v3 v4 x1 M
  else
  some (((-1 : Int32) - v4), M)
theorem c_Crowd_readLine (l : Launch) (G : Gw)  (v3 : Int32) (v4 : Int32) (M : Mem) (x : Int32 × Mem) (h : f_Crowd_readLine v3 v4 M = some x) (d : Nat) (hD : 3 ≤ d) : Ci l G y_Crowd_readLine b_Crowd_readLine 10 (some .int) d [.ref (G.2.2 + 6), .ref (G.2.2 + 1), .ref (G.2.2 + 3), .int v3, .int v4] M (fun r9 M9 => r9 = x.1 ∧ M9 = x.2) := by
  refine Ci_of (by decide) (Nat.le_of_ble_eq_true rfl) (fun E hE X => ?_)
  subst hE
  have kr : ∀ x9 : Int32 × Mem, x = x9 → (fun r9 M9 => r9 = x.1 ∧ M9 = x.2) x9.1 x9.2 := fun x9 e9 => by subst e9; exact ⟨rfl, rfl⟩
  unfold f_Crowd_readLine at h
  refine V_aload_n (n := 1) X d_Crowd_readLine_0 rfl rfl rfl ?_
  refine V_iload (n := 4) X d_Crowd_readLine_1 rfl rfl ?_
  refine V_bipush (v := 76) X d_Crowd_readLine_3 (by decide) rfl ?_
  obtain ⟨x1, hx1, h⟩ := ob_s h
  refine V_ci (As := [.int v4, .int (76 : Int32)]) X (Z0 E) ml_Crowd_56 yq_Signs_at (c_Signs_at E.2.1 G v4 (76 : Int32) M x1 hx1 _ (Nat.le_refl _)) kd_1 rfl rfl (by omega) rfl (Nat.le_of_ble_eq_true rfl) d_Crowd_readLine_5 rfl (fun r9 M9 hq => ?_)
  rw [hq.1, hq.2]
  refine V_istore (lv' := [(5, .int x1), (0, .ref (G.2.2 + 6)), (1, .ref (G.2.2 + 1)), (2, .ref (G.2.2 + 3)), (3, .int v3), (4, .int v4)]) X d_Crowd_readLine_8 (by decide) rfl rfl ?_
  refine V_iload_n (n := 4) X d_Crowd_readLine_10 rfl rfl rfl ?_
  refine V_if_lt (tgt := 34) X d_Crowd_readLine_11 (by decide) rfl (fun c19 => ?_) (fun c19 => ?_)
  · rw [if_pos c19] at h
    refine V_iconst (v := -1) X d_Crowd_readLine_34 (by decide) rfl ?_
    refine V_iload (n := 5) X d_Crowd_readLine_35 rfl rfl ?_
    refine V_isub X d_Crowd_readLine_37 rfl ?_
    exact V_iret X (kr (((-1 : Int32) - v4), M) (Option.some.inj h).symm) d_Crowd_readLine_38
  · rw [if_neg c19] at h
    refine V_iload_n (n := 4) X d_Crowd_readLine_14 rfl rfl rfl ?_
    refine V_bipush (v := 8) X d_Crowd_readLine_15 (by decide) rfl ?_
    refine V_icmp_ge (tgt := 34) X d_Crowd_readLine_17 (by decide) rfl (fun c18 => ?_) (fun c18 => ?_)
    · rw [if_pos c18] at h
      refine V_iconst (v := -1) X d_Crowd_readLine_34 (by decide) rfl ?_
      refine V_iload (n := 5) X d_Crowd_readLine_35 rfl rfl ?_
      refine V_isub X d_Crowd_readLine_37 rfl ?_
      exact V_iret X (kr (((-1 : Int32) - v4), M) (Option.some.inj h).symm) d_Crowd_readLine_38
    · rw [if_neg c18] at h
      refine V_iload (n := 0) X d_Crowd_readLine_20 rfl rfl ?_
      refine V_bipush (v := 109) X d_Crowd_readLine_22 (by decide) rfl ?_
      refine V_icmp_eq (tgt := 39) X d_Crowd_readLine_24 (by decide) rfl (fun c17 => ?_) (fun c17 => ?_)
      · rw [if_pos c17] at h
        refine V_sub (lv' := [(0, .ref (G.2.2 + 6)), (1, .ref (G.2.2 + 1)), (2, .ref (G.2.2 + 3)), (3, .int v3), (4, .int v4), (5, .int x1)]) [1, 2, 3, 4, 5, 0] rfl ?_
        exact j_Crowd_readLine_39_ok X hD v3 v4 x1 M _ h kr
      · rw [if_neg c17] at h
        refine V_iload (n := 0) X d_Crowd_readLine_27 rfl rfl ?_
        refine V_bipush (v := 119) X d_Crowd_readLine_29 (by decide) rfl ?_
        refine V_icmp_eq (tgt := 39) X d_Crowd_readLine_31 (by decide) rfl (fun c16 => ?_) (fun c16 => ?_)
        · rw [if_pos c16] at h
          refine V_sub (lv' := [(0, .ref (G.2.2 + 6)), (1, .ref (G.2.2 + 1)), (2, .ref (G.2.2 + 3)), (3, .int v3), (4, .int v4), (5, .int x1)]) [1, 2, 3, 4, 5, 0] rfl ?_
          exact j_Crowd_readLine_39_ok X hD v3 v4 x1 M _ h kr
        · rw [if_neg c16] at h
          refine V_iconst (v := -1) X d_Crowd_readLine_34 (by decide) rfl ?_
          refine V_iload (n := 5) X d_Crowd_readLine_35 rfl rfl ?_
          refine V_isub X d_Crowd_readLine_37 rfl ?_
          exact V_iret X (kr (((-1 : Int32) - v4), M) (Option.some.inj h).symm) d_Crowd_readLine_38
def lb_Crowd_read_19  (s : Int32 × Int32 × Mem) : Option ((Int32 × Int32 × Mem) ⊕ ((Int32 × Mem) ⊕ (Int32 × Mem) ⊕ (Int32 × Mem) ⊕ (Int32 × Mem))) :=
  if (8 : Int32) < s.2.1 then
  some (.inr (Sum.inl (s.1, s.2.2)))
  else
  Option.bind (f_Crowd_readLine ((s.2.2.1 6 4) + s.2.1) s.1 s.2.2) fun x2 =>
  if 0 ≤ x2.1 then
  Option.bind (f_Signs_at x2.1 (76 : Int32) x2.2) fun x3 =>
  if x3 = (-1 : Int32) then
  some (.inr (Sum.inr (Sum.inr (Sum.inl (s.2.1, x2.2)))))
  else
  if x3 = (59 : Int32) then
  some (.inl ((x2.1 + (1 : Int32)), (s.2.1 + (1 : Int32)), x2.2))
  else
  some (.inr (Sum.inr (Sum.inr (Sum.inr (x2.1, x2.2)))))
  else
  some (.inr (Sum.inr (Sum.inl (x2.1, x2.2))))
theorem lb_Crowd_read_19_ok {E : Ev} {G : Gw} {d : Nat} {post : Int32 → Mem → Prop} (X : Cx E G b_Crowd_read "WomenByTheRoofs$Crowd" 6 d (some .int)) (hD : 4 ≤ d)     (s : Int32 × Int32 × Mem) (o : (Int32 × Int32 × Mem) ⊕ ((Int32 × Mem) ⊕ (Int32 × Mem) ⊕ (Int32 × Mem) ⊕ (Int32 × Mem))) (h : lb_Crowd_read_19 s = some o) (kc : ∀ s9 : Int32 × Int32 × Mem, o = .inl s9 → V E (0, 0) G 6 (QI E G post) s9.2.2 19 [(0, .ref (G.2.2 + 6)), (1, .ref (G.2.2 + 1)), (2, .ref (G.2.2 + 3)), (3, .int s9.1), (4, .int s9.2.1)] []) (kx0 : ∀ x9 : Int32 × Mem, o = .inr (Sum.inl x9) → V E (0, 0) G 6 (QI E G post) x9.2 101 [(3, .int x9.1)] []) (kx1 : ∀ x9 : Int32 × Mem, o = .inr (Sum.inr (Sum.inl x9)) → V E (0, 0) G 6 (QI E G post) x9.2 45 [(3, .int x9.1)] []) (kx2 : ∀ x9 : Int32 × Mem, o = .inr (Sum.inr (Sum.inr (Sum.inl x9))) → V E (0, 0) G 6 (QI E G post) x9.2 62 [(1, .ref (G.2.2 + 1)), (4, .int x9.1)] []) (kx3 : ∀ x9 : Int32 × Mem, o = .inr (Sum.inr (Sum.inr (Sum.inr x9))) → V E (0, 0) G 6 (QI E G post) x9.2 88 [(3, .int x9.1)] []) : V E (0, 0) G 6 (QI E G post) s.2.2 19 [(0, .ref (G.2.2 + 6)), (1, .ref (G.2.2 + 1)), (2, .ref (G.2.2 + 3)), (3, .int s.1), (4, .int s.2.1)] [] := by
  unfold lb_Crowd_read_19 at h
  refine V_iload (n := 4) X d_Crowd_read_19 rfl rfl ?_
  refine V_bipush (v := 8) X d_Crowd_read_21 (by decide) rfl ?_
  refine V_icmp_gt (tgt := 101) X d_Crowd_read_23 (by decide) rfl (fun c7 => ?_) (fun c7 => ?_)
  · rw [if_pos c7] at h
    refine V_sub (lv' := [(3, .int s.1)]) [3] rfl ?_
    exact kx0 (s.1, s.2.2) (Option.some.inj h).symm
  · rw [if_neg c7] at h
    refine V_aload_n (n := 0) X d_Crowd_read_26 rfl rfl rfl ?_
    refine V_aload_n (n := 1) X d_Crowd_read_27 rfl rfl rfl ?_
    refine V_aload_n (n := 2) X d_Crowd_read_28 rfl rfl rfl ?_
    refine V_aload_n (n := 0) X d_Crowd_read_29 rfl rfl rfl ?_
    refine V_geti X fo_Crowd_24 kd_6 rfl d_Crowd_read_30 rfl ?_
    refine V_iload (n := 4) X d_Crowd_read_33 rfl rfl ?_
    refine V_iadd X d_Crowd_read_35 rfl ?_
    refine V_iload_n (n := 3) X d_Crowd_read_36 rfl rfl rfl ?_
    obtain ⟨x2, hx2, h⟩ := ob_s h
    refine V_ci (As := [.ref (G.2.2 + 1), .ref (G.2.2 + 3), .int ((s.2.2.1 6 4) + s.2.1), .int s.1]) X (Z0 E) ml_Crowd_52 yq_Crowd_readLine (c_Crowd_readLine E.2.1 G ((s.2.2.1 6 4) + s.2.1) s.1 s.2.2 x2 hx2 _ (Nat.le_refl _)) kd_6 rfl rfl (by omega) rfl (Nat.le_of_ble_eq_true rfl) d_Crowd_read_37 rfl (fun r9 M9 hq => ?_)
    rw [hq.1, hq.2]
    refine V_istore_n (lv' := [(3, .int x2.1), (0, .ref (G.2.2 + 6)), (1, .ref (G.2.2 + 1)), (2, .ref (G.2.2 + 3)), (4, .int s.2.1)]) X d_Crowd_read_40 rfl (by decide) rfl rfl ?_
    refine V_iload_n (n := 0) X d_Crowd_read_41 rfl rfl rfl ?_
    refine V_if_ge (tgt := 47) X d_Crowd_read_42 (by decide) rfl (fun c6 => ?_) (fun c6 => ?_)
    · rw [if_pos c6] at h
      refine V_aload_n (n := 2) X d_Crowd_read_47 rfl rfl rfl ?_
      refine V_iload_n (n := 0) X d_Crowd_read_48 rfl rfl rfl ?_
      refine V_bipush (v := 76) X d_Crowd_read_49 (by decide) rfl ?_
      obtain ⟨x3, hx3, h⟩ := ob_s h
      refine V_ci (As := [.int x2.1, .int (76 : Int32)]) X (Z0 E) ml_Crowd_56 yq_Signs_at (c_Signs_at E.2.1 G x2.1 (76 : Int32) x2.2 x3 hx3 _ (Nat.le_refl _)) kd_1 rfl rfl (by omega) rfl (Nat.le_of_ble_eq_true rfl) d_Crowd_read_51 rfl (fun r9 M9 hq => ?_)
      rw [hq.1, hq.2]
      refine V_istore (lv' := [(5, .int x3), (3, .int x2.1), (0, .ref (G.2.2 + 6)), (1, .ref (G.2.2 + 1)), (2, .ref (G.2.2 + 3)), (4, .int s.2.1)]) X d_Crowd_read_54 (by decide) rfl rfl ?_
      refine V_iload (n := 0) X d_Crowd_read_56 rfl rfl ?_
      refine V_iconst (v := -1) X d_Crowd_read_58 (by decide) rfl ?_
      refine V_icmp_ne (tgt := 81) X d_Crowd_read_59 (by decide) rfl (fun c5 => ?_) (fun c5 => ?_)
      · rw [if_neg c5] at h
        refine V_iload (n := 0) X d_Crowd_read_81 rfl rfl ?_
        refine V_bipush (v := 59) X d_Crowd_read_83 (by decide) rfl ?_
        refine V_icmp_eq (tgt := 92) X d_Crowd_read_85 (by decide) rfl (fun c4 => ?_) (fun c4 => ?_)
        · rw [if_pos c4] at h
          refine V_iinc (n := 1) (v := (x2.1 + (1 : Int32))) (lv' := [(3, .int (x2.1 + (1 : Int32))), (5, .int x3), (0, .ref (G.2.2 + 6)), (1, .ref (G.2.2 + 1)), (2, .ref (G.2.2 + 3)), (4, .int s.2.1)]) X d_Crowd_read_92 rfl rfl (by decide) rfl rfl ?_
          refine V_iinc (n := 5) (v := (s.2.1 + (1 : Int32))) (lv' := [(4, .int (s.2.1 + (1 : Int32))), (3, .int (x2.1 + (1 : Int32))), (5, .int x3), (0, .ref (G.2.2 + 6)), (1, .ref (G.2.2 + 1)), (2, .ref (G.2.2 + 3))]) X d_Crowd_read_95 rfl rfl (by decide) rfl rfl ?_
          refine V_goto (pc' := 19) X d_Crowd_read_98 (by decide) ?_
          refine V_sub (lv' := [(0, .ref (G.2.2 + 6)), (1, .ref (G.2.2 + 1)), (2, .ref (G.2.2 + 3)), (3, .int (x2.1 + (1 : Int32))), (4, .int (s.2.1 + (1 : Int32)))]) [3, 4, 5, 1, 0] rfl ?_
          exact kc ((x2.1 + (1 : Int32)), (s.2.1 + (1 : Int32)), x2.2) (Option.some.inj h).symm
        · rw [if_neg c4] at h
          refine V_sub (lv' := [(3, .int x2.1)]) [1] rfl ?_
          exact kx3 (x2.1, x2.2) (Option.some.inj h).symm
      · rw [if_pos c5] at h
        refine V_sub (lv' := [(1, .ref (G.2.2 + 1)), (4, .int s.2.1)]) [3, 5] rfl ?_
        exact kx2 (s.2.1, x2.2) (Option.some.inj h).symm
    · rw [if_neg c6] at h
      refine V_sub (lv' := [(3, .int x2.1)]) [0] rfl ?_
      exact kx1 (x2.1, x2.2) (Option.some.inj h).symm
theorem lp_Crowd_read_19_ok {E : Ev} {G : Gw} {d : Nat} {post : Int32 → Mem → Prop} (X : Cx E G b_Crowd_read "WomenByTheRoofs$Crowd" 6 d (some .int)) (hD : 4 ≤ d)     (n9 : Nat) (s : Int32 × Int32 × Mem) (x : (Int32 × Mem) ⊕ (Int32 × Mem) ⊕ (Int32 × Mem) ⊕ (Int32 × Mem)) (h : iter (lb_Crowd_read_19) n9 s = some x) (kx0 : ∀ x9 : Int32 × Mem, x = (Sum.inl x9) → V E (0, 0) G 6 (QI E G post) x9.2 101 [(3, .int x9.1)] []) (kx1 : ∀ x9 : Int32 × Mem, x = (Sum.inr (Sum.inl x9)) → V E (0, 0) G 6 (QI E G post) x9.2 45 [(3, .int x9.1)] []) (kx2 : ∀ x9 : Int32 × Mem, x = (Sum.inr (Sum.inr (Sum.inl x9))) → V E (0, 0) G 6 (QI E G post) x9.2 62 [(1, .ref (G.2.2 + 1)), (4, .int x9.1)] []) (kx3 : ∀ x9 : Int32 × Mem, x = (Sum.inr (Sum.inr (Sum.inr x9))) → V E (0, 0) G 6 (QI E G post) x9.2 88 [(3, .int x9.1)] []) : V E (0, 0) G 6 (QI E G post) s.2.2 19 [(0, .ref (G.2.2 + 6)), (1, .ref (G.2.2 + 1)), (2, .ref (G.2.2 + 3)), (3, .int s.1), (4, .int s.2.1)] [] :=
  iter_P (P := fun s : Int32 × Int32 × Mem => V E (0, 0) G 6 (QI E G post) s.2.2 19 [(0, .ref (G.2.2 + 6)), (1, .ref (G.2.2 + 1)), (2, .ref (G.2.2 + 3)), (3, .int s.1), (4, .int s.2.1)] []) (fun s o hb kc ky => lb_Crowd_read_19_ok X hD  s o hb kc (fun x9 e9 => kx0 x9 (ky _ e9).symm) (fun x9 e9 => kx1 x9 (ky _ e9).symm) (fun x9 e9 => kx2 x9 (ky _ e9).symm) (fun x9 e9 => kx3 x9 (ky _ e9).symm)) n9 s h
def f_Crowd_read (M : Mem) : Option (Int32 × Mem) :=
  if (M.1 1 1) = 0 then
  some ((0 : Int32), M)
  else
  mem_ (s_i M 6 6 (0 : Int32)) fun M1 =>
  Option.bind (iter (lb_Crowd_read_19) FU ((0 : Int32), (0 : Int32), M1)) (Sum.elim (fun y9 => some (((-1 : Int32) - y9.1), y9.2)) (Sum.elim (fun y10 => some (y10.1, y10.2)) (Sum.elim (fun y11 => if (y11.2.1 1 1) ≤ (76 : Int32) then
  some ((y11.1 + (1 : Int32)), y11.2)
  else
  some ((-77 : Int32), y11.2)) (fun y13 => some (((-1 : Int32) - y13.1), y13.2)))))
theorem c_Crowd_read (l : Launch) (G : Gw)   (M : Mem) (x : Int32 × Mem) (h : f_Crowd_read M = some x) (d : Nat) (hD : 4 ≤ d) : Ci l G y_Crowd_read b_Crowd_read 6 (some .int) d [.ref (G.2.2 + 6), .ref (G.2.2 + 1), .ref (G.2.2 + 3)] M (fun r9 M9 => r9 = x.1 ∧ M9 = x.2) := by
  refine Ci_of (by decide) (Nat.le_of_ble_eq_true rfl) (fun E hE X => ?_)
  subst hE
  have kr : ∀ x9 : Int32 × Mem, x = x9 → (fun r9 M9 => r9 = x.1 ∧ M9 = x.2) x9.1 x9.2 := fun x9 e9 => by subst e9; exact ⟨rfl, rfl⟩
  unfold f_Crowd_read at h
  refine V_aload_n (n := 1) X d_Crowd_read_0 rfl rfl rfl ?_
  refine V_geti X fo_Crowd_44 kd_1 rfl d_Crowd_read_1 rfl ?_
  refine V_if_ne (tgt := 9) X d_Crowd_read_4 (by decide) rfl (fun c14 => ?_) (fun c14 => ?_)
  · rw [if_neg c14] at h
    refine V_aload_n (n := 0) X d_Crowd_read_9 rfl rfl rfl ?_
    refine V_iconst (v := 0) X d_Crowd_read_10 (by decide) rfl ?_
    obtain ⟨M1, eM1, h⟩ := memS h
    refine V_putI X fp_Crowd_49 kd_6 rfl d_Crowd_read_11 rfl ?_
    rw [← eM1]
    refine V_iconst (v := 0) X d_Crowd_read_14 (by decide) rfl ?_
    refine V_istore_n (lv' := [(3, .int (0 : Int32)), (0, .ref (G.2.2 + 6)), (1, .ref (G.2.2 + 1)), (2, .ref (G.2.2 + 3))]) X d_Crowd_read_15 rfl (by decide) rfl rfl ?_
    refine V_iconst (v := 0) X d_Crowd_read_16 (by decide) rfl ?_
    refine V_istore (lv' := [(4, .int (0 : Int32)), (3, .int (0 : Int32)), (0, .ref (G.2.2 + 6)), (1, .ref (G.2.2 + 1)), (2, .ref (G.2.2 + 3))]) X d_Crowd_read_17 (by decide) rfl rfl ?_
    refine V_sub (lv' := [(0, .ref (G.2.2 + 6)), (1, .ref (G.2.2 + 1)), (2, .ref (G.2.2 + 3)), (3, .int (0 : Int32)), (4, .int (0 : Int32))]) [2, 3, 4, 1, 0] rfl ?_
    obtain ⟨x8, hx8, h⟩ := ob_s h
    rcases x8 with y9 | y10 | y11 | y13
    · simp only [Sum.elim_inl, Sum.elim_inr] at h
      refine (lp_Crowd_read_19_ok X hD  _ _ _ hx8 (fun x9 e9 => ?_) (fun x9 e9 => by cases e9) (fun x9 e9 => by cases e9) (fun x9 e9 => by cases e9) :)
      cases e9
      refine V_iconst (v := -1) X d_Crowd_read_101 (by decide) rfl ?_
      refine V_iload_n (n := 0) X d_Crowd_read_102 rfl rfl rfl ?_
      refine V_isub X d_Crowd_read_103 rfl ?_
      exact V_iret X (kr (((-1 : Int32) - y9.1), y9.2) (Option.some.inj h).symm) d_Crowd_read_104
    · simp only [Sum.elim_inl, Sum.elim_inr] at h
      refine (lp_Crowd_read_19_ok X hD  _ _ _ hx8 (fun x9 e9 => by cases e9) (fun x9 e9 => ?_) (fun x9 e9 => by cases e9) (fun x9 e9 => by cases e9) :)
      cases e9
      refine V_iload_n (n := 0) X d_Crowd_read_45 rfl rfl rfl ?_
      exact V_iret X (kr (y10.1, y10.2) (Option.some.inj h).symm) d_Crowd_read_46
    · simp only [Sum.elim_inl, Sum.elim_inr] at h
      refine (lp_Crowd_read_19_ok X hD  _ _ _ hx8 (fun x9 e9 => by cases e9) (fun x9 e9 => by cases e9) (fun x9 e9 => ?_) (fun x9 e9 => by cases e9) :)
      cases e9
      refine V_aload_n (n := 0) X d_Crowd_read_62 rfl rfl rfl ?_
      refine V_geti X fo_Crowd_44 kd_1 rfl d_Crowd_read_63 rfl ?_
      refine V_bipush (v := 76) X d_Crowd_read_66 (by decide) rfl ?_
      refine V_icmp_le (tgt := 76) X d_Crowd_read_68 (by decide) rfl (fun c12 => ?_) (fun c12 => ?_)
      · rw [if_pos c12] at h
        refine V_iload (n := 1) X d_Crowd_read_76 rfl rfl ?_
        refine V_iconst (v := 1) X d_Crowd_read_78 (by decide) rfl ?_
        refine V_iadd X d_Crowd_read_79 rfl ?_
        exact V_iret X (kr ((y11.1 + (1 : Int32)), y11.2) (Option.some.inj h).symm) d_Crowd_read_80
      · rw [if_neg c12] at h
        refine V_bipush (v := -77) X d_Crowd_read_71 (by decide) rfl ?_
        refine V_goto (pc' := 80) X d_Crowd_read_73 (by decide) ?_
        exact V_iret X (kr ((-77 : Int32), y11.2) (Option.some.inj h).symm) d_Crowd_read_80
    · simp only [Sum.elim_inl, Sum.elim_inr] at h
      refine (lp_Crowd_read_19_ok X hD  _ _ _ hx8 (fun x9 e9 => by cases e9) (fun x9 e9 => by cases e9) (fun x9 e9 => by cases e9) (fun x9 e9 => ?_) :)
      cases e9
      refine V_iconst (v := -1) X d_Crowd_read_88 (by decide) rfl ?_
      refine V_iload_n (n := 0) X d_Crowd_read_89 rfl rfl rfl ?_
      refine V_isub X d_Crowd_read_90 rfl ?_
      exact V_iret X (kr (((-1 : Int32) - y13.1), y13.2) (Option.some.inj h).symm) d_Crowd_read_91
  · rw [if_pos c14] at h
    refine V_iconst (v := 0) X d_Crowd_read_7 (by decide) rfl ?_
    exact V_iret X (kr ((0 : Int32), M) (Option.some.inj h).symm) d_Crowd_read_8
def f_Crowd_letIn (v1 : Int32) (M : Mem) : Option (Mem) :=
  mem_ (s_i M 6 4 ((M.1 6 4) + v1)) fun M1 =>
  mem_ (s_i M1 6 5 ((M1.1 6 5) ||| (M1.1 6 6))) fun M2 =>
  some M2
theorem c_Crowd_letIn (l : Launch) (G : Gw)  (v1 : Int32) (M : Mem) (x : Mem) (h : f_Crowd_letIn v1 M = some x) (d : Nat) (hD : 1 ≤ d) : Cv l G y_Crowd_letIn b_Crowd_letIn 2 none d [.ref (G.2.2 + 6), .int v1] M (fun M9 => M9 = x) := by
  refine Cv_of (by decide) (Nat.le_of_ble_eq_true rfl) (fun E hE X => ?_)
  subst hE
  have kr : ∀ x9 : Mem, x = x9 → (fun M9 => M9 = x) x9 := fun x9 e9 => by subst e9; exact rfl
  unfold f_Crowd_letIn at h
  refine V_aload_n (n := 0) X d_Crowd_letIn_0 rfl rfl rfl ?_
  refine V_dup X d_Crowd_letIn_1 rfl rfl ?_
  refine V_geti X fo_Crowd_24 kd_6 rfl d_Crowd_letIn_2 rfl ?_
  refine V_iload_n (n := 1) X d_Crowd_letIn_5 rfl rfl rfl ?_
  refine V_iadd X d_Crowd_letIn_6 rfl ?_
  obtain ⟨M1, eM1, h⟩ := memS h
  refine V_putI X fp_Crowd_24 kd_6 rfl d_Crowd_letIn_7 rfl ?_
  rw [← eM1]
  refine V_aload_n (n := 0) X d_Crowd_letIn_10 rfl rfl rfl ?_
  refine V_dup X d_Crowd_letIn_11 rfl rfl ?_
  refine V_geti X fo_Crowd_28 kd_6 rfl d_Crowd_letIn_12 rfl ?_
  refine V_aload_n (n := 0) X d_Crowd_letIn_15 rfl rfl rfl ?_
  refine V_geti X fo_Crowd_49 kd_6 rfl d_Crowd_letIn_16 rfl ?_
  refine V_ior X d_Crowd_letIn_19 rfl ?_
  obtain ⟨M2, eM2, h⟩ := memS h
  refine V_putI X fp_Crowd_28 kd_6 rfl d_Crowd_letIn_20 rfl ?_
  rw [← eM2]
  exact V_vret X (kr M2 (Option.some.inj h).symm) d_Crowd_letIn_23
def f_Crowd_woman (v1 : Int32) (M : Mem) : Option (Int32) :=
  if (((M.1 6 5) >>> (v1 &&& 31)) &&& (1 : Int32)) = 0 then
  some (0 : Int32)
  else
  some (1 : Int32)
theorem c_Crowd_woman (l : Launch) (G : Gw)  (v1 : Int32) (M : Mem) (x : Int32) (h : f_Crowd_woman v1 M = some x) (d : Nat) (hD : 1 ≤ d) : Ci l G y_Crowd_woman b_Crowd_woman 2 (some .boolean) d [.ref (G.2.2 + 6), .int v1] M (fun r9 M9 => r9 = x ∧ M9 = M) := by
  refine Ci_of (by decide) (Nat.le_of_ble_eq_true rfl) (fun E hE X => ?_)
  subst hE
  have kr : ∀ x9 : Int32, x = x9 → (fun r9 M9 => r9 = x ∧ M9 = M) x9 M := fun x9 e9 => by subst e9; exact ⟨rfl, rfl⟩
  unfold f_Crowd_woman at h
  refine V_aload_n (n := 0) X d_Crowd_woman_0 rfl rfl rfl ?_
  refine V_geti X fo_Crowd_28 kd_6 rfl d_Crowd_woman_1 rfl ?_
  refine V_iload_n (n := 1) X d_Crowd_woman_4 rfl rfl rfl ?_
  refine V_ishr X d_Crowd_woman_5 rfl ?_
  refine V_iconst (v := 1) X d_Crowd_woman_6 (by decide) rfl ?_
  refine V_iand X d_Crowd_woman_7 rfl ?_
  refine V_if_eq (tgt := 15) X d_Crowd_woman_8 (by decide) rfl (fun c1 => ?_) (fun c1 => ?_)
  · rw [if_pos c1] at h
    refine V_iconst (v := 0) X d_Crowd_woman_15 (by decide) rfl ?_
    exact V_zret X (kr (0 : Int32) (Option.some.inj h).symm) (by decide) d_Crowd_woman_16
  · rw [if_neg c1] at h
    refine V_iconst (v := 1) X d_Crowd_woman_11 (by decide) rfl ?_
    refine V_goto (pc' := 16) X d_Crowd_woman_12 (by decide) ?_
    exact V_zret X (kr (1 : Int32) (Option.some.inj h).symm) (by decide) d_Crowd_woman_16
def f_Crowd_has (v1 : Int32) (M : Mem) : Option (Int32) :=
  if v1 < 0 then
  some (0 : Int32)
  else
  if (M.1 6 4) ≤ v1 then
  some (0 : Int32)
  else
  if (8 : Int32) ≤ v1 then
  some (0 : Int32)
  else
  some (1 : Int32)
theorem c_Crowd_has (l : Launch) (G : Gw)  (v1 : Int32) (M : Mem) (x : Int32) (h : f_Crowd_has v1 M = some x) (d : Nat) (hD : 1 ≤ d) : Ci l G y_Crowd_has b_Crowd_has 2 (some .boolean) d [.ref (G.2.2 + 6), .int v1] M (fun r9 M9 => r9 = x ∧ M9 = M) := by
  refine Ci_of (by decide) (Nat.le_of_ble_eq_true rfl) (fun E hE X => ?_)
  subst hE
  have kr : ∀ x9 : Int32, x = x9 → (fun r9 M9 => r9 = x ∧ M9 = M) x9 M := fun x9 e9 => by subst e9; exact ⟨rfl, rfl⟩
  unfold f_Crowd_has at h
  refine V_iload_n (n := 1) X d_Crowd_has_0 rfl rfl rfl ?_
  refine V_if_lt (tgt := 22) X d_Crowd_has_1 (by decide) rfl (fun c3 => ?_) (fun c3 => ?_)
  · rw [if_pos c3] at h
    refine V_iconst (v := 0) X d_Crowd_has_22 (by decide) rfl ?_
    exact V_zret X (kr (0 : Int32) (Option.some.inj h).symm) (by decide) d_Crowd_has_23
  · rw [if_neg c3] at h
    refine V_iload_n (n := 1) X d_Crowd_has_4 rfl rfl rfl ?_
    refine V_aload_n (n := 0) X d_Crowd_has_5 rfl rfl rfl ?_
    refine V_geti X fo_Crowd_24 kd_6 rfl d_Crowd_has_6 rfl ?_
    refine V_icmp_ge (tgt := 22) X d_Crowd_has_9 (by decide) rfl (fun c2 => ?_) (fun c2 => ?_)
    · rw [if_pos c2] at h
      refine V_iconst (v := 0) X d_Crowd_has_22 (by decide) rfl ?_
      exact V_zret X (kr (0 : Int32) (Option.some.inj h).symm) (by decide) d_Crowd_has_23
    · rw [if_neg c2] at h
      refine V_iload_n (n := 1) X d_Crowd_has_12 rfl rfl rfl ?_
      refine V_bipush (v := 8) X d_Crowd_has_13 (by decide) rfl ?_
      refine V_icmp_ge (tgt := 22) X d_Crowd_has_15 (by decide) rfl (fun c1 => ?_) (fun c1 => ?_)
      · rw [if_pos c1] at h
        refine V_iconst (v := 0) X d_Crowd_has_22 (by decide) rfl ?_
        exact V_zret X (kr (0 : Int32) (Option.some.inj h).symm) (by decide) d_Crowd_has_23
      · rw [if_neg c1] at h
        refine V_iconst (v := 1) X d_Crowd_has_18 (by decide) rfl ?_
        refine V_goto (pc' := 23) X d_Crowd_has_19 (by decide) ?_
        exact V_zret X (kr (1 : Int32) (Option.some.inj h).symm) (by decide) d_Crowd_has_23
def lb_Crowd_tellWay_40 (v1 : Int32) (v3 : Int32) (s : Int32 × Mem) : Option ((Int32 × Mem) ⊕ ((Mem))) :=
  if (9 : Int32) ≤ s.1 then
  some (.inr s.2)
  else
  if inb s.1 9 = true then
  if inb ((v1 * (9 : Int32)) + s.1) 72 = true then
  mem_ (s_i s.2 7 ((v1 * (9 : Int32)) + s.1).toNatClampNeg (s.2.1 10 s.1.toNatClampNeg)) fun M3 =>
  some (.inl ((s.1 + (1 : Int32)), M3))
  else none
  else none
theorem lb_Crowd_tellWay_40_ok {E : Ev} {G : Gw} {d : Nat} {post : Int32 → Mem → Prop} (X : Cx E G b_Crowd_tellWay "WomenByTheRoofs$Crowd" 5 d (some .int)) (hD : 3 ≤ d)  (v1 : Int32) (v3 : Int32)   (s : Int32 × Mem) (o : (Int32 × Mem) ⊕ ((Mem))) (h : lb_Crowd_tellWay_40 v1 v3 s = some o) (kc : ∀ s9 : Int32 × Mem, o = .inl s9 → V E (0, 0) G 5 (QI E G post) s9.2 40 [(0, .ref (G.2.2 + 6)), (1, .int v1), (3, .int v3), (4, .int s9.1)] []) (kx0 : ∀ x9 : Mem, o = .inr x9 → V E (0, 0) G 5 (QI E G post) x9 72 [(0, .ref (G.2.2 + 6)), (1, .int v1), (3, .int v3)] []) : V E (0, 0) G 5 (QI E G post) s.2 40 [(0, .ref (G.2.2 + 6)), (1, .int v1), (3, .int v3), (4, .int s.1)] [] := by
  unfold lb_Crowd_tellWay_40 at h
  refine V_iload (n := 3) X d_Crowd_tellWay_40 rfl rfl ?_
  refine V_bipush (v := 9) X d_Crowd_tellWay_42 (by decide) rfl ?_
  refine V_icmp_ge (tgt := 72) X d_Crowd_tellWay_44 (by decide) rfl (fun c4 => ?_) (fun c4 => ?_)
  · rw [if_pos c4] at h
    refine V_sub (lv' := [(0, .ref (G.2.2 + 6)), (1, .int v1), (3, .int v3)]) [0, 1, 2] rfl ?_
    exact kx0 s.2 (Option.some.inj h).symm
  · rw [if_neg c4] at h
    refine V_aload_n (n := 0) X d_Crowd_tellWay_47 rfl rfl rfl ?_
    refine V_getr (k2 := 7) X fo_Crowd_9 kd_6 rfl rf_6_0 d_Crowd_tellWay_48 rfl ?_
    refine V_iload_n (n := 1) X d_Crowd_tellWay_51 rfl rfl rfl ?_
    refine V_bipush (v := 9) X d_Crowd_tellWay_52 (by decide) rfl ?_
    refine V_imul X d_Crowd_tellWay_54 rfl ?_
    refine V_iload (n := 3) X d_Crowd_tellWay_55 rfl rfl ?_
    refine V_iadd X d_Crowd_tellWay_57 rfl ?_
    refine V_aload_n (n := 0) X d_Crowd_tellWay_58 rfl rfl rfl ?_
    refine V_getr (k2 := 10) X fo_Crowd_21 kd_6 rfl rf_6_3 d_Crowd_tellWay_59 rfl ?_
    refine V_iload (n := 3) X d_Crowd_tellWay_62 rfl rfl ?_
    obtain ⟨hb, h⟩ := ifn h
    refine V_iald X kd_10 (inb_in ln_10 hb) d_Crowd_tellWay_64 rfl ?_
    obtain ⟨hb, h⟩ := ifn h
    obtain ⟨M3, eM3, h⟩ := memS h
    refine V_iast X kd_7 (inb_in ln_7 hb) d_Crowd_tellWay_65 rfl ?_
    rw [← eM3]
    refine V_iinc (n := 3) (v := (s.1 + (1 : Int32))) (lv' := [(4, .int (s.1 + (1 : Int32))), (0, .ref (G.2.2 + 6)), (1, .int v1), (3, .int v3)]) X d_Crowd_tellWay_66 rfl rfl (by decide) rfl rfl ?_
    refine V_goto (pc' := 40) X d_Crowd_tellWay_69 (by decide) ?_
    refine V_sub (lv' := [(0, .ref (G.2.2 + 6)), (1, .int v1), (3, .int v3), (4, .int (s.1 + (1 : Int32)))]) [1, 2, 3, 0] rfl ?_
    exact kc ((s.1 + (1 : Int32)), M3) (Option.some.inj h).symm
theorem lp_Crowd_tellWay_40_ok {E : Ev} {G : Gw} {d : Nat} {post : Int32 → Mem → Prop} (X : Cx E G b_Crowd_tellWay "WomenByTheRoofs$Crowd" 5 d (some .int)) (hD : 3 ≤ d)  (v1 : Int32) (v3 : Int32)   (n9 : Nat) (s : Int32 × Mem) (x : (Mem)) (h : iter (lb_Crowd_tellWay_40 v1 v3) n9 s = some x) (kx0 : ∀ x9 : Mem, x = x9 → V E (0, 0) G 5 (QI E G post) x9 72 [(0, .ref (G.2.2 + 6)), (1, .int v1), (3, .int v3)] []) : V E (0, 0) G 5 (QI E G post) s.2 40 [(0, .ref (G.2.2 + 6)), (1, .int v1), (3, .int v3), (4, .int s.1)] [] :=
  iter_P (P := fun s : Int32 × Mem => V E (0, 0) G 5 (QI E G post) s.2 40 [(0, .ref (G.2.2 + 6)), (1, .int v1), (3, .int v3), (4, .int s.1)] []) (fun s o hb kc ky => lb_Crowd_tellWay_40_ok X hD v1 v3 s o hb kc (fun x9 e9 => kx0 x9 (ky _ e9).symm)) n9 s h
def f_Crowd_tellWay (v1 : Int32) (M : Mem) : Option (Int32 × Mem) :=
  Option.bind (f_Signs_steps (0 : Int32) (80 : Int32) 10 (0 : Int32) M) fun x1 =>
  Option.bind (f_Crowd_has v1 x1.2) fun x2 =>
  if x2 = 0 then
  some (((-1 : Int32) - x1.1), x1.2)
  else
  if x1.1 = 0 then
  some (((-1 : Int32) - x1.1), x1.2)
  else
  if (x1.2.1 1 1) ≤ x1.1 then
  Option.bind (iter (lb_Crowd_tellWay_40 v1 x1.1) FU ((0 : Int32), x1.2)) fun x5 =>
  if inb v1 8 = true then
  mem_ (s_i x5 8 v1.toNatClampNeg x1.1) fun M6 =>
  some (x1.1, M6)
  else none
  else
  some (((-1 : Int32) - x1.1), x1.2)
theorem c_Crowd_tellWay (l : Launch) (G : Gw)  (v1 : Int32) (M : Mem) (x : Int32 × Mem) (h : f_Crowd_tellWay v1 M = some x) (d : Nat) (hD : 3 ≤ d) : Ci l G y_Crowd_tellWay b_Crowd_tellWay 5 (some .int) d [.ref (G.2.2 + 6), .int v1, .ref (G.2.2 + 1)] M (fun r9 M9 => r9 = x.1 ∧ M9 = x.2) := by
  refine Ci_of (by decide) (Nat.le_of_ble_eq_true rfl) (fun E hE X => ?_)
  subst hE
  have kr : ∀ x9 : Int32 × Mem, x = x9 → (fun r9 M9 => r9 = x.1 ∧ M9 = x.2) x9.1 x9.2 := fun x9 e9 => by subst e9; exact ⟨rfl, rfl⟩
  unfold f_Crowd_tellWay at h
  refine V_aload_n (n := 2) X d_Crowd_tellWay_0 rfl rfl rfl ?_
  refine V_iconst (v := 0) X d_Crowd_tellWay_1 (by decide) rfl ?_
  refine V_bipush (v := 80) X d_Crowd_tellWay_2 (by decide) rfl ?_
  refine V_aload_n (n := 0) X d_Crowd_tellWay_4 rfl rfl rfl ?_
  refine V_getr (k2 := 10) X fo_Crowd_21 kd_6 rfl rf_6_3 d_Crowd_tellWay_5 rfl ?_
  refine V_iconst (v := 0) X d_Crowd_tellWay_8 (by decide) rfl ?_
  obtain ⟨x1, hx1, h⟩ := ob_s h
  refine V_ci (As := [.int (0 : Int32), .int (80 : Int32), .ref (G.2.2 + 10), .int (0 : Int32)]) X (Z0 E) ml_Crowd_76 yq_Signs_steps (c_Signs_steps E.2.1 G (0 : Int32) (80 : Int32) 10 (0 : Int32) M x1 hx1 _ (Nat.le_refl _)) kd_1 rfl rfl (by omega) rfl (Nat.le_of_ble_eq_true rfl) d_Crowd_tellWay_9 rfl (fun r9 M9 hq => ?_)
  rw [hq.1, hq.2]
  refine V_istore_n (lv' := [(3, .int x1.1), (0, .ref (G.2.2 + 6)), (1, .int v1), (2, .ref (G.2.2 + 1))]) X d_Crowd_tellWay_12 rfl (by decide) rfl rfl ?_
  refine V_aload_n (n := 1) X d_Crowd_tellWay_13 rfl rfl rfl ?_
  refine V_iload_n (n := 2) X d_Crowd_tellWay_14 rfl rfl rfl ?_
  obtain ⟨x2, hx2, h⟩ := ob_s h
  refine V_ci (As := [.int v1]) X (Z0 E) ml_Crowd_31 yq_Crowd_has (c_Crowd_has E.2.1 G v1 x1.2 x2 hx2 _ (Nat.le_refl _)) kd_6 rfl rfl (by omega) rfl (Nat.le_of_ble_eq_true rfl) d_Crowd_tellWay_15 rfl (fun r9 M9 hq => ?_)
  rw [hq.1, hq.2]
  refine V_if_eq (tgt := 33) X d_Crowd_tellWay_18 (by decide) rfl (fun c9 => ?_) (fun c9 => ?_)
  · rw [if_pos c9] at h
    refine V_iconst (v := -1) X d_Crowd_tellWay_33 (by decide) rfl ?_
    refine V_iload_n (n := 0) X d_Crowd_tellWay_34 rfl rfl rfl ?_
    refine V_isub X d_Crowd_tellWay_35 rfl ?_
    exact V_iret X (kr (((-1 : Int32) - x1.1), x1.2) (Option.some.inj h).symm) d_Crowd_tellWay_36
  · rw [if_neg c9] at h
    refine V_iload_n (n := 0) X d_Crowd_tellWay_21 rfl rfl rfl ?_
    refine V_if_eq (tgt := 33) X d_Crowd_tellWay_22 (by decide) rfl (fun c8 => ?_) (fun c8 => ?_)
    · rw [if_pos c8] at h
      refine V_iconst (v := -1) X d_Crowd_tellWay_33 (by decide) rfl ?_
      refine V_iload_n (n := 0) X d_Crowd_tellWay_34 rfl rfl rfl ?_
      refine V_isub X d_Crowd_tellWay_35 rfl ?_
      exact V_iret X (kr (((-1 : Int32) - x1.1), x1.2) (Option.some.inj h).symm) d_Crowd_tellWay_36
    · rw [if_neg c8] at h
      refine V_aload_n (n := 3) X d_Crowd_tellWay_25 rfl rfl rfl ?_
      refine V_geti X fo_Crowd_44 kd_1 rfl d_Crowd_tellWay_26 rfl ?_
      refine V_iload_n (n := 0) X d_Crowd_tellWay_29 rfl rfl rfl ?_
      refine V_icmp_le (tgt := 37) X d_Crowd_tellWay_30 (by decide) rfl (fun c7 => ?_) (fun c7 => ?_)
      · rw [if_pos c7] at h
        refine V_iconst (v := 0) X d_Crowd_tellWay_37 (by decide) rfl ?_
        refine V_istore (lv' := [(4, .int (0 : Int32)), (3, .int x1.1), (0, .ref (G.2.2 + 6)), (1, .int v1), (2, .ref (G.2.2 + 1))]) X d_Crowd_tellWay_38 (by decide) rfl rfl ?_
        refine V_sub (lv' := [(0, .ref (G.2.2 + 6)), (1, .int v1), (3, .int x1.1), (4, .int (0 : Int32))]) [2, 3, 1, 0] rfl ?_
        obtain ⟨x5, hx5, h⟩ := ob_s h
        refine (lp_Crowd_tellWay_40_ok X hD v1 x1.1 _ _ _ hx5 (fun x9 e9 => ?_) :)
        subst e9
        refine V_aload_n (n := 0) X d_Crowd_tellWay_72 rfl rfl rfl ?_
        refine V_getr (k2 := 8) X fo_Crowd_15 kd_6 rfl rf_6_1 d_Crowd_tellWay_73 rfl ?_
        refine V_iload_n (n := 1) X d_Crowd_tellWay_76 rfl rfl rfl ?_
        refine V_iload_n (n := 2) X d_Crowd_tellWay_77 rfl rfl rfl ?_
        obtain ⟨hb, h⟩ := ifn h
        obtain ⟨M6, eM6, h⟩ := memS h
        refine V_iast X kd_8 (inb_in ln_8 hb) d_Crowd_tellWay_78 rfl ?_
        rw [← eM6]
        refine V_iload_n (n := 2) X d_Crowd_tellWay_79 rfl rfl rfl ?_
        exact V_iret X (kr (x1.1, M6) (Option.some.inj h).symm) d_Crowd_tellWay_80
      · rw [if_neg c7] at h
        refine V_iconst (v := -1) X d_Crowd_tellWay_33 (by decide) rfl ?_
        refine V_iload_n (n := 0) X d_Crowd_tellWay_34 rfl rfl rfl ?_
        refine V_isub X d_Crowd_tellWay_35 rfl ?_
        exact V_iret X (kr (((-1 : Int32) - x1.1), x1.2) (Option.some.inj h).symm) d_Crowd_tellWay_36
def f_Crowd_within (v1 : Int32) (v2 : Int32) (M : Mem) : Option (Int32) :=
  Option.bind (f_Crowd_has v1 M) fun x1 =>
  if x1 = 0 then
  some (0 : Int32)
  else
  if inb v1 8 = true then
  some (if (0 : Int32) < (if ((M.1 8 v1.toNatClampNeg) - (1 : Int32)) < v2 then ((M.1 8 v1.toNatClampNeg) - (1 : Int32)) else v2) then (if ((M.1 8 v1.toNatClampNeg) - (1 : Int32)) < v2 then ((M.1 8 v1.toNatClampNeg) - (1 : Int32)) else v2) else (0 : Int32))
  else none
theorem c_Crowd_within (l : Launch) (G : Gw)  (v1 : Int32) (v2 : Int32) (M : Mem) (x : Int32) (h : f_Crowd_within v1 v2 M = some x) (d : Nat) (hD : 2 ≤ d) : Ci l G y_Crowd_within b_Crowd_within 3 (some .int) d [.ref (G.2.2 + 6), .int v1, .int v2] M (fun r9 M9 => r9 = x ∧ M9 = M) := by
  refine Ci_of (by decide) (Nat.le_of_ble_eq_true rfl) (fun E hE X => ?_)
  subst hE
  have kr : ∀ x9 : Int32, x = x9 → (fun r9 M9 => r9 = x ∧ M9 = M) x9 M := fun x9 e9 => by subst e9; exact ⟨rfl, rfl⟩
  unfold f_Crowd_within at h
  refine V_aload_n (n := 0) X d_Crowd_within_0 rfl rfl rfl ?_
  refine V_iload_n (n := 1) X d_Crowd_within_1 rfl rfl rfl ?_
  obtain ⟨x1, hx1, h⟩ := ob_s h
  refine V_ci (As := [.int v1]) X (Z0 E) ml_Crowd_31 yq_Crowd_has (c_Crowd_has E.2.1 G v1 M x1 hx1 _ (Nat.le_refl _)) kd_6 rfl rfl (by omega) rfl (Nat.le_of_ble_eq_true rfl) d_Crowd_within_2 rfl (fun r9 M9 hq => ?_)
  rw [hq.1, hq.2]
  refine V_if_ne (tgt := 10) X d_Crowd_within_5 (by decide) rfl (fun c2 => ?_) (fun c2 => ?_)
  · rw [if_neg c2] at h
    refine V_iconst (v := 0) X d_Crowd_within_10 (by decide) rfl ?_
    refine V_iload_n (n := 2) X d_Crowd_within_11 rfl rfl rfl ?_
    refine V_aload_n (n := 0) X d_Crowd_within_12 rfl rfl rfl ?_
    refine V_getr (k2 := 8) X fo_Crowd_15 kd_6 rfl rf_6_1 d_Crowd_within_13 rfl ?_
    refine V_iload_n (n := 1) X d_Crowd_within_16 rfl rfl rfl ?_
    obtain ⟨hb, h⟩ := ifn h
    refine V_iald X kd_8 (inb_in ln_8 hb) d_Crowd_within_17 rfl ?_
    refine V_iconst (v := 1) X d_Crowd_within_18 (by decide) rfl ?_
    refine V_isub X d_Crowd_within_19 rfl ?_
    refine V_mmin X (Z0 E) mm_Crowd_35 (by omega) (Nat.le_of_ble_eq_true rfl) d_Crowd_within_20 rfl ?_
    refine V_mmax X (Z0 E) mm_Crowd_41 (by omega) (Nat.le_of_ble_eq_true rfl) d_Crowd_within_23 rfl ?_
    exact V_iret X (kr (if (0 : Int32) < (if ((M.1 8 v1.toNatClampNeg) - (1 : Int32)) < v2 then ((M.1 8 v1.toNatClampNeg) - (1 : Int32)) else v2) then (if ((M.1 8 v1.toNatClampNeg) - (1 : Int32)) < v2 then ((M.1 8 v1.toNatClampNeg) - (1 : Int32)) else v2) else (0 : Int32)) (Option.some.inj h).symm) d_Crowd_within_26
  · rw [if_pos c2] at h
    refine V_iconst (v := 0) X d_Crowd_within_8 (by decide) rfl ?_
    exact V_iret X (kr (0 : Int32) (Option.some.inj h).symm) d_Crowd_within_9
def f_Crowd_stepAt (v1 : Int32) (v2 : Int32) (M : Mem) : Option (Int32) :=
  Option.bind (f_Crowd_has v1 M) fun x1 =>
  if x1 = 0 then
  some (4 : Int32)
  else
  if v2 < 0 then
  some (4 : Int32)
  else
  if inb v1 8 = true then
  if (M.1 8 v1.toNatClampNeg) ≤ v2 then
  some (4 : Int32)
  else
  if v2 < (9 : Int32) then
  if inb ((v1 * (9 : Int32)) + v2) 72 = true then
  some (M.1 7 ((v1 * (9 : Int32)) + v2).toNatClampNeg)
  else none
  else
  some (4 : Int32)
  else none
theorem c_Crowd_stepAt (l : Launch) (G : Gw)  (v1 : Int32) (v2 : Int32) (M : Mem) (x : Int32) (h : f_Crowd_stepAt v1 v2 M = some x) (d : Nat) (hD : 2 ≤ d) : Ci l G y_Crowd_stepAt b_Crowd_stepAt 3 (some .int) d [.ref (G.2.2 + 6), .int v1, .int v2] M (fun r9 M9 => r9 = x ∧ M9 = M) := by
  refine Ci_of (by decide) (Nat.le_of_ble_eq_true rfl) (fun E hE X => ?_)
  subst hE
  have kr : ∀ x9 : Int32, x = x9 → (fun r9 M9 => r9 = x ∧ M9 = M) x9 M := fun x9 e9 => by subst e9; exact ⟨rfl, rfl⟩
  unfold f_Crowd_stepAt at h
  refine V_aload_n (n := 0) X d_Crowd_stepAt_0 rfl rfl rfl ?_
  refine V_iload_n (n := 1) X d_Crowd_stepAt_1 rfl rfl rfl ?_
  obtain ⟨x1, hx1, h⟩ := ob_s h
  refine V_ci (As := [.int v1]) X (Z0 E) ml_Crowd_31 yq_Crowd_has (c_Crowd_has E.2.1 G v1 M x1 hx1 _ (Nat.le_refl _)) kd_6 rfl rfl (by omega) rfl (Nat.le_of_ble_eq_true rfl) d_Crowd_stepAt_2 rfl (fun r9 M9 hq => ?_)
  rw [hq.1, hq.2]
  refine V_if_eq (tgt := 28) X d_Crowd_stepAt_5 (by decide) rfl (fun c5 => ?_) (fun c5 => ?_)
  · rw [if_pos c5] at h
    refine V_iconst (v := 4) X d_Crowd_stepAt_28 (by decide) rfl ?_
    exact V_iret X (kr (4 : Int32) (Option.some.inj h).symm) d_Crowd_stepAt_29
  · rw [if_neg c5] at h
    refine V_iload_n (n := 2) X d_Crowd_stepAt_8 rfl rfl rfl ?_
    refine V_if_lt (tgt := 28) X d_Crowd_stepAt_9 (by decide) rfl (fun c4 => ?_) (fun c4 => ?_)
    · rw [if_pos c4] at h
      refine V_iconst (v := 4) X d_Crowd_stepAt_28 (by decide) rfl ?_
      exact V_iret X (kr (4 : Int32) (Option.some.inj h).symm) d_Crowd_stepAt_29
    · rw [if_neg c4] at h
      refine V_iload_n (n := 2) X d_Crowd_stepAt_12 rfl rfl rfl ?_
      refine V_aload_n (n := 0) X d_Crowd_stepAt_13 rfl rfl rfl ?_
      refine V_getr (k2 := 8) X fo_Crowd_15 kd_6 rfl rf_6_1 d_Crowd_stepAt_14 rfl ?_
      refine V_iload_n (n := 1) X d_Crowd_stepAt_17 rfl rfl rfl ?_
      obtain ⟨hb, h⟩ := ifn h
      refine V_iald X kd_8 (inb_in ln_8 hb) d_Crowd_stepAt_18 rfl ?_
      refine V_icmp_ge (tgt := 28) X d_Crowd_stepAt_19 (by decide) rfl (fun c3 => ?_) (fun c3 => ?_)
      · rw [if_pos c3] at h
        refine V_iconst (v := 4) X d_Crowd_stepAt_28 (by decide) rfl ?_
        exact V_iret X (kr (4 : Int32) (Option.some.inj h).symm) d_Crowd_stepAt_29
      · rw [if_neg c3] at h
        refine V_iload_n (n := 2) X d_Crowd_stepAt_22 rfl rfl rfl ?_
        refine V_bipush (v := 9) X d_Crowd_stepAt_23 (by decide) rfl ?_
        refine V_icmp_lt (tgt := 30) X d_Crowd_stepAt_25 (by decide) rfl (fun c2 => ?_) (fun c2 => ?_)
        · rw [if_pos c2] at h
          refine V_aload_n (n := 0) X d_Crowd_stepAt_30 rfl rfl rfl ?_
          refine V_getr (k2 := 7) X fo_Crowd_9 kd_6 rfl rf_6_0 d_Crowd_stepAt_31 rfl ?_
          refine V_iload_n (n := 1) X d_Crowd_stepAt_34 rfl rfl rfl ?_
          refine V_bipush (v := 9) X d_Crowd_stepAt_35 (by decide) rfl ?_
          refine V_imul X d_Crowd_stepAt_37 rfl ?_
          refine V_iload_n (n := 2) X d_Crowd_stepAt_38 rfl rfl rfl ?_
          refine V_iadd X d_Crowd_stepAt_39 rfl ?_
          obtain ⟨hb, h⟩ := ifn h
          refine V_iald X kd_7 (inb_in ln_7 hb) d_Crowd_stepAt_40 rfl ?_
          exact V_iret X (kr (M.1 7 ((v1 * (9 : Int32)) + v2).toNatClampNeg) (Option.some.inj h).symm) d_Crowd_stepAt_41
        · rw [if_neg c2] at h
          refine V_iconst (v := 4) X d_Crowd_stepAt_28 (by decide) rfl ?_
          exact V_iret X (kr (4 : Int32) (Option.some.inj h).symm) d_Crowd_stepAt_29
def f_Crowd_placeBehind (v1 : Int32) (v2 : Int32) (M : Mem) : Option (Int32) :=
  Option.bind (f_Crowd_has v1 M) fun x1 =>
  if x1 = 0 then
  some (0 : Int32)
  else
  if inb v1 8 = true then
  if (M.1 8 v1.toNatClampNeg) ≤ (v2 + (1 : Int32)) then
  some (0 : Int32)
  else
  some (v2 + (1 : Int32))
  else none
theorem c_Crowd_placeBehind (l : Launch) (G : Gw)  (v1 : Int32) (v2 : Int32) (M : Mem) (x : Int32) (h : f_Crowd_placeBehind v1 v2 M = some x) (d : Nat) (hD : 2 ≤ d) : Ci l G y_Crowd_placeBehind b_Crowd_placeBehind 3 (some .int) d [.ref (G.2.2 + 6), .int v1, .int v2] M (fun r9 M9 => r9 = x ∧ M9 = M) := by
  refine Ci_of (by decide) (Nat.le_of_ble_eq_true rfl) (fun E hE X => ?_)
  subst hE
  have kr : ∀ x9 : Int32, x = x9 → (fun r9 M9 => r9 = x ∧ M9 = M) x9 M := fun x9 e9 => by subst e9; exact ⟨rfl, rfl⟩
  unfold f_Crowd_placeBehind at h
  refine V_aload_n (n := 0) X d_Crowd_placeBehind_0 rfl rfl rfl ?_
  refine V_iload_n (n := 1) X d_Crowd_placeBehind_1 rfl rfl rfl ?_
  obtain ⟨x1, hx1, h⟩ := ob_s h
  refine V_ci (As := [.int v1]) X (Z0 E) ml_Crowd_31 yq_Crowd_has (c_Crowd_has E.2.1 G v1 M x1 hx1 _ (Nat.le_refl _)) kd_6 rfl rfl (by omega) rfl (Nat.le_of_ble_eq_true rfl) d_Crowd_placeBehind_2 rfl (fun r9 M9 hq => ?_)
  rw [hq.1, hq.2]
  refine V_if_eq (tgt := 26) X d_Crowd_placeBehind_5 (by decide) rfl (fun c3 => ?_) (fun c3 => ?_)
  · rw [if_pos c3] at h
    refine V_iconst (v := 0) X d_Crowd_placeBehind_26 (by decide) rfl ?_
    exact V_iret X (kr (0 : Int32) (Option.some.inj h).symm) d_Crowd_placeBehind_27
  · rw [if_neg c3] at h
    refine V_iload_n (n := 2) X d_Crowd_placeBehind_8 rfl rfl rfl ?_
    refine V_iconst (v := 1) X d_Crowd_placeBehind_9 (by decide) rfl ?_
    refine V_iadd X d_Crowd_placeBehind_10 rfl ?_
    refine V_aload_n (n := 0) X d_Crowd_placeBehind_11 rfl rfl rfl ?_
    refine V_getr (k2 := 8) X fo_Crowd_15 kd_6 rfl rf_6_1 d_Crowd_placeBehind_12 rfl ?_
    refine V_iload_n (n := 1) X d_Crowd_placeBehind_15 rfl rfl rfl ?_
    obtain ⟨hb, h⟩ := ifn h
    refine V_iald X kd_8 (inb_in ln_8 hb) d_Crowd_placeBehind_16 rfl ?_
    refine V_icmp_ge (tgt := 26) X d_Crowd_placeBehind_17 (by decide) rfl (fun c2 => ?_) (fun c2 => ?_)
    · rw [if_pos c2] at h
      refine V_iconst (v := 0) X d_Crowd_placeBehind_26 (by decide) rfl ?_
      exact V_iret X (kr (0 : Int32) (Option.some.inj h).symm) d_Crowd_placeBehind_27
    · rw [if_neg c2] at h
      refine V_iload_n (n := 2) X d_Crowd_placeBehind_20 rfl rfl rfl ?_
      refine V_iconst (v := 1) X d_Crowd_placeBehind_21 (by decide) rfl ?_
      refine V_iadd X d_Crowd_placeBehind_22 rfl ?_
      refine V_goto (pc' := 27) X d_Crowd_placeBehind_23 (by decide) ?_
      exact V_iret X (kr (v2 + (1 : Int32)) (Option.some.inj h).symm) d_Crowd_placeBehind_27
