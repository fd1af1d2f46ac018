theorem d_Mod_act_0 : decode b_Mod_act 0 = .ok (.aload_n 0, 1) := kq_42 byq_r (by decide +kernel)
theorem d_Mod_act_1 : decode b_Mod_act 1 = .ok (.getfield 57, 3) := kq_180 byq_r (a := 0) (b := 57) (by decide +kernel)
theorem d_Mod_act_4 : decode b_Mod_act 4 = .ok (.iload_n 1, 1) := kq_27 byq_r (by decide +kernel)
theorem d_Mod_act_5 : decode b_Mod_act 5 = .ok (.iconst 1, 1) := kq_4 byq_r (by decide +kernel)
theorem d_Mod_act_6 : decode b_Mod_act 6 = .ok (.iadd, 1) := kq_96 byq_r (by decide +kernel)
theorem d_Mod_act_7 : decode b_Mod_act 7 = .ok (.iaload, 1) := kq_46 byq_r (by decide +kernel)
theorem d_Mod_act_8 : decode b_Mod_act 8 = .ok (.istore_n 2, 1) := kq_61 byq_r (by decide +kernel)
theorem d_Mod_act_9 : decode b_Mod_act 9 = .ok (.aload_n 0, 1) := kq_42 byq_r (by decide +kernel)
theorem d_Mod_act_10 : decode b_Mod_act 10 = .ok (.getfield 57, 3) := kq_180 byq_r (a := 0) (b := 57) (by decide +kernel)
theorem d_Mod_act_13 : decode b_Mod_act 13 = .ok (.iload_n 1, 1) := kq_27 byq_r (by decide +kernel)
theorem d_Mod_act_14 : decode b_Mod_act 14 = .ok (.iaload, 1) := kq_46 byq_r (by decide +kernel)
theorem d_Mod_act_15 : decode b_Mod_act 15 = .ok (.lookupswitch 168 #[(109, 41), (110, 85), (112, 110), (120, 143)], 41) := by decide +kernel
theorem d_Mod_act_56 : decode b_Mod_act 56 = .ok (.iload_n 2, 1) := kq_28 byq_r (by decide +kernel)
theorem d_Mod_act_57 : decode b_Mod_act 57 = .ok (.bipush 60, 2) := kq_16 byq_r (b := 60) (by decide +kernel)
theorem d_Mod_act_59 : decode b_Mod_act 59 = .ok (.if_icmp .le 5, 3) := kq_164 byq_r (a := 0) (b := 5) (by decide +kernel)
theorem d_Mod_act_62 : decode b_Mod_act 62 = .ok (.iconst 0, 1) := kq_3 byq_r (by decide +kernel)
theorem d_Mod_act_63 : decode b_Mod_act 63 = .ok (.ireturn, 1) := kq_172 byq_r (by decide +kernel)
theorem d_Mod_act_64 : decode b_Mod_act 64 = .ok (.iconst 0, 1) := kq_3 byq_r (by decide +kernel)
theorem d_Mod_act_65 : decode b_Mod_act 65 = .ok (.istore_n 3, 1) := kq_62 byq_r (by decide +kernel)
theorem d_Mod_act_66 : decode b_Mod_act 66 = .ok (.iload_n 3, 1) := kq_29 byq_r (by decide +kernel)
theorem d_Mod_act_67 : decode b_Mod_act 67 = .ok (.iload_n 2, 1) := kq_28 byq_r (by decide +kernel)
theorem d_Mod_act_68 : decode b_Mod_act 68 = .ok (.if_icmp .ge 30, 3) := kq_162 byq_r (a := 0) (b := 30) (by decide +kernel)
theorem d_Mod_act_71 : decode b_Mod_act 71 = .ok (.aload_n 0, 1) := kq_42 byq_r (by decide +kernel)
theorem d_Mod_act_72 : decode b_Mod_act 72 = .ok (.aload_n 0, 1) := kq_42 byq_r (by decide +kernel)
theorem d_Mod_act_73 : decode b_Mod_act 73 = .ok (.getfield 9, 3) := kq_180 byq_r (a := 0) (b := 9) (by decide +kernel)
theorem d_Mod_act_76 : decode b_Mod_act 76 = .ok (.invokevirtual 339, 3) := kq_182 byq_r (a := 1) (b := 83) (by decide +kernel)
theorem d_Mod_act_79 : decode b_Mod_act 79 = .ok (.aload_n 0, 1) := kq_42 byq_r (by decide +kernel)
theorem d_Mod_act_80 : decode b_Mod_act 80 = .ok (.dup, 1) := kq_89 byq_r (by decide +kernel)
theorem d_Mod_act_81 : decode b_Mod_act 81 = .ok (.getfield 348, 3) := kq_180 byq_r (a := 1) (b := 92) (by decide +kernel)
theorem d_Mod_act_84 : decode b_Mod_act 84 = .ok (.aload_n 0, 1) := kq_42 byq_r (by decide +kernel)
theorem d_Mod_act_85 : decode b_Mod_act 85 = .ok (.getfield 327, 3) := kq_180 byq_r (a := 1) (b := 71) (by decide +kernel)
theorem d_Mod_act_88 : decode b_Mod_act 88 = .ok (.iadd, 1) := kq_96 byq_r (by decide +kernel)
theorem d_Mod_act_89 : decode b_Mod_act 89 = .ok (.putfield 348, 3) := kq_181 byq_r (a := 1) (b := 92) (by decide +kernel)
theorem d_Mod_act_92 : decode b_Mod_act 92 = .ok (.iinc 3 1, 3) := kq_132 byq_r (b := 1) (by decide +kernel)
theorem d_Mod_act_95 : decode b_Mod_act 95 = .ok (.goto (-29), 3) := kq_167 byq_r (a := 255) (b := 227) (by decide +kernel)
theorem d_Mod_act_98 : decode b_Mod_act 98 = .ok (.iconst 1, 1) := kq_4 byq_r (by decide +kernel)
theorem d_Mod_act_99 : decode b_Mod_act 99 = .ok (.ireturn, 1) := kq_172 byq_r (by decide +kernel)
theorem d_Mod_act_100 : decode b_Mod_act 100 = .ok (.aload_n 0, 1) := kq_42 byq_r (by decide +kernel)
theorem d_Mod_act_101 : decode b_Mod_act 101 = .ok (.iload_n 2, 1) := kq_28 byq_r (by decide +kernel)
theorem d_Mod_act_102 : decode b_Mod_act 102 = .ok (.invokevirtual 307, 3) := kq_182 byq_r (a := 1) (b := 51) (by decide +kernel)
theorem d_Mod_act_105 : decode b_Mod_act 105 = .ok (.ifCond .ne 5, 3) := kq_154 byq_r (a := 0) (b := 5) (by decide +kernel)
theorem d_Mod_act_108 : decode b_Mod_act 108 = .ok (.iconst 0, 1) := kq_3 byq_r (by decide +kernel)
theorem d_Mod_act_109 : decode b_Mod_act 109 = .ok (.ireturn, 1) := kq_172 byq_r (by decide +kernel)
theorem d_Mod_act_110 : decode b_Mod_act 110 = .ok (.aload_n 0, 1) := kq_42 byq_r (by decide +kernel)
theorem d_Mod_act_111 : decode b_Mod_act 111 = .ok (.getfield 9, 3) := kq_180 byq_r (a := 0) (b := 9) (by decide +kernel)
theorem d_Mod_act_114 : decode b_Mod_act 114 = .ok (.bipush 93, 2) := kq_16 byq_r (b := 93) (by decide +kernel)
theorem d_Mod_act_116 : decode b_Mod_act 116 = .ok (.dup2, 1) := kq_92 byq_r (by decide +kernel)
theorem d_Mod_act_117 : decode b_Mod_act 117 = .ok (.iaload, 1) := kq_46 byq_r (by decide +kernel)
theorem d_Mod_act_118 : decode b_Mod_act 118 = .ok (.iconst 1, 1) := kq_4 byq_r (by decide +kernel)
theorem d_Mod_act_119 : decode b_Mod_act 119 = .ok (.iload_n 2, 1) := kq_28 byq_r (by decide +kernel)
theorem d_Mod_act_120 : decode b_Mod_act 120 = .ok (.ishl, 1) := kq_120 byq_r (by decide +kernel)
theorem d_Mod_act_121 : decode b_Mod_act 121 = .ok (.ior, 1) := kq_128 byq_r (by decide +kernel)
theorem d_Mod_act_122 : decode b_Mod_act 122 = .ok (.iastore, 1) := kq_79 byq_r (by decide +kernel)
theorem d_Mod_act_123 : decode b_Mod_act 123 = .ok (.iconst 1, 1) := kq_4 byq_r (by decide +kernel)
theorem d_Mod_act_124 : decode b_Mod_act 124 = .ok (.ireturn, 1) := kq_172 byq_r (by decide +kernel)
theorem d_Mod_act_125 : decode b_Mod_act 125 = .ok (.aload_n 0, 1) := kq_42 byq_r (by decide +kernel)
theorem d_Mod_act_126 : decode b_Mod_act 126 = .ok (.iload_n 2, 1) := kq_28 byq_r (by decide +kernel)
theorem d_Mod_act_127 : decode b_Mod_act 127 = .ok (.aload_n 0, 1) := kq_42 byq_r (by decide +kernel)
theorem d_Mod_act_128 : decode b_Mod_act 128 = .ok (.getfield 57, 3) := kq_180 byq_r (a := 0) (b := 57) (by decide +kernel)
theorem d_Mod_act_131 : decode b_Mod_act 131 = .ok (.iload_n 1, 1) := kq_27 byq_r (by decide +kernel)
theorem d_Mod_act_132 : decode b_Mod_act 132 = .ok (.iconst 2, 1) := kq_5 byq_r (by decide +kernel)
theorem d_Mod_act_133 : decode b_Mod_act 133 = .ok (.iadd, 1) := kq_96 byq_r (by decide +kernel)
theorem d_Mod_act_134 : decode b_Mod_act 134 = .ok (.iaload, 1) := kq_46 byq_r (by decide +kernel)
theorem d_Mod_act_135 : decode b_Mod_act 135 = .ok (.invokevirtual 290, 3) := kq_182 byq_r (a := 1) (b := 34) (by decide +kernel)
theorem d_Mod_act_138 : decode b_Mod_act 138 = .ok (.ifCond .ge 5, 3) := kq_156 byq_r (a := 0) (b := 5) (by decide +kernel)
theorem d_Mod_act_141 : decode b_Mod_act 141 = .ok (.iconst 0, 1) := kq_3 byq_r (by decide +kernel)
theorem d_Mod_act_142 : decode b_Mod_act 142 = .ok (.ireturn, 1) := kq_172 byq_r (by decide +kernel)
theorem d_Mod_act_143 : decode b_Mod_act 143 = .ok (.aload_n 0, 1) := kq_42 byq_r (by decide +kernel)
theorem d_Mod_act_144 : decode b_Mod_act 144 = .ok (.iload_n 2, 1) := kq_28 byq_r (by decide +kernel)
theorem d_Mod_act_145 : decode b_Mod_act 145 = .ok (.aload_n 0, 1) := kq_42 byq_r (by decide +kernel)
theorem d_Mod_act_146 : decode b_Mod_act 146 = .ok (.getfield 57, 3) := kq_180 byq_r (a := 0) (b := 57) (by decide +kernel)
theorem d_Mod_act_149 : decode b_Mod_act 149 = .ok (.iload_n 1, 1) := kq_27 byq_r (by decide +kernel)
theorem d_Mod_act_150 : decode b_Mod_act 150 = .ok (.iconst 2, 1) := kq_5 byq_r (by decide +kernel)
theorem d_Mod_act_151 : decode b_Mod_act 151 = .ok (.iadd, 1) := kq_96 byq_r (by decide +kernel)
theorem d_Mod_act_152 : decode b_Mod_act 152 = .ok (.iaload, 1) := kq_46 byq_r (by decide +kernel)
theorem d_Mod_act_153 : decode b_Mod_act 153 = .ok (.invokevirtual 297, 3) := kq_182 byq_r (a := 1) (b := 41) (by decide +kernel)
theorem d_Mod_act_156 : decode b_Mod_act 156 = .ok (.iconst 1, 1) := kq_4 byq_r (by decide +kernel)
theorem d_Mod_act_157 : decode b_Mod_act 157 = .ok (.ireturn, 1) := kq_172 byq_r (by decide +kernel)
theorem d_Mod_act_158 : decode b_Mod_act 158 = .ok (.aload_n 0, 1) := kq_42 byq_r (by decide +kernel)
theorem d_Mod_act_159 : decode b_Mod_act 159 = .ok (.getfield 9, 3) := kq_180 byq_r (a := 0) (b := 9) (by decide +kernel)
theorem d_Mod_act_162 : decode b_Mod_act 162 = .ok (.bipush 92, 2) := kq_16 byq_r (b := 92) (by decide +kernel)
theorem d_Mod_act_164 : decode b_Mod_act 164 = .ok (.iaload, 1) := kq_46 byq_r (by decide +kernel)
theorem d_Mod_act_165 : decode b_Mod_act 165 = .ok (.ifCond .ne 5, 3) := kq_154 byq_r (a := 0) (b := 5) (by decide +kernel)
theorem d_Mod_act_168 : decode b_Mod_act 168 = .ok (.iconst 0, 1) := kq_3 byq_r (by decide +kernel)
theorem d_Mod_act_169 : decode b_Mod_act 169 = .ok (.ireturn, 1) := kq_172 byq_r (by decide +kernel)
theorem d_Mod_act_170 : decode b_Mod_act 170 = .ok (.aload_n 0, 1) := kq_42 byq_r (by decide +kernel)
theorem d_Mod_act_171 : decode b_Mod_act 171 = .ok (.getfield 9, 3) := kq_180 byq_r (a := 0) (b := 9) (by decide +kernel)
theorem d_Mod_act_174 : decode b_Mod_act 174 = .ok (.bipush 92, 2) := kq_16 byq_r (b := 92) (by decide +kernel)
theorem d_Mod_act_176 : decode b_Mod_act 176 = .ok (.dup2, 1) := kq_92 byq_r (by decide +kernel)
theorem d_Mod_act_177 : decode b_Mod_act 177 = .ok (.iaload, 1) := kq_46 byq_r (by decide +kernel)
theorem d_Mod_act_178 : decode b_Mod_act 178 = .ok (.iconst 1, 1) := kq_4 byq_r (by decide +kernel)
theorem d_Mod_act_179 : decode b_Mod_act 179 = .ok (.isub, 1) := kq_100 byq_r (by decide +kernel)
theorem d_Mod_act_180 : decode b_Mod_act 180 = .ok (.iastore, 1) := kq_79 byq_r (by decide +kernel)
theorem d_Mod_act_181 : decode b_Mod_act 181 = .ok (.iconst 1, 1) := kq_4 byq_r (by decide +kernel)
theorem d_Mod_act_182 : decode b_Mod_act 182 = .ok (.ireturn, 1) := kq_172 byq_r (by decide +kernel)
theorem d_Mod_act_183 : decode b_Mod_act 183 = .ok (.aload_n 0, 1) := kq_42 byq_r (by decide +kernel)
theorem d_Mod_act_184 : decode b_Mod_act 184 = .ok (.iconst 1, 1) := kq_4 byq_r (by decide +kernel)
theorem d_Mod_act_185 : decode b_Mod_act 185 = .ok (.aload_n 0, 1) := kq_42 byq_r (by decide +kernel)
theorem d_Mod_act_186 : decode b_Mod_act 186 = .ok (.getfield 9, 3) := kq_180 byq_r (a := 0) (b := 9) (by decide +kernel)
theorem d_Mod_act_189 : decode b_Mod_act 189 = .ok (.bipush 94, 2) := kq_16 byq_r (b := 94) (by decide +kernel)
theorem d_Mod_act_191 : decode b_Mod_act 191 = .ok (.iaload, 1) := kq_46 byq_r (by decide +kernel)
theorem d_Mod_act_192 : decode b_Mod_act 192 = .ok (.isub, 1) := kq_100 byq_r (by decide +kernel)
theorem d_Mod_act_193 : decode b_Mod_act 193 = .ok (.invokevirtual 315, 3) := kq_182 byq_r (a := 1) (b := 59) (by decide +kernel)
theorem d_Mod_act_196 : decode b_Mod_act 196 = .ok (.ifCond .ne 5, 3) := kq_154 byq_r (a := 0) (b := 5) (by decide +kernel)
theorem d_Mod_act_199 : decode b_Mod_act 199 = .ok (.iconst 0, 1) := kq_3 byq_r (by decide +kernel)
theorem d_Mod_act_200 : decode b_Mod_act 200 = .ok (.ireturn, 1) := kq_172 byq_r (by decide +kernel)
theorem d_Mod_act_201 : decode b_Mod_act 201 = .ok (.aload_n 0, 1) := kq_42 byq_r (by decide +kernel)
theorem d_Mod_act_202 : decode b_Mod_act 202 = .ok (.iconst 1, 1) := kq_4 byq_r (by decide +kernel)
theorem d_Mod_act_203 : decode b_Mod_act 203 = .ok (.aload_n 0, 1) := kq_42 byq_r (by decide +kernel)
theorem d_Mod_act_204 : decode b_Mod_act 204 = .ok (.getfield 9, 3) := kq_180 byq_r (a := 0) (b := 9) (by decide +kernel)
theorem d_Mod_act_207 : decode b_Mod_act 207 = .ok (.bipush 94, 2) := kq_16 byq_r (b := 94) (by decide +kernel)
theorem d_Mod_act_209 : decode b_Mod_act 209 = .ok (.iaload, 1) := kq_46 byq_r (by decide +kernel)
theorem d_Mod_act_210 : decode b_Mod_act 210 = .ok (.isub, 1) := kq_100 byq_r (by decide +kernel)
theorem d_Mod_act_211 : decode b_Mod_act 211 = .ok (.invokevirtual 318, 3) := kq_182 byq_r (a := 1) (b := 62) (by decide +kernel)
theorem d_Mod_act_214 : decode b_Mod_act 214 = .ok (.iconst 1, 1) := kq_4 byq_r (by decide +kernel)
theorem d_Mod_act_215 : decode b_Mod_act 215 = .ok (.ireturn, 1) := kq_172 byq_r (by decide +kernel)
theorem d_Mod_evening_0 : decode b_Mod_evening 0 = .ok (.aload_n 0, 1) := kq_42 byq_r (by decide +kernel)
theorem d_Mod_evening_1 : decode b_Mod_evening 1 = .ok (.iconst 0, 1) := kq_3 byq_r (by decide +kernel)
theorem d_Mod_evening_2 : decode b_Mod_evening 2 = .ok (.putfield 109, 3) := kq_181 byq_r (a := 0) (b := 109) (by decide +kernel)
theorem d_Mod_evening_5 : decode b_Mod_evening 5 = .ok (.aload_n 0, 1) := kq_42 byq_r (by decide +kernel)
theorem d_Mod_evening_6 : decode b_Mod_evening 6 = .ok (.aload_n 0, 1) := kq_42 byq_r (by decide +kernel)
theorem d_Mod_evening_7 : decode b_Mod_evening 7 = .ok (.getfield 32, 3) := kq_180 byq_r (a := 0) (b := 32) (by decide +kernel)
theorem d_Mod_evening_10 : decode b_Mod_evening 10 = .ok (.aload_n 0, 1) := kq_42 byq_r (by decide +kernel)
theorem d_Mod_evening_11 : decode b_Mod_evening 11 = .ok (.getfield 161, 3) := kq_180 byq_r (a := 0) (b := 161) (by decide +kernel)
theorem d_Mod_evening_14 : decode b_Mod_evening 14 = .ok (.bipush 60, 2) := kq_16 byq_r (b := 60) (by decide +kernel)
theorem d_Mod_evening_16 : decode b_Mod_evening 16 = .ok (.invokevirtual 194, 3) := kq_182 byq_r (a := 0) (b := 194) (by decide +kernel)
theorem d_Mod_evening_19 : decode b_Mod_evening 19 = .ok (.aload_n 0, 1) := kq_42 byq_r (by decide +kernel)
theorem d_Mod_evening_20 : decode b_Mod_evening 20 = .ok (.iconst 0, 1) := kq_3 byq_r (by decide +kernel)
theorem d_Mod_evening_21 : decode b_Mod_evening 21 = .ok (.putfield 161, 3) := kq_181 byq_r (a := 0) (b := 161) (by decide +kernel)
theorem d_Mod_evening_24 : decode b_Mod_evening 24 = .ok (.iconst 0, 1) := kq_3 byq_r (by decide +kernel)
theorem d_Mod_evening_25 : decode b_Mod_evening 25 = .ok (.istore_n 1, 1) := kq_60 byq_r (by decide +kernel)
theorem d_Mod_evening_26 : decode b_Mod_evening 26 = .ok (.aload_n 0, 1) := kq_42 byq_r (by decide +kernel)
theorem d_Mod_evening_27 : decode b_Mod_evening 27 = .ok (.getfield 167, 3) := kq_180 byq_r (a := 0) (b := 167) (by decide +kernel)
theorem d_Mod_evening_30 : decode b_Mod_evening 30 = .ok (.ifCond .le 7, 3) := kq_158 byq_r (a := 0) (b := 7) (by decide +kernel)
theorem d_Mod_evening_33 : decode b_Mod_evening 33 = .ok (.iconst 1, 1) := kq_4 byq_r (by decide +kernel)
theorem d_Mod_evening_34 : decode b_Mod_evening 34 = .ok (.goto 4, 3) := kq_167 byq_r (a := 0) (b := 4) (by decide +kernel)
theorem d_Mod_evening_37 : decode b_Mod_evening 37 = .ok (.iconst 0, 1) := kq_3 byq_r (by decide +kernel)
theorem d_Mod_evening_38 : decode b_Mod_evening 38 = .ok (.istore_n 2, 1) := kq_61 byq_r (by decide +kernel)
theorem d_Mod_evening_39 : decode b_Mod_evening 39 = .ok (.iload_n 2, 1) := kq_28 byq_r (by decide +kernel)
theorem d_Mod_evening_40 : decode b_Mod_evening 40 = .ok (.ifCond .eq 30, 3) := kq_153 byq_r (a := 0) (b := 30) (by decide +kernel)
theorem d_Mod_evening_43 : decode b_Mod_evening 43 = .ok (.aload_n 0, 1) := kq_42 byq_r (by decide +kernel)
theorem d_Mod_evening_44 : decode b_Mod_evening 44 = .ok (.invokevirtual 179, 3) := kq_182 byq_r (a := 0) (b := 179) (by decide +kernel)
theorem d_Mod_evening_47 : decode b_Mod_evening 47 = .ok (.ifCond .eq 23, 3) := kq_153 byq_r (a := 0) (b := 23) (by decide +kernel)
theorem d_Mod_evening_50 : decode b_Mod_evening 50 = .ok (.aload_n 0, 1) := kq_42 byq_r (by decide +kernel)
theorem d_Mod_evening_51 : decode b_Mod_evening 51 = .ok (.iconst 3, 1) := kq_6 byq_r (by decide +kernel)
theorem d_Mod_evening_52 : decode b_Mod_evening 52 = .ok (.iload_n 1, 1) := kq_27 byq_r (by decide +kernel)
theorem d_Mod_evening_53 : decode b_Mod_evening 53 = .ok (.imul, 1) := kq_104 byq_r (by decide +kernel)
theorem d_Mod_evening_54 : decode b_Mod_evening 54 = .ok (.invokevirtual 345, 3) := kq_182 byq_r (a := 1) (b := 89) (by decide +kernel)
theorem d_Mod_evening_57 : decode b_Mod_evening 57 = .ok (.iinc 1 1, 3) := kq_132 byq_r (b := 1) (by decide +kernel)
theorem d_Mod_evening_60 : decode b_Mod_evening 60 = .ok (.aload_n 0, 1) := kq_42 byq_r (by decide +kernel)
theorem d_Mod_evening_61 : decode b_Mod_evening 61 = .ok (.bipush 59, 2) := kq_16 byq_r (b := 59) (by decide +kernel)
theorem d_Mod_evening_63 : decode b_Mod_evening 63 = .ok (.invokevirtual 186, 3) := kq_182 byq_r (a := 0) (b := 186) (by decide +kernel)
theorem d_Mod_evening_66 : decode b_Mod_evening 66 = .ok (.istore_n 2, 1) := kq_61 byq_r (by decide +kernel)
theorem d_Mod_evening_67 : decode b_Mod_evening 67 = .ok (.goto (-28), 3) := kq_167 byq_r (a := 255) (b := 228) (by decide +kernel)
theorem d_Mod_evening_70 : decode b_Mod_evening 70 = .ok (.aload_n 0, 1) := kq_42 byq_r (by decide +kernel)
theorem d_Mod_evening_71 : decode b_Mod_evening 71 = .ok (.getfield 173, 3) := kq_180 byq_r (a := 0) (b := 173) (by decide +kernel)
theorem d_Mod_evening_74 : decode b_Mod_evening 74 = .ok (.aload_n 0, 1) := kq_42 byq_r (by decide +kernel)
theorem d_Mod_evening_75 : decode b_Mod_evening 75 = .ok (.getfield 167, 3) := kq_180 byq_r (a := 0) (b := 167) (by decide +kernel)
theorem d_Mod_evening_78 : decode b_Mod_evening 78 = .ok (.if_icmp .ge 11, 3) := kq_162 byq_r (a := 0) (b := 11) (by decide +kernel)
theorem d_Mod_evening_81 : decode b_Mod_evening 81 = .ok (.aload_n 0, 1) := kq_42 byq_r (by decide +kernel)
theorem d_Mod_evening_82 : decode b_Mod_evening 82 = .ok (.aload_n 0, 1) := kq_42 byq_r (by decide +kernel)
theorem d_Mod_evening_83 : decode b_Mod_evening 83 = .ok (.getfield 173, 3) := kq_180 byq_r (a := 0) (b := 173) (by decide +kernel)
theorem d_Mod_evening_86 : decode b_Mod_evening 86 = .ok (.invokevirtual 190, 3) := kq_182 byq_r (a := 0) (b := 190) (by decide +kernel)
theorem d_Mod_evening_89 : decode b_Mod_evening 89 = .ok (.aload_n 0, 1) := kq_42 byq_r (by decide +kernel)
theorem d_Mod_evening_90 : decode b_Mod_evening 90 = .ok (.invokevirtual 179, 3) := kq_182 byq_r (a := 0) (b := 179) (by decide +kernel)
theorem d_Mod_evening_93 : decode b_Mod_evening 93 = .ok (.ifCond .ne 10, 3) := kq_154 byq_r (a := 0) (b := 10) (by decide +kernel)
theorem d_Mod_evening_96 : decode b_Mod_evening 96 = .ok (.iconst (-1), 1) := kq_2 byq_r (by decide +kernel)
theorem d_Mod_evening_97 : decode b_Mod_evening 97 = .ok (.aload_n 0, 1) := kq_42 byq_r (by decide +kernel)
theorem d_Mod_evening_98 : decode b_Mod_evening 98 = .ok (.getfield 176, 3) := kq_180 byq_r (a := 0) (b := 176) (by decide +kernel)
theorem d_Mod_evening_101 : decode b_Mod_evening 101 = .ok (.isub, 1) := kq_100 byq_r (by decide +kernel)
theorem d_Mod_evening_102 : decode b_Mod_evening 102 = .ok (.ireturn, 1) := kq_172 byq_r (by decide +kernel)
theorem d_Mod_evening_103 : decode b_Mod_evening 103 = .ok (.aload_n 0, 1) := kq_42 byq_r (by decide +kernel)
theorem d_Mod_evening_104 : decode b_Mod_evening 104 = .ok (.getfield 9, 3) := kq_180 byq_r (a := 0) (b := 9) (by decide +kernel)
theorem d_Mod_evening_107 : decode b_Mod_evening 107 = .ok (.aload_n 0, 1) := kq_42 byq_r (by decide +kernel)
theorem d_Mod_evening_108 : decode b_Mod_evening 108 = .ok (.getfield 54, 3) := kq_180 byq_r (a := 0) (b := 54) (by decide +kernel)
theorem d_Mod_evening_111 : decode b_Mod_evening 111 = .ok (.iconst 0, 1) := kq_3 byq_r (by decide +kernel)
theorem d_Mod_evening_112 : decode b_Mod_evening 112 = .ok (.invokestatic 286, 3) := kq_184 byq_r (a := 1) (b := 30) (by decide +kernel)
theorem d_Mod_evening_115 : decode b_Mod_evening 115 = .ok (.aload_n 0, 1) := kq_42 byq_r (by decide +kernel)
theorem d_Mod_evening_116 : decode b_Mod_evening 116 = .ok (.iconst 0, 1) := kq_3 byq_r (by decide +kernel)
theorem d_Mod_evening_117 : decode b_Mod_evening 117 = .ok (.putfield 348, 3) := kq_181 byq_r (a := 1) (b := 92) (by decide +kernel)
theorem d_Mod_evening_120 : decode b_Mod_evening 120 = .ok (.iconst 0, 1) := kq_3 byq_r (by decide +kernel)
theorem d_Mod_evening_121 : decode b_Mod_evening 121 = .ok (.istore_n 3, 1) := kq_62 byq_r (by decide +kernel)
theorem d_Mod_evening_122 : decode b_Mod_evening 122 = .ok (.iload_n 3, 1) := kq_29 byq_r (by decide +kernel)
theorem d_Mod_evening_123 : decode b_Mod_evening 123 = .ok (.iload_n 1, 1) := kq_27 byq_r (by decide +kernel)
theorem d_Mod_evening_124 : decode b_Mod_evening 124 = .ok (.if_icmp .ge 19, 3) := kq_162 byq_r (a := 0) (b := 19) (by decide +kernel)
theorem d_Mod_evening_127 : decode b_Mod_evening 127 = .ok (.aload_n 0, 1) := kq_42 byq_r (by decide +kernel)
theorem d_Mod_evening_128 : decode b_Mod_evening 128 = .ok (.iconst 3, 1) := kq_6 byq_r (by decide +kernel)
theorem d_Mod_evening_129 : decode b_Mod_evening 129 = .ok (.iload_n 3, 1) := kq_29 byq_r (by decide +kernel)
theorem d_Mod_evening_130 : decode b_Mod_evening 130 = .ok (.imul, 1) := kq_104 byq_r (by decide +kernel)
theorem d_Mod_evening_131 : decode b_Mod_evening 131 = .ok (.invokevirtual 351, 3) := kq_182 byq_r (a := 1) (b := 95) (by decide +kernel)
theorem d_Mod_evening_134 : decode b_Mod_evening 134 = .ok (.ifCond .eq 9, 3) := kq_153 byq_r (a := 0) (b := 9) (by decide +kernel)
theorem d_Mod_evening_137 : decode b_Mod_evening 137 = .ok (.iinc 3 1, 3) := kq_132 byq_r (b := 1) (by decide +kernel)
theorem d_Mod_evening_140 : decode b_Mod_evening 140 = .ok (.goto (-18), 3) := kq_167 byq_r (a := 255) (b := 238) (by decide +kernel)
theorem d_Mod_evening_143 : decode b_Mod_evening 143 = .ok (.iload_n 3, 1) := kq_29 byq_r (by decide +kernel)
theorem d_Mod_evening_144 : decode b_Mod_evening 144 = .ok (.ifCond .le 11, 3) := kq_158 byq_r (a := 0) (b := 11) (by decide +kernel)
theorem d_Mod_evening_147 : decode b_Mod_evening 147 = .ok (.aload_n 0, 1) := kq_42 byq_r (by decide +kernel)
theorem d_Mod_evening_148 : decode b_Mod_evening 148 = .ok (.aload_n 0, 1) := kq_42 byq_r (by decide +kernel)
theorem d_Mod_evening_149 : decode b_Mod_evening 149 = .ok (.getfield 54, 3) := kq_180 byq_r (a := 0) (b := 54) (by decide +kernel)
theorem d_Mod_evening_152 : decode b_Mod_evening 152 = .ok (.invokevirtual 293, 3) := kq_182 byq_r (a := 1) (b := 37) (by decide +kernel)
theorem d_Mod_evening_155 : decode b_Mod_evening 155 = .ok (.aload_n 0, 1) := kq_42 byq_r (by decide +kernel)
theorem d_Mod_evening_156 : decode b_Mod_evening 156 = .ok (.iconst 0, 1) := kq_3 byq_r (by decide +kernel)
theorem d_Mod_evening_157 : decode b_Mod_evening 157 = .ok (.putfield 112, 3) := kq_181 byq_r (a := 0) (b := 112) (by decide +kernel)
theorem d_Mod_evening_160 : decode b_Mod_evening 160 = .ok (.aload_n 0, 1) := kq_42 byq_r (by decide +kernel)
theorem d_Mod_evening_161 : decode b_Mod_evening 161 = .ok (.iload_n 3, 1) := kq_29 byq_r (by decide +kernel)
theorem d_Mod_evening_162 : decode b_Mod_evening 162 = .ok (.iload_n 1, 1) := kq_27 byq_r (by decide +kernel)
theorem d_Mod_evening_163 : decode b_Mod_evening 163 = .ok (.if_icmp .ge 7, 3) := kq_162 byq_r (a := 0) (b := 7) (by decide +kernel)
theorem d_Mod_evening_166 : decode b_Mod_evening 166 = .ok (.iconst 1, 1) := kq_4 byq_r (by decide +kernel)
theorem d_Mod_evening_167 : decode b_Mod_evening 167 = .ok (.goto 4, 3) := kq_167 byq_r (a := 0) (b := 4) (by decide +kernel)
theorem d_Mod_evening_170 : decode b_Mod_evening 170 = .ok (.iconst 0, 1) := kq_3 byq_r (by decide +kernel)
theorem d_Mod_evening_171 : decode b_Mod_evening 171 = .ok (.invokevirtual 342, 3) := kq_182 byq_r (a := 1) (b := 86) (by decide +kernel)
theorem d_Mod_evening_174 : decode b_Mod_evening 174 = .ok (.aload_n 0, 1) := kq_42 byq_r (by decide +kernel)
theorem d_Mod_evening_175 : decode b_Mod_evening 175 = .ok (.aload_n 0, 1) := kq_42 byq_r (by decide +kernel)
theorem d_Mod_evening_176 : decode b_Mod_evening 176 = .ok (.getfield 348, 3) := kq_180 byq_r (a := 1) (b := 92) (by decide +kernel)
theorem d_Mod_evening_179 : decode b_Mod_evening 179 = .ok (.invokevirtual 342, 3) := kq_182 byq_r (a := 1) (b := 86) (by decide +kernel)
theorem d_Mod_evening_182 : decode b_Mod_evening 182 = .ok (.iload_n 3, 1) := kq_29 byq_r (by decide +kernel)
theorem d_Mod_evening_183 : decode b_Mod_evening 183 = .ok (.ireturn, 1) := kq_172 byq_r (by decide +kernel)
theorem d_Mod_undo_0 : decode b_Mod_undo 0 = .ok (.aload_n 0, 1) := kq_42 byq_r (by decide +kernel)
theorem d_Mod_undo_1 : decode b_Mod_undo 1 = .ok (.iconst 0, 1) := kq_3 byq_r (by decide +kernel)
theorem d_Mod_undo_2 : decode b_Mod_undo 2 = .ok (.putfield 109, 3) := kq_181 byq_r (a := 0) (b := 109) (by decide +kernel)
theorem d_Mod_undo_5 : decode b_Mod_undo 5 = .ok (.aload_n 0, 1) := kq_42 byq_r (by decide +kernel)
theorem d_Mod_undo_6 : decode b_Mod_undo 6 = .ok (.getfield 201, 3) := kq_180 byq_r (a := 0) (b := 201) (by decide +kernel)
theorem d_Mod_undo_9 : decode b_Mod_undo 9 = .ok (.ifCond .ne 5, 3) := kq_154 byq_r (a := 0) (b := 5) (by decide +kernel)
theorem d_Mod_undo_12 : decode b_Mod_undo 12 = .ok (.iconst (-1), 1) := kq_2 byq_r (by decide +kernel)
theorem d_Mod_undo_13 : decode b_Mod_undo 13 = .ok (.ireturn, 1) := kq_172 byq_r (by decide +kernel)
theorem d_Mod_undo_14 : decode b_Mod_undo 14 = .ok (.aload_n 0, 1) := kq_42 byq_r (by decide +kernel)
theorem d_Mod_undo_15 : decode b_Mod_undo 15 = .ok (.dup, 1) := kq_89 byq_r (by decide +kernel)
theorem d_Mod_undo_16 : decode b_Mod_undo 16 = .ok (.getfield 201, 3) := kq_180 byq_r (a := 0) (b := 201) (by decide +kernel)
theorem d_Mod_undo_19 : decode b_Mod_undo 19 = .ok (.iconst 1, 1) := kq_4 byq_r (by decide +kernel)
theorem d_Mod_undo_20 : decode b_Mod_undo 20 = .ok (.isub, 1) := kq_100 byq_r (by decide +kernel)
theorem d_Mod_undo_21 : decode b_Mod_undo 21 = .ok (.putfield 201, 3) := kq_181 byq_r (a := 0) (b := 201) (by decide +kernel)
theorem d_Mod_undo_24 : decode b_Mod_undo 24 = .ok (.iconst 0, 1) := kq_3 byq_r (by decide +kernel)
theorem d_Mod_undo_25 : decode b_Mod_undo 25 = .ok (.istore_n 1, 1) := kq_60 byq_r (by decide +kernel)
theorem d_Mod_undo_26 : decode b_Mod_undo 26 = .ok (.iload_n 1, 1) := kq_27 byq_r (by decide +kernel)
theorem d_Mod_undo_27 : decode b_Mod_undo 27 = .ok (.bipush 96, 2) := kq_16 byq_r (b := 96) (by decide +kernel)
theorem d_Mod_undo_29 : decode b_Mod_undo 29 = .ok (.if_icmp .ge 29, 3) := kq_162 byq_r (a := 0) (b := 29) (by decide +kernel)
theorem d_Mod_undo_32 : decode b_Mod_undo 32 = .ok (.aload_n 0, 1) := kq_42 byq_r (by decide +kernel)
theorem d_Mod_undo_33 : decode b_Mod_undo 33 = .ok (.getfield 9, 3) := kq_180 byq_r (a := 0) (b := 9) (by decide +kernel)
theorem d_Mod_undo_36 : decode b_Mod_undo 36 = .ok (.iload_n 1, 1) := kq_27 byq_r (by decide +kernel)
theorem d_Mod_undo_37 : decode b_Mod_undo 37 = .ok (.aload_n 0, 1) := kq_42 byq_r (by decide +kernel)
theorem d_Mod_undo_38 : decode b_Mod_undo 38 = .ok (.getfield 51, 3) := kq_180 byq_r (a := 0) (b := 51) (by decide +kernel)
theorem d_Mod_undo_41 : decode b_Mod_undo 41 = .ok (.bipush 96, 2) := kq_16 byq_r (b := 96) (by decide +kernel)
theorem d_Mod_undo_43 : decode b_Mod_undo 43 = .ok (.aload_n 0, 1) := kq_42 byq_r (by decide +kernel)
theorem d_Mod_undo_44 : decode b_Mod_undo 44 = .ok (.getfield 201, 3) := kq_180 byq_r (a := 0) (b := 201) (by decide +kernel)
theorem d_Mod_undo_47 : decode b_Mod_undo 47 = .ok (.imul, 1) := kq_104 byq_r (by decide +kernel)
theorem d_Mod_undo_48 : decode b_Mod_undo 48 = .ok (.iload_n 1, 1) := kq_27 byq_r (by decide +kernel)
theorem d_Mod_undo_49 : decode b_Mod_undo 49 = .ok (.iadd, 1) := kq_96 byq_r (by decide +kernel)
theorem d_Mod_undo_50 : decode b_Mod_undo 50 = .ok (.iaload, 1) := kq_46 byq_r (by decide +kernel)
theorem d_Mod_undo_51 : decode b_Mod_undo 51 = .ok (.iastore, 1) := kq_79 byq_r (by decide +kernel)
theorem d_Mod_undo_52 : decode b_Mod_undo 52 = .ok (.iinc 1 1, 3) := kq_132 byq_r (b := 1) (by decide +kernel)
theorem d_Mod_undo_55 : decode b_Mod_undo 55 = .ok (.goto (-29), 3) := kq_167 byq_r (a := 255) (b := 227) (by decide +kernel)
theorem d_Mod_undo_58 : decode b_Mod_undo 58 = .ok (.aload_n 0, 1) := kq_42 byq_r (by decide +kernel)
theorem d_Mod_undo_59 : decode b_Mod_undo 59 = .ok (.getfield 201, 3) := kq_180 byq_r (a := 0) (b := 201) (by decide +kernel)
theorem d_Mod_undo_62 : decode b_Mod_undo 62 = .ok (.ireturn, 1) := kq_172 byq_r (by decide +kernel)
theorem d_Mod_met_0 : decode b_Mod_met 0 = .ok (.aload_n 0, 1) := kq_42 byq_r (by decide +kernel)
theorem d_Mod_met_1 : decode b_Mod_met 1 = .ok (.iconst 0, 1) := kq_3 byq_r (by decide +kernel)
theorem d_Mod_met_2 : decode b_Mod_met 2 = .ok (.putfield 109, 3) := kq_181 byq_r (a := 0) (b := 109) (by decide +kernel)
theorem d_Mod_met_5 : decode b_Mod_met 5 = .ok (.aload_n 0, 1) := kq_42 byq_r (by decide +kernel)
theorem d_Mod_met_6 : decode b_Mod_met 6 = .ok (.iload_n 1, 1) := kq_27 byq_r (by decide +kernel)
theorem d_Mod_met_7 : decode b_Mod_met 7 = .ok (.iload_n 2, 1) := kq_28 byq_r (by decide +kernel)
theorem d_Mod_met_8 : decode b_Mod_met 8 = .ok (.invokevirtual 354, 3) := kq_182 byq_r (a := 1) (b := 98) (by decide +kernel)
theorem d_Mod_met_11 : decode b_Mod_met 11 = .ok (.ifCond .eq 20, 3) := kq_153 byq_r (a := 0) (b := 20) (by decide +kernel)
theorem d_Mod_met_14 : decode b_Mod_met 14 = .ok (.aload_n 0, 1) := kq_42 byq_r (by decide +kernel)
theorem d_Mod_met_15 : decode b_Mod_met 15 = .ok (.getfield 9, 3) := kq_180 byq_r (a := 0) (b := 9) (by decide +kernel)
theorem d_Mod_met_18 : decode b_Mod_met 18 = .ok (.bipush 16, 2) := kq_16 byq_r (b := 16) (by decide +kernel)
theorem d_Mod_met_20 : decode b_Mod_met 20 = .ok (.bipush 8, 2) := kq_16 byq_r (b := 8) (by decide +kernel)
theorem d_Mod_met_22 : decode b_Mod_met 22 = .ok (.iload_n 1, 1) := kq_27 byq_r (by decide +kernel)
theorem d_Mod_met_23 : decode b_Mod_met 23 = .ok (.imul, 1) := kq_104 byq_r (by decide +kernel)
theorem d_Mod_met_24 : decode b_Mod_met 24 = .ok (.iadd, 1) := kq_96 byq_r (by decide +kernel)
theorem d_Mod_met_25 : decode b_Mod_met 25 = .ok (.iload_n 2, 1) := kq_28 byq_r (by decide +kernel)
theorem d_Mod_met_26 : decode b_Mod_met 26 = .ok (.iadd, 1) := kq_96 byq_r (by decide +kernel)
theorem d_Mod_met_27 : decode b_Mod_met 27 = .ok (.iaload, 1) := kq_46 byq_r (by decide +kernel)
theorem d_Mod_met_28 : decode b_Mod_met 28 = .ok (.goto 4, 3) := kq_167 byq_r (a := 0) (b := 4) (by decide +kernel)
theorem d_Mod_met_31 : decode b_Mod_met 31 = .ok (.iconst (-1), 1) := kq_2 byq_r (by decide +kernel)
theorem d_Mod_met_32 : decode b_Mod_met 32 = .ok (.ireturn, 1) := kq_172 byq_r (by decide +kernel)
theorem d_Mod_ahead_0 : decode b_Mod_ahead 0 = .ok (.aload_n 0, 1) := kq_42 byq_r (by decide +kernel)
theorem d_Mod_ahead_1 : decode b_Mod_ahead 1 = .ok (.iconst 0, 1) := kq_3 byq_r (by decide +kernel)
theorem d_Mod_ahead_2 : decode b_Mod_ahead 2 = .ok (.putfield 109, 3) := kq_181 byq_r (a := 0) (b := 109) (by decide +kernel)
theorem d_Mod_ahead_5 : decode b_Mod_ahead 5 = .ok (.iload_n 1, 1) := kq_27 byq_r (by decide +kernel)
theorem d_Mod_ahead_6 : decode b_Mod_ahead 6 = .ok (.iconst 0, 1) := kq_3 byq_r (by decide +kernel)
theorem d_Mod_ahead_7 : decode b_Mod_ahead 7 = .ok (.bipush 60, 2) := kq_16 byq_r (b := 60) (by decide +kernel)
theorem d_Mod_ahead_9 : decode b_Mod_ahead 9 = .ok (.invokestatic 119, 3) := kq_184 byq_r (a := 0) (b := 119) (by decide +kernel)
theorem d_Mod_ahead_12 : decode b_Mod_ahead 12 = .ok (.ifCond .ne 5, 3) := kq_154 byq_r (a := 0) (b := 5) (by decide +kernel)
theorem d_Mod_ahead_15 : decode b_Mod_ahead 15 = .ok (.iconst (-1), 1) := kq_2 byq_r (by decide +kernel)
theorem d_Mod_ahead_16 : decode b_Mod_ahead 16 = .ok (.ireturn, 1) := kq_172 byq_r (by decide +kernel)
theorem d_Mod_ahead_17 : decode b_Mod_ahead 17 = .ok (.aload_n 0, 1) := kq_42 byq_r (by decide +kernel)
theorem d_Mod_ahead_18 : decode b_Mod_ahead 18 = .ok (.getfield 9, 3) := kq_180 byq_r (a := 0) (b := 9) (by decide +kernel)
theorem d_Mod_ahead_21 : decode b_Mod_ahead 21 = .ok (.aload_n 0, 1) := kq_42 byq_r (by decide +kernel)
theorem d_Mod_ahead_22 : decode b_Mod_ahead 22 = .ok (.getfield 60, 3) := kq_180 byq_r (a := 0) (b := 60) (by decide +kernel)
theorem d_Mod_ahead_25 : decode b_Mod_ahead 25 = .ok (.iconst 0, 1) := kq_3 byq_r (by decide +kernel)
theorem d_Mod_ahead_26 : decode b_Mod_ahead 26 = .ok (.invokestatic 286, 3) := kq_184 byq_r (a := 1) (b := 30) (by decide +kernel)
theorem d_Mod_ahead_29 : decode b_Mod_ahead 29 = .ok (.iconst 0, 1) := kq_3 byq_r (by decide +kernel)
theorem d_Mod_ahead_30 : decode b_Mod_ahead 30 = .ok (.istore_n 2, 1) := kq_61 byq_r (by decide +kernel)
theorem d_Mod_ahead_31 : decode b_Mod_ahead 31 = .ok (.iconst 0, 1) := kq_3 byq_r (by decide +kernel)
theorem d_Mod_ahead_32 : decode b_Mod_ahead 32 = .ok (.istore_n 3, 1) := kq_62 byq_r (by decide +kernel)
theorem d_Mod_ahead_33 : decode b_Mod_ahead 33 = .ok (.iload_n 3, 1) := kq_29 byq_r (by decide +kernel)
theorem d_Mod_ahead_34 : decode b_Mod_ahead 34 = .ok (.iload_n 1, 1) := kq_27 byq_r (by decide +kernel)
theorem d_Mod_ahead_35 : decode b_Mod_ahead 35 = .ok (.if_icmp .ge 24, 3) := kq_162 byq_r (a := 0) (b := 24) (by decide +kernel)
theorem d_Mod_ahead_38 : decode b_Mod_ahead 38 = .ok (.aload_n 0, 1) := kq_42 byq_r (by decide +kernel)
theorem d_Mod_ahead_39 : decode b_Mod_ahead 39 = .ok (.aload_n 0, 1) := kq_42 byq_r (by decide +kernel)
theorem d_Mod_ahead_40 : decode b_Mod_ahead 40 = .ok (.getfield 60, 3) := kq_180 byq_r (a := 0) (b := 60) (by decide +kernel)
theorem d_Mod_ahead_43 : decode b_Mod_ahead 43 = .ok (.invokevirtual 339, 3) := kq_182 byq_r (a := 1) (b := 83) (by decide +kernel)
theorem d_Mod_ahead_46 : decode b_Mod_ahead 46 = .ok (.iload_n 2, 1) := kq_28 byq_r (by decide +kernel)
theorem d_Mod_ahead_47 : decode b_Mod_ahead 47 = .ok (.aload_n 0, 1) := kq_42 byq_r (by decide +kernel)
theorem d_Mod_ahead_48 : decode b_Mod_ahead 48 = .ok (.getfield 327, 3) := kq_180 byq_r (a := 1) (b := 71) (by decide +kernel)
theorem d_Mod_ahead_51 : decode b_Mod_ahead 51 = .ok (.iadd, 1) := kq_96 byq_r (by decide +kernel)
theorem d_Mod_ahead_52 : decode b_Mod_ahead 52 = .ok (.istore_n 2, 1) := kq_61 byq_r (by decide +kernel)
theorem d_Mod_ahead_53 : decode b_Mod_ahead 53 = .ok (.iinc 3 1, 3) := kq_132 byq_r (b := 1) (by decide +kernel)
theorem d_Mod_ahead_56 : decode b_Mod_ahead 56 = .ok (.goto (-23), 3) := kq_167 byq_r (a := 255) (b := 233) (by decide +kernel)
theorem d_Mod_ahead_59 : decode b_Mod_ahead 59 = .ok (.aload_n 0, 1) := kq_42 byq_r (by decide +kernel)
theorem d_Mod_ahead_60 : decode b_Mod_ahead 60 = .ok (.iconst 0, 1) := kq_3 byq_r (by decide +kernel)
theorem d_Mod_ahead_61 : decode b_Mod_ahead 61 = .ok (.putfield 112, 3) := kq_181 byq_r (a := 0) (b := 112) (by decide +kernel)
theorem d_Mod_ahead_64 : decode b_Mod_ahead 64 = .ok (.iconst 0, 1) := kq_3 byq_r (by decide +kernel)
theorem d_Mod_ahead_65 : decode b_Mod_ahead 65 = .ok (.istore_n 3, 1) := kq_62 byq_r (by decide +kernel)
theorem d_Mod_ahead_66 : decode b_Mod_ahead 66 = .ok (.iload_n 3, 1) := kq_29 byq_r (by decide +kernel)
theorem d_Mod_ahead_67 : decode b_Mod_ahead 67 = .ok (.aload_n 0, 1) := kq_42 byq_r (by decide +kernel)
theorem d_Mod_ahead_68 : decode b_Mod_ahead 68 = .ok (.getfield 123, 3) := kq_180 byq_r (a := 0) (b := 123) (by decide +kernel)
theorem d_Mod_ahead_71 : decode b_Mod_ahead 71 = .ok (.if_icmp .ge 22, 3) := kq_162 byq_r (a := 0) (b := 22) (by decide +kernel)
theorem d_Mod_ahead_74 : decode b_Mod_ahead 74 = .ok (.aload_n 0, 1) := kq_42 byq_r (by decide +kernel)
theorem d_Mod_ahead_75 : decode b_Mod_ahead 75 = .ok (.aload_n 0, 1) := kq_42 byq_r (by decide +kernel)
theorem d_Mod_ahead_76 : decode b_Mod_ahead 76 = .ok (.getfield 60, 3) := kq_180 byq_r (a := 0) (b := 60) (by decide +kernel)
theorem d_Mod_ahead_79 : decode b_Mod_ahead 79 = .ok (.iload_n 3, 1) := kq_29 byq_r (by decide +kernel)
theorem d_Mod_ahead_80 : decode b_Mod_ahead 80 = .ok (.iaload, 1) := kq_46 byq_r (by decide +kernel)
theorem d_Mod_ahead_81 : decode b_Mod_ahead 81 = .ok (.invokestatic 147, 3) := kq_184 byq_r (a := 0) (b := 147) (by decide +kernel)
theorem d_Mod_ahead_84 : decode b_Mod_ahead 84 = .ok (.invokevirtual 342, 3) := kq_182 byq_r (a := 1) (b := 86) (by decide +kernel)
theorem d_Mod_ahead_87 : decode b_Mod_ahead 87 = .ok (.iinc 3 1, 3) := kq_132 byq_r (b := 1) (by decide +kernel)
theorem d_Mod_ahead_90 : decode b_Mod_ahead 90 = .ok (.goto (-24), 3) := kq_167 byq_r (a := 255) (b := 232) (by decide +kernel)
theorem d_Mod_ahead_93 : decode b_Mod_ahead 93 = .ok (.iload_n 2, 1) := kq_28 byq_r (by decide +kernel)
theorem d_Mod_ahead_94 : decode b_Mod_ahead 94 = .ok (.ireturn, 1) := kq_172 byq_r (by decide +kernel)
theorem d_Mod_meet_0 : decode b_Mod_meet 0 = .ok (.aload_n 0, 1) := kq_42 byq_r (by decide +kernel)
theorem d_Mod_meet_1 : decode b_Mod_meet 1 = .ok (.iconst 0, 1) := kq_3 byq_r (by decide +kernel)
theorem d_Mod_meet_2 : decode b_Mod_meet 2 = .ok (.putfield 109, 3) := kq_181 byq_r (a := 0) (b := 109) (by decide +kernel)
theorem d_Mod_meet_5 : decode b_Mod_meet 5 = .ok (.aload_n 0, 1) := kq_42 byq_r (by decide +kernel)
theorem d_Mod_meet_6 : decode b_Mod_meet 6 = .ok (.iload_n 1, 1) := kq_27 byq_r (by decide +kernel)
theorem d_Mod_meet_7 : decode b_Mod_meet 7 = .ok (.iload_n 2, 1) := kq_28 byq_r (by decide +kernel)
theorem d_Mod_meet_8 : decode b_Mod_meet 8 = .ok (.invokevirtual 354, 3) := kq_182 byq_r (a := 1) (b := 98) (by decide +kernel)
theorem d_Mod_meet_11 : decode b_Mod_meet 11 = .ok (.ifCond .ne 5, 3) := kq_154 byq_r (a := 0) (b := 5) (by decide +kernel)
theorem d_Mod_meet_14 : decode b_Mod_meet 14 = .ok (.iconst (-1), 1) := kq_2 byq_r (by decide +kernel)
theorem d_Mod_meet_15 : decode b_Mod_meet 15 = .ok (.ireturn, 1) := kq_172 byq_r (by decide +kernel)
theorem d_Mod_meet_16 : decode b_Mod_meet 16 = .ok (.aload_n 0, 1) := kq_42 byq_r (by decide +kernel)
theorem d_Mod_meet_17 : decode b_Mod_meet 17 = .ok (.getfield 9, 3) := kq_180 byq_r (a := 0) (b := 9) (by decide +kernel)
theorem d_Mod_meet_20 : decode b_Mod_meet 20 = .ok (.aload_n 0, 1) := kq_42 byq_r (by decide +kernel)
theorem d_Mod_meet_21 : decode b_Mod_meet 21 = .ok (.getfield 60, 3) := kq_180 byq_r (a := 0) (b := 60) (by decide +kernel)
theorem d_Mod_meet_24 : decode b_Mod_meet 24 = .ok (.iconst 0, 1) := kq_3 byq_r (by decide +kernel)
theorem d_Mod_meet_25 : decode b_Mod_meet 25 = .ok (.invokestatic 286, 3) := kq_184 byq_r (a := 1) (b := 30) (by decide +kernel)
theorem d_Mod_meet_28 : decode b_Mod_meet 28 = .ok (.iconst 1, 1) := kq_4 byq_r (by decide +kernel)
theorem d_Mod_meet_29 : decode b_Mod_meet 29 = .ok (.istore_n 3, 1) := kq_62 byq_r (by decide +kernel)
theorem d_Mod_meet_30 : decode b_Mod_meet 30 = .ok (.iload_n 3, 1) := kq_29 byq_r (by decide +kernel)
theorem d_Mod_meet_31 : decode b_Mod_meet 31 = .ok (.bipush 60, 2) := kq_16 byq_r (b := 60) (by decide +kernel)
theorem d_Mod_meet_33 : decode b_Mod_meet 33 = .ok (.if_icmp .gt 72, 3) := kq_163 byq_r (a := 0) (b := 72) (by decide +kernel)
theorem d_Mod_meet_36 : decode b_Mod_meet 36 = .ok (.aload_n 0, 1) := kq_42 byq_r (by decide +kernel)
theorem d_Mod_meet_37 : decode b_Mod_meet 37 = .ok (.aload_n 0, 1) := kq_42 byq_r (by decide +kernel)
theorem d_Mod_meet_38 : decode b_Mod_meet 38 = .ok (.getfield 60, 3) := kq_180 byq_r (a := 0) (b := 60) (by decide +kernel)
theorem d_Mod_meet_41 : decode b_Mod_meet 41 = .ok (.invokevirtual 339, 3) := kq_182 byq_r (a := 1) (b := 83) (by decide +kernel)
theorem d_Mod_meet_44 : decode b_Mod_meet 44 = .ok (.aload_n 0, 1) := kq_42 byq_r (by decide +kernel)
theorem d_Mod_meet_45 : decode b_Mod_meet 45 = .ok (.getfield 130, 3) := kq_180 byq_r (a := 0) (b := 130) (by decide +kernel)
theorem d_Mod_meet_48 : decode b_Mod_meet 48 = .ok (.iload_n 1, 1) := kq_27 byq_r (by decide +kernel)
theorem d_Mod_meet_49 : decode b_Mod_meet 49 = .ok (.invokestatic 133, 3) := kq_184 byq_r (a := 0) (b := 133) (by decide +kernel)
theorem d_Mod_meet_52 : decode b_Mod_meet 52 = .ok (.aload_n 0, 1) := kq_42 byq_r (by decide +kernel)
theorem d_Mod_meet_53 : decode b_Mod_meet 53 = .ok (.getfield 130, 3) := kq_180 byq_r (a := 0) (b := 130) (by decide +kernel)
theorem d_Mod_meet_56 : decode b_Mod_meet 56 = .ok (.iload_n 2, 1) := kq_28 byq_r (by decide +kernel)
theorem d_Mod_meet_57 : decode b_Mod_meet 57 = .ok (.invokestatic 133, 3) := kq_184 byq_r (a := 0) (b := 133) (by decide +kernel)
theorem d_Mod_meet_60 : decode b_Mod_meet 60 = .ok (.if_icmp .eq 39, 3) := kq_159 byq_r (a := 0) (b := 39) (by decide +kernel)
theorem d_Mod_meet_63 : decode b_Mod_meet 63 = .ok (.aload_n 0, 1) := kq_42 byq_r (by decide +kernel)
theorem d_Mod_meet_64 : decode b_Mod_meet 64 = .ok (.aload_n 0, 1) := kq_42 byq_r (by decide +kernel)
theorem d_Mod_meet_65 : decode b_Mod_meet 65 = .ok (.getfield 60, 3) := kq_180 byq_r (a := 0) (b := 60) (by decide +kernel)
theorem d_Mod_meet_68 : decode b_Mod_meet 68 = .ok (.iload_n 1, 1) := kq_27 byq_r (by decide +kernel)
theorem d_Mod_meet_69 : decode b_Mod_meet 69 = .ok (.iload_n 2, 1) := kq_28 byq_r (by decide +kernel)
theorem d_Mod_meet_70 : decode b_Mod_meet 70 = .ok (.invokevirtual 330, 3) := kq_182 byq_r (a := 1) (b := 74) (by decide +kernel)
theorem d_Mod_meet_73 : decode b_Mod_meet 73 = .ok (.ifCond .ne 6, 3) := kq_154 byq_r (a := 0) (b := 6) (by decide +kernel)
theorem d_Mod_meet_76 : decode b_Mod_meet 76 = .ok (.goto 23, 3) := kq_167 byq_r (a := 0) (b := 23) (by decide +kernel)
theorem d_Mod_meet_79 : decode b_Mod_meet 79 = .ok (.aload_n 0, 1) := kq_42 byq_r (by decide +kernel)
theorem d_Mod_meet_80 : decode b_Mod_meet 80 = .ok (.iconst 0, 1) := kq_3 byq_r (by decide +kernel)
theorem d_Mod_meet_81 : decode b_Mod_meet 81 = .ok (.putfield 112, 3) := kq_181 byq_r (a := 0) (b := 112) (by decide +kernel)
theorem d_Mod_meet_84 : decode b_Mod_meet 84 = .ok (.aload_n 0, 1) := kq_42 byq_r (by decide +kernel)
theorem d_Mod_meet_85 : decode b_Mod_meet 85 = .ok (.aload_n 0, 1) := kq_42 byq_r (by decide +kernel)
theorem d_Mod_meet_86 : decode b_Mod_meet 86 = .ok (.getfield 60, 3) := kq_180 byq_r (a := 0) (b := 60) (by decide +kernel)
theorem d_Mod_meet_89 : decode b_Mod_meet 89 = .ok (.iload_n 1, 1) := kq_27 byq_r (by decide +kernel)
theorem d_Mod_meet_90 : decode b_Mod_meet 90 = .ok (.iaload, 1) := kq_46 byq_r (by decide +kernel)
theorem d_Mod_meet_91 : decode b_Mod_meet 91 = .ok (.invokestatic 147, 3) := kq_184 byq_r (a := 0) (b := 147) (by decide +kernel)
theorem d_Mod_meet_94 : decode b_Mod_meet 94 = .ok (.invokevirtual 342, 3) := kq_182 byq_r (a := 1) (b := 86) (by decide +kernel)
theorem d_Mod_meet_97 : decode b_Mod_meet 97 = .ok (.iload_n 3, 1) := kq_29 byq_r (by decide +kernel)
theorem d_Mod_meet_98 : decode b_Mod_meet 98 = .ok (.ireturn, 1) := kq_172 byq_r (by decide +kernel)
theorem d_Mod_meet_99 : decode b_Mod_meet 99 = .ok (.iinc 3 1, 3) := kq_132 byq_r (b := 1) (by decide +kernel)
theorem d_Mod_meet_102 : decode b_Mod_meet 102 = .ok (.goto (-72), 3) := kq_167 byq_r (a := 255) (b := 184) (by decide +kernel)
theorem d_Mod_meet_105 : decode b_Mod_meet 105 = .ok (.bipush (-2), 2) := kq_16 byq_r (b := 254) (by decide +kernel)
theorem d_Mod_meet_107 : decode b_Mod_meet 107 = .ok (.ireturn, 1) := kq_172 byq_r (by decide +kernel)
theorem d_Mod_known_0 : decode b_Mod_known 0 = .ok (.aload_n 0, 1) := kq_42 byq_r (by decide +kernel)
theorem d_Mod_known_1 : decode b_Mod_known 1 = .ok (.iconst 0, 1) := kq_3 byq_r (by decide +kernel)
theorem d_Mod_known_2 : decode b_Mod_known 2 = .ok (.putfield 109, 3) := kq_181 byq_r (a := 0) (b := 109) (by decide +kernel)
theorem d_Mod_known_5 : decode b_Mod_known 5 = .ok (.aload_n 0, 1) := kq_42 byq_r (by decide +kernel)
theorem d_Mod_known_6 : decode b_Mod_known 6 = .ok (.getfield 9, 3) := kq_180 byq_r (a := 0) (b := 9) (by decide +kernel)
theorem d_Mod_known_9 : decode b_Mod_known 9 = .ok (.aload_n 0, 1) := kq_42 byq_r (by decide +kernel)
theorem d_Mod_known_10 : decode b_Mod_known 10 = .ok (.getfield 60, 3) := kq_180 byq_r (a := 0) (b := 60) (by decide +kernel)
theorem d_Mod_known_13 : decode b_Mod_known 13 = .ok (.iconst 0, 1) := kq_3 byq_r (by decide +kernel)
theorem d_Mod_known_14 : decode b_Mod_known 14 = .ok (.invokestatic 286, 3) := kq_184 byq_r (a := 1) (b := 30) (by decide +kernel)
theorem d_Mod_known_17 : decode b_Mod_known 17 = .ok (.bipush (-2), 2) := kq_16 byq_r (b := 254) (by decide +kernel)
theorem d_Mod_known_19 : decode b_Mod_known 19 = .ok (.istore_n 1, 1) := kq_60 byq_r (by decide +kernel)
theorem d_Mod_known_20 : decode b_Mod_known 20 = .ok (.iconst 0, 1) := kq_3 byq_r (by decide +kernel)
theorem d_Mod_known_21 : decode b_Mod_known 21 = .ok (.istore_n 2, 1) := kq_61 byq_r (by decide +kernel)
theorem d_Mod_known_22 : decode b_Mod_known 22 = .ok (.iload_n 2, 1) := kq_28 byq_r (by decide +kernel)
theorem d_Mod_known_23 : decode b_Mod_known 23 = .ok (.bipush 60, 2) := kq_16 byq_r (b := 60) (by decide +kernel)
theorem d_Mod_known_25 : decode b_Mod_known 25 = .ok (.if_icmp .gt 45, 3) := kq_163 byq_r (a := 0) (b := 45) (by decide +kernel)
theorem d_Mod_known_28 : decode b_Mod_known 28 = .ok (.iload_n 1, 1) := kq_27 byq_r (by decide +kernel)
theorem d_Mod_known_29 : decode b_Mod_known 29 = .ok (.ifCond .ge 41, 3) := kq_156 byq_r (a := 0) (b := 41) (by decide +kernel)
theorem d_Mod_known_32 : decode b_Mod_known 32 = .ok (.iload_n 2, 1) := kq_28 byq_r (by decide +kernel)
theorem d_Mod_known_33 : decode b_Mod_known 33 = .ok (.ifCond .le 11, 3) := kq_158 byq_r (a := 0) (b := 11) (by decide +kernel)
theorem d_Mod_known_36 : decode b_Mod_known 36 = .ok (.aload_n 0, 1) := kq_42 byq_r (by decide +kernel)
theorem d_Mod_known_37 : decode b_Mod_known 37 = .ok (.aload_n 0, 1) := kq_42 byq_r (by decide +kernel)
theorem d_Mod_known_38 : decode b_Mod_known 38 = .ok (.getfield 60, 3) := kq_180 byq_r (a := 0) (b := 60) (by decide +kernel)
theorem d_Mod_known_41 : decode b_Mod_known 41 = .ok (.invokevirtual 339, 3) := kq_182 byq_r (a := 1) (b := 83) (by decide +kernel)
theorem d_Mod_known_44 : decode b_Mod_known 44 = .ok (.aload_n 0, 1) := kq_42 byq_r (by decide +kernel)
theorem d_Mod_known_45 : decode b_Mod_known 45 = .ok (.getfield 60, 3) := kq_180 byq_r (a := 0) (b := 60) (by decide +kernel)
theorem d_Mod_known_48 : decode b_Mod_known 48 = .ok (.bipush 93, 2) := kq_16 byq_r (b := 93) (by decide +kernel)
theorem d_Mod_known_50 : decode b_Mod_known 50 = .ok (.iaload, 1) := kq_46 byq_r (by decide +kernel)
theorem d_Mod_known_51 : decode b_Mod_known 51 = .ok (.iconst 1, 1) := kq_4 byq_r (by decide +kernel)
theorem d_Mod_known_52 : decode b_Mod_known 52 = .ok (.aload_n 0, 1) := kq_42 byq_r (by decide +kernel)
theorem d_Mod_known_53 : decode b_Mod_known 53 = .ok (.getfield 123, 3) := kq_180 byq_r (a := 0) (b := 123) (by decide +kernel)
theorem d_Mod_known_56 : decode b_Mod_known 56 = .ok (.ishl, 1) := kq_120 byq_r (by decide +kernel)
theorem d_Mod_known_57 : decode b_Mod_known 57 = .ok (.iconst 1, 1) := kq_4 byq_r (by decide +kernel)
theorem d_Mod_known_58 : decode b_Mod_known 58 = .ok (.isub, 1) := kq_100 byq_r (by decide +kernel)
theorem d_Mod_known_59 : decode b_Mod_known 59 = .ok (.if_icmp .ne 5, 3) := kq_160 byq_r (a := 0) (b := 5) (by decide +kernel)
theorem d_Mod_known_62 : decode b_Mod_known 62 = .ok (.iload_n 2, 1) := kq_28 byq_r (by decide +kernel)
theorem d_Mod_known_63 : decode b_Mod_known 63 = .ok (.istore_n 1, 1) := kq_60 byq_r (by decide +kernel)
theorem d_Mod_known_64 : decode b_Mod_known 64 = .ok (.iinc 2 1, 3) := kq_132 byq_r (b := 1) (by decide +kernel)
theorem d_Mod_known_67 : decode b_Mod_known 67 = .ok (.goto (-45), 3) := kq_167 byq_r (a := 255) (b := 211) (by decide +kernel)
theorem d_Mod_known_70 : decode b_Mod_known 70 = .ok (.aload_n 0, 1) := kq_42 byq_r (by decide +kernel)
theorem d_Mod_known_71 : decode b_Mod_known 71 = .ok (.iconst 0, 1) := kq_3 byq_r (by decide +kernel)
theorem d_Mod_known_72 : decode b_Mod_known 72 = .ok (.putfield 112, 3) := kq_181 byq_r (a := 0) (b := 112) (by decide +kernel)
theorem d_Mod_known_75 : decode b_Mod_known 75 = .ok (.aload_n 0, 1) := kq_42 byq_r (by decide +kernel)
theorem d_Mod_known_76 : decode b_Mod_known 76 = .ok (.aload_n 0, 1) := kq_42 byq_r (by decide +kernel)
theorem d_Mod_known_77 : decode b_Mod_known 77 = .ok (.getfield 60, 3) := kq_180 byq_r (a := 0) (b := 60) (by decide +kernel)
theorem d_Mod_known_80 : decode b_Mod_known 80 = .ok (.bipush 93, 2) := kq_16 byq_r (b := 93) (by decide +kernel)
theorem d_Mod_known_82 : decode b_Mod_known 82 = .ok (.iaload, 1) := kq_46 byq_r (by decide +kernel)
theorem d_Mod_known_83 : decode b_Mod_known 83 = .ok (.invokevirtual 342, 3) := kq_182 byq_r (a := 1) (b := 86) (by decide +kernel)
theorem d_Mod_known_86 : decode b_Mod_known 86 = .ok (.iload_n 1, 1) := kq_27 byq_r (by decide +kernel)
theorem d_Mod_known_87 : decode b_Mod_known 87 = .ok (.ireturn, 1) := kq_172 byq_r (by decide +kernel)
theorem d_Mod_gossip_0 : decode b_Mod_gossip 0 = .ok (.aload_n 0, 1) := kq_42 byq_r (by decide +kernel)
theorem d_Mod_gossip_1 : decode b_Mod_gossip 1 = .ok (.iconst 0, 1) := kq_3 byq_r (by decide +kernel)
theorem d_Mod_gossip_2 : decode b_Mod_gossip 2 = .ok (.putfield 109, 3) := kq_181 byq_r (a := 0) (b := 109) (by decide +kernel)
theorem d_Mod_gossip_5 : decode b_Mod_gossip 5 = .ok (.iload_n 1, 1) := kq_27 byq_r (by decide +kernel)
theorem d_Mod_gossip_6 : decode b_Mod_gossip 6 = .ok (.iconst 0, 1) := kq_3 byq_r (by decide +kernel)
theorem d_Mod_gossip_7 : decode b_Mod_gossip 7 = .ok (.bipush 60, 2) := kq_16 byq_r (b := 60) (by decide +kernel)
theorem d_Mod_gossip_9 : decode b_Mod_gossip 9 = .ok (.invokestatic 119, 3) := kq_184 byq_r (a := 0) (b := 119) (by decide +kernel)
theorem d_Mod_gossip_12 : decode b_Mod_gossip 12 = .ok (.ifCond .ne 6, 3) := kq_154 byq_r (a := 0) (b := 6) (by decide +kernel)
theorem d_Mod_gossip_15 : decode b_Mod_gossip 15 = .ok (.bipush (-2), 2) := kq_16 byq_r (b := 254) (by decide +kernel)
theorem d_Mod_gossip_17 : decode b_Mod_gossip 17 = .ok (.ireturn, 1) := kq_172 byq_r (by decide +kernel)
theorem d_Mod_gossip_18 : decode b_Mod_gossip 18 = .ok (.iconst (-1), 1) := kq_2 byq_r (by decide +kernel)
theorem d_Mod_gossip_19 : decode b_Mod_gossip 19 = .ok (.istore_n 2, 1) := kq_61 byq_r (by decide +kernel)
theorem d_Mod_gossip_20 : decode b_Mod_gossip 20 = .ok (.iconst (-1), 1) := kq_2 byq_r (by decide +kernel)
theorem d_Mod_gossip_21 : decode b_Mod_gossip 21 = .ok (.istore_n 3, 1) := kq_62 byq_r (by decide +kernel)
theorem d_Mod_gossip_22 : decode b_Mod_gossip 22 = .ok (.iconst (-1), 1) := kq_2 byq_r (by decide +kernel)
theorem d_Mod_gossip_23 : decode b_Mod_gossip 23 = .ok (.istore 4, 2) := kq_54 byq_r (by decide +kernel)
theorem d_Mod_gossip_25 : decode b_Mod_gossip 25 = .ok (.iload 4, 2) := kq_21 byq_r (by decide +kernel)
theorem d_Mod_gossip_27 : decode b_Mod_gossip 27 = .ok (.aload_n 0, 1) := kq_42 byq_r (by decide +kernel)
theorem d_Mod_gossip_28 : decode b_Mod_gossip 28 = .ok (.getfield 123, 3) := kq_180 byq_r (a := 0) (b := 123) (by decide +kernel)
theorem d_Mod_gossip_31 : decode b_Mod_gossip 31 = .ok (.if_icmp .ge 115, 3) := kq_162 byq_r (a := 0) (b := 115) (by decide +kernel)
theorem d_Mod_gossip_34 : decode b_Mod_gossip 34 = .ok (.iload 4, 2) := kq_21 byq_r (by decide +kernel)
theorem d_Mod_gossip_36 : decode b_Mod_gossip 36 = .ok (.iconst (-1), 1) := kq_2 byq_r (by decide +kernel)
theorem d_Mod_gossip_37 : decode b_Mod_gossip 37 = .ok (.if_icmp .eq 21, 3) := kq_159 byq_r (a := 0) (b := 21) (by decide +kernel)
theorem d_Mod_gossip_40 : decode b_Mod_gossip 40 = .ok (.aload_n 0, 1) := kq_42 byq_r (by decide +kernel)
theorem d_Mod_gossip_41 : decode b_Mod_gossip 41 = .ok (.getfield 9, 3) := kq_180 byq_r (a := 0) (b := 9) (by decide +kernel)
theorem d_Mod_gossip_44 : decode b_Mod_gossip 44 = .ok (.bipush 93, 2) := kq_16 byq_r (b := 93) (by decide +kernel)
theorem d_Mod_gossip_46 : decode b_Mod_gossip 46 = .ok (.iaload, 1) := kq_46 byq_r (by decide +kernel)
theorem d_Mod_gossip_47 : decode b_Mod_gossip 47 = .ok (.iload 4, 2) := kq_21 byq_r (by decide +kernel)
theorem d_Mod_gossip_49 : decode b_Mod_gossip 49 = .ok (.invokestatic 133, 3) := kq_184 byq_r (a := 0) (b := 133) (by decide +kernel)
theorem d_Mod_gossip_52 : decode b_Mod_gossip 52 = .ok (.ifCond .eq 6, 3) := kq_153 byq_r (a := 0) (b := 6) (by decide +kernel)
theorem d_Mod_gossip_55 : decode b_Mod_gossip 55 = .ok (.goto 85, 3) := kq_167 byq_r (a := 0) (b := 85) (by decide +kernel)
theorem d_Mod_gossip_58 : decode b_Mod_gossip 58 = .ok (.aload_n 0, 1) := kq_42 byq_r (by decide +kernel)
theorem d_Mod_gossip_59 : decode b_Mod_gossip 59 = .ok (.getfield 9, 3) := kq_180 byq_r (a := 0) (b := 9) (by decide +kernel)
theorem d_Mod_gossip_62 : decode b_Mod_gossip 62 = .ok (.aload_n 0, 1) := kq_42 byq_r (by decide +kernel)
theorem d_Mod_gossip_63 : decode b_Mod_gossip 63 = .ok (.getfield 60, 3) := kq_180 byq_r (a := 0) (b := 60) (by decide +kernel)
theorem d_Mod_gossip_66 : decode b_Mod_gossip 66 = .ok (.iconst 0, 1) := kq_3 byq_r (by decide +kernel)
theorem d_Mod_gossip_67 : decode b_Mod_gossip 67 = .ok (.invokestatic 286, 3) := kq_184 byq_r (a := 1) (b := 30) (by decide +kernel)
theorem d_Mod_gossip_70 : decode b_Mod_gossip 70 = .ok (.iload 4, 2) := kq_21 byq_r (by decide +kernel)
theorem d_Mod_gossip_72 : decode b_Mod_gossip 72 = .ok (.iconst (-1), 1) := kq_2 byq_r (by decide +kernel)
theorem d_Mod_gossip_73 : decode b_Mod_gossip 73 = .ok (.if_icmp .eq 17, 3) := kq_159 byq_r (a := 0) (b := 17) (by decide +kernel)
theorem d_Mod_gossip_76 : decode b_Mod_gossip 76 = .ok (.aload_n 0, 1) := kq_42 byq_r (by decide +kernel)
theorem d_Mod_gossip_77 : decode b_Mod_gossip 77 = .ok (.getfield 60, 3) := kq_180 byq_r (a := 0) (b := 60) (by decide +kernel)
theorem d_Mod_gossip_80 : decode b_Mod_gossip 80 = .ok (.bipush 93, 2) := kq_16 byq_r (b := 93) (by decide +kernel)
theorem d_Mod_gossip_82 : decode b_Mod_gossip 82 = .ok (.dup2, 1) := kq_92 byq_r (by decide +kernel)
theorem d_Mod_gossip_83 : decode b_Mod_gossip 83 = .ok (.iaload, 1) := kq_46 byq_r (by decide +kernel)
theorem d_Mod_gossip_84 : decode b_Mod_gossip 84 = .ok (.iconst 1, 1) := kq_4 byq_r (by decide +kernel)
theorem d_Mod_gossip_85 : decode b_Mod_gossip 85 = .ok (.iload 4, 2) := kq_21 byq_r (by decide +kernel)
theorem d_Mod_gossip_87 : decode b_Mod_gossip 87 = .ok (.ishl, 1) := kq_120 byq_r (by decide +kernel)
theorem d_Mod_gossip_88 : decode b_Mod_gossip 88 = .ok (.ior, 1) := kq_128 byq_r (by decide +kernel)
theorem d_Mod_gossip_89 : decode b_Mod_gossip 89 = .ok (.iastore, 1) := kq_79 byq_r (by decide +kernel)
theorem d_Mod_gossip_90 : decode b_Mod_gossip 90 = .ok (.iconst 0, 1) := kq_3 byq_r (by decide +kernel)
theorem d_Mod_gossip_91 : decode b_Mod_gossip 91 = .ok (.istore 5, 2) := kq_54 byq_r (by decide +kernel)
theorem d_Mod_gossip_93 : decode b_Mod_gossip 93 = .ok (.iload 5, 2) := kq_21 byq_r (by decide +kernel)
theorem d_Mod_gossip_95 : decode b_Mod_gossip 95 = .ok (.iload_n 1, 1) := kq_27 byq_r (by decide +kernel)
theorem d_Mod_gossip_96 : decode b_Mod_gossip 96 = .ok (.if_icmp .ge 17, 3) := kq_162 byq_r (a := 0) (b := 17) (by decide +kernel)
theorem d_Mod_gossip_99 : decode b_Mod_gossip 99 = .ok (.aload_n 0, 1) := kq_42 byq_r (by decide +kernel)
theorem d_Mod_gossip_100 : decode b_Mod_gossip 100 = .ok (.aload_n 0, 1) := kq_42 byq_r (by decide +kernel)
theorem d_Mod_gossip_101 : decode b_Mod_gossip 101 = .ok (.getfield 60, 3) := kq_180 byq_r (a := 0) (b := 60) (by decide +kernel)
theorem d_Mod_gossip_104 : decode b_Mod_gossip 104 = .ok (.invokevirtual 339, 3) := kq_182 byq_r (a := 1) (b := 83) (by decide +kernel)
theorem d_Mod_gossip_107 : decode b_Mod_gossip 107 = .ok (.iinc 5 1, 3) := kq_132 byq_r (b := 1) (by decide +kernel)
theorem d_Mod_gossip_110 : decode b_Mod_gossip 110 = .ok (.goto (-17), 3) := kq_167 byq_r (a := 255) (b := 239) (by decide +kernel)
theorem d_Mod_gossip_113 : decode b_Mod_gossip 113 = .ok (.aload_n 0, 1) := kq_42 byq_r (by decide +kernel)
theorem d_Mod_gossip_114 : decode b_Mod_gossip 114 = .ok (.getfield 60, 3) := kq_180 byq_r (a := 0) (b := 60) (by decide +kernel)
theorem d_Mod_gossip_117 : decode b_Mod_gossip 117 = .ok (.bipush 93, 2) := kq_16 byq_r (b := 93) (by decide +kernel)
theorem d_Mod_gossip_119 : decode b_Mod_gossip 119 = .ok (.iaload, 1) := kq_46 byq_r (by decide +kernel)
theorem d_Mod_gossip_120 : decode b_Mod_gossip 120 = .ok (.invokestatic 310, 3) := kq_184 byq_r (a := 1) (b := 54) (by decide +kernel)
theorem d_Mod_gossip_123 : decode b_Mod_gossip 123 = .ok (.istore 5, 2) := kq_54 byq_r (by decide +kernel)
theorem d_Mod_gossip_125 : decode b_Mod_gossip 125 = .ok (.iload 5, 2) := kq_21 byq_r (by decide +kernel)
theorem d_Mod_gossip_127 : decode b_Mod_gossip 127 = .ok (.iload_n 3, 1) := kq_29 byq_r (by decide +kernel)
theorem d_Mod_gossip_128 : decode b_Mod_gossip 128 = .ok (.if_icmp .gt 6, 3) := kq_163 byq_r (a := 0) (b := 6) (by decide +kernel)
theorem d_Mod_gossip_131 : decode b_Mod_gossip 131 = .ok (.goto 9, 3) := kq_167 byq_r (a := 0) (b := 9) (by decide +kernel)
theorem d_Mod_gossip_134 : decode b_Mod_gossip 134 = .ok (.iload 4, 2) := kq_21 byq_r (by decide +kernel)
theorem d_Mod_gossip_136 : decode b_Mod_gossip 136 = .ok (.istore_n 2, 1) := kq_61 byq_r (by decide +kernel)
theorem d_Mod_gossip_137 : decode b_Mod_gossip 137 = .ok (.iload 5, 2) := kq_21 byq_r (by decide +kernel)
theorem d_Mod_gossip_139 : decode b_Mod_gossip 139 = .ok (.istore_n 3, 1) := kq_62 byq_r (by decide +kernel)
theorem d_Mod_gossip_140 : decode b_Mod_gossip 140 = .ok (.iinc 4 1, 3) := kq_132 byq_r (b := 1) (by decide +kernel)
theorem d_Mod_gossip_143 : decode b_Mod_gossip 143 = .ok (.goto (-118), 3) := kq_167 byq_r (a := 255) (b := 138) (by decide +kernel)
theorem d_Mod_gossip_146 : decode b_Mod_gossip 146 = .ok (.aload_n 0, 1) := kq_42 byq_r (by decide +kernel)
theorem d_Mod_gossip_147 : decode b_Mod_gossip 147 = .ok (.iconst 0, 1) := kq_3 byq_r (by decide +kernel)
theorem d_Mod_gossip_148 : decode b_Mod_gossip 148 = .ok (.putfield 112, 3) := kq_181 byq_r (a := 0) (b := 112) (by decide +kernel)
theorem d_Mod_gossip_151 : decode b_Mod_gossip 151 = .ok (.aload_n 0, 1) := kq_42 byq_r (by decide +kernel)
theorem d_Mod_gossip_152 : decode b_Mod_gossip 152 = .ok (.iload_n 3, 1) := kq_29 byq_r (by decide +kernel)
theorem d_Mod_gossip_153 : decode b_Mod_gossip 153 = .ok (.invokevirtual 342, 3) := kq_182 byq_r (a := 1) (b := 86) (by decide +kernel)
theorem d_Mod_gossip_156 : decode b_Mod_gossip 156 = .ok (.iload_n 2, 1) := kq_28 byq_r (by decide +kernel)
theorem d_Mod_gossip_157 : decode b_Mod_gossip 157 = .ok (.ireturn, 1) := kq_172 byq_r (by decide +kernel)
theorem d_Mod_lower_0 : decode b_Mod_lower 0 = .ok (.iload_n 1, 1) := kq_27 byq_r (by decide +kernel)
theorem d_Mod_lower_1 : decode b_Mod_lower 1 = .ok (.iconst (-1), 1) := kq_2 byq_r (by decide +kernel)
theorem d_Mod_lower_2 : decode b_Mod_lower 2 = .ok (.if_icmp .eq 13, 3) := kq_159 byq_r (a := 0) (b := 13) (by decide +kernel)
theorem d_Mod_lower_5 : decode b_Mod_lower 5 = .ok (.aload_n 0, 1) := kq_42 byq_r (by decide +kernel)
theorem d_Mod_lower_6 : decode b_Mod_lower 6 = .ok (.getfield 63, 3) := kq_180 byq_r (a := 0) (b := 63) (by decide +kernel)
theorem d_Mod_lower_9 : decode b_Mod_lower 9 = .ok (.iload_n 1, 1) := kq_27 byq_r (by decide +kernel)
theorem d_Mod_lower_10 : decode b_Mod_lower 10 = .ok (.iaload, 1) := kq_46 byq_r (by decide +kernel)
theorem d_Mod_lower_11 : decode b_Mod_lower 11 = .ok (.iload_n 2, 1) := kq_28 byq_r (by decide +kernel)
theorem d_Mod_lower_12 : decode b_Mod_lower 12 = .ok (.if_icmp .gt 5, 3) := kq_163 byq_r (a := 0) (b := 5) (by decide +kernel)
theorem d_Mod_lower_15 : decode b_Mod_lower 15 = .ok (.iconst 0, 1) := kq_3 byq_r (by decide +kernel)
theorem d_Mod_lower_16 : decode b_Mod_lower 16 = .ok (.ireturn, 1) := kq_172 byq_r (by decide +kernel)
theorem d_Mod_lower_17 : decode b_Mod_lower 17 = .ok (.aload_n 0, 1) := kq_42 byq_r (by decide +kernel)
theorem d_Mod_lower_18 : decode b_Mod_lower 18 = .ok (.getfield 63, 3) := kq_180 byq_r (a := 0) (b := 63) (by decide +kernel)
theorem d_Mod_lower_21 : decode b_Mod_lower 21 = .ok (.iload_n 1, 1) := kq_27 byq_r (by decide +kernel)
theorem d_Mod_lower_22 : decode b_Mod_lower 22 = .ok (.iload_n 2, 1) := kq_28 byq_r (by decide +kernel)
theorem d_Mod_lower_23 : decode b_Mod_lower 23 = .ok (.iastore, 1) := kq_79 byq_r (by decide +kernel)
theorem d_Mod_lower_24 : decode b_Mod_lower 24 = .ok (.iconst 1, 1) := kq_4 byq_r (by decide +kernel)
theorem d_Mod_lower_25 : decode b_Mod_lower 25 = .ok (.ireturn, 1) := kq_172 byq_r (by decide +kernel)
theorem d_Mod_spread_0 : decode b_Mod_spread 0 = .ok (.iconst 1, 1) := kq_4 byq_r (by decide +kernel)
theorem d_Mod_spread_1 : decode b_Mod_spread 1 = .ok (.istore_n 2, 1) := kq_61 byq_r (by decide +kernel)
theorem d_Mod_spread_2 : decode b_Mod_spread 2 = .ok (.iload_n 2, 1) := kq_28 byq_r (by decide +kernel)
theorem d_Mod_spread_3 : decode b_Mod_spread 3 = .ok (.ifCond .eq 121, 3) := kq_153 byq_r (a := 0) (b := 121) (by decide +kernel)
theorem d_Mod_spread_6 : decode b_Mod_spread 6 = .ok (.iconst 0, 1) := kq_3 byq_r (by decide +kernel)
theorem d_Mod_spread_7 : decode b_Mod_spread 7 = .ok (.istore_n 2, 1) := kq_61 byq_r (by decide +kernel)
theorem d_Mod_spread_8 : decode b_Mod_spread 8 = .ok (.iconst 0, 1) := kq_3 byq_r (by decide +kernel)
theorem d_Mod_spread_9 : decode b_Mod_spread 9 = .ok (.istore_n 3, 1) := kq_62 byq_r (by decide +kernel)
theorem d_Mod_spread_10 : decode b_Mod_spread 10 = .ok (.iload_n 3, 1) := kq_29 byq_r (by decide +kernel)
theorem d_Mod_spread_11 : decode b_Mod_spread 11 = .ok (.bipush 72, 2) := kq_16 byq_r (b := 72) (by decide +kernel)
theorem d_Mod_spread_13 : decode b_Mod_spread 13 = .ok (.if_icmp .ge 108, 3) := kq_162 byq_r (a := 0) (b := 108) (by decide +kernel)
theorem d_Mod_spread_16 : decode b_Mod_spread 16 = .ok (.aload_n 0, 1) := kq_42 byq_r (by decide +kernel)
theorem d_Mod_spread_17 : decode b_Mod_spread 17 = .ok (.getfield 63, 3) := kq_180 byq_r (a := 0) (b := 63) (by decide +kernel)
theorem d_Mod_spread_20 : decode b_Mod_spread 20 = .ok (.iload_n 3, 1) := kq_29 byq_r (by decide +kernel)
theorem d_Mod_spread_21 : decode b_Mod_spread 21 = .ok (.iaload, 1) := kq_46 byq_r (by decide +kernel)
theorem d_Mod_spread_22 : decode b_Mod_spread 22 = .ok (.ldc_w 357, 3) := kq_19 byq_r (a := 1) (b := 101) (by decide +kernel)
theorem d_Mod_spread_25 : decode b_Mod_spread 25 = .ok (.if_icmp .lt 6, 3) := kq_161 byq_r (a := 0) (b := 6) (by decide +kernel)
theorem d_Mod_spread_28 : decode b_Mod_spread 28 = .ok (.goto 87, 3) := kq_167 byq_r (a := 0) (b := 87) (by decide +kernel)
theorem d_Mod_spread_31 : decode b_Mod_spread 31 = .ok (.iconst 0, 1) := kq_3 byq_r (by decide +kernel)
theorem d_Mod_spread_32 : decode b_Mod_spread 32 = .ok (.istore 4, 2) := kq_54 byq_r (by decide +kernel)
theorem d_Mod_spread_34 : decode b_Mod_spread 34 = .ok (.iload 4, 2) := kq_21 byq_r (by decide +kernel)
theorem d_Mod_spread_36 : decode b_Mod_spread 36 = .ok (.iconst 4, 1) := kq_7 byq_r (by decide +kernel)
theorem d_Mod_spread_37 : decode b_Mod_spread 37 = .ok (.if_icmp .ge 35, 3) := kq_162 byq_r (a := 0) (b := 35) (by decide +kernel)
theorem d_Mod_spread_40 : decode b_Mod_spread 40 = .ok (.iload_n 2, 1) := kq_28 byq_r (by decide +kernel)
theorem d_Mod_spread_41 : decode b_Mod_spread 41 = .ok (.aload_n 0, 1) := kq_42 byq_r (by decide +kernel)
theorem d_Mod_spread_42 : decode b_Mod_spread 42 = .ok (.aload_n 0, 1) := kq_42 byq_r (by decide +kernel)
theorem d_Mod_spread_43 : decode b_Mod_spread 43 = .ok (.aload_n 0, 1) := kq_42 byq_r (by decide +kernel)
theorem d_Mod_spread_44 : decode b_Mod_spread 44 = .ok (.getfield 9, 3) := kq_180 byq_r (a := 0) (b := 9) (by decide +kernel)
theorem d_Mod_spread_47 : decode b_Mod_spread 47 = .ok (.iload_n 3, 1) := kq_29 byq_r (by decide +kernel)
theorem d_Mod_spread_48 : decode b_Mod_spread 48 = .ok (.iload 4, 2) := kq_21 byq_r (by decide +kernel)
theorem d_Mod_spread_50 : decode b_Mod_spread 50 = .ok (.invokevirtual 252, 3) := kq_182 byq_r (a := 0) (b := 252) (by decide +kernel)
theorem d_Mod_spread_53 : decode b_Mod_spread 53 = .ok (.aload_n 0, 1) := kq_42 byq_r (by decide +kernel)
theorem d_Mod_spread_54 : decode b_Mod_spread 54 = .ok (.getfield 63, 3) := kq_180 byq_r (a := 0) (b := 63) (by decide +kernel)
theorem d_Mod_spread_57 : decode b_Mod_spread 57 = .ok (.iload_n 3, 1) := kq_29 byq_r (by decide +kernel)
theorem d_Mod_spread_58 : decode b_Mod_spread 58 = .ok (.iaload, 1) := kq_46 byq_r (by decide +kernel)
theorem d_Mod_spread_59 : decode b_Mod_spread 59 = .ok (.iconst 1, 1) := kq_4 byq_r (by decide +kernel)
theorem d_Mod_spread_60 : decode b_Mod_spread 60 = .ok (.iadd, 1) := kq_96 byq_r (by decide +kernel)
theorem d_Mod_spread_61 : decode b_Mod_spread 61 = .ok (.invokevirtual 358, 3) := kq_182 byq_r (a := 1) (b := 102) (by decide +kernel)
theorem d_Mod_spread_64 : decode b_Mod_spread 64 = .ok (.ior, 1) := kq_128 byq_r (by decide +kernel)
theorem d_Mod_spread_65 : decode b_Mod_spread 65 = .ok (.istore_n 2, 1) := kq_61 byq_r (by decide +kernel)
theorem d_Mod_spread_66 : decode b_Mod_spread 66 = .ok (.iinc 4 1, 3) := kq_132 byq_r (b := 1) (by decide +kernel)
theorem d_Mod_spread_69 : decode b_Mod_spread 69 = .ok (.goto (-35), 3) := kq_167 byq_r (a := 255) (b := 221) (by decide +kernel)
theorem d_Mod_spread_72 : decode b_Mod_spread 72 = .ok (.iload_n 1, 1) := kq_27 byq_r (by decide +kernel)
theorem d_Mod_spread_73 : decode b_Mod_spread 73 = .ok (.ifCond .eq 42, 3) := kq_153 byq_r (a := 0) (b := 42) (by decide +kernel)
theorem d_Mod_spread_76 : decode b_Mod_spread 76 = .ok (.aload_n 0, 1) := kq_42 byq_r (by decide +kernel)
theorem d_Mod_spread_77 : decode b_Mod_spread 77 = .ok (.getfield 13, 3) := kq_180 byq_r (a := 0) (b := 13) (by decide +kernel)
theorem d_Mod_spread_80 : decode b_Mod_spread 80 = .ok (.iload_n 3, 1) := kq_29 byq_r (by decide +kernel)
theorem d_Mod_spread_81 : decode b_Mod_spread 81 = .ok (.invokestatic 147, 3) := kq_184 byq_r (a := 0) (b := 147) (by decide +kernel)
theorem d_Mod_spread_84 : decode b_Mod_spread 84 = .ok (.iaload, 1) := kq_46 byq_r (by decide +kernel)
theorem d_Mod_spread_85 : decode b_Mod_spread 85 = .ok (.iconst 3, 1) := kq_6 byq_r (by decide +kernel)
theorem d_Mod_spread_86 : decode b_Mod_spread 86 = .ok (.if_icmp .ne 29, 3) := kq_160 byq_r (a := 0) (b := 29) (by decide +kernel)
theorem d_Mod_spread_89 : decode b_Mod_spread 89 = .ok (.iload_n 2, 1) := kq_28 byq_r (by decide +kernel)
theorem d_Mod_spread_90 : decode b_Mod_spread 90 = .ok (.aload_n 0, 1) := kq_42 byq_r (by decide +kernel)
theorem d_Mod_spread_91 : decode b_Mod_spread 91 = .ok (.iconst 1, 1) := kq_4 byq_r (by decide +kernel)
theorem d_Mod_spread_92 : decode b_Mod_spread 92 = .ok (.iload_n 3, 1) := kq_29 byq_r (by decide +kernel)
theorem d_Mod_spread_93 : decode b_Mod_spread 93 = .ok (.invokestatic 143, 3) := kq_184 byq_r (a := 0) (b := 143) (by decide +kernel)
theorem d_Mod_spread_96 : decode b_Mod_spread 96 = .ok (.isub, 1) := kq_100 byq_r (by decide +kernel)
theorem d_Mod_spread_97 : decode b_Mod_spread 97 = .ok (.iload_n 3, 1) := kq_29 byq_r (by decide +kernel)
theorem d_Mod_spread_98 : decode b_Mod_spread 98 = .ok (.invokestatic 147, 3) := kq_184 byq_r (a := 0) (b := 147) (by decide +kernel)
theorem d_Mod_spread_101 : decode b_Mod_spread 101 = .ok (.invokestatic 154, 3) := kq_184 byq_r (a := 0) (b := 154) (by decide +kernel)
theorem d_Mod_spread_104 : decode b_Mod_spread 104 = .ok (.aload_n 0, 1) := kq_42 byq_r (by decide +kernel)
theorem d_Mod_spread_105 : decode b_Mod_spread 105 = .ok (.getfield 63, 3) := kq_180 byq_r (a := 0) (b := 63) (by decide +kernel)
theorem d_Mod_spread_108 : decode b_Mod_spread 108 = .ok (.iload_n 3, 1) := kq_29 byq_r (by decide +kernel)
theorem d_Mod_spread_109 : decode b_Mod_spread 109 = .ok (.iaload, 1) := kq_46 byq_r (by decide +kernel)
theorem d_Mod_spread_110 : decode b_Mod_spread 110 = .ok (.invokevirtual 358, 3) := kq_182 byq_r (a := 1) (b := 102) (by decide +kernel)
theorem d_Mod_spread_113 : decode b_Mod_spread 113 = .ok (.ior, 1) := kq_128 byq_r (by decide +kernel)
theorem d_Mod_spread_114 : decode b_Mod_spread 114 = .ok (.istore_n 2, 1) := kq_61 byq_r (by decide +kernel)
theorem d_Mod_spread_115 : decode b_Mod_spread 115 = .ok (.iinc 3 1, 3) := kq_132 byq_r (b := 1) (by decide +kernel)
theorem d_Mod_spread_118 : decode b_Mod_spread 118 = .ok (.goto (-108), 3) := kq_167 byq_r (a := 255) (b := 148) (by decide +kernel)
theorem d_Mod_spread_121 : decode b_Mod_spread 121 = .ok (.goto (-119), 3) := kq_167 byq_r (a := 255) (b := 137) (by decide +kernel)
theorem d_Mod_spread_124 : decode b_Mod_spread 124 = .ok (.return_, 1) := kq_177 byq_r (by decide +kernel)
theorem d_Mod_findFar_0 : decode b_Mod_findFar 0 = .ok (.iconst 0, 1) := kq_3 byq_r (by decide +kernel)
theorem d_Mod_findFar_1 : decode b_Mod_findFar 1 = .ok (.istore_n 2, 1) := kq_61 byq_r (by decide +kernel)
theorem d_Mod_findFar_2 : decode b_Mod_findFar 2 = .ok (.iload_n 2, 1) := kq_28 byq_r (by decide +kernel)
theorem d_Mod_findFar_3 : decode b_Mod_findFar 3 = .ok (.bipush 72, 2) := kq_16 byq_r (b := 72) (by decide +kernel)
theorem d_Mod_findFar_5 : decode b_Mod_findFar 5 = .ok (.if_icmp .ge 18, 3) := kq_162 byq_r (a := 0) (b := 18) (by decide +kernel)
theorem d_Mod_findFar_8 : decode b_Mod_findFar 8 = .ok (.aload_n 0, 1) := kq_42 byq_r (by decide +kernel)
theorem d_Mod_findFar_9 : decode b_Mod_findFar 9 = .ok (.getfield 63, 3) := kq_180 byq_r (a := 0) (b := 63) (by decide +kernel)
theorem d_Mod_findFar_12 : decode b_Mod_findFar 12 = .ok (.iload_n 2, 1) := kq_28 byq_r (by decide +kernel)
theorem d_Mod_findFar_13 : decode b_Mod_findFar 13 = .ok (.ldc_w 357, 3) := kq_19 byq_r (a := 1) (b := 101) (by decide +kernel)
theorem d_Mod_findFar_16 : decode b_Mod_findFar 16 = .ok (.iastore, 1) := kq_79 byq_r (by decide +kernel)
theorem d_Mod_findFar_17 : decode b_Mod_findFar 17 = .ok (.iinc 2 1, 3) := kq_132 byq_r (b := 1) (by decide +kernel)
theorem d_Mod_findFar_20 : decode b_Mod_findFar 20 = .ok (.goto (-18), 3) := kq_167 byq_r (a := 255) (b := 238) (by decide +kernel)
theorem d_Mod_findFar_23 : decode b_Mod_findFar 23 = .ok (.aload_n 0, 1) := kq_42 byq_r (by decide +kernel)
theorem d_Mod_findFar_24 : decode b_Mod_findFar 24 = .ok (.getfield 63, 3) := kq_180 byq_r (a := 0) (b := 63) (by decide +kernel)
theorem d_Mod_findFar_27 : decode b_Mod_findFar 27 = .ok (.iload_n 1, 1) := kq_27 byq_r (by decide +kernel)
theorem d_Mod_findFar_28 : decode b_Mod_findFar 28 = .ok (.iconst 0, 1) := kq_3 byq_r (by decide +kernel)
theorem d_Mod_findFar_29 : decode b_Mod_findFar 29 = .ok (.iastore, 1) := kq_79 byq_r (by decide +kernel)
theorem d_Mod_findFar_30 : decode b_Mod_findFar 30 = .ok (.aload_n 0, 1) := kq_42 byq_r (by decide +kernel)
theorem d_Mod_findFar_31 : decode b_Mod_findFar 31 = .ok (.iconst 0, 1) := kq_3 byq_r (by decide +kernel)
theorem d_Mod_findFar_32 : decode b_Mod_findFar 32 = .ok (.invokevirtual 361, 3) := kq_182 byq_r (a := 1) (b := 105) (by decide +kernel)
theorem d_Mod_findFar_35 : decode b_Mod_findFar 35 = .ok (.return_, 1) := kq_177 byq_r (by decide +kernel)
theorem d_Mod_putCells_0 : decode b_Mod_putCells 0 = .ok (.aload_n 0, 1) := kq_42 byq_r (by decide +kernel)
theorem d_Mod_putCells_1 : decode b_Mod_putCells 1 = .ok (.getfield 66, 3) := kq_180 byq_r (a := 0) (b := 66) (by decide +kernel)
theorem d_Mod_putCells_4 : decode b_Mod_putCells 4 = .ok (.iconst 0, 1) := kq_3 byq_r (by decide +kernel)
theorem d_Mod_putCells_5 : decode b_Mod_putCells 5 = .ok (.iconst 0, 1) := kq_3 byq_r (by decide +kernel)
theorem d_Mod_putCells_6 : decode b_Mod_putCells 6 = .ok (.iastore, 1) := kq_79 byq_r (by decide +kernel)
theorem d_Mod_putCells_7 : decode b_Mod_putCells 7 = .ok (.aload_n 0, 1) := kq_42 byq_r (by decide +kernel)
theorem d_Mod_putCells_8 : decode b_Mod_putCells 8 = .ok (.getfield 66, 3) := kq_180 byq_r (a := 0) (b := 66) (by decide +kernel)
theorem d_Mod_putCells_11 : decode b_Mod_putCells 11 = .ok (.iconst 1, 1) := kq_4 byq_r (by decide +kernel)
theorem d_Mod_putCells_12 : decode b_Mod_putCells 12 = .ok (.iconst 0, 1) := kq_3 byq_r (by decide +kernel)
theorem d_Mod_putCells_13 : decode b_Mod_putCells 13 = .ok (.iastore, 1) := kq_79 byq_r (by decide +kernel)
theorem d_Mod_putCells_14 : decode b_Mod_putCells 14 = .ok (.iconst 0, 1) := kq_3 byq_r (by decide +kernel)
theorem d_Mod_putCells_15 : decode b_Mod_putCells 15 = .ok (.istore_n 2, 1) := kq_61 byq_r (by decide +kernel)
theorem d_Mod_putCells_16 : decode b_Mod_putCells 16 = .ok (.iload_n 2, 1) := kq_28 byq_r (by decide +kernel)
theorem d_Mod_putCells_17 : decode b_Mod_putCells 17 = .ok (.bipush 36, 2) := kq_16 byq_r (b := 36) (by decide +kernel)
theorem d_Mod_putCells_19 : decode b_Mod_putCells 19 = .ok (.if_icmp .ge 43, 3) := kq_162 byq_r (a := 0) (b := 43) (by decide +kernel)
theorem d_Mod_putCells_22 : decode b_Mod_putCells 22 = .ok (.aload_n 0, 1) := kq_42 byq_r (by decide +kernel)
theorem d_Mod_putCells_23 : decode b_Mod_putCells 23 = .ok (.getfield 63, 3) := kq_180 byq_r (a := 0) (b := 63) (by decide +kernel)
theorem d_Mod_putCells_26 : decode b_Mod_putCells 26 = .ok (.iload_n 1, 1) := kq_27 byq_r (by decide +kernel)
theorem d_Mod_putCells_27 : decode b_Mod_putCells 27 = .ok (.iload_n 2, 1) := kq_28 byq_r (by decide +kernel)
theorem d_Mod_putCells_28 : decode b_Mod_putCells 28 = .ok (.invokestatic 154, 3) := kq_184 byq_r (a := 0) (b := 154) (by decide +kernel)
theorem d_Mod_putCells_31 : decode b_Mod_putCells 31 = .ok (.iaload, 1) := kq_46 byq_r (by decide +kernel)
theorem d_Mod_putCells_32 : decode b_Mod_putCells 32 = .ok (.ldc_w 357, 3) := kq_19 byq_r (a := 1) (b := 101) (by decide +kernel)
theorem d_Mod_putCells_35 : decode b_Mod_putCells 35 = .ok (.if_icmp .ge 21, 3) := kq_162 byq_r (a := 0) (b := 21) (by decide +kernel)
theorem d_Mod_putCells_38 : decode b_Mod_putCells 38 = .ok (.aload_n 0, 1) := kq_42 byq_r (by decide +kernel)
theorem d_Mod_putCells_39 : decode b_Mod_putCells 39 = .ok (.getfield 66, 3) := kq_180 byq_r (a := 0) (b := 66) (by decide +kernel)
theorem d_Mod_putCells_42 : decode b_Mod_putCells 42 = .ok (.iload_n 2, 1) := kq_28 byq_r (by decide +kernel)
theorem d_Mod_putCells_43 : decode b_Mod_putCells 43 = .ok (.bipush 18, 2) := kq_16 byq_r (b := 18) (by decide +kernel)
theorem d_Mod_putCells_45 : decode b_Mod_putCells 45 = .ok (.idiv, 1) := kq_108 byq_r (by decide +kernel)
theorem d_Mod_putCells_46 : decode b_Mod_putCells 46 = .ok (.dup2, 1) := kq_92 byq_r (by decide +kernel)
theorem d_Mod_putCells_47 : decode b_Mod_putCells 47 = .ok (.iaload, 1) := kq_46 byq_r (by decide +kernel)
theorem d_Mod_putCells_48 : decode b_Mod_putCells 48 = .ok (.iconst 1, 1) := kq_4 byq_r (by decide +kernel)
theorem d_Mod_putCells_49 : decode b_Mod_putCells 49 = .ok (.iload_n 2, 1) := kq_28 byq_r (by decide +kernel)
theorem d_Mod_putCells_50 : decode b_Mod_putCells 50 = .ok (.bipush 18, 2) := kq_16 byq_r (b := 18) (by decide +kernel)
theorem d_Mod_putCells_52 : decode b_Mod_putCells 52 = .ok (.irem, 1) := kq_112 byq_r (by decide +kernel)
theorem d_Mod_putCells_53 : decode b_Mod_putCells 53 = .ok (.ishl, 1) := kq_120 byq_r (by decide +kernel)
theorem d_Mod_putCells_54 : decode b_Mod_putCells 54 = .ok (.ior, 1) := kq_128 byq_r (by decide +kernel)
theorem d_Mod_putCells_55 : decode b_Mod_putCells 55 = .ok (.iastore, 1) := kq_79 byq_r (by decide +kernel)
theorem d_Mod_putCells_56 : decode b_Mod_putCells 56 = .ok (.iinc 2 1, 3) := kq_132 byq_r (b := 1) (by decide +kernel)
theorem d_Mod_putCells_59 : decode b_Mod_putCells 59 = .ok (.goto (-43), 3) := kq_167 byq_r (a := 255) (b := 213) (by decide +kernel)
theorem d_Mod_putCells_62 : decode b_Mod_putCells 62 = .ok (.aload_n 0, 1) := kq_42 byq_r (by decide +kernel)
theorem d_Mod_putCells_63 : decode b_Mod_putCells 63 = .ok (.aload_n 0, 1) := kq_42 byq_r (by decide +kernel)
theorem d_Mod_putCells_64 : decode b_Mod_putCells 64 = .ok (.getfield 66, 3) := kq_180 byq_r (a := 0) (b := 66) (by decide +kernel)
theorem d_Mod_putCells_67 : decode b_Mod_putCells 67 = .ok (.iconst 0, 1) := kq_3 byq_r (by decide +kernel)
theorem d_Mod_putCells_68 : decode b_Mod_putCells 68 = .ok (.iaload, 1) := kq_46 byq_r (by decide +kernel)
theorem d_Mod_putCells_69 : decode b_Mod_putCells 69 = .ok (.invokevirtual 342, 3) := kq_182 byq_r (a := 1) (b := 86) (by decide +kernel)
theorem d_Mod_putCells_72 : decode b_Mod_putCells 72 = .ok (.aload_n 0, 1) := kq_42 byq_r (by decide +kernel)
theorem d_Mod_putCells_73 : decode b_Mod_putCells 73 = .ok (.aload_n 0, 1) := kq_42 byq_r (by decide +kernel)
theorem d_Mod_putCells_74 : decode b_Mod_putCells 74 = .ok (.getfield 66, 3) := kq_180 byq_r (a := 0) (b := 66) (by decide +kernel)
theorem d_Mod_putCells_77 : decode b_Mod_putCells 77 = .ok (.iconst 1, 1) := kq_4 byq_r (by decide +kernel)
theorem d_Mod_putCells_78 : decode b_Mod_putCells 78 = .ok (.iaload, 1) := kq_46 byq_r (by decide +kernel)
theorem d_Mod_putCells_79 : decode b_Mod_putCells 79 = .ok (.invokevirtual 342, 3) := kq_182 byq_r (a := 1) (b := 86) (by decide +kernel)
theorem d_Mod_putCells_82 : decode b_Mod_putCells 82 = .ok (.return_, 1) := kq_177 byq_r (by decide +kernel)
theorem d_Mod_reached_0 : decode b_Mod_reached 0 = .ok (.iconst 0, 1) := kq_3 byq_r (by decide +kernel)
theorem d_Mod_reached_1 : decode b_Mod_reached 1 = .ok (.istore_n 2, 1) := kq_61 byq_r (by decide +kernel)
theorem d_Mod_reached_2 : decode b_Mod_reached 2 = .ok (.iconst 0, 1) := kq_3 byq_r (by decide +kernel)
theorem d_Mod_reached_3 : decode b_Mod_reached 3 = .ok (.istore_n 3, 1) := kq_62 byq_r (by decide +kernel)
theorem d_Mod_reached_4 : decode b_Mod_reached 4 = .ok (.iload_n 3, 1) := kq_29 byq_r (by decide +kernel)
theorem d_Mod_reached_5 : decode b_Mod_reached 5 = .ok (.bipush 36, 2) := kq_16 byq_r (b := 36) (by decide +kernel)
theorem d_Mod_reached_7 : decode b_Mod_reached 7 = .ok (.if_icmp .ge 33, 3) := kq_162 byq_r (a := 0) (b := 33) (by decide +kernel)
theorem d_Mod_reached_10 : decode b_Mod_reached 10 = .ok (.iload_n 2, 1) := kq_28 byq_r (by decide +kernel)
theorem d_Mod_reached_11 : decode b_Mod_reached 11 = .ok (.aload_n 0, 1) := kq_42 byq_r (by decide +kernel)
theorem d_Mod_reached_12 : decode b_Mod_reached 12 = .ok (.getfield 63, 3) := kq_180 byq_r (a := 0) (b := 63) (by decide +kernel)
theorem d_Mod_reached_15 : decode b_Mod_reached 15 = .ok (.iload_n 1, 1) := kq_27 byq_r (by decide +kernel)
theorem d_Mod_reached_16 : decode b_Mod_reached 16 = .ok (.iload_n 3, 1) := kq_29 byq_r (by decide +kernel)
theorem d_Mod_reached_17 : decode b_Mod_reached 17 = .ok (.invokestatic 154, 3) := kq_184 byq_r (a := 0) (b := 154) (by decide +kernel)
theorem d_Mod_reached_20 : decode b_Mod_reached 20 = .ok (.iaload, 1) := kq_46 byq_r (by decide +kernel)
theorem d_Mod_reached_21 : decode b_Mod_reached 21 = .ok (.ldc_w 357, 3) := kq_19 byq_r (a := 1) (b := 101) (by decide +kernel)
theorem d_Mod_reached_24 : decode b_Mod_reached 24 = .ok (.if_icmp .ge 7, 3) := kq_162 byq_r (a := 0) (b := 7) (by decide +kernel)
theorem d_Mod_reached_27 : decode b_Mod_reached 27 = .ok (.iconst 1, 1) := kq_4 byq_r (by decide +kernel)
theorem d_Mod_reached_28 : decode b_Mod_reached 28 = .ok (.goto 4, 3) := kq_167 byq_r (a := 0) (b := 4) (by decide +kernel)
theorem d_Mod_reached_31 : decode b_Mod_reached 31 = .ok (.iconst 0, 1) := kq_3 byq_r (by decide +kernel)
theorem d_Mod_reached_32 : decode b_Mod_reached 32 = .ok (.iadd, 1) := kq_96 byq_r (by decide +kernel)
theorem d_Mod_reached_33 : decode b_Mod_reached 33 = .ok (.istore_n 2, 1) := kq_61 byq_r (by decide +kernel)
theorem d_Mod_reached_34 : decode b_Mod_reached 34 = .ok (.iinc 3 1, 3) := kq_132 byq_r (b := 1) (by decide +kernel)
theorem d_Mod_reached_37 : decode b_Mod_reached 37 = .ok (.goto (-33), 3) := kq_167 byq_r (a := 255) (b := 223) (by decide +kernel)
theorem d_Mod_reached_40 : decode b_Mod_reached 40 = .ok (.iload_n 2, 1) := kq_28 byq_r (by decide +kernel)
theorem d_Mod_reached_41 : decode b_Mod_reached 41 = .ok (.ireturn, 1) := kq_172 byq_r (by decide +kernel)
def lb_Mod_act_66 (v2 : Int32) (s : Int32 × Mem) : Option ((Int32 × Mem) ⊕ ((Mem))) :=
  if v2 ≤ s.1 then
  some (.inr s.2)
  else
  Option.bind (f_Mod_goMinute 163 s.2) fun x4 =>
  mem_ (s_i x4 162 33 ((x4.1 162 33) + (x4.1 162 31))) fun M5 =>
  some (.inl ((s.1 + (1 : Int32)), M5))
theorem lb_Mod_act_66_ok {E : Ev} {G : Gw} {d : Nat} {post : Int32 → Mem → Prop} (X : Cx E G b_Mod_act "WomenByTheRoofsModel" 4 d (some .boolean)) (hD : 403 ≤ d)  (v2 : Int32)   (s : Int32 × Mem) (o : (Int32 × Mem) ⊕ ((Mem))) (h : lb_Mod_act_66 v2 s = some o) (kc : ∀ s9 : Int32 × Mem, o = .inl s9 → V E (0, 0) G 4 (QI E G post) s9.2 66 [(0, .ref (G.2.2 + 162)), (2, .int v2), (3, .int s9.1)] []) (kx0 : ∀ x9 : Mem, o = .inr x9 → V E (0, 0) G 4 (QI E G post) x9 98 [] []) : V E (0, 0) G 4 (QI E G post) s.2 66 [(0, .ref (G.2.2 + 162)), (2, .int v2), (3, .int s.1)] [] := by
  unfold lb_Mod_act_66 at h
  refine V_iload_n (n := 2) X d_Mod_act_66 rfl rfl rfl ?_
  refine V_iload_n (n := 1) X d_Mod_act_67 rfl rfl rfl ?_
  refine V_icmp_ge (tgt := 98) X d_Mod_act_68 (by decide) rfl (fun c6 => ?_) (fun c6 => ?_)
  · rw [if_pos c6] at h
    refine V_sub (lv' := []) [] rfl ?_
    exact kx0 s.2 (Option.some.inj h).symm
  · rw [if_neg c6] at h
    refine V_aload_n (n := 0) X d_Mod_act_71 rfl rfl rfl ?_
    refine V_aload_n (n := 0) X d_Mod_act_72 rfl rfl rfl ?_
    refine V_getr (k2 := 163) X fo_Mod_9 kd_162 rfl rf_162_0 d_Mod_act_73 rfl ?_
    obtain ⟨x4, hx4, h⟩ := ob_s h
    refine V_cv (As := [.ref (G.2.2 + 163)]) X (Z0 E) ml_Mod_339 yq_Mod_goMinute (c_Mod_goMinute E.2.1 G 163 s.2 x4 hx4 _ (Nat.le_refl _)) kd_162 rfl rfl (by omega) rfl (Nat.le_of_ble_eq_true rfl) d_Mod_act_76 rfl (fun M9 hq => ?_)
    rw [hq]
    refine V_aload_n (n := 0) X d_Mod_act_79 rfl rfl rfl ?_
    refine V_dup X d_Mod_act_80 rfl rfl ?_
    refine V_geti X fo_Mod_348 kd_162 rfl d_Mod_act_81 rfl ?_
    refine V_aload_n (n := 0) X d_Mod_act_84 rfl rfl rfl ?_
    refine V_geti X fo_Mod_327 kd_162 rfl d_Mod_act_85 rfl ?_
    refine V_iadd X d_Mod_act_88 rfl ?_
    obtain ⟨M5, eM5, h⟩ := memS h
    refine V_putI X fp_Mod_348 kd_162 rfl d_Mod_act_89 rfl ?_
    rw [← eM5]
    refine V_iinc (n := 2) (v := (s.1 + (1 : Int32))) (lv' := [(3, .int (s.1 + (1 : Int32))), (0, .ref (G.2.2 + 162)), (2, .int v2)]) X d_Mod_act_92 rfl rfl (by decide) rfl rfl ?_
    refine V_goto (pc' := 66) X d_Mod_act_95 (by decide) ?_
    refine V_sub (lv' := [(0, .ref (G.2.2 + 162)), (2, .int v2), (3, .int (s.1 + (1 : Int32)))]) [1, 2, 0] rfl ?_
    exact kc ((s.1 + (1 : Int32)), M5) (Option.some.inj h).symm
theorem lp_Mod_act_66_ok {E : Ev} {G : Gw} {d : Nat} {post : Int32 → Mem → Prop} (X : Cx E G b_Mod_act "WomenByTheRoofsModel" 4 d (some .boolean)) (hD : 403 ≤ d)  (v2 : Int32)   (n9 : Nat) (s : Int32 × Mem) (x : (Mem)) (h : iter (lb_Mod_act_66 v2) n9 s = some x) (kx0 : ∀ x9 : Mem, x = x9 → V E (0, 0) G 4 (QI E G post) x9 98 [] []) : V E (0, 0) G 4 (QI E G post) s.2 66 [(0, .ref (G.2.2 + 162)), (2, .int v2), (3, .int s.1)] [] :=
  iter_P (P := fun s : Int32 × Mem => V E (0, 0) G 4 (QI E G post) s.2 66 [(0, .ref (G.2.2 + 162)), (2, .int v2), (3, .int s.1)] []) (fun s o hb kc ky => lb_Mod_act_66_ok X hD v2 s o hb kc (fun x9 e9 => kx0 x9 (ky _ e9).symm)) n9 s h
def f_Mod_act (v1 : Int32) (M : Mem) : Option (Int32 × Mem) :=
  if inb (v1 + (1 : Int32)) 240 = true then
  if inb v1 240 = true then
  if (M.1 175 v1.toNatClampNeg) = (109 : Int32) then
  if (M.1 175 (v1 + (1 : Int32)).toNatClampNeg) ≤ (60 : Int32) then
  Option.bind (iter (lb_Mod_act_66 (M.1 175 (v1 + (1 : Int32)).toNatClampNeg)) FU ((0 : Int32), M)) fun x7 =>
  some ((1 : Int32), x7)
  else
  some ((0 : Int32), M)
  else if (M.1 175 v1.toNatClampNeg) = (110 : Int32) then
  Option.bind (f_Mod_canTell (M.1 175 (v1 + (1 : Int32)).toNatClampNeg) M) fun x10 =>
  if x10 = 0 then
  some ((0 : Int32), M)
  else
  mem_ (s_i M 163 (93 : Int32).toNatClampNeg ((M.1 163 (93 : Int32).toNatClampNeg) ||| ((1 : Int32) <<< ((M.1 175 (v1 + (1 : Int32)).toNatClampNeg) &&& 31)))) fun M11 =>
  some ((1 : Int32), M11)
  else if (M.1 175 v1.toNatClampNeg) = (112 : Int32) then
  if inb (v1 + (2 : Int32)) 240 = true then
  Option.bind (f_Mod_plankRefusal (M.1 175 (v1 + (1 : Int32)).toNatClampNeg) (M.1 175 (v1 + (2 : Int32)).toNatClampNeg) M) fun x14 =>
  if 0 ≤ x14 then
  if inb (v1 + (2 : Int32)) 240 = true then
  Option.bind (f_Mod_layPlank (M.1 175 (v1 + (1 : Int32)).toNatClampNeg) (M.1 175 (v1 + (2 : Int32)).toNatClampNeg) M) fun x15 =>
  some ((1 : Int32), x15)
  else none
  else
  some ((0 : Int32), M)
  else none
  else if (M.1 175 v1.toNatClampNeg) = (120 : Int32) then
  if (M.1 163 (92 : Int32).toNatClampNeg) = 0 then
  some ((0 : Int32), M)
  else
  mem_ (s_i M 163 (92 : Int32).toNatClampNeg ((M.1 163 (92 : Int32).toNatClampNeg) - (1 : Int32))) fun M18 =>
  some ((1 : Int32), M18)
  else Option.bind (f_Mod_canFeast ((1 : Int32) - (M.1 163 (94 : Int32).toNatClampNeg)) M) fun x1 =>
  if x1 = 0 then
  some ((0 : Int32), M)
  else
  Option.bind (f_Mod_goFeast ((1 : Int32) - (M.1 163 (94 : Int32).toNatClampNeg)) M) fun x2 =>
  some ((1 : Int32), x2)
  else none
  else none
theorem c_Mod_act (l : Launch) (G : Gw)  (v1 : Int32) (M : Mem) (x : Int32 × Mem) (h : f_Mod_act v1 M = some x) (d : Nat) (hD : 403 ≤ d) : Ci l G y_Mod_act b_Mod_act 4 (some .boolean) d [.ref (G.2.2 + 162), .int v1] M (fun r9 M9 => r9 = x.1 ∧ M9 = x.2) := by
  refine Ci_of (by decide) (Nat.le_of_ble_eq_true rfl) (fun E hE X => ?_)
  subst hE
  have kr : ∀ x9 : Int32 × Mem, x = x9 → (fun r9 M9 => r9 = x.1 ∧ M9 = x.2) x9.1 x9.2 := fun x9 e9 => by subst e9; exact ⟨rfl, rfl⟩
  unfold f_Mod_act at h
  refine V_aload_n (n := 0) X d_Mod_act_0 rfl rfl rfl ?_
  refine V_getr (k2 := 175) X fo_Mod_57 kd_162 rfl rf_162_32 d_Mod_act_1 rfl ?_
  refine V_iload_n (n := 1) X d_Mod_act_4 rfl rfl rfl ?_
  refine V_iconst (v := 1) X d_Mod_act_5 (by decide) rfl ?_
  refine V_iadd X d_Mod_act_6 rfl ?_
  obtain ⟨hb, h⟩ := ifn h
  refine V_iald X kd_175 (inb_in ln_175 hb) d_Mod_act_7 rfl ?_
  refine V_istore_n (lv' := [(2, .int (M.1 175 (v1 + (1 : Int32)).toNatClampNeg)), (0, .ref (G.2.2 + 162)), (1, .int v1)]) X d_Mod_act_8 rfl (by decide) rfl rfl ?_
  refine V_aload_n (n := 1) X d_Mod_act_9 rfl rfl rfl ?_
  refine V_getr (k2 := 175) X fo_Mod_57 kd_162 rfl rf_162_32 d_Mod_act_10 rfl ?_
  refine V_iload_n (n := 2) X d_Mod_act_13 rfl rfl rfl ?_
  obtain ⟨hb, h⟩ := ifn h
  refine V_iald X kd_175 (inb_in ln_175 hb) d_Mod_act_14 rfl ?_
  by_cases c9 : (M.1 175 v1.toNatClampNeg) = (109 : Int32)
  · rw [if_pos c9] at h
    refine V_lku (v := 109) (pc' := 56) (off := 41) X d_Mod_act_15 c9 (by decide) (by decide +kernel) (by decide) ?_
    refine V_iload_n (n := 0) X d_Mod_act_56 rfl rfl rfl ?_
    refine V_bipush (v := 60) X d_Mod_act_57 (by decide) rfl ?_
    refine V_icmp_le (tgt := 64) X d_Mod_act_59 (by decide) rfl (fun c8 => ?_) (fun c8 => ?_)
    · rw [if_pos c8] at h
      refine V_iconst (v := 0) X d_Mod_act_64 (by decide) rfl ?_
      refine V_istore_n (lv' := [(3, .int (0 : Int32)), (2, .int (M.1 175 (v1 + (1 : Int32)).toNatClampNeg)), (0, .ref (G.2.2 + 162)), (1, .int v1)]) X d_Mod_act_65 rfl (by decide) rfl rfl ?_
      refine V_sub (lv' := [(0, .ref (G.2.2 + 162)), (2, .int (M.1 175 (v1 + (1 : Int32)).toNatClampNeg)), (3, .int (0 : Int32))]) [2, 1, 0] rfl ?_
      obtain ⟨x7, hx7, h⟩ := ob_s h
      refine (lp_Mod_act_66_ok X hD (M.1 175 (v1 + (1 : Int32)).toNatClampNeg) _ _ _ hx7 (fun x9 e9 => ?_) :)
      subst e9
      refine V_iconst (v := 1) X d_Mod_act_98 (by decide) rfl ?_
      exact V_zret X (kr ((1 : Int32), x7) (Option.some.inj h).symm) (by decide) d_Mod_act_99
    · rw [if_neg c8] at h
      refine V_iconst (v := 0) X d_Mod_act_62 (by decide) rfl ?_
      exact V_zret X (kr ((0 : Int32), M) (Option.some.inj h).symm) (by decide) d_Mod_act_63
  · rw [if_neg c9] at h
    by_cases c13 : (M.1 175 v1.toNatClampNeg) = (110 : Int32)
    · rw [if_pos c13] at h
      refine V_lku (v := 110) (pc' := 100) (off := 85) X d_Mod_act_15 c13 (by decide) (by decide +kernel) (by decide) ?_
      refine V_aload_n (n := 1) X d_Mod_act_100 rfl rfl rfl ?_
      refine V_iload_n (n := 0) X d_Mod_act_101 rfl rfl rfl ?_
      obtain ⟨x10, hx10, h⟩ := ob_s h
      refine V_ci (As := [.int (M.1 175 (v1 + (1 : Int32)).toNatClampNeg)]) X (Z0 E) ml_Mod_307 yq_Mod_canTell (c_Mod_canTell E.2.1 G (M.1 175 (v1 + (1 : Int32)).toNatClampNeg) M x10 hx10 _ (Nat.le_refl _)) kd_162 rfl rfl (by omega) rfl (Nat.le_of_ble_eq_true rfl) d_Mod_act_102 rfl (fun r9 M9 hq => ?_)
      rw [hq.1, hq.2]
      refine V_if_ne (tgt := 110) X d_Mod_act_105 (by decide) rfl (fun c12 => ?_) (fun c12 => ?_)
      · rw [if_neg c12] at h
        refine V_aload_n (n := 1) X d_Mod_act_110 rfl rfl rfl ?_
        refine V_getr (k2 := 163) X fo_Mod_9 kd_162 rfl rf_162_0 d_Mod_act_111 rfl ?_
        refine V_bipush (v := 93) X d_Mod_act_114 (by decide) rfl ?_
        refine V_dup2 X d_Mod_act_116 rfl rfl rfl ?_
        refine V_iald X kd_163 (inb_in ln_163 (by decide)) d_Mod_act_117 rfl ?_
        refine V_iconst (v := 1) X d_Mod_act_118 (by decide) rfl ?_
        refine V_iload_n (n := 0) X d_Mod_act_119 rfl rfl rfl ?_
        refine V_ishl X d_Mod_act_120 rfl ?_
        refine V_ior X d_Mod_act_121 rfl ?_
        obtain ⟨M11, eM11, h⟩ := memS h
        refine V_iast X kd_163 (inb_in ln_163 (by decide)) d_Mod_act_122 rfl ?_
        rw [← eM11]
        refine V_iconst (v := 1) X d_Mod_act_123 (by decide) rfl ?_
        exact V_zret X (kr ((1 : Int32), M11) (Option.some.inj h).symm) (by decide) d_Mod_act_124
      · rw [if_pos c12] at h
        refine V_iconst (v := 0) X d_Mod_act_108 (by decide) rfl ?_
        exact V_zret X (kr ((0 : Int32), M) (Option.some.inj h).symm) (by decide) d_Mod_act_109
    · rw [if_neg c13] at h
      by_cases c17 : (M.1 175 v1.toNatClampNeg) = (112 : Int32)
      · rw [if_pos c17] at h
        refine V_lku (v := 112) (pc' := 125) (off := 110) X d_Mod_act_15 c17 (by decide) (by decide +kernel) (by decide) ?_
        refine V_aload_n (n := 1) X d_Mod_act_125 rfl rfl rfl ?_
        refine V_iload_n (n := 0) X d_Mod_act_126 rfl rfl rfl ?_
        refine V_aload_n (n := 1) X d_Mod_act_127 rfl rfl rfl ?_
        refine V_getr (k2 := 175) X fo_Mod_57 kd_162 rfl rf_162_32 d_Mod_act_128 rfl ?_
        refine V_iload_n (n := 2) X d_Mod_act_131 rfl rfl rfl ?_
        refine V_iconst (v := 2) X d_Mod_act_132 (by decide) rfl ?_
        refine V_iadd X d_Mod_act_133 rfl ?_
        obtain ⟨hb, h⟩ := ifn h
        refine V_iald X kd_175 (inb_in ln_175 hb) d_Mod_act_134 rfl ?_
        obtain ⟨x14, hx14, h⟩ := ob_s h
        refine V_ci (As := [.int (M.1 175 (v1 + (1 : Int32)).toNatClampNeg), .int (M.1 175 (v1 + (2 : Int32)).toNatClampNeg)]) X (Z0 E) ml_Mod_290 yq_Mod_plankRefusal (c_Mod_plankRefusal E.2.1 G (M.1 175 (v1 + (1 : Int32)).toNatClampNeg) (M.1 175 (v1 + (2 : Int32)).toNatClampNeg) M x14 hx14 _ (Nat.le_refl _)) kd_162 rfl rfl (by omega) rfl (Nat.le_of_ble_eq_true rfl) d_Mod_act_135 rfl (fun r9 M9 hq => ?_)
        rw [hq.1, hq.2]
        refine V_if_ge (tgt := 143) X d_Mod_act_138 (by decide) rfl (fun c16 => ?_) (fun c16 => ?_)
        · rw [if_pos c16] at h
          refine V_aload_n (n := 1) X d_Mod_act_143 rfl rfl rfl ?_
          refine V_iload_n (n := 0) X d_Mod_act_144 rfl rfl rfl ?_
          refine V_aload_n (n := 1) X d_Mod_act_145 rfl rfl rfl ?_
          refine V_getr (k2 := 175) X fo_Mod_57 kd_162 rfl rf_162_32 d_Mod_act_146 rfl ?_
          refine V_iload_n (n := 2) X d_Mod_act_149 rfl rfl rfl ?_
          refine V_iconst (v := 2) X d_Mod_act_150 (by decide) rfl ?_
          refine V_iadd X d_Mod_act_151 rfl ?_
          obtain ⟨hb, h⟩ := ifn h
          refine V_iald X kd_175 (inb_in ln_175 hb) d_Mod_act_152 rfl ?_
          obtain ⟨x15, hx15, h⟩ := ob_s h
          refine V_cv (As := [.int (M.1 175 (v1 + (1 : Int32)).toNatClampNeg), .int (M.1 175 (v1 + (2 : Int32)).toNatClampNeg)]) X (Z0 E) ml_Mod_297 yq_Mod_layPlank (c_Mod_layPlank E.2.1 G (M.1 175 (v1 + (1 : Int32)).toNatClampNeg) (M.1 175 (v1 + (2 : Int32)).toNatClampNeg) M x15 hx15 _ (Nat.le_refl _)) kd_162 rfl rfl (by omega) rfl (Nat.le_of_ble_eq_true rfl) d_Mod_act_153 rfl (fun M9 hq => ?_)
          rw [hq]
          refine V_iconst (v := 1) X d_Mod_act_156 (by decide) rfl ?_
          exact V_zret X (kr ((1 : Int32), x15) (Option.some.inj h).symm) (by decide) d_Mod_act_157
        · rw [if_neg c16] at h
          refine V_iconst (v := 0) X d_Mod_act_141 (by decide) rfl ?_
          exact V_zret X (kr ((0 : Int32), M) (Option.some.inj h).symm) (by decide) d_Mod_act_142
      · rw [if_neg c17] at h
        by_cases c20 : (M.1 175 v1.toNatClampNeg) = (120 : Int32)
        · rw [if_pos c20] at h
          refine V_lku (v := 120) (pc' := 158) (off := 143) X d_Mod_act_15 c20 (by decide) (by decide +kernel) (by decide) ?_
          refine V_aload_n (n := 1) X d_Mod_act_158 rfl rfl rfl ?_
          refine V_getr (k2 := 163) X fo_Mod_9 kd_162 rfl rf_162_0 d_Mod_act_159 rfl ?_
          refine V_bipush (v := 92) X d_Mod_act_162 (by decide) rfl ?_
          refine V_iald X kd_163 (inb_in ln_163 (by decide)) d_Mod_act_164 rfl ?_
          refine V_if_ne (tgt := 170) X d_Mod_act_165 (by decide) rfl (fun c19 => ?_) (fun c19 => ?_)
          · rw [if_neg c19] at h
            refine V_aload_n (n := 1) X d_Mod_act_170 rfl rfl rfl ?_
            refine V_getr (k2 := 163) X fo_Mod_9 kd_162 rfl rf_162_0 d_Mod_act_171 rfl ?_
            refine V_bipush (v := 92) X d_Mod_act_174 (by decide) rfl ?_
            refine V_dup2 X d_Mod_act_176 rfl rfl rfl ?_
            refine V_iald X kd_163 (inb_in ln_163 (by decide)) d_Mod_act_177 rfl ?_
            refine V_iconst (v := 1) X d_Mod_act_178 (by decide) rfl ?_
            refine V_isub X d_Mod_act_179 rfl ?_
            obtain ⟨M18, eM18, h⟩ := memS h
            refine V_iast X kd_163 (inb_in ln_163 (by decide)) d_Mod_act_180 rfl ?_
            rw [← eM18]
            refine V_iconst (v := 1) X d_Mod_act_181 (by decide) rfl ?_
            exact V_zret X (kr ((1 : Int32), M18) (Option.some.inj h).symm) (by decide) d_Mod_act_182
          · rw [if_pos c19] at h
            refine V_iconst (v := 0) X d_Mod_act_168 (by decide) rfl ?_
            exact V_zret X (kr ((0 : Int32), M) (Option.some.inj h).symm) (by decide) d_Mod_act_169
        · rw [if_neg c20] at h
          refine V_lookup (pc' := 183) X d_Mod_act_15 (by decide) (off := 168) (by simp [Op.lookupswitch.offset, (neT c9 (z := 109) (by decide)).symm, (neT c13 (z := 110) (by decide)).symm, (neT c17 (z := 112) (by decide)).symm, (neT c20 (z := 120) (by decide)).symm]) (by decide) ?_
          refine V_aload_n (n := 1) X d_Mod_act_183 rfl rfl rfl ?_
          refine V_iconst (v := 1) X d_Mod_act_184 (by decide) rfl ?_
          refine V_aload_n (n := 1) X d_Mod_act_185 rfl rfl rfl ?_
          refine V_getr (k2 := 163) X fo_Mod_9 kd_162 rfl rf_162_0 d_Mod_act_186 rfl ?_
          refine V_bipush (v := 94) X d_Mod_act_189 (by decide) rfl ?_
          refine V_iald X kd_163 (inb_in ln_163 (by decide)) d_Mod_act_191 rfl ?_
          refine V_isub X d_Mod_act_192 rfl ?_
          obtain ⟨x1, hx1, h⟩ := ob_s h
          refine V_ci (As := [.int ((1 : Int32) - (M.1 163 (94 : Int32).toNatClampNeg))]) X (Z0 E) ml_Mod_315 yq_Mod_canFeast (c_Mod_canFeast E.2.1 G ((1 : Int32) - (M.1 163 (94 : Int32).toNatClampNeg)) M x1 hx1 _ (Nat.le_refl _)) kd_162 rfl rfl (by omega) rfl (Nat.le_of_ble_eq_true rfl) d_Mod_act_193 rfl (fun r9 M9 hq => ?_)
          rw [hq.1, hq.2]
          refine V_if_ne (tgt := 201) X d_Mod_act_196 (by decide) rfl (fun c3 => ?_) (fun c3 => ?_)
          · rw [if_neg c3] at h
            refine V_aload_n (n := 1) X d_Mod_act_201 rfl rfl rfl ?_
            refine V_iconst (v := 1) X d_Mod_act_202 (by decide) rfl ?_
            refine V_aload_n (n := 1) X d_Mod_act_203 rfl rfl rfl ?_
            refine V_getr (k2 := 163) X fo_Mod_9 kd_162 rfl rf_162_0 d_Mod_act_204 rfl ?_
            refine V_bipush (v := 94) X d_Mod_act_207 (by decide) rfl ?_
            refine V_iald X kd_163 (inb_in ln_163 (by decide)) d_Mod_act_209 rfl ?_
            refine V_isub X d_Mod_act_210 rfl ?_
            obtain ⟨x2, hx2, h⟩ := ob_s h
            refine V_cv (As := [.int ((1 : Int32) - (M.1 163 (94 : Int32).toNatClampNeg))]) X (Z0 E) ml_Mod_318 yq_Mod_goFeast (c_Mod_goFeast E.2.1 G ((1 : Int32) - (M.1 163 (94 : Int32).toNatClampNeg)) M x2 hx2 _ (Nat.le_refl _)) kd_162 rfl rfl (by omega) rfl (Nat.le_of_ble_eq_true rfl) d_Mod_act_211 rfl (fun M9 hq => ?_)
            rw [hq]
            refine V_iconst (v := 1) X d_Mod_act_214 (by decide) rfl ?_
            exact V_zret X (kr ((1 : Int32), x2) (Option.some.inj h).symm) (by decide) d_Mod_act_215
          · rw [if_pos c3] at h
            refine V_iconst (v := 0) X d_Mod_act_199 (by decide) rfl ?_
            exact V_zret X (kr ((0 : Int32), M) (Option.some.inj h).symm) (by decide) d_Mod_act_200
def lb_Mod_evening_39  (s : Int32 × Int32 × Mem) : Option ((Int32 × Int32 × Mem) ⊕ ((Int32 × Mem))) :=
  if s.2.1 = 0 then
  some (.inr (s.1, s.2.2))
  else
  Option.bind (f_Mod_fine s.2.2) fun x4 =>
  if x4 = 0 then
  some (.inr (s.1, s.2.2))
  else
  Option.bind (f_Mod_readAct ((3 : Int32) * s.1) s.2.2) fun x5 =>
  Option.bind (f_Mod_passes (59 : Int32) x5) fun x6 =>
  some (.inl ((s.1 + (1 : Int32)), x6.1, x6.2))
theorem lb_Mod_evening_39_ok {E : Ev} {G : Gw} {d : Nat} {post : Int32 → Mem → Prop} (X : Cx E G b_Mod_evening "WomenByTheRoofsModel" 4 d (some .int)) (hD : 404 ≤ d)     (s : Int32 × Int32 × Mem) (o : (Int32 × Int32 × Mem) ⊕ ((Int32 × Mem))) (h : lb_Mod_evening_39 s = some o) (kc : ∀ s9 : Int32 × Int32 × Mem, o = .inl s9 → V E (0, 0) G 4 (QI E G post) s9.2.2 39 [(0, .ref (G.2.2 + 162)), (1, .int s9.1), (2, .int s9.2.1)] []) (kx0 : ∀ x9 : Int32 × Mem, o = .inr x9 → V E (0, 0) G 4 (QI E G post) x9.2 70 [(0, .ref (G.2.2 + 162)), (1, .int x9.1)] []) : V E (0, 0) G 4 (QI E G post) s.2.2 39 [(0, .ref (G.2.2 + 162)), (1, .int s.1), (2, .int s.2.1)] [] := by
  unfold lb_Mod_evening_39 at h
  refine V_iload_n (n := 2) X d_Mod_evening_39 rfl rfl rfl ?_
  refine V_if_eq (tgt := 70) X d_Mod_evening_40 (by decide) rfl (fun c8 => ?_) (fun c8 => ?_)
  · rw [if_pos c8] at h
    refine V_sub (lv' := [(0, .ref (G.2.2 + 162)), (1, .int s.1)]) [0, 1] rfl ?_
    exact kx0 (s.1, s.2.2) (Option.some.inj h).symm
  · rw [if_neg c8] at h
    refine V_aload_n (n := 0) X d_Mod_evening_43 rfl rfl rfl ?_
    obtain ⟨x4, hx4, h⟩ := ob_s h
    refine V_ci (As := []) X (Z0 E) ml_Mod_179 yq_Mod_fine (c_Mod_fine E.2.1 G  s.2.2 x4 hx4 _ (Nat.le_refl _)) kd_162 rfl rfl (by omega) rfl (Nat.le_of_ble_eq_true rfl) d_Mod_evening_44 rfl (fun r9 M9 hq => ?_)
    rw [hq.1, hq.2]
    refine V_if_eq (tgt := 70) X d_Mod_evening_47 (by decide) rfl (fun c7 => ?_) (fun c7 => ?_)
    · rw [if_pos c7] at h
      refine V_sub (lv' := [(0, .ref (G.2.2 + 162)), (1, .int s.1)]) [0, 1] rfl ?_
      exact kx0 (s.1, s.2.2) (Option.some.inj h).symm
    · rw [if_neg c7] at h
      refine V_aload_n (n := 0) X d_Mod_evening_50 rfl rfl rfl ?_
      refine V_iconst (v := 3) X d_Mod_evening_51 (by decide) rfl ?_
      refine V_iload_n (n := 1) X d_Mod_evening_52 rfl rfl rfl ?_
      refine V_imul X d_Mod_evening_53 rfl ?_
      obtain ⟨x5, hx5, h⟩ := ob_s h
      refine V_cv (As := [.int ((3 : Int32) * s.1)]) X (Z0 E) ml_Mod_345 yq_Mod_readAct (c_Mod_readAct E.2.1 G ((3 : Int32) * s.1) s.2.2 x5 hx5 _ (Nat.le_refl _)) kd_162 rfl rfl (by omega) rfl (Nat.le_of_ble_eq_true rfl) d_Mod_evening_54 rfl (fun M9 hq => ?_)
      rw [hq]
      refine V_iinc (n := 1) (v := (s.1 + (1 : Int32))) (lv' := [(1, .int (s.1 + (1 : Int32))), (0, .ref (G.2.2 + 162)), (2, .int s.2.1)]) X d_Mod_evening_57 rfl rfl (by decide) rfl rfl ?_
      refine V_aload_n (n := 1) X d_Mod_evening_60 rfl rfl rfl ?_
      refine V_bipush (v := 59) X d_Mod_evening_61 (by decide) rfl ?_
      obtain ⟨x6, hx6, h⟩ := ob_s h
      refine V_ci (As := [.int (59 : Int32)]) X (Z0 E) ml_Mod_186 yq_Mod_passes (c_Mod_passes E.2.1 G (59 : Int32) x5 x6 hx6 _ (Nat.le_refl _)) kd_162 rfl rfl (by omega) rfl (Nat.le_of_ble_eq_true rfl) d_Mod_evening_63 rfl (fun r9 M9 hq => ?_)
      rw [hq.1, hq.2]
      refine V_istore_n (lv' := [(2, .int x6.1), (1, .int (s.1 + (1 : Int32))), (0, .ref (G.2.2 + 162))]) X d_Mod_evening_66 rfl (by decide) rfl rfl ?_
      refine V_goto (pc' := 39) X d_Mod_evening_67 (by decide) ?_
      refine V_sub (lv' := [(0, .ref (G.2.2 + 162)), (1, .int (s.1 + (1 : Int32))), (2, .int x6.1)]) [2, 1, 0] rfl ?_
      exact kc ((s.1 + (1 : Int32)), x6.1, x6.2) (Option.some.inj h).symm
theorem lp_Mod_evening_39_ok {E : Ev} {G : Gw} {d : Nat} {post : Int32 → Mem → Prop} (X : Cx E G b_Mod_evening "WomenByTheRoofsModel" 4 d (some .int)) (hD : 404 ≤ d)     (n9 : Nat) (s : Int32 × Int32 × Mem) (x : (Int32 × Mem)) (h : iter (lb_Mod_evening_39) n9 s = some x) (kx0 : ∀ x9 : Int32 × Mem, x = x9 → V E (0, 0) G 4 (QI E G post) x9.2 70 [(0, .ref (G.2.2 + 162)), (1, .int x9.1)] []) : V E (0, 0) G 4 (QI E G post) s.2.2 39 [(0, .ref (G.2.2 + 162)), (1, .int s.1), (2, .int s.2.1)] [] :=
  iter_P (P := fun s : Int32 × Int32 × Mem => V E (0, 0) G 4 (QI E G post) s.2.2 39 [(0, .ref (G.2.2 + 162)), (1, .int s.1), (2, .int s.2.1)] []) (fun s o hb kc ky => lb_Mod_evening_39_ok X hD  s o hb kc (fun x9 e9 => kx0 x9 (ky _ e9).symm)) n9 s h
def lb_Mod_evening_122 (v1 : Int32) (s : Int32 × Mem) : Option ((Int32 × Mem) ⊕ ((Int32 × Mem))) :=
  if v1 ≤ s.1 then
  some (.inr (s.1, s.2))
  else
  Option.bind (f_Mod_act ((3 : Int32) * s.1) s.2) fun x13 =>
  if x13.1 = 0 then
  some (.inr (s.1, x13.2))
  else
  some (.inl ((s.1 + (1 : Int32)), x13.2))
theorem lb_Mod_evening_122_ok {E : Ev} {G : Gw} {d : Nat} {post : Int32 → Mem → Prop} (X : Cx E G b_Mod_evening "WomenByTheRoofsModel" 4 d (some .int)) (hD : 404 ≤ d)  (v1 : Int32)   (s : Int32 × Mem) (o : (Int32 × Mem) ⊕ ((Int32 × Mem))) (h : lb_Mod_evening_122 v1 s = some o) (kc : ∀ s9 : Int32 × Mem, o = .inl s9 → V E (0, 0) G 4 (QI E G post) s9.2 122 [(0, .ref (G.2.2 + 162)), (1, .int v1), (3, .int s9.1)] []) (kx0 : ∀ x9 : Int32 × Mem, o = .inr x9 → V E (0, 0) G 4 (QI E G post) x9.2 143 [(0, .ref (G.2.2 + 162)), (1, .int v1), (3, .int x9.1)] []) : V E (0, 0) G 4 (QI E G post) s.2 122 [(0, .ref (G.2.2 + 162)), (1, .int v1), (3, .int s.1)] [] := by
  unfold lb_Mod_evening_122 at h
  refine V_iload_n (n := 2) X d_Mod_evening_122 rfl rfl rfl ?_
  refine V_iload_n (n := 1) X d_Mod_evening_123 rfl rfl rfl ?_
  refine V_icmp_ge (tgt := 143) X d_Mod_evening_124 (by decide) rfl (fun c15 => ?_) (fun c15 => ?_)
  · rw [if_pos c15] at h
    exact kx0 (s.1, s.2) (Option.some.inj h).symm
  · rw [if_neg c15] at h
    refine V_aload_n (n := 0) X d_Mod_evening_127 rfl rfl rfl ?_
    refine V_iconst (v := 3) X d_Mod_evening_128 (by decide) rfl ?_
    refine V_iload_n (n := 2) X d_Mod_evening_129 rfl rfl rfl ?_
    refine V_imul X d_Mod_evening_130 rfl ?_
    obtain ⟨x13, hx13, h⟩ := ob_s h
    refine V_ci (As := [.int ((3 : Int32) * s.1)]) X (Z0 E) ml_Mod_351 yq_Mod_act (c_Mod_act E.2.1 G ((3 : Int32) * s.1) s.2 x13 hx13 _ (Nat.le_refl _)) kd_162 rfl rfl (by omega) rfl (Nat.le_of_ble_eq_true rfl) d_Mod_evening_131 rfl (fun r9 M9 hq => ?_)
    rw [hq.1, hq.2]
    refine V_if_eq (tgt := 143) X d_Mod_evening_134 (by decide) rfl (fun c14 => ?_) (fun c14 => ?_)
    · rw [if_pos c14] at h
      exact kx0 (s.1, x13.2) (Option.some.inj h).symm
    · rw [if_neg c14] at h
      refine V_iinc (n := 2) (v := (s.1 + (1 : Int32))) (lv' := [(3, .int (s.1 + (1 : Int32))), (0, .ref (G.2.2 + 162)), (1, .int v1)]) X d_Mod_evening_137 rfl rfl (by decide) rfl rfl ?_
      refine V_goto (pc' := 122) X d_Mod_evening_140 (by decide) ?_
      refine V_sub (lv' := [(0, .ref (G.2.2 + 162)), (1, .int v1), (3, .int (s.1 + (1 : Int32)))]) [1, 2, 0] rfl ?_
      exact kc ((s.1 + (1 : Int32)), x13.2) (Option.some.inj h).symm
theorem lp_Mod_evening_122_ok {E : Ev} {G : Gw} {d : Nat} {post : Int32 → Mem → Prop} (X : Cx E G b_Mod_evening "WomenByTheRoofsModel" 4 d (some .int)) (hD : 404 ≤ d)  (v1 : Int32)   (n9 : Nat) (s : Int32 × Mem) (x : (Int32 × Mem)) (h : iter (lb_Mod_evening_122 v1) n9 s = some x) (kx0 : ∀ x9 : Int32 × Mem, x = x9 → V E (0, 0) G 4 (QI E G post) x9.2 143 [(0, .ref (G.2.2 + 162)), (1, .int v1), (3, .int x9.1)] []) : V E (0, 0) G 4 (QI E G post) s.2 122 [(0, .ref (G.2.2 + 162)), (1, .int v1), (3, .int s.1)] [] :=
  iter_P (P := fun s : Int32 × Mem => V E (0, 0) G 4 (QI E G post) s.2 122 [(0, .ref (G.2.2 + 162)), (1, .int v1), (3, .int s.1)] []) (fun s o hb kc ky => lb_Mod_evening_122_ok X hD v1 s o hb kc (fun x9 e9 => kx0 x9 (ky _ e9).symm)) n9 s h
def j_Mod_evening_171 (v3 : Int32) (w0 : Int32) (M : Mem) : Option (Int32 × Mem) :=
  Option.bind (f_Mod_put w0 M) fun x18 =>
  Option.bind (f_Mod_put (x18.1 162 33) x18) fun x19 =>
  some (v3, x19)
theorem j_Mod_evening_171_ok {E : Ev} {G : Gw} {d : Nat} {post : Int32 → Mem → Prop} (X : Cx E G b_Mod_evening "WomenByTheRoofsModel" 4 d (some .int)) (hD : 404 ≤ d)  (v3 : Int32) (w0 : Int32)  (M : Mem)  (o : Int32 × Mem) (h : j_Mod_evening_171 v3 w0 M = some o) (kr : ∀ x9 : Int32 × Mem, o = x9 → post x9.1 x9.2) : V E (0, 0) G 4 (QI E G post) M 171 [(0, .ref (G.2.2 + 162)), (3, .int v3)] [.int w0, .ref (G.2.2 + 162)] := by
  unfold j_Mod_evening_171 at h
  obtain ⟨x18, hx18, h⟩ := ob_s h
  refine V_cv (As := [.int w0]) X (Z0 E) ml_Mod_342 yq_Mod_put (c_Mod_put E.2.1 G w0 M x18 hx18 _ (Nat.le_refl _)) kd_162 rfl rfl (by omega) rfl (Nat.le_of_ble_eq_true rfl) d_Mod_evening_171 rfl (fun M9 hq => ?_)
  rw [hq]
  refine V_aload_n (n := 0) X d_Mod_evening_174 rfl rfl rfl ?_
  refine V_aload_n (n := 0) X d_Mod_evening_175 rfl rfl rfl ?_
  refine V_geti X fo_Mod_348 kd_162 rfl d_Mod_evening_176 rfl ?_
  obtain ⟨x19, hx19, h⟩ := ob_s h
  refine V_cv (As := [.int (x18.1 162 33)]) X (Z0 E) ml_Mod_342 yq_Mod_put (c_Mod_put E.2.1 G (x18.1 162 33) x18 x19 hx19 _ (Nat.le_refl _)) kd_162 rfl rfl (by omega) rfl (Nat.le_of_ble_eq_true rfl) d_Mod_evening_179 rfl (fun M9 hq => ?_)
  rw [hq]
  refine V_iload_n (n := 1) X d_Mod_evening_182 rfl rfl rfl ?_
  exact V_iret X (kr (v3, x19) (Option.some.inj h).symm) d_Mod_evening_183
def j_Mod_evening_155 (v1 : Int32) (v3 : Int32) (M : Mem) : Option (Int32 × Mem) :=
  mem_ (s_i M 162 12 (0 : Int32)) fun M17 =>
  if v1 ≤ v3 then
  j_Mod_evening_171 v3 (0 : Int32) M17
  else
  j_Mod_evening_171 v3 (1 : Int32) M17
theorem j_Mod_evening_155_ok {E : Ev} {G : Gw} {d : Nat} {post : Int32 → Mem → Prop} (X : Cx E G b_Mod_evening "WomenByTheRoofsModel" 4 d (some .int)) (hD : 404 ≤ d)  (v1 : Int32) (v3 : Int32)  (M : Mem)  (o : Int32 × Mem) (h : j_Mod_evening_155 v1 v3 M = some o) (kr : ∀ x9 : Int32 × Mem, o = x9 → post x9.1 x9.2) : V E (0, 0) G 4 (QI E G post) M 155 [(0, .ref (G.2.2 + 162)), (1, .int v1), (3, .int v3)] [] := by
  unfold j_Mod_evening_155 at h
  refine V_aload_n (n := 0) X d_Mod_evening_155 rfl rfl rfl ?_
  refine V_iconst (v := 0) X d_Mod_evening_156 (by decide) rfl ?_
  obtain ⟨M17, eM17, h⟩ := memS h
  refine V_putI X fp_Mod_112 kd_162 rfl d_Mod_evening_157 rfl ?_
  rw [← eM17]
  refine V_aload_n (n := 0) X d_Mod_evening_160 rfl rfl rfl ?_
  refine V_iload_n (n := 2) X d_Mod_evening_161 rfl rfl rfl ?_
  refine V_iload_n (n := 1) X d_Mod_evening_162 rfl rfl rfl ?_
  refine V_icmp_ge (tgt := 170) X d_Mod_evening_163 (by decide) rfl (fun c20 => ?_) (fun c20 => ?_)
  · rw [if_pos c20] at h
    refine V_iconst (v := 0) X d_Mod_evening_170 (by decide) rfl ?_
    refine V_sub (lv' := [(0, .ref (G.2.2 + 162)), (3, .int v3)]) [0, 2] rfl ?_
    exact j_Mod_evening_171_ok X hD v3 (0 : Int32) M17 _ h kr
  · rw [if_neg c20] at h
    refine V_iconst (v := 1) X d_Mod_evening_166 (by decide) rfl ?_
    refine V_goto (pc' := 171) X d_Mod_evening_167 (by decide) ?_
    refine V_sub (lv' := [(0, .ref (G.2.2 + 162)), (3, .int v3)]) [0, 2] rfl ?_
    exact j_Mod_evening_171_ok X hD v3 (1 : Int32) M17 _ h kr
def j_Mod_evening_143 (v1 : Int32) (v3 : Int32) (M : Mem) : Option (Int32 × Mem) :=
  if v3 ≤ 0 then
  j_Mod_evening_155 v1 v3 M
  else
  Option.bind (f_Mod_remember 174 M) fun x21 =>
  j_Mod_evening_155 v1 v3 x21
theorem j_Mod_evening_143_ok {E : Ev} {G : Gw} {d : Nat} {post : Int32 → Mem → Prop} (X : Cx E G b_Mod_evening "WomenByTheRoofsModel" 4 d (some .int)) (hD : 404 ≤ d)  (v1 : Int32) (v3 : Int32)  (M : Mem)  (o : Int32 × Mem) (h : j_Mod_evening_143 v1 v3 M = some o) (kr : ∀ x9 : Int32 × Mem, o = x9 → post x9.1 x9.2) : V E (0, 0) G 4 (QI E G post) M 143 [(0, .ref (G.2.2 + 162)), (1, .int v1), (3, .int v3)] [] := by
  unfold j_Mod_evening_143 at h
  refine V_iload_n (n := 2) X d_Mod_evening_143 rfl rfl rfl ?_
  refine V_if_le (tgt := 155) X d_Mod_evening_144 (by decide) rfl (fun c22 => ?_) (fun c22 => ?_)
  · rw [if_pos c22] at h
    exact j_Mod_evening_155_ok X hD v1 v3 M _ h kr
  · rw [if_neg c22] at h
    refine V_aload_n (n := 0) X d_Mod_evening_147 rfl rfl rfl ?_
    refine V_aload_n (n := 0) X d_Mod_evening_148 rfl rfl rfl ?_
    refine V_getr (k2 := 174) X fo_Mod_54 kd_162 rfl rf_162_28 d_Mod_evening_149 rfl ?_
    obtain ⟨x21, hx21, h⟩ := ob_s h
    refine V_cv (As := [.ref (G.2.2 + 174)]) X (Z0 E) ml_Mod_293 yq_Mod_remember (c_Mod_remember E.2.1 G 174 M x21 hx21 _ (Nat.le_refl _)) kd_162 rfl rfl (by omega) rfl (Nat.le_of_ble_eq_true rfl) d_Mod_evening_152 rfl (fun M9 hq => ?_)
    rw [hq]
    exact j_Mod_evening_155_ok X hD v1 v3 x21 _ h kr
def j_Mod_evening_89 (v1 : Int32) (M : Mem) : Option (Int32 × Mem) :=
  Option.bind (f_Mod_fine M) fun x10 =>
  if x10 = 0 then
  some (((-1 : Int32) - (M.1 162 18)), M)
  else
  Option.bind (f_Mod_lay 163 174 (0 : Int32) M) fun x11 =>
  mem_ (s_i x11 162 33 (0 : Int32)) fun M12 =>
  Option.bind (iter (lb_Mod_evening_122 v1) FU ((0 : Int32), M12)) fun x16 =>
  j_Mod_evening_143 v1 x16.1 x16.2
theorem j_Mod_evening_89_ok {E : Ev} {G : Gw} {d : Nat} {post : Int32 → Mem → Prop} (X : Cx E G b_Mod_evening "WomenByTheRoofsModel" 4 d (some .int)) (hD : 404 ≤ d)  (v1 : Int32)  (M : Mem)  (o : Int32 × Mem) (h : j_Mod_evening_89 v1 M = some o) (kr : ∀ x9 : Int32 × Mem, o = x9 → post x9.1 x9.2) : V E (0, 0) G 4 (QI E G post) M 89 [(0, .ref (G.2.2 + 162)), (1, .int v1)] [] := by
  unfold j_Mod_evening_89 at h
  refine V_aload_n (n := 0) X d_Mod_evening_89 rfl rfl rfl ?_
  obtain ⟨x10, hx10, h⟩ := ob_s h
  refine V_ci (As := []) X (Z0 E) ml_Mod_179 yq_Mod_fine (c_Mod_fine E.2.1 G  M x10 hx10 _ (Nat.le_refl _)) kd_162 rfl rfl (by omega) rfl (Nat.le_of_ble_eq_true rfl) d_Mod_evening_90 rfl (fun r9 M9 hq => ?_)
  rw [hq.1, hq.2]
  refine V_if_ne (tgt := 103) X d_Mod_evening_93 (by decide) rfl (fun c23 => ?_) (fun c23 => ?_)
  · rw [if_neg c23] at h
    refine V_aload_n (n := 0) X d_Mod_evening_103 rfl rfl rfl ?_
    refine V_getr (k2 := 163) X fo_Mod_9 kd_162 rfl rf_162_0 d_Mod_evening_104 rfl ?_
    refine V_aload_n (n := 0) X d_Mod_evening_107 rfl rfl rfl ?_
    refine V_getr (k2 := 174) X fo_Mod_54 kd_162 rfl rf_162_28 d_Mod_evening_108 rfl ?_
    refine V_iconst (v := 0) X d_Mod_evening_111 (by decide) rfl ?_
    obtain ⟨x11, hx11, h⟩ := ob_s h
    refine V_sv (As := [.ref (G.2.2 + 163), .ref (G.2.2 + 174), .int (0 : Int32)]) X (Z0 E) ml_Mod_286 yq_Mod_lay (c_Mod_lay E.2.1 G 163 174 (0 : Int32) M x11 hx11 _ (Nat.le_refl _)) rfl (by omega) rfl (Nat.le_of_ble_eq_true rfl) d_Mod_evening_112 rfl (fun M9 hq => ?_)
    rw [hq]
    refine V_aload_n (n := 0) X d_Mod_evening_115 rfl rfl rfl ?_
    refine V_iconst (v := 0) X d_Mod_evening_116 (by decide) rfl ?_
    obtain ⟨M12, eM12, h⟩ := memS h
    refine V_putI X fp_Mod_348 kd_162 rfl d_Mod_evening_117 rfl ?_
    rw [← eM12]
    refine V_iconst (v := 0) X d_Mod_evening_120 (by decide) rfl ?_
    refine V_istore_n (lv' := [(3, .int (0 : Int32)), (0, .ref (G.2.2 + 162)), (1, .int v1)]) X d_Mod_evening_121 rfl (by decide) rfl rfl ?_
    refine V_sub (lv' := [(0, .ref (G.2.2 + 162)), (1, .int v1), (3, .int (0 : Int32))]) [1, 2, 0] rfl ?_
    obtain ⟨x16, hx16, h⟩ := ob_s h
    refine (lp_Mod_evening_122_ok X hD v1 _ _ _ hx16 (fun x9 e9 => ?_) :)
    subst e9
    exact j_Mod_evening_143_ok X hD v1 x16.1 x16.2 _ h kr
  · rw [if_pos c23] at h
    refine V_iconst (v := -1) X d_Mod_evening_96 (by decide) rfl ?_
    refine V_aload_n (n := 0) X d_Mod_evening_97 rfl rfl rfl ?_
    refine V_geti X fo_Mod_176 kd_162 rfl d_Mod_evening_98 rfl ?_
    refine V_isub X d_Mod_evening_101 rfl ?_
    exact V_iret X (kr (((-1 : Int32) - (M.1 162 18)), M) (Option.some.inj h).symm) d_Mod_evening_102
def j_Mod_evening_70 (v1 : Int32) (M : Mem) : Option (Int32 × Mem) :=
  if (M.1 162 15) ≤ (M.1 162 17) then
  j_Mod_evening_89 v1 M
  else
  Option.bind (f_Mod_fault (M.1 162 17) M) fun x24 =>
  j_Mod_evening_89 v1 x24
theorem j_Mod_evening_70_ok {E : Ev} {G : Gw} {d : Nat} {post : Int32 → Mem → Prop} (X : Cx E G b_Mod_evening "WomenByTheRoofsModel" 4 d (some .int)) (hD : 404 ≤ d)  (v1 : Int32)  (M : Mem)  (o : Int32 × Mem) (h : j_Mod_evening_70 v1 M = some o) (kr : ∀ x9 : Int32 × Mem, o = x9 → post x9.1 x9.2) : V E (0, 0) G 4 (QI E G post) M 70 [(0, .ref (G.2.2 + 162)), (1, .int v1)] [] := by
  unfold j_Mod_evening_70 at h
  refine V_aload_n (n := 0) X d_Mod_evening_70 rfl rfl rfl ?_
  refine V_geti X fo_Mod_173 kd_162 rfl d_Mod_evening_71 rfl ?_
  refine V_aload_n (n := 0) X d_Mod_evening_74 rfl rfl rfl ?_
  refine V_geti X fo_Mod_167 kd_162 rfl d_Mod_evening_75 rfl ?_
  refine V_icmp_ge (tgt := 89) X d_Mod_evening_78 (by decide) rfl (fun c25 => ?_) (fun c25 => ?_)
  · rw [if_pos c25] at h
    exact j_Mod_evening_89_ok X hD v1 M _ h kr
  · rw [if_neg c25] at h
    refine V_aload_n (n := 0) X d_Mod_evening_81 rfl rfl rfl ?_
    refine V_aload_n (n := 0) X d_Mod_evening_82 rfl rfl rfl ?_
    refine V_geti X fo_Mod_173 kd_162 rfl d_Mod_evening_83 rfl ?_
    obtain ⟨x24, hx24, h⟩ := ob_s h
    refine V_cv (As := [.int (M.1 162 17)]) X (Z0 E) ml_Mod_190 yq_Mod_fault (c_Mod_fault E.2.1 G (M.1 162 17) M x24 hx24 _ (Nat.le_refl _)) kd_162 rfl rfl (by omega) rfl (Nat.le_of_ble_eq_true rfl) d_Mod_evening_86 rfl (fun M9 hq => ?_)
    rw [hq]
    exact j_Mod_evening_89_ok X hD v1 x24 _ h kr
def f_Mod_evening (M : Mem) : Option (Int32 × Mem) :=
  mem_ (s_i M 162 13 (0 : Int32)) fun M1 =>
  Option.bind (f_Mod_begin 167 (M1.1 162 10) (60 : Int32) M1) fun x2 =>
  mem_ (s_i x2 162 10 (0 : Int32)) fun M3 =>
  if (M3.1 162 15) ≤ 0 then
  Option.bind (iter (lb_Mod_evening_39) FU ((0 : Int32), (0 : Int32), M3)) fun x9 =>
  j_Mod_evening_70 x9.1 x9.2
  else
  Option.bind (iter (lb_Mod_evening_39) FU ((0 : Int32), (1 : Int32), M3)) fun x26 =>
  j_Mod_evening_70 x26.1 x26.2
theorem c_Mod_evening (l : Launch) (G : Gw)   (M : Mem) (x : Int32 × Mem) (h : f_Mod_evening M = some x) (d : Nat) (hD : 404 ≤ d) : Ci l G y_Mod_evening b_Mod_evening 4 (some .int) d [.ref (G.2.2 + 162)] M (fun r9 M9 => r9 = x.1 ∧ M9 = x.2) := by
  refine Ci_of (by decide) (Nat.le_of_ble_eq_true rfl) (fun E hE X => ?_)
  subst hE
  have kr : ∀ x9 : Int32 × Mem, x = x9 → (fun r9 M9 => r9 = x.1 ∧ M9 = x.2) x9.1 x9.2 := fun x9 e9 => by subst e9; exact ⟨rfl, rfl⟩
  unfold f_Mod_evening at h
  refine V_aload_n (n := 0) X d_Mod_evening_0 rfl rfl rfl ?_
  refine V_iconst (v := 0) X d_Mod_evening_1 (by decide) rfl ?_
  obtain ⟨M1, eM1, h⟩ := memS h
  refine V_putI X fp_Mod_109 kd_162 rfl d_Mod_evening_2 rfl ?_
  rw [← eM1]
  refine V_aload_n (n := 0) X d_Mod_evening_5 rfl rfl rfl ?_
  refine V_aload_n (n := 0) X d_Mod_evening_6 rfl rfl rfl ?_
  refine V_getr (k2 := 167) X fo_Mod_32 kd_162 rfl rf_162_9 d_Mod_evening_7 rfl ?_
  refine V_aload_n (n := 0) X d_Mod_evening_10 rfl rfl rfl ?_
  refine V_geti X fo_Mod_161 kd_162 rfl d_Mod_evening_11 rfl ?_
  refine V_bipush (v := 60) X d_Mod_evening_14 (by decide) rfl ?_
  obtain ⟨x2, hx2, h⟩ := ob_s h
  refine V_cv (As := [.ref (G.2.2 + 167), .int (M1.1 162 10), .int (60 : Int32)]) X (Z0 E) ml_Mod_194 yq_Mod_begin (c_Mod_begin E.2.1 G 167 (M1.1 162 10) (60 : Int32) M1 x2 hx2 _ (Nat.le_refl _)) kd_162 rfl rfl (by omega) rfl (Nat.le_of_ble_eq_true rfl) d_Mod_evening_16 rfl (fun M9 hq => ?_)
  rw [hq]
  refine V_aload_n (n := 0) X d_Mod_evening_19 rfl rfl rfl ?_
  refine V_iconst (v := 0) X d_Mod_evening_20 (by decide) rfl ?_
  obtain ⟨M3, eM3, h⟩ := memS h
  refine V_putI X fp_Mod_161 kd_162 rfl d_Mod_evening_21 rfl ?_
  rw [← eM3]
  refine V_iconst (v := 0) X d_Mod_evening_24 (by decide) rfl ?_
  refine V_istore_n (lv' := [(1, .int (0 : Int32)), (0, .ref (G.2.2 + 162))]) X d_Mod_evening_25 rfl (by decide) rfl rfl ?_
  refine V_aload_n (n := 1) X d_Mod_evening_26 rfl rfl rfl ?_
  refine V_geti X fo_Mod_167 kd_162 rfl d_Mod_evening_27 rfl ?_
  refine V_if_le (tgt := 37) X d_Mod_evening_30 (by decide) rfl (fun c27 => ?_) (fun c27 => ?_)
  · rw [if_pos c27] at h
    refine V_iconst (v := 0) X d_Mod_evening_37 (by decide) rfl ?_
    refine V_istore_n (lv' := [(2, .int (0 : Int32)), (1, .int (0 : Int32)), (0, .ref (G.2.2 + 162))]) X d_Mod_evening_38 rfl (by decide) rfl rfl ?_
    refine V_sub (lv' := [(0, .ref (G.2.2 + 162)), (1, .int (0 : Int32)), (2, .int (0 : Int32))]) [2, 1, 0] rfl ?_
    obtain ⟨x9, hx9, h⟩ := ob_s h
    refine (lp_Mod_evening_39_ok X hD  _ _ _ hx9 (fun x9 e9 => ?_) :)
    subst e9
    exact j_Mod_evening_70_ok X hD x9.1 x9.2 _ h kr
  · rw [if_neg c27] at h
    refine V_iconst (v := 1) X d_Mod_evening_33 (by decide) rfl ?_
    refine V_goto (pc' := 38) X d_Mod_evening_34 (by decide) ?_
    refine V_istore_n (lv' := [(2, .int (1 : Int32)), (1, .int (0 : Int32)), (0, .ref (G.2.2 + 162))]) X d_Mod_evening_38 rfl (by decide) rfl rfl ?_
    refine V_sub (lv' := [(0, .ref (G.2.2 + 162)), (1, .int (0 : Int32)), (2, .int (1 : Int32))]) [2, 1, 0] rfl ?_
    obtain ⟨x26, hx26, h⟩ := ob_s h
    refine (lp_Mod_evening_39_ok X hD  _ _ _ hx26 (fun x9 e9 => ?_) :)
    subst e9
    exact j_Mod_evening_70_ok X hD x26.1 x26.2 _ h kr
def lb_Mod_undo_26  (s : Int32 × Mem) : Option ((Int32 × Mem) ⊕ ((Mem))) :=
  if (96 : Int32) ≤ s.1 then
  some (.inr s.2)
  else
  if inb (((96 : Int32) * (s.2.1 162 27)) + s.1) 1152 = true then
  if inb s.1 96 = true then
  mem_ (s_i s.2 163 s.1.toNatClampNeg (s.2.1 173 (((96 : Int32) * (s.2.1 162 27)) + s.1).toNatClampNeg)) fun M3 =>
  some (.inl ((s.1 + (1 : Int32)), M3))
  else none
  else none
theorem lb_Mod_undo_26_ok {E : Ev} {G : Gw} {d : Nat} {post : Int32 → Mem → Prop} (X : Cx E G b_Mod_undo "WomenByTheRoofsModel" 2 d (some .int)) (hD : 1 ≤ d)     (s : Int32 × Mem) (o : (Int32 × Mem) ⊕ ((Mem))) (h : lb_Mod_undo_26 s = some o) (kc : ∀ s9 : Int32 × Mem, o = .inl s9 → V E (0, 0) G 2 (QI E G post) s9.2 26 [(0, .ref (G.2.2 + 162)), (1, .int s9.1)] []) (kx0 : ∀ x9 : Mem, o = .inr x9 → V E (0, 0) G 2 (QI E G post) x9 58 [(0, .ref (G.2.2 + 162))] []) : V E (0, 0) G 2 (QI E G post) s.2 26 [(0, .ref (G.2.2 + 162)), (1, .int s.1)] [] := by
  unfold lb_Mod_undo_26 at h
  refine V_iload_n (n := 1) X d_Mod_undo_26 rfl rfl rfl ?_
  refine V_bipush (v := 96) X d_Mod_undo_27 (by decide) rfl ?_
  refine V_icmp_ge (tgt := 58) X d_Mod_undo_29 (by decide) rfl (fun c4 => ?_) (fun c4 => ?_)
  · rw [if_pos c4] at h
    refine V_sub (lv' := [(0, .ref (G.2.2 + 162))]) [0] rfl ?_
    exact kx0 s.2 (Option.some.inj h).symm
  · rw [if_neg c4] at h
    refine V_aload_n (n := 0) X d_Mod_undo_32 rfl rfl rfl ?_
    refine V_getr (k2 := 163) X fo_Mod_9 kd_162 rfl rf_162_0 d_Mod_undo_33 rfl ?_
    refine V_iload_n (n := 1) X d_Mod_undo_36 rfl rfl rfl ?_
    refine V_aload_n (n := 0) X d_Mod_undo_37 rfl rfl rfl ?_
    refine V_getr (k2 := 173) X fo_Mod_51 kd_162 rfl rf_162_26 d_Mod_undo_38 rfl ?_
    refine V_bipush (v := 96) X d_Mod_undo_41 (by decide) rfl ?_
    refine V_aload_n (n := 0) X d_Mod_undo_43 rfl rfl rfl ?_
    refine V_geti X fo_Mod_201 kd_162 rfl d_Mod_undo_44 rfl ?_
    refine V_imul X d_Mod_undo_47 rfl ?_
    refine V_iload_n (n := 1) X d_Mod_undo_48 rfl rfl rfl ?_
    refine V_iadd X d_Mod_undo_49 rfl ?_
    obtain ⟨hb, h⟩ := ifn h
    refine V_iald X kd_173 (inb_in ln_173 hb) d_Mod_undo_50 rfl ?_
    obtain ⟨hb, h⟩ := ifn h
    obtain ⟨M3, eM3, h⟩ := memS h
    refine V_iast X kd_163 (inb_in ln_163 hb) d_Mod_undo_51 rfl ?_
    rw [← eM3]
    refine V_iinc (n := 1) (v := (s.1 + (1 : Int32))) (lv' := [(1, .int (s.1 + (1 : Int32))), (0, .ref (G.2.2 + 162))]) X d_Mod_undo_52 rfl rfl (by decide) rfl rfl ?_
    refine V_goto (pc' := 26) X d_Mod_undo_55 (by decide) ?_
    refine V_sub (lv' := [(0, .ref (G.2.2 + 162)), (1, .int (s.1 + (1 : Int32)))]) [1, 0] rfl ?_
    exact kc ((s.1 + (1 : Int32)), M3) (Option.some.inj h).symm
theorem lp_Mod_undo_26_ok {E : Ev} {G : Gw} {d : Nat} {post : Int32 → Mem → Prop} (X : Cx E G b_Mod_undo "WomenByTheRoofsModel" 2 d (some .int)) (hD : 1 ≤ d)     (n9 : Nat) (s : Int32 × Mem) (x : (Mem)) (h : iter (lb_Mod_undo_26) n9 s = some x) (kx0 : ∀ x9 : Mem, x = x9 → V E (0, 0) G 2 (QI E G post) x9 58 [(0, .ref (G.2.2 + 162))] []) : V E (0, 0) G 2 (QI E G post) s.2 26 [(0, .ref (G.2.2 + 162)), (1, .int s.1)] [] :=
  iter_P (P := fun s : Int32 × Mem => V E (0, 0) G 2 (QI E G post) s.2 26 [(0, .ref (G.2.2 + 162)), (1, .int s.1)] []) (fun s o hb kc ky => lb_Mod_undo_26_ok X hD  s o hb kc (fun x9 e9 => kx0 x9 (ky _ e9).symm)) n9 s h
def f_Mod_undo (M : Mem) : Option (Int32 × Mem) :=
  mem_ (s_i M 162 13 (0 : Int32)) fun M1 =>
  if (M1.1 162 27) = 0 then
  some ((-1 : Int32), M1)
  else
  mem_ (s_i M1 162 27 ((M1.1 162 27) - (1 : Int32))) fun M2 =>
  Option.bind (iter (lb_Mod_undo_26) FU ((0 : Int32), M2)) fun x5 =>
  some ((x5.1 162 27), x5)
theorem c_Mod_undo (l : Launch) (G : Gw)   (M : Mem) (x : Int32 × Mem) (h : f_Mod_undo M = some x) (d : Nat) (hD : 1 ≤ d) : Ci l G y_Mod_undo b_Mod_undo 2 (some .int) d [.ref (G.2.2 + 162)] M (fun r9 M9 => r9 = x.1 ∧ M9 = x.2) := by
  refine Ci_of (by decide) (Nat.le_of_ble_eq_true rfl) (fun E hE X => ?_)
  subst hE
  have kr : ∀ x9 : Int32 × Mem, x = x9 → (fun r9 M9 => r9 = x.1 ∧ M9 = x.2) x9.1 x9.2 := fun x9 e9 => by subst e9; exact ⟨rfl, rfl⟩
  unfold f_Mod_undo at h
  refine V_aload_n (n := 0) X d_Mod_undo_0 rfl rfl rfl ?_
  refine V_iconst (v := 0) X d_Mod_undo_1 (by decide) rfl ?_
  obtain ⟨M1, eM1, h⟩ := memS h
  refine V_putI X fp_Mod_109 kd_162 rfl d_Mod_undo_2 rfl ?_
  rw [← eM1]
  refine V_aload_n (n := 0) X d_Mod_undo_5 rfl rfl rfl ?_
  refine V_geti X fo_Mod_201 kd_162 rfl d_Mod_undo_6 rfl ?_
  refine V_if_ne (tgt := 14) X d_Mod_undo_9 (by decide) rfl (fun c6 => ?_) (fun c6 => ?_)
  · rw [if_neg c6] at h
    refine V_aload_n (n := 0) X d_Mod_undo_14 rfl rfl rfl ?_
    refine V_dup X d_Mod_undo_15 rfl rfl ?_
    refine V_geti X fo_Mod_201 kd_162 rfl d_Mod_undo_16 rfl ?_
    refine V_iconst (v := 1) X d_Mod_undo_19 (by decide) rfl ?_
    refine V_isub X d_Mod_undo_20 rfl ?_
    obtain ⟨M2, eM2, h⟩ := memS h
    refine V_putI X fp_Mod_201 kd_162 rfl d_Mod_undo_21 rfl ?_
    rw [← eM2]
    refine V_iconst (v := 0) X d_Mod_undo_24 (by decide) rfl ?_
    refine V_istore_n (lv' := [(1, .int (0 : Int32)), (0, .ref (G.2.2 + 162))]) X d_Mod_undo_25 rfl (by decide) rfl rfl ?_
    refine V_sub (lv' := [(0, .ref (G.2.2 + 162)), (1, .int (0 : Int32))]) [1, 0] rfl ?_
    obtain ⟨x5, hx5, h⟩ := ob_s h
    refine (lp_Mod_undo_26_ok X hD  _ _ _ hx5 (fun x9 e9 => ?_) :)
    subst e9
    refine V_aload_n (n := 0) X d_Mod_undo_58 rfl rfl rfl ?_
    refine V_geti X fo_Mod_201 kd_162 rfl d_Mod_undo_59 rfl ?_
    exact V_iret X (kr ((x5.1 162 27), x5) (Option.some.inj h).symm) d_Mod_undo_62
  · rw [if_pos c6] at h
    refine V_iconst (v := -1) X d_Mod_undo_12 (by decide) rfl ?_
    exact V_iret X (kr ((-1 : Int32), M1) (Option.some.inj h).symm) d_Mod_undo_13
def f_Mod_met (v1 : Int32) (v2 : Int32) (M : Mem) : Option (Int32 × Mem) :=
  mem_ (s_i M 162 13 (0 : Int32)) fun M1 =>
  Option.bind (f_Mod_areTwo v1 v2 M1) fun x2 =>
  if x2 = 0 then
  some ((-1 : Int32), M1)
  else
  if inb (((16 : Int32) + ((8 : Int32) * v1)) + v2) 96 = true then
  some ((M1.1 163 (((16 : Int32) + ((8 : Int32) * v1)) + v2).toNatClampNeg), M1)
  else none
theorem c_Mod_met (l : Launch) (G : Gw)  (v1 : Int32) (v2 : Int32) (M : Mem) (x : Int32 × Mem) (h : f_Mod_met v1 v2 M = some x) (d : Nat) (hD : 4 ≤ d) : Ci l G y_Mod_met b_Mod_met 3 (some .int) d [.ref (G.2.2 + 162), .int v1, .int v2] M (fun r9 M9 => r9 = x.1 ∧ M9 = x.2) := by
  refine Ci_of (by decide) (Nat.le_of_ble_eq_true rfl) (fun E hE X => ?_)
  subst hE
  have kr : ∀ x9 : Int32 × Mem, x = x9 → (fun r9 M9 => r9 = x.1 ∧ M9 = x.2) x9.1 x9.2 := fun x9 e9 => by subst e9; exact ⟨rfl, rfl⟩
  unfold f_Mod_met at h
  refine V_aload_n (n := 0) X d_Mod_met_0 rfl rfl rfl ?_
  refine V_iconst (v := 0) X d_Mod_met_1 (by decide) rfl ?_
  obtain ⟨M1, eM1, h⟩ := memS h
  refine V_putI X fp_Mod_109 kd_162 rfl d_Mod_met_2 rfl ?_
  rw [← eM1]
  refine V_aload_n (n := 0) X d_Mod_met_5 rfl rfl rfl ?_
  refine V_iload_n (n := 1) X d_Mod_met_6 rfl rfl rfl ?_
  refine V_iload_n (n := 2) X d_Mod_met_7 rfl rfl rfl ?_
  obtain ⟨x2, hx2, h⟩ := ob_s h
  refine V_ci (As := [.int v1, .int v2]) X (Z0 E) ml_Mod_354 yq_Mod_areTwo (c_Mod_areTwo E.2.1 G v1 v2 M1 x2 hx2 _ (Nat.le_refl _)) kd_162 rfl rfl (by omega) rfl (Nat.le_of_ble_eq_true rfl) d_Mod_met_8 rfl (fun r9 M9 hq => ?_)
  rw [hq.1, hq.2]
  refine V_if_eq (tgt := 31) X d_Mod_met_11 (by decide) rfl (fun c3 => ?_) (fun c3 => ?_)
  · rw [if_pos c3] at h
    refine V_iconst (v := -1) X d_Mod_met_31 (by decide) rfl ?_
    exact V_iret X (kr ((-1 : Int32), M1) (Option.some.inj h).symm) d_Mod_met_32
  · rw [if_neg c3] at h
    refine V_aload_n (n := 0) X d_Mod_met_14 rfl rfl rfl ?_
    refine V_getr (k2 := 163) X fo_Mod_9 kd_162 rfl rf_162_0 d_Mod_met_15 rfl ?_
    refine V_bipush (v := 16) X d_Mod_met_18 (by decide) rfl ?_
    refine V_bipush (v := 8) X d_Mod_met_20 (by decide) rfl ?_
    refine V_iload_n (n := 1) X d_Mod_met_22 rfl rfl rfl ?_
    refine V_imul X d_Mod_met_23 rfl ?_
    refine V_iadd X d_Mod_met_24 rfl ?_
    refine V_iload_n (n := 2) X d_Mod_met_25 rfl rfl rfl ?_
    refine V_iadd X d_Mod_met_26 rfl ?_
    obtain ⟨hb, h⟩ := ifn h
    refine V_iald X kd_163 (inb_in ln_163 hb) d_Mod_met_27 rfl ?_
    refine V_goto (pc' := 32) X d_Mod_met_28 (by decide) ?_
    exact V_iret X (kr ((M1.1 163 (((16 : Int32) + ((8 : Int32) * v1)) + v2).toNatClampNeg), M1) (Option.some.inj h).symm) d_Mod_met_32
def lb_Mod_ahead_33 (v1 : Int32) (s : Int32 × Int32 × Mem) : Option ((Int32 × Int32 × Mem) ⊕ ((Int32 × Mem))) :=
  if v1 ≤ s.2.1 then
  some (.inr (s.1, s.2.2))
  else
  Option.bind (f_Mod_goMinute 176 s.2.2) fun x4 =>
  some (.inl ((s.1 + (x4.1 162 31)), (s.2.1 + (1 : Int32)), x4))
theorem lb_Mod_ahead_33_ok {E : Ev} {G : Gw} {d : Nat} {post : Int32 → Mem → Prop} (X : Cx E G b_Mod_ahead "WomenByTheRoofsModel" 4 d (some .int)) (hD : 403 ≤ d)  (v1 : Int32)   (s : Int32 × Int32 × Mem) (o : (Int32 × Int32 × Mem) ⊕ ((Int32 × Mem))) (h : lb_Mod_ahead_33 v1 s = some o) (kc : ∀ s9 : Int32 × Int32 × Mem, o = .inl s9 → V E (0, 0) G 4 (QI E G post) s9.2.2 33 [(0, .ref (G.2.2 + 162)), (1, .int v1), (2, .int s9.1), (3, .int s9.2.1)] []) (kx0 : ∀ x9 : Int32 × Mem, o = .inr x9 → V E (0, 0) G 4 (QI E G post) x9.2 59 [(0, .ref (G.2.2 + 162)), (2, .int x9.1)] []) : V E (0, 0) G 4 (QI E G post) s.2.2 33 [(0, .ref (G.2.2 + 162)), (1, .int v1), (2, .int s.1), (3, .int s.2.1)] [] := by
  unfold lb_Mod_ahead_33 at h
  refine V_iload_n (n := 3) X d_Mod_ahead_33 rfl rfl rfl ?_
  refine V_iload_n (n := 1) X d_Mod_ahead_34 rfl rfl rfl ?_
  refine V_icmp_ge (tgt := 59) X d_Mod_ahead_35 (by decide) rfl (fun c5 => ?_) (fun c5 => ?_)
  · rw [if_pos c5] at h
    refine V_sub (lv' := [(0, .ref (G.2.2 + 162)), (2, .int s.1)]) [0, 2] rfl ?_
    exact kx0 (s.1, s.2.2) (Option.some.inj h).symm
  · rw [if_neg c5] at h
    refine V_aload_n (n := 0) X d_Mod_ahead_38 rfl rfl rfl ?_
    refine V_aload_n (n := 0) X d_Mod_ahead_39 rfl rfl rfl ?_
    refine V_getr (k2 := 176) X fo_Mod_60 kd_162 rfl rf_162_34 d_Mod_ahead_40 rfl ?_
    obtain ⟨x4, hx4, h⟩ := ob_s h
    refine V_cv (As := [.ref (G.2.2 + 176)]) X (Z0 E) ml_Mod_339 yq_Mod_goMinute (c_Mod_goMinute E.2.1 G 176 s.2.2 x4 hx4 _ (Nat.le_refl _)) kd_162 rfl rfl (by omega) rfl (Nat.le_of_ble_eq_true rfl) d_Mod_ahead_43 rfl (fun M9 hq => ?_)
    rw [hq]
    refine V_iload_n (n := 2) X d_Mod_ahead_46 rfl rfl rfl ?_
    refine V_aload_n (n := 0) X d_Mod_ahead_47 rfl rfl rfl ?_
    refine V_geti X fo_Mod_327 kd_162 rfl d_Mod_ahead_48 rfl ?_
    refine V_iadd X d_Mod_ahead_51 rfl ?_
    refine V_istore_n (lv' := [(2, .int (s.1 + (x4.1 162 31))), (0, .ref (G.2.2 + 162)), (1, .int v1), (3, .int s.2.1)]) X d_Mod_ahead_52 rfl (by decide) rfl rfl ?_
    refine V_iinc (n := 3) (v := (s.2.1 + (1 : Int32))) (lv' := [(3, .int (s.2.1 + (1 : Int32))), (2, .int (s.1 + (x4.1 162 31))), (0, .ref (G.2.2 + 162)), (1, .int v1)]) X d_Mod_ahead_53 rfl rfl (by decide) rfl rfl ?_
    refine V_goto (pc' := 33) X d_Mod_ahead_56 (by decide) ?_
    refine V_sub (lv' := [(0, .ref (G.2.2 + 162)), (1, .int v1), (2, .int (s.1 + (x4.1 162 31))), (3, .int (s.2.1 + (1 : Int32)))]) [2, 3, 1, 0] rfl ?_
    exact kc ((s.1 + (x4.1 162 31)), (s.2.1 + (1 : Int32)), x4) (Option.some.inj h).symm
theorem lp_Mod_ahead_33_ok {E : Ev} {G : Gw} {d : Nat} {post : Int32 → Mem → Prop} (X : Cx E G b_Mod_ahead "WomenByTheRoofsModel" 4 d (some .int)) (hD : 403 ≤ d)  (v1 : Int32)   (n9 : Nat) (s : Int32 × Int32 × Mem) (x : (Int32 × Mem)) (h : iter (lb_Mod_ahead_33 v1) n9 s = some x) (kx0 : ∀ x9 : Int32 × Mem, x = x9 → V E (0, 0) G 4 (QI E G post) x9.2 59 [(0, .ref (G.2.2 + 162)), (2, .int x9.1)] []) : V E (0, 0) G 4 (QI E G post) s.2.2 33 [(0, .ref (G.2.2 + 162)), (1, .int v1), (2, .int s.1), (3, .int s.2.1)] [] :=
  iter_P (P := fun s : Int32 × Int32 × Mem => V E (0, 0) G 4 (QI E G post) s.2.2 33 [(0, .ref (G.2.2 + 162)), (1, .int v1), (2, .int s.1), (3, .int s.2.1)] []) (fun s o hb kc ky => lb_Mod_ahead_33_ok X hD v1 s o hb kc (fun x9 e9 => kx0 x9 (ky _ e9).symm)) n9 s h
def lb_Mod_ahead_66 (v2 : Int32) (s : Int32 × Mem) : Option ((Int32 × Mem) ⊕ ((Mem))) :=
  if (s.2.1 162 4) ≤ s.1 then
  some (.inr s.2)
  else
  if inb s.1 96 = true then
  Option.bind (f_Mod_cellOf (s.2.1 176 s.1.toNatClampNeg)) fun x8 =>
  Option.bind (f_Mod_put x8 s.2) fun x9 =>
  some (.inl ((s.1 + (1 : Int32)), x9))
  else none
theorem lb_Mod_ahead_66_ok {E : Ev} {G : Gw} {d : Nat} {post : Int32 → Mem → Prop} (X : Cx E G b_Mod_ahead "WomenByTheRoofsModel" 4 d (some .int)) (hD : 403 ≤ d)  (v2 : Int32)   (s : Int32 × Mem) (o : (Int32 × Mem) ⊕ ((Mem))) (h : lb_Mod_ahead_66 v2 s = some o) (kc : ∀ s9 : Int32 × Mem, o = .inl s9 → V E (0, 0) G 4 (QI E G post) s9.2 66 [(0, .ref (G.2.2 + 162)), (2, .int v2), (3, .int s9.1)] []) (kx0 : ∀ x9 : Mem, o = .inr x9 → V E (0, 0) G 4 (QI E G post) x9 93 [(2, .int v2)] []) : V E (0, 0) G 4 (QI E G post) s.2 66 [(0, .ref (G.2.2 + 162)), (2, .int v2), (3, .int s.1)] [] := by
  unfold lb_Mod_ahead_66 at h
  refine V_iload_n (n := 2) X d_Mod_ahead_66 rfl rfl rfl ?_
  refine V_aload_n (n := 0) X d_Mod_ahead_67 rfl rfl rfl ?_
  refine V_geti X fo_Mod_123 kd_162 rfl d_Mod_ahead_68 rfl ?_
  refine V_icmp_ge (tgt := 93) X d_Mod_ahead_71 (by decide) rfl (fun c10 => ?_) (fun c10 => ?_)
  · rw [if_pos c10] at h
    refine V_sub (lv' := [(2, .int v2)]) [1] rfl ?_
    exact kx0 s.2 (Option.some.inj h).symm
  · rw [if_neg c10] at h
    refine V_aload_n (n := 0) X d_Mod_ahead_74 rfl rfl rfl ?_
    refine V_aload_n (n := 0) X d_Mod_ahead_75 rfl rfl rfl ?_
    refine V_getr (k2 := 176) X fo_Mod_60 kd_162 rfl rf_162_34 d_Mod_ahead_76 rfl ?_
    refine V_iload_n (n := 2) X d_Mod_ahead_79 rfl rfl rfl ?_
    obtain ⟨hb, h⟩ := ifn h
    refine V_iald X kd_176 (inb_in ln_176 hb) d_Mod_ahead_80 rfl ?_
    obtain ⟨x8, hx8, h⟩ := ob_s h
    refine V_si (As := [.int (s.2.1 176 s.1.toNatClampNeg)]) X (Z0 E) ml_Mod_147 yq_Mod_cellOf (c_Mod_cellOf E.2.1 G (s.2.1 176 s.1.toNatClampNeg) s.2 x8 hx8 _ (Nat.le_refl _)) rfl (by omega) rfl (Nat.le_of_ble_eq_true rfl) d_Mod_ahead_81 rfl (fun r9 M9 hq => ?_)
    rw [hq.1, hq.2]
    obtain ⟨x9, hx9, h⟩ := ob_s h
    refine V_cv (As := [.int x8]) X (Z0 E) ml_Mod_342 yq_Mod_put (c_Mod_put E.2.1 G x8 s.2 x9 hx9 _ (Nat.le_refl _)) kd_162 rfl rfl (by omega) rfl (Nat.le_of_ble_eq_true rfl) d_Mod_ahead_84 rfl (fun M9 hq => ?_)
    rw [hq]
    refine V_iinc (n := 2) (v := (s.1 + (1 : Int32))) (lv' := [(3, .int (s.1 + (1 : Int32))), (0, .ref (G.2.2 + 162)), (2, .int v2)]) X d_Mod_ahead_87 rfl rfl (by decide) rfl rfl ?_
    refine V_goto (pc' := 66) X d_Mod_ahead_90 (by decide) ?_
    refine V_sub (lv' := [(0, .ref (G.2.2 + 162)), (2, .int v2), (3, .int (s.1 + (1 : Int32)))]) [1, 2, 0] rfl ?_
    exact kc ((s.1 + (1 : Int32)), x9) (Option.some.inj h).symm
theorem lp_Mod_ahead_66_ok {E : Ev} {G : Gw} {d : Nat} {post : Int32 → Mem → Prop} (X : Cx E G b_Mod_ahead "WomenByTheRoofsModel" 4 d (some .int)) (hD : 403 ≤ d)  (v2 : Int32)   (n9 : Nat) (s : Int32 × Mem) (x : (Mem)) (h : iter (lb_Mod_ahead_66 v2) n9 s = some x) (kx0 : ∀ x9 : Mem, x = x9 → V E (0, 0) G 4 (QI E G post) x9 93 [(2, .int v2)] []) : V E (0, 0) G 4 (QI E G post) s.2 66 [(0, .ref (G.2.2 + 162)), (2, .int v2), (3, .int s.1)] [] :=
  iter_P (P := fun s : Int32 × Mem => V E (0, 0) G 4 (QI E G post) s.2 66 [(0, .ref (G.2.2 + 162)), (2, .int v2), (3, .int s.1)] []) (fun s o hb kc ky => lb_Mod_ahead_66_ok X hD v2 s o hb kc (fun x9 e9 => kx0 x9 (ky _ e9).symm)) n9 s h
def f_Mod_ahead (v1 : Int32) (M : Mem) : Option (Int32 × Mem) :=
  mem_ (s_i M 162 13 (0 : Int32)) fun M1 =>
  Option.bind (f_Mod_in v1 (0 : Int32) (60 : Int32)) fun x2 =>
  if x2 = 0 then
  some ((-1 : Int32), M1)
  else
  Option.bind (f_Mod_lay 163 176 (0 : Int32) M1) fun x3 =>
  Option.bind (iter (lb_Mod_ahead_33 v1) FU ((0 : Int32), (0 : Int32), x3)) fun x6 =>
  mem_ (s_i x6.2 162 12 (0 : Int32)) fun M7 =>
  Option.bind (iter (lb_Mod_ahead_66 x6.1) FU ((0 : Int32), M7)) fun x11 =>
  some (x6.1, x11)
theorem c_Mod_ahead (l : Launch) (G : Gw)  (v1 : Int32) (M : Mem) (x : Int32 × Mem) (h : f_Mod_ahead v1 M = some x) (d : Nat) (hD : 403 ≤ d) : Ci l G y_Mod_ahead b_Mod_ahead 4 (some .int) d [.ref (G.2.2 + 162), .int v1] M (fun r9 M9 => r9 = x.1 ∧ M9 = x.2) := by
  refine Ci_of (by decide) (Nat.le_of_ble_eq_true rfl) (fun E hE X => ?_)
  subst hE
  have kr : ∀ x9 : Int32 × Mem, x = x9 → (fun r9 M9 => r9 = x.1 ∧ M9 = x.2) x9.1 x9.2 := fun x9 e9 => by subst e9; exact ⟨rfl, rfl⟩
  unfold f_Mod_ahead at h
  refine V_aload_n (n := 0) X d_Mod_ahead_0 rfl rfl rfl ?_
  refine V_iconst (v := 0) X d_Mod_ahead_1 (by decide) rfl ?_
  obtain ⟨M1, eM1, h⟩ := memS h
  refine V_putI X fp_Mod_109 kd_162 rfl d_Mod_ahead_2 rfl ?_
  rw [← eM1]
  refine V_iload_n (n := 1) X d_Mod_ahead_5 rfl rfl rfl ?_
  refine V_iconst (v := 0) X d_Mod_ahead_6 (by decide) rfl ?_
  refine V_bipush (v := 60) X d_Mod_ahead_7 (by decide) rfl ?_
  obtain ⟨x2, hx2, h⟩ := ob_s h
  refine V_si (As := [.int v1, .int (0 : Int32), .int (60 : Int32)]) X (Z0 E) ml_Mod_119 yq_Mod_in (c_Mod_in E.2.1 G v1 (0 : Int32) (60 : Int32) M1 x2 hx2 _ (Nat.le_refl _)) rfl (by omega) rfl (Nat.le_of_ble_eq_true rfl) d_Mod_ahead_9 rfl (fun r9 M9 hq => ?_)
  rw [hq.1, hq.2]
  refine V_if_ne (tgt := 17) X d_Mod_ahead_12 (by decide) rfl (fun c12 => ?_) (fun c12 => ?_)
  · rw [if_neg c12] at h
    refine V_aload_n (n := 0) X d_Mod_ahead_17 rfl rfl rfl ?_
    refine V_getr (k2 := 163) X fo_Mod_9 kd_162 rfl rf_162_0 d_Mod_ahead_18 rfl ?_
    refine V_aload_n (n := 0) X d_Mod_ahead_21 rfl rfl rfl ?_
    refine V_getr (k2 := 176) X fo_Mod_60 kd_162 rfl rf_162_34 d_Mod_ahead_22 rfl ?_
    refine V_iconst (v := 0) X d_Mod_ahead_25 (by decide) rfl ?_
    obtain ⟨x3, hx3, h⟩ := ob_s h
    refine V_sv (As := [.ref (G.2.2 + 163), .ref (G.2.2 + 176), .int (0 : Int32)]) X (Z0 E) ml_Mod_286 yq_Mod_lay (c_Mod_lay E.2.1 G 163 176 (0 : Int32) M1 x3 hx3 _ (Nat.le_refl _)) rfl (by omega) rfl (Nat.le_of_ble_eq_true rfl) d_Mod_ahead_26 rfl (fun M9 hq => ?_)
    rw [hq]
    refine V_iconst (v := 0) X d_Mod_ahead_29 (by decide) rfl ?_
    refine V_istore_n (lv' := [(2, .int (0 : Int32)), (0, .ref (G.2.2 + 162)), (1, .int v1)]) X d_Mod_ahead_30 rfl (by decide) rfl rfl ?_
    refine V_iconst (v := 0) X d_Mod_ahead_31 (by decide) rfl ?_
    refine V_istore_n (lv' := [(3, .int (0 : Int32)), (2, .int (0 : Int32)), (0, .ref (G.2.2 + 162)), (1, .int v1)]) X d_Mod_ahead_32 rfl (by decide) rfl rfl ?_
    refine V_sub (lv' := [(0, .ref (G.2.2 + 162)), (1, .int v1), (2, .int (0 : Int32)), (3, .int (0 : Int32))]) [2, 3, 1, 0] rfl ?_
    obtain ⟨x6, hx6, h⟩ := ob_s h
    refine (lp_Mod_ahead_33_ok X hD v1 _ _ _ hx6 (fun x9 e9 => ?_) :)
    subst e9
    refine V_aload_n (n := 0) X d_Mod_ahead_59 rfl rfl rfl ?_
    refine V_iconst (v := 0) X d_Mod_ahead_60 (by decide) rfl ?_
    obtain ⟨M7, eM7, h⟩ := memS h
    refine V_putI X fp_Mod_112 kd_162 rfl d_Mod_ahead_61 rfl ?_
    rw [← eM7]
    refine V_iconst (v := 0) X d_Mod_ahead_64 (by decide) rfl ?_
    refine V_istore_n (lv' := [(3, .int (0 : Int32)), (0, .ref (G.2.2 + 162)), (2, .int x6.1)]) X d_Mod_ahead_65 rfl (by decide) rfl rfl ?_
    refine V_sub (lv' := [(0, .ref (G.2.2 + 162)), (2, .int x6.1), (3, .int (0 : Int32))]) [1, 2, 0] rfl ?_
    obtain ⟨x11, hx11, h⟩ := ob_s h
    refine (lp_Mod_ahead_66_ok X hD x6.1 _ _ _ hx11 (fun x9 e9 => ?_) :)
    subst e9
    refine V_iload_n (n := 0) X d_Mod_ahead_93 rfl rfl rfl ?_
    exact V_iret X (kr (x6.1, x11) (Option.some.inj h).symm) d_Mod_ahead_94
  · rw [if_pos c12] at h
    refine V_iconst (v := -1) X d_Mod_ahead_15 (by decide) rfl ?_
    exact V_iret X (kr ((-1 : Int32), M1) (Option.some.inj h).symm) d_Mod_ahead_16
def lb_Mod_meet_30 (v1 : Int32) (v2 : Int32) (s : Int32 × Mem) : Option ((Int32 × Mem) ⊕ ((Mem) ⊕ (Int32 × Mem))) :=
  if (60 : Int32) < s.1 then
  some (.inr (Sum.inl s.2))
  else
  Option.bind (f_Mod_goMinute 176 s.2) fun x4 =>
  Option.bind (f_Mod_has (x4.1 162 5) v1) fun x5 =>
  Option.bind (f_Mod_has (x4.1 162 5) v2) fun x6 =>
  if x5 = x6 then
  some (.inl ((s.1 + (1 : Int32)), x4))
  else
  Option.bind (f_Mod_areMeeting 176 v1 v2 x4) fun x7 =>
  if x7 = 0 then
  some (.inl ((s.1 + (1 : Int32)), x4))
  else
  some (.inr (Sum.inr (s.1, x4)))
theorem lb_Mod_meet_30_ok {E : Ev} {G : Gw} {d : Nat} {post : Int32 → Mem → Prop} (X : Cx E G b_Mod_meet "WomenByTheRoofsModel" 4 d (some .int)) (hD : 403 ≤ d)  (v1 : Int32) (v2 : Int32)   (s : Int32 × Mem) (o : (Int32 × Mem) ⊕ ((Mem) ⊕ (Int32 × Mem))) (h : lb_Mod_meet_30 v1 v2 s = some o) (kc : ∀ s9 : Int32 × Mem, o = .inl s9 → V E (0, 0) G 4 (QI E G post) s9.2 30 [(0, .ref (G.2.2 + 162)), (1, .int v1), (2, .int v2), (3, .int s9.1)] []) (kx0 : ∀ x9 : Mem, o = .inr (Sum.inl x9) → V E (0, 0) G 4 (QI E G post) x9 105 [] []) (kx1 : ∀ x9 : Int32 × Mem, o = .inr (Sum.inr x9) → V E (0, 0) G 4 (QI E G post) x9.2 79 [(0, .ref (G.2.2 + 162)), (1, .int v1), (3, .int x9.1)] []) : V E (0, 0) G 4 (QI E G post) s.2 30 [(0, .ref (G.2.2 + 162)), (1, .int v1), (2, .int v2), (3, .int s.1)] [] := by
  unfold lb_Mod_meet_30 at h
  refine V_iload_n (n := 3) X d_Mod_meet_30 rfl rfl rfl ?_
  refine V_bipush (v := 60) X d_Mod_meet_31 (by decide) rfl ?_
  refine V_icmp_gt (tgt := 105) X d_Mod_meet_33 (by decide) rfl (fun c10 => ?_) (fun c10 => ?_)
  · rw [if_pos c10] at h
    refine V_sub (lv' := []) [] rfl ?_
    exact kx0 s.2 (Option.some.inj h).symm
  · rw [if_neg c10] at h
    refine V_aload_n (n := 0) X d_Mod_meet_36 rfl rfl rfl ?_
    refine V_aload_n (n := 0) X d_Mod_meet_37 rfl rfl rfl ?_
    refine V_getr (k2 := 176) X fo_Mod_60 kd_162 rfl rf_162_34 d_Mod_meet_38 rfl ?_
    obtain ⟨x4, hx4, h⟩ := ob_s h
    refine V_cv (As := [.ref (G.2.2 + 176)]) X (Z0 E) ml_Mod_339 yq_Mod_goMinute (c_Mod_goMinute E.2.1 G 176 s.2 x4 hx4 _ (Nat.le_refl _)) kd_162 rfl rfl (by omega) rfl (Nat.le_of_ble_eq_true rfl) d_Mod_meet_41 rfl (fun M9 hq => ?_)
    rw [hq]
    refine V_aload_n (n := 0) X d_Mod_meet_44 rfl rfl rfl ?_
    refine V_geti X fo_Mod_130 kd_162 rfl d_Mod_meet_45 rfl ?_
    refine V_iload_n (n := 1) X d_Mod_meet_48 rfl rfl rfl ?_
    obtain ⟨x5, hx5, h⟩ := ob_s h
    refine V_si (As := [.int (x4.1 162 5), .int v1]) X (Z0 E) ml_Mod_133 yq_Mod_has (c_Mod_has E.2.1 G (x4.1 162 5) v1 x4 x5 hx5 _ (Nat.le_refl _)) rfl (by omega) rfl (Nat.le_of_ble_eq_true rfl) d_Mod_meet_49 rfl (fun r9 M9 hq => ?_)
    rw [hq.1, hq.2]
    refine V_aload_n (n := 0) X d_Mod_meet_52 rfl rfl rfl ?_
    refine V_geti X fo_Mod_130 kd_162 rfl d_Mod_meet_53 rfl ?_
    refine V_iload_n (n := 2) X d_Mod_meet_56 rfl rfl rfl ?_
    obtain ⟨x6, hx6, h⟩ := ob_s h
    refine V_si (As := [.int (x4.1 162 5), .int v2]) X (Z0 E) ml_Mod_133 yq_Mod_has (c_Mod_has E.2.1 G (x4.1 162 5) v2 x4 x6 hx6 _ (Nat.le_refl _)) rfl (by omega) rfl (Nat.le_of_ble_eq_true rfl) d_Mod_meet_57 rfl (fun r9 M9 hq => ?_)
    rw [hq.1, hq.2]
    refine V_icmp_eq (tgt := 99) X d_Mod_meet_60 (by decide) rfl (fun c9 => ?_) (fun c9 => ?_)
    · rw [if_pos c9] at h
      refine V_iinc (n := 3) (v := (s.1 + (1 : Int32))) (lv' := [(3, .int (s.1 + (1 : Int32))), (0, .ref (G.2.2 + 162)), (1, .int v1), (2, .int v2)]) X d_Mod_meet_99 rfl rfl (by decide) rfl rfl ?_
      refine V_goto (pc' := 30) X d_Mod_meet_102 (by decide) ?_
      refine V_sub (lv' := [(0, .ref (G.2.2 + 162)), (1, .int v1), (2, .int v2), (3, .int (s.1 + (1 : Int32)))]) [1, 2, 3, 0] rfl ?_
      exact kc ((s.1 + (1 : Int32)), x4) (Option.some.inj h).symm
    · rw [if_neg c9] at h
      refine V_aload_n (n := 0) X d_Mod_meet_63 rfl rfl rfl ?_
      refine V_aload_n (n := 0) X d_Mod_meet_64 rfl rfl rfl ?_
      refine V_getr (k2 := 176) X fo_Mod_60 kd_162 rfl rf_162_34 d_Mod_meet_65 rfl ?_
      refine V_iload_n (n := 1) X d_Mod_meet_68 rfl rfl rfl ?_
      refine V_iload_n (n := 2) X d_Mod_meet_69 rfl rfl rfl ?_
      obtain ⟨x7, hx7, h⟩ := ob_s h
      refine V_ci (As := [.ref (G.2.2 + 176), .int v1, .int v2]) X (Z0 E) ml_Mod_330 yq_Mod_areMeeting (c_Mod_areMeeting E.2.1 G 176 v1 v2 x4 x7 hx7 _ (Nat.le_refl _)) kd_162 rfl rfl (by omega) rfl (Nat.le_of_ble_eq_true rfl) d_Mod_meet_70 rfl (fun r9 M9 hq => ?_)
      rw [hq.1, hq.2]
      refine V_if_ne (tgt := 79) X d_Mod_meet_73 (by decide) rfl (fun c8 => ?_) (fun c8 => ?_)
      · rw [if_neg c8] at h
        refine V_sub (lv' := [(0, .ref (G.2.2 + 162)), (1, .int v1), (3, .int s.1)]) [0, 1, 3] rfl ?_
        exact kx1 (s.1, x4) (Option.some.inj h).symm
      · rw [if_pos c8] at h
        refine V_goto (pc' := 99) X d_Mod_meet_76 (by decide) ?_
        refine V_iinc (n := 3) (v := (s.1 + (1 : Int32))) (lv' := [(3, .int (s.1 + (1 : Int32))), (0, .ref (G.2.2 + 162)), (1, .int v1), (2, .int v2)]) X d_Mod_meet_99 rfl rfl (by decide) rfl rfl ?_
        refine V_goto (pc' := 30) X d_Mod_meet_102 (by decide) ?_
        refine V_sub (lv' := [(0, .ref (G.2.2 + 162)), (1, .int v1), (2, .int v2), (3, .int (s.1 + (1 : Int32)))]) [1, 2, 3, 0] rfl ?_
        exact kc ((s.1 + (1 : Int32)), x4) (Option.some.inj h).symm
theorem lp_Mod_meet_30_ok {E : Ev} {G : Gw} {d : Nat} {post : Int32 → Mem → Prop} (X : Cx E G b_Mod_meet "WomenByTheRoofsModel" 4 d (some .int)) (hD : 403 ≤ d)  (v1 : Int32) (v2 : Int32)   (n9 : Nat) (s : Int32 × Mem) (x : (Mem) ⊕ (Int32 × Mem)) (h : iter (lb_Mod_meet_30 v1 v2) n9 s = some x) (kx0 : ∀ x9 : Mem, x = (Sum.inl x9) → V E (0, 0) G 4 (QI E G post) x9 105 [] []) (kx1 : ∀ x9 : Int32 × Mem, x = (Sum.inr x9) → V E (0, 0) G 4 (QI E G post) x9.2 79 [(0, .ref (G.2.2 + 162)), (1, .int v1), (3, .int x9.1)] []) : V E (0, 0) G 4 (QI E G post) s.2 30 [(0, .ref (G.2.2 + 162)), (1, .int v1), (2, .int v2), (3, .int s.1)] [] :=
  iter_P (P := fun s : Int32 × Mem => V E (0, 0) G 4 (QI E G post) s.2 30 [(0, .ref (G.2.2 + 162)), (1, .int v1), (2, .int v2), (3, .int s.1)] []) (fun s o hb kc ky => lb_Mod_meet_30_ok X hD v1 v2 s o hb kc (fun x9 e9 => kx0 x9 (ky _ e9).symm) (fun x9 e9 => kx1 x9 (ky _ e9).symm)) n9 s h
def f_Mod_meet (v1 : Int32) (v2 : Int32) (M : Mem) : Option (Int32 × Mem) :=
  mem_ (s_i M 162 13 (0 : Int32)) fun M1 =>
  Option.bind (f_Mod_areTwo v1 v2 M1) fun x2 =>
  if x2 = 0 then
  some ((-1 : Int32), M1)
  else
  Option.bind (f_Mod_lay 163 176 (0 : Int32) M1) fun x3 =>
  Option.bind (iter (lb_Mod_meet_30 v1 v2) FU ((1 : Int32), x3)) (Sum.elim (fun y12 => some ((-2 : Int32), y12)) (fun y13 => mem_ (s_i y13.2 162 12 (0 : Int32)) fun M14 =>
  if inb v1 96 = true then
  Option.bind (f_Mod_cellOf (M14.1 176 v1.toNatClampNeg)) fun x15 =>
  Option.bind (f_Mod_put x15 M14) fun x16 =>
  some (y13.1, x16)
  else none))
theorem c_Mod_meet (l : Launch) (G : Gw)  (v1 : Int32) (v2 : Int32) (M : Mem) (x : Int32 × Mem) (h : f_Mod_meet v1 v2 M = some x) (d : Nat) (hD : 403 ≤ d) : Ci l G y_Mod_meet b_Mod_meet 4 (some .int) d [.ref (G.2.2 + 162), .int v1, .int v2] M (fun r9 M9 => r9 = x.1 ∧ M9 = x.2) := by
  refine Ci_of (by decide) (Nat.le_of_ble_eq_true rfl) (fun E hE X => ?_)
  subst hE
  have kr : ∀ x9 : Int32 × Mem, x = x9 → (fun r9 M9 => r9 = x.1 ∧ M9 = x.2) x9.1 x9.2 := fun x9 e9 => by subst e9; exact ⟨rfl, rfl⟩
  unfold f_Mod_meet at h
  refine V_aload_n (n := 0) X d_Mod_meet_0 rfl rfl rfl ?_
  refine V_iconst (v := 0) X d_Mod_meet_1 (by decide) rfl ?_
  obtain ⟨M1, eM1, h⟩ := memS h
  refine V_putI X fp_Mod_109 kd_162 rfl d_Mod_meet_2 rfl ?_
  rw [← eM1]
  refine V_aload_n (n := 0) X d_Mod_meet_5 rfl rfl rfl ?_
  refine V_iload_n (n := 1) X d_Mod_meet_6 rfl rfl rfl ?_
  refine V_iload_n (n := 2) X d_Mod_meet_7 rfl rfl rfl ?_
  obtain ⟨x2, hx2, h⟩ := ob_s h
  refine V_ci (As := [.int v1, .int v2]) X (Z0 E) ml_Mod_354 yq_Mod_areTwo (c_Mod_areTwo E.2.1 G v1 v2 M1 x2 hx2 _ (Nat.le_refl _)) kd_162 rfl rfl (by omega) rfl (Nat.le_of_ble_eq_true rfl) d_Mod_meet_8 rfl (fun r9 M9 hq => ?_)
  rw [hq.1, hq.2]
  refine V_if_ne (tgt := 16) X d_Mod_meet_11 (by decide) rfl (fun c17 => ?_) (fun c17 => ?_)
  · rw [if_neg c17] at h
    refine V_aload_n (n := 0) X d_Mod_meet_16 rfl rfl rfl ?_
    refine V_getr (k2 := 163) X fo_Mod_9 kd_162 rfl rf_162_0 d_Mod_meet_17 rfl ?_
    refine V_aload_n (n := 0) X d_Mod_meet_20 rfl rfl rfl ?_
    refine V_getr (k2 := 176) X fo_Mod_60 kd_162 rfl rf_162_34 d_Mod_meet_21 rfl ?_
    refine V_iconst (v := 0) X d_Mod_meet_24 (by decide) rfl ?_
    obtain ⟨x3, hx3, h⟩ := ob_s h
    refine V_sv (As := [.ref (G.2.2 + 163), .ref (G.2.2 + 176), .int (0 : Int32)]) X (Z0 E) ml_Mod_286 yq_Mod_lay (c_Mod_lay E.2.1 G 163 176 (0 : Int32) M1 x3 hx3 _ (Nat.le_refl _)) rfl (by omega) rfl (Nat.le_of_ble_eq_true rfl) d_Mod_meet_25 rfl (fun M9 hq => ?_)
    rw [hq]
    refine V_iconst (v := 1) X d_Mod_meet_28 (by decide) rfl ?_
    refine V_istore_n (lv' := [(3, .int (1 : Int32)), (0, .ref (G.2.2 + 162)), (1, .int v1), (2, .int v2)]) X d_Mod_meet_29 rfl (by decide) rfl rfl ?_
    refine V_sub (lv' := [(0, .ref (G.2.2 + 162)), (1, .int v1), (2, .int v2), (3, .int (1 : Int32))]) [1, 2, 3, 0] rfl ?_
    obtain ⟨x11, hx11, h⟩ := ob_s h
    rcases x11 with y12 | y13
    · simp only [Sum.elim_inl, Sum.elim_inr] at h
      refine (lp_Mod_meet_30_ok X hD v1 v2 _ _ _ hx11 (fun x9 e9 => ?_) (fun x9 e9 => by cases e9) :)
      cases e9
      refine V_bipush (v := -2) X d_Mod_meet_105 (by decide) rfl ?_
      exact V_iret X (kr ((-2 : Int32), y12) (Option.some.inj h).symm) d_Mod_meet_107
    · simp only [Sum.elim_inl, Sum.elim_inr] at h
      refine (lp_Mod_meet_30_ok X hD v1 v2 _ _ _ hx11 (fun x9 e9 => by cases e9) (fun x9 e9 => ?_) :)
      cases e9
      refine V_aload_n (n := 0) X d_Mod_meet_79 rfl rfl rfl ?_
      refine V_iconst (v := 0) X d_Mod_meet_80 (by decide) rfl ?_
      obtain ⟨M14, eM14, h⟩ := memS h
      refine V_putI X fp_Mod_112 kd_162 rfl d_Mod_meet_81 rfl ?_
      rw [← eM14]
      refine V_aload_n (n := 0) X d_Mod_meet_84 rfl rfl rfl ?_
      refine V_aload_n (n := 0) X d_Mod_meet_85 rfl rfl rfl ?_
      refine V_getr (k2 := 176) X fo_Mod_60 kd_162 rfl rf_162_34 d_Mod_meet_86 rfl ?_
      refine V_iload_n (n := 1) X d_Mod_meet_89 rfl rfl rfl ?_
      obtain ⟨hb, h⟩ := ifn h
      refine V_iald X kd_176 (inb_in ln_176 hb) d_Mod_meet_90 rfl ?_
      obtain ⟨x15, hx15, h⟩ := ob_s h
      refine V_si (As := [.int (M14.1 176 v1.toNatClampNeg)]) X (Z0 E) ml_Mod_147 yq_Mod_cellOf (c_Mod_cellOf E.2.1 G (M14.1 176 v1.toNatClampNeg) M14 x15 hx15 _ (Nat.le_refl _)) rfl (by omega) rfl (Nat.le_of_ble_eq_true rfl) d_Mod_meet_91 rfl (fun r9 M9 hq => ?_)
      rw [hq.1, hq.2]
      obtain ⟨x16, hx16, h⟩ := ob_s h
      refine V_cv (As := [.int x15]) X (Z0 E) ml_Mod_342 yq_Mod_put (c_Mod_put E.2.1 G x15 M14 x16 hx16 _ (Nat.le_refl _)) kd_162 rfl rfl (by omega) rfl (Nat.le_of_ble_eq_true rfl) d_Mod_meet_94 rfl (fun M9 hq => ?_)
      rw [hq]
      refine V_iload_n (n := 2) X d_Mod_meet_97 rfl rfl rfl ?_
      exact V_iret X (kr (y13.1, x16) (Option.some.inj h).symm) d_Mod_meet_98
  · rw [if_pos c17] at h
    refine V_iconst (v := -1) X d_Mod_meet_14 (by decide) rfl ?_
    exact V_iret X (kr ((-1 : Int32), M1) (Option.some.inj h).symm) d_Mod_meet_15
def j_Mod_known_44_22 (v1 : Int32) (v2 : Int32) (M : Mem) : Option ((Int32 × Int32 × Mem) ⊕ ((Int32 × Mem))) :=
  if (M.1 176 (93 : Int32).toNatClampNeg) = (((1 : Int32) <<< ((M.1 162 4) &&& 31)) - (1 : Int32)) then
  some (.inl (v2, (v2 + (1 : Int32)), M))
  else
  some (.inl (v1, (v2 + (1 : Int32)), M))
theorem j_Mod_known_44_22_ok {E : Ev} {G : Gw} {d : Nat} {post : Int32 → Mem → Prop} (X : Cx E G b_Mod_known "WomenByTheRoofsModel" 3 d (some .int)) (hD : 403 ≤ d)  (v1 : Int32) (v2 : Int32)  (M : Mem)  (o : (Int32 × Int32 × Mem) ⊕ ((Int32 × Mem))) (h : j_Mod_known_44_22 v1 v2 M = some o) (kc : ∀ s9 : Int32 × Int32 × Mem, o = .inl s9 → V E (0, 0) G 3 (QI E G post) s9.2.2 22 [(0, .ref (G.2.2 + 162)), (1, .int s9.1), (2, .int s9.2.1)] []) (kx0 : ∀ x9 : Int32 × Mem, o = .inr x9 → V E (0, 0) G 3 (QI E G post) x9.2 70 [(0, .ref (G.2.2 + 162)), (1, .int x9.1)] []) : V E (0, 0) G 3 (QI E G post) M 44 [(0, .ref (G.2.2 + 162)), (1, .int v1), (2, .int v2)] [] := by
  unfold j_Mod_known_44_22 at h
  refine V_aload_n (n := 0) X d_Mod_known_44 rfl rfl rfl ?_
  refine V_getr (k2 := 176) X fo_Mod_60 kd_162 rfl rf_162_34 d_Mod_known_45 rfl ?_
  refine V_bipush (v := 93) X d_Mod_known_48 (by decide) rfl ?_
  refine V_iald X kd_176 (inb_in ln_176 (by decide)) d_Mod_known_50 rfl ?_
  refine V_iconst (v := 1) X d_Mod_known_51 (by decide) rfl ?_
  refine V_aload_n (n := 0) X d_Mod_known_52 rfl rfl rfl ?_
  refine V_geti X fo_Mod_123 kd_162 rfl d_Mod_known_53 rfl ?_
  refine V_ishl X d_Mod_known_56 rfl ?_
  refine V_iconst (v := 1) X d_Mod_known_57 (by decide) rfl ?_
  refine V_isub X d_Mod_known_58 rfl ?_
  refine V_icmp_ne (tgt := 64) X d_Mod_known_59 (by decide) rfl (fun c3 => ?_) (fun c3 => ?_)
  · rw [if_neg c3] at h
    refine V_iinc (n := 2) (v := (v2 + (1 : Int32))) (lv' := [(2, .int (v2 + (1 : Int32))), (0, .ref (G.2.2 + 162)), (1, .int v1)]) X d_Mod_known_64 rfl rfl (by decide) rfl rfl ?_
    refine V_goto (pc' := 22) X d_Mod_known_67 (by decide) ?_
    refine V_sub (lv' := [(0, .ref (G.2.2 + 162)), (1, .int v1), (2, .int (v2 + (1 : Int32)))]) [1, 2, 0] rfl ?_
    exact kc (v1, (v2 + (1 : Int32)), M) (Option.some.inj h).symm
  · rw [if_pos c3] at h
    refine V_iload_n (n := 2) X d_Mod_known_62 rfl rfl rfl ?_
    refine V_istore_n (lv' := [(1, .int v2), (0, .ref (G.2.2 + 162)), (2, .int v2)]) X d_Mod_known_63 rfl (by decide) rfl rfl ?_
    refine V_iinc (n := 2) (v := (v2 + (1 : Int32))) (lv' := [(2, .int (v2 + (1 : Int32))), (1, .int v2), (0, .ref (G.2.2 + 162))]) X d_Mod_known_64 rfl rfl (by decide) rfl rfl ?_
    refine V_goto (pc' := 22) X d_Mod_known_67 (by decide) ?_
    refine V_sub (lv' := [(0, .ref (G.2.2 + 162)), (1, .int v2), (2, .int (v2 + (1 : Int32)))]) [2, 1, 0] rfl ?_
    exact kc (v2, (v2 + (1 : Int32)), M) (Option.some.inj h).symm
def lb_Mod_known_22  (s : Int32 × Int32 × Mem) : Option ((Int32 × Int32 × Mem) ⊕ ((Int32 × Mem))) :=
  if (60 : Int32) < s.2.1 then
  some (.inr (s.1, s.2.2))
  else
  if 0 ≤ s.1 then
  some (.inr (s.1, s.2.2))
  else
  if s.2.1 ≤ 0 then
  j_Mod_known_44_22 s.1 s.2.1 s.2.2
  else
  Option.bind (f_Mod_goMinute 176 s.2.2) fun x4 =>
  j_Mod_known_44_22 s.1 s.2.1 x4
theorem lb_Mod_known_22_ok {E : Ev} {G : Gw} {d : Nat} {post : Int32 → Mem → Prop} (X : Cx E G b_Mod_known "WomenByTheRoofsModel" 3 d (some .int)) (hD : 403 ≤ d)     (s : Int32 × Int32 × Mem) (o : (Int32 × Int32 × Mem) ⊕ ((Int32 × Mem))) (h : lb_Mod_known_22 s = some o) (kc : ∀ s9 : Int32 × Int32 × Mem, o = .inl s9 → V E (0, 0) G 3 (QI E G post) s9.2.2 22 [(0, .ref (G.2.2 + 162)), (1, .int s9.1), (2, .int s9.2.1)] []) (kx0 : ∀ x9 : Int32 × Mem, o = .inr x9 → V E (0, 0) G 3 (QI E G post) x9.2 70 [(0, .ref (G.2.2 + 162)), (1, .int x9.1)] []) : V E (0, 0) G 3 (QI E G post) s.2.2 22 [(0, .ref (G.2.2 + 162)), (1, .int s.1), (2, .int s.2.1)] [] := by
  unfold lb_Mod_known_22 at h
  refine V_iload_n (n := 2) X d_Mod_known_22 rfl rfl rfl ?_
  refine V_bipush (v := 60) X d_Mod_known_23 (by decide) rfl ?_
  refine V_icmp_gt (tgt := 70) X d_Mod_known_25 (by decide) rfl (fun c7 => ?_) (fun c7 => ?_)
  · rw [if_pos c7] at h
    refine V_sub (lv' := [(0, .ref (G.2.2 + 162)), (1, .int s.1)]) [0, 1] rfl ?_
    exact kx0 (s.1, s.2.2) (Option.some.inj h).symm
  · rw [if_neg c7] at h
    refine V_iload_n (n := 1) X d_Mod_known_28 rfl rfl rfl ?_
    refine V_if_ge (tgt := 70) X d_Mod_known_29 (by decide) rfl (fun c6 => ?_) (fun c6 => ?_)
    · rw [if_pos c6] at h
      refine V_sub (lv' := [(0, .ref (G.2.2 + 162)), (1, .int s.1)]) [0, 1] rfl ?_
      exact kx0 (s.1, s.2.2) (Option.some.inj h).symm
    · rw [if_neg c6] at h
      refine V_iload_n (n := 2) X d_Mod_known_32 rfl rfl rfl ?_
      refine V_if_le (tgt := 44) X d_Mod_known_33 (by decide) rfl (fun c5 => ?_) (fun c5 => ?_)
      · rw [if_pos c5] at h
        exact j_Mod_known_44_22_ok X hD s.1 s.2.1 s.2.2 _ h kc kx0
      · rw [if_neg c5] at h
        refine V_aload_n (n := 0) X d_Mod_known_36 rfl rfl rfl ?_
        refine V_aload_n (n := 0) X d_Mod_known_37 rfl rfl rfl ?_
        refine V_getr (k2 := 176) X fo_Mod_60 kd_162 rfl rf_162_34 d_Mod_known_38 rfl ?_
        obtain ⟨x4, hx4, h⟩ := ob_s h
        refine V_cv (As := [.ref (G.2.2 + 176)]) X (Z0 E) ml_Mod_339 yq_Mod_goMinute (c_Mod_goMinute E.2.1 G 176 s.2.2 x4 hx4 _ (Nat.le_refl _)) kd_162 rfl rfl (by omega) rfl (Nat.le_of_ble_eq_true rfl) d_Mod_known_41 rfl (fun M9 hq => ?_)
        rw [hq]
        exact j_Mod_known_44_22_ok X hD s.1 s.2.1 x4 _ h kc kx0
theorem lp_Mod_known_22_ok {E : Ev} {G : Gw} {d : Nat} {post : Int32 → Mem → Prop} (X : Cx E G b_Mod_known "WomenByTheRoofsModel" 3 d (some .int)) (hD : 403 ≤ d)     (n9 : Nat) (s : Int32 × Int32 × Mem) (x : (Int32 × Mem)) (h : iter (lb_Mod_known_22) n9 s = some x) (kx0 : ∀ x9 : Int32 × Mem, x = x9 → V E (0, 0) G 3 (QI E G post) x9.2 70 [(0, .ref (G.2.2 + 162)), (1, .int x9.1)] []) : V E (0, 0) G 3 (QI E G post) s.2.2 22 [(0, .ref (G.2.2 + 162)), (1, .int s.1), (2, .int s.2.1)] [] :=
  iter_P (P := fun s : Int32 × Int32 × Mem => V E (0, 0) G 3 (QI E G post) s.2.2 22 [(0, .ref (G.2.2 + 162)), (1, .int s.1), (2, .int s.2.1)] []) (fun s o hb kc ky => lb_Mod_known_22_ok X hD  s o hb kc (fun x9 e9 => kx0 x9 (ky _ e9).symm)) n9 s h
def j_Mod_known_70 (v1 : Int32) (M : Mem) : Option (Int32 × Mem) :=
  mem_ (s_i M 162 12 (0 : Int32)) fun M9 =>
  Option.bind (f_Mod_put (M9.1 176 (93 : Int32).toNatClampNeg) M9) fun x10 =>
  some (v1, x10)
theorem j_Mod_known_70_ok {E : Ev} {G : Gw} {d : Nat} {post : Int32 → Mem → Prop} (X : Cx E G b_Mod_known "WomenByTheRoofsModel" 3 d (some .int)) (hD : 403 ≤ d)  (v1 : Int32)  (M : Mem)  (o : Int32 × Mem) (h : j_Mod_known_70 v1 M = some o) (kr : ∀ x9 : Int32 × Mem, o = x9 → post x9.1 x9.2) : V E (0, 0) G 3 (QI E G post) M 70 [(0, .ref (G.2.2 + 162)), (1, .int v1)] [] := by
  unfold j_Mod_known_70 at h
  refine V_aload_n (n := 0) X d_Mod_known_70 rfl rfl rfl ?_
  refine V_iconst (v := 0) X d_Mod_known_71 (by decide) rfl ?_
  obtain ⟨M9, eM9, h⟩ := memS h
  refine V_putI X fp_Mod_112 kd_162 rfl d_Mod_known_72 rfl ?_
  rw [← eM9]
  refine V_aload_n (n := 0) X d_Mod_known_75 rfl rfl rfl ?_
  refine V_aload_n (n := 0) X d_Mod_known_76 rfl rfl rfl ?_
  refine V_getr (k2 := 176) X fo_Mod_60 kd_162 rfl rf_162_34 d_Mod_known_77 rfl ?_
  refine V_bipush (v := 93) X d_Mod_known_80 (by decide) rfl ?_
  refine V_iald X kd_176 (inb_in ln_176 (by decide)) d_Mod_known_82 rfl ?_
  obtain ⟨x10, hx10, h⟩ := ob_s h
  refine V_cv (As := [.int (M9.1 176 (93 : Int32).toNatClampNeg)]) X (Z0 E) ml_Mod_342 yq_Mod_put (c_Mod_put E.2.1 G (M9.1 176 (93 : Int32).toNatClampNeg) M9 x10 hx10 _ (Nat.le_refl _)) kd_162 rfl rfl (by omega) rfl (Nat.le_of_ble_eq_true rfl) d_Mod_known_83 rfl (fun M9 hq => ?_)
  rw [hq]
  refine V_iload_n (n := 1) X d_Mod_known_86 rfl rfl rfl ?_
  exact V_iret X (kr (v1, x10) (Option.some.inj h).symm) d_Mod_known_87
def f_Mod_known (M : Mem) : Option (Int32 × Mem) :=
  mem_ (s_i M 162 13 (0 : Int32)) fun M1 =>
  Option.bind (f_Mod_lay 163 176 (0 : Int32) M1) fun x2 =>
  Option.bind (iter (lb_Mod_known_22) FU ((-2 : Int32), (0 : Int32), x2)) fun x8 =>
  j_Mod_known_70 x8.1 x8.2
theorem c_Mod_known (l : Launch) (G : Gw)   (M : Mem) (x : Int32 × Mem) (h : f_Mod_known M = some x) (d : Nat) (hD : 403 ≤ d) : Ci l G y_Mod_known b_Mod_known 3 (some .int) d [.ref (G.2.2 + 162)] M (fun r9 M9 => r9 = x.1 ∧ M9 = x.2) := by
  refine Ci_of (by decide) (Nat.le_of_ble_eq_true rfl) (fun E hE X => ?_)
  subst hE
  have kr : ∀ x9 : Int32 × Mem, x = x9 → (fun r9 M9 => r9 = x.1 ∧ M9 = x.2) x9.1 x9.2 := fun x9 e9 => by subst e9; exact ⟨rfl, rfl⟩
  unfold f_Mod_known at h
  refine V_aload_n (n := 0) X d_Mod_known_0 rfl rfl rfl ?_
  refine V_iconst (v := 0) X d_Mod_known_1 (by decide) rfl ?_
  obtain ⟨M1, eM1, h⟩ := memS h
  refine V_putI X fp_Mod_109 kd_162 rfl d_Mod_known_2 rfl ?_
  rw [← eM1]
  refine V_aload_n (n := 0) X d_Mod_known_5 rfl rfl rfl ?_
  refine V_getr (k2 := 163) X fo_Mod_9 kd_162 rfl rf_162_0 d_Mod_known_6 rfl ?_
  refine V_aload_n (n := 0) X d_Mod_known_9 rfl rfl rfl ?_
  refine V_getr (k2 := 176) X fo_Mod_60 kd_162 rfl rf_162_34 d_Mod_known_10 rfl ?_
  refine V_iconst (v := 0) X d_Mod_known_13 (by decide) rfl ?_
  obtain ⟨x2, hx2, h⟩ := ob_s h
  refine V_sv (As := [.ref (G.2.2 + 163), .ref (G.2.2 + 176), .int (0 : Int32)]) X (Z0 E) ml_Mod_286 yq_Mod_lay (c_Mod_lay E.2.1 G 163 176 (0 : Int32) M1 x2 hx2 _ (Nat.le_refl _)) rfl (by omega) rfl (Nat.le_of_ble_eq_true rfl) d_Mod_known_14 rfl (fun M9 hq => ?_)
  rw [hq]
  refine V_bipush (v := -2) X d_Mod_known_17 (by decide) rfl ?_
  refine V_istore_n (lv' := [(1, .int (-2 : Int32)), (0, .ref (G.2.2 + 162))]) X d_Mod_known_19 rfl (by decide) rfl rfl ?_
  refine V_iconst (v := 0) X d_Mod_known_20 (by decide) rfl ?_
  refine V_istore_n (lv' := [(2, .int (0 : Int32)), (1, .int (-2 : Int32)), (0, .ref (G.2.2 + 162))]) X d_Mod_known_21 rfl (by decide) rfl rfl ?_
  refine V_sub (lv' := [(0, .ref (G.2.2 + 162)), (1, .int (-2 : Int32)), (2, .int (0 : Int32))]) [2, 1, 0] rfl ?_
  obtain ⟨x8, hx8, h⟩ := ob_s h
  refine (lp_Mod_known_22_ok X hD  _ _ _ hx8 (fun x9 e9 => ?_) :)
  subst e9
  exact j_Mod_known_70_ok X hD x8.1 x8.2 _ h kr
def lb_Mod_gossip_93 (v1 : Int32) (v2 : Int32) (v3 : Int32) (v4 : Int32) (s : Int32 × Mem) : Option ((Int32 × Mem) ⊕ ((Mem))) :=
  if v1 ≤ s.1 then
  some (.inr s.2)
  else
  Option.bind (f_Mod_goMinute 176 s.2) fun x4 =>
  some (.inl ((s.1 + (1 : Int32)), x4))
theorem lb_Mod_gossip_93_ok {E : Ev} {G : Gw} {d : Nat} {post : Int32 → Mem → Prop} (X : Cx E G b_Mod_gossip "WomenByTheRoofsModel" 6 d (some .int)) (hD : 403 ≤ d)  (v1 : Int32) (v2 : Int32) (v3 : Int32) (v4 : Int32)   (s : Int32 × Mem) (o : (Int32 × Mem) ⊕ ((Mem))) (h : lb_Mod_gossip_93 v1 v2 v3 v4 s = some o) (kc : ∀ s9 : Int32 × Mem, o = .inl s9 → V E (0, 0) G 6 (QI E G post) s9.2 93 [(0, .ref (G.2.2 + 162)), (1, .int v1), (2, .int v2), (3, .int v3), (4, .int v4), (5, .int s9.1)] []) (kx0 : ∀ x9 : Mem, o = .inr x9 → V E (0, 0) G 6 (QI E G post) x9 113 [(0, .ref (G.2.2 + 162)), (1, .int v1), (2, .int v2), (3, .int v3), (4, .int v4)] []) : V E (0, 0) G 6 (QI E G post) s.2 93 [(0, .ref (G.2.2 + 162)), (1, .int v1), (2, .int v2), (3, .int v3), (4, .int v4), (5, .int s.1)] [] := by
  unfold lb_Mod_gossip_93 at h
  refine V_iload (n := 5) X d_Mod_gossip_93 rfl rfl ?_
  refine V_iload_n (n := 1) X d_Mod_gossip_95 rfl rfl rfl ?_
  refine V_icmp_ge (tgt := 113) X d_Mod_gossip_96 (by decide) rfl (fun c5 => ?_) (fun c5 => ?_)
  · rw [if_pos c5] at h
    refine V_sub (lv' := [(0, .ref (G.2.2 + 162)), (1, .int v1), (2, .int v2), (3, .int v3), (4, .int v4)]) [0, 1, 2, 3, 4] rfl ?_
    exact kx0 s.2 (Option.some.inj h).symm
  · rw [if_neg c5] at h
    refine V_aload_n (n := 0) X d_Mod_gossip_99 rfl rfl rfl ?_
    refine V_aload_n (n := 0) X d_Mod_gossip_100 rfl rfl rfl ?_
    refine V_getr (k2 := 176) X fo_Mod_60 kd_162 rfl rf_162_34 d_Mod_gossip_101 rfl ?_
    obtain ⟨x4, hx4, h⟩ := ob_s h
    refine V_cv (As := [.ref (G.2.2 + 176)]) X (Z0 E) ml_Mod_339 yq_Mod_goMinute (c_Mod_goMinute E.2.1 G 176 s.2 x4 hx4 _ (Nat.le_refl _)) kd_162 rfl rfl (by omega) rfl (Nat.le_of_ble_eq_true rfl) d_Mod_gossip_104 rfl (fun M9 hq => ?_)
    rw [hq]
    refine V_iinc (n := 5) (v := (s.1 + (1 : Int32))) (lv' := [(5, .int (s.1 + (1 : Int32))), (0, .ref (G.2.2 + 162)), (1, .int v1), (2, .int v2), (3, .int v3), (4, .int v4)]) X d_Mod_gossip_107 rfl rfl (by decide) rfl rfl ?_
    refine V_goto (pc' := 93) X d_Mod_gossip_110 (by decide) ?_
    refine V_sub (lv' := [(0, .ref (G.2.2 + 162)), (1, .int v1), (2, .int v2), (3, .int v3), (4, .int v4), (5, .int (s.1 + (1 : Int32)))]) [1, 2, 3, 4, 5, 0] rfl ?_
    exact kc ((s.1 + (1 : Int32)), x4) (Option.some.inj h).symm
theorem lp_Mod_gossip_93_ok {E : Ev} {G : Gw} {d : Nat} {post : Int32 → Mem → Prop} (X : Cx E G b_Mod_gossip "WomenByTheRoofsModel" 6 d (some .int)) (hD : 403 ≤ d)  (v1 : Int32) (v2 : Int32) (v3 : Int32) (v4 : Int32)   (n9 : Nat) (s : Int32 × Mem) (x : (Mem)) (h : iter (lb_Mod_gossip_93 v1 v2 v3 v4) n9 s = some x) (kx0 : ∀ x9 : Mem, x = x9 → V E (0, 0) G 6 (QI E G post) x9 113 [(0, .ref (G.2.2 + 162)), (1, .int v1), (2, .int v2), (3, .int v3), (4, .int v4)] []) : V E (0, 0) G 6 (QI E G post) s.2 93 [(0, .ref (G.2.2 + 162)), (1, .int v1), (2, .int v2), (3, .int v3), (4, .int v4), (5, .int s.1)] [] :=
  iter_P (P := fun s : Int32 × Mem => V E (0, 0) G 6 (QI E G post) s.2 93 [(0, .ref (G.2.2 + 162)), (1, .int v1), (2, .int v2), (3, .int v3), (4, .int v4), (5, .int s.1)] []) (fun s o hb kc ky => lb_Mod_gossip_93_ok X hD v1 v2 v3 v4 s o hb kc (fun x9 e9 => kx0 x9 (ky _ e9).symm)) n9 s h
def j_Mod_gossip_58_25 (v1 : Int32) (v2 : Int32) (v3 : Int32) (v4 : Int32) (M : Mem) : Option ((Int32 × Int32 × Int32 × Mem) ⊕ ((Int32 × Int32 × Mem))) :=
  Option.bind (f_Mod_lay 163 176 (0 : Int32) M) fun x3 =>
  if v4 = (-1 : Int32) then
  Option.bind (iter (lb_Mod_gossip_93 v1 v2 v3 v4) FU ((0 : Int32), x3)) fun x6 =>
  Option.bind (f_JInteger_bitCount (x6.1 176 (93 : Int32).toNatClampNeg)) fun x7 =>
  if v3 < x7 then
  some (.inl (v4, x7, (v4 + (1 : Int32)), x6))
  else
  some (.inl (v2, v3, (v4 + (1 : Int32)), x6))
  else
  mem_ (s_i x3 176 (93 : Int32).toNatClampNeg ((x3.1 176 (93 : Int32).toNatClampNeg) ||| ((1 : Int32) <<< (v4 &&& 31)))) fun M9 =>
  Option.bind (iter (lb_Mod_gossip_93 v1 v2 v3 v4) FU ((0 : Int32), M9)) fun x10 =>
  Option.bind (f_JInteger_bitCount (x10.1 176 (93 : Int32).toNatClampNeg)) fun x11 =>
  if v3 < x11 then
  some (.inl (v4, x11, (v4 + (1 : Int32)), x10))
  else
  some (.inl (v2, v3, (v4 + (1 : Int32)), x10))
theorem j_Mod_gossip_58_25_ok {E : Ev} {G : Gw} {d : Nat} {post : Int32 → Mem → Prop} (X : Cx E G b_Mod_gossip "WomenByTheRoofsModel" 6 d (some .int)) (hD : 403 ≤ d)  (v1 : Int32) (v2 : Int32) (v3 : Int32) (v4 : Int32)  (M : Mem)  (o : (Int32 × Int32 × Int32 × Mem) ⊕ ((Int32 × Int32 × Mem))) (h : j_Mod_gossip_58_25 v1 v2 v3 v4 M = some o) (kc : ∀ s9 : Int32 × Int32 × Int32 × Mem, o = .inl s9 → V E (0, 0) G 6 (QI E G post) s9.2.2.2 25 [(0, .ref (G.2.2 + 162)), (1, .int v1), (2, .int s9.1), (3, .int s9.2.1), (4, .int s9.2.2.1)] []) (kx0 : ∀ x9 : Int32 × Int32 × Mem, o = .inr x9 → V E (0, 0) G 6 (QI E G post) x9.2.2 146 [(0, .ref (G.2.2 + 162)), (2, .int x9.1), (3, .int x9.2.1)] []) : V E (0, 0) G 6 (QI E G post) M 58 [(0, .ref (G.2.2 + 162)), (1, .int v1), (2, .int v2), (3, .int v3), (4, .int v4)] [] := by
  unfold j_Mod_gossip_58_25 at h
  refine V_aload_n (n := 0) X d_Mod_gossip_58 rfl rfl rfl ?_
  refine V_getr (k2 := 163) X fo_Mod_9 kd_162 rfl rf_162_0 d_Mod_gossip_59 rfl ?_
  refine V_aload_n (n := 0) X d_Mod_gossip_62 rfl rfl rfl ?_
  refine V_getr (k2 := 176) X fo_Mod_60 kd_162 rfl rf_162_34 d_Mod_gossip_63 rfl ?_
  refine V_iconst (v := 0) X d_Mod_gossip_66 (by decide) rfl ?_
  obtain ⟨x3, hx3, h⟩ := ob_s h
  refine V_sv (As := [.ref (G.2.2 + 163), .ref (G.2.2 + 176), .int (0 : Int32)]) X (Z0 E) ml_Mod_286 yq_Mod_lay (c_Mod_lay E.2.1 G 163 176 (0 : Int32) M x3 hx3 _ (Nat.le_refl _)) rfl (by omega) rfl (Nat.le_of_ble_eq_true rfl) d_Mod_gossip_67 rfl (fun M9 hq => ?_)
  rw [hq]
  refine V_iload (n := 4) X d_Mod_gossip_70 rfl rfl ?_
  refine V_iconst (v := -1) X d_Mod_gossip_72 (by decide) rfl ?_
  refine V_icmp_eq (tgt := 90) X d_Mod_gossip_73 (by decide) rfl (fun c13 => ?_) (fun c13 => ?_)
  · rw [if_pos c13] at h
    refine V_iconst (v := 0) X d_Mod_gossip_90 (by decide) rfl ?_
    refine V_istore (lv' := [(5, .int (0 : Int32)), (0, .ref (G.2.2 + 162)), (1, .int v1), (2, .int v2), (3, .int v3), (4, .int v4)]) X d_Mod_gossip_91 (by decide) rfl rfl ?_
    refine V_sub (lv' := [(0, .ref (G.2.2 + 162)), (1, .int v1), (2, .int v2), (3, .int v3), (4, .int v4), (5, .int (0 : Int32))]) [1, 2, 3, 4, 5, 0] rfl ?_
    obtain ⟨x6, hx6, h⟩ := ob_s h
    refine (lp_Mod_gossip_93_ok X hD v1 v2 v3 v4 _ _ _ hx6 (fun x9 e9 => ?_) :)
    subst e9
    refine V_aload_n (n := 0) X d_Mod_gossip_113 rfl rfl rfl ?_
    refine V_getr (k2 := 176) X fo_Mod_60 kd_162 rfl rf_162_34 d_Mod_gossip_114 rfl ?_
    refine V_bipush (v := 93) X d_Mod_gossip_117 (by decide) rfl ?_
    refine V_iald X kd_176 (inb_in ln_176 (by decide)) d_Mod_gossip_119 rfl ?_
    obtain ⟨x7, hx7, h⟩ := ob_s h
    refine V_si (As := [.int (x6.1 176 (93 : Int32).toNatClampNeg)]) X (Z0 E) ml_Mod_310 yq_JInteger_bitCount (c_JInteger_bitCount E.2.1 G (x6.1 176 (93 : Int32).toNatClampNeg) x6 x7 hx7 _ (Nat.le_refl _)) rfl (by omega) rfl (Nat.le_of_ble_eq_true rfl) d_Mod_gossip_120 rfl (fun r9 M9 hq => ?_)
    rw [hq.1, hq.2]
    refine V_istore (lv' := [(5, .int x7), (0, .ref (G.2.2 + 162)), (1, .int v1), (2, .int v2), (3, .int v3), (4, .int v4)]) X d_Mod_gossip_123 (by decide) rfl rfl ?_
    refine V_iload (n := 0) X d_Mod_gossip_125 rfl rfl ?_
    refine V_iload_n (n := 4) X d_Mod_gossip_127 rfl rfl rfl ?_
    refine V_icmp_gt (tgt := 134) X d_Mod_gossip_128 (by decide) rfl (fun c8 => ?_) (fun c8 => ?_)
    · rw [if_pos c8] at h
      refine V_iload (n := 5) X d_Mod_gossip_134 rfl rfl ?_
      refine V_istore_n (lv' := [(2, .int v4), (5, .int x7), (0, .ref (G.2.2 + 162)), (1, .int v1), (3, .int v3), (4, .int v4)]) X d_Mod_gossip_136 rfl (by decide) rfl rfl ?_
      refine V_iload (n := 1) X d_Mod_gossip_137 rfl rfl ?_
      refine V_istore_n (lv' := [(3, .int x7), (2, .int v4), (5, .int x7), (0, .ref (G.2.2 + 162)), (1, .int v1), (4, .int v4)]) X d_Mod_gossip_139 rfl (by decide) rfl rfl ?_
      refine V_iinc (n := 5) (v := (v4 + (1 : Int32))) (lv' := [(4, .int (v4 + (1 : Int32))), (3, .int x7), (2, .int v4), (5, .int x7), (0, .ref (G.2.2 + 162)), (1, .int v1)]) X d_Mod_gossip_140 rfl rfl (by decide) rfl rfl ?_
      refine V_goto (pc' := 25) X d_Mod_gossip_143 (by decide) ?_
      refine V_sub (lv' := [(0, .ref (G.2.2 + 162)), (1, .int v1), (2, .int v4), (3, .int x7), (4, .int (v4 + (1 : Int32)))]) [4, 5, 2, 1, 0] rfl ?_
      exact kc (v4, x7, (v4 + (1 : Int32)), x6) (Option.some.inj h).symm
    · rw [if_neg c8] at h
      refine V_goto (pc' := 140) X d_Mod_gossip_131 (by decide) ?_
      refine V_iinc (n := 5) (v := (v4 + (1 : Int32))) (lv' := [(4, .int (v4 + (1 : Int32))), (5, .int x7), (0, .ref (G.2.2 + 162)), (1, .int v1), (2, .int v2), (3, .int v3)]) X d_Mod_gossip_140 rfl rfl (by decide) rfl rfl ?_
      refine V_goto (pc' := 25) X d_Mod_gossip_143 (by decide) ?_
      refine V_sub (lv' := [(0, .ref (G.2.2 + 162)), (1, .int v1), (2, .int v2), (3, .int v3), (4, .int (v4 + (1 : Int32)))]) [2, 3, 4, 5, 0] rfl ?_
      exact kc (v2, v3, (v4 + (1 : Int32)), x6) (Option.some.inj h).symm
  · rw [if_neg c13] at h
    refine V_aload_n (n := 0) X d_Mod_gossip_76 rfl rfl rfl ?_
    refine V_getr (k2 := 176) X fo_Mod_60 kd_162 rfl rf_162_34 d_Mod_gossip_77 rfl ?_
    refine V_bipush (v := 93) X d_Mod_gossip_80 (by decide) rfl ?_
    refine V_dup2 X d_Mod_gossip_82 rfl rfl rfl ?_
    refine V_iald X kd_176 (inb_in ln_176 (by decide)) d_Mod_gossip_83 rfl ?_
    refine V_iconst (v := 1) X d_Mod_gossip_84 (by decide) rfl ?_
    refine V_iload (n := 4) X d_Mod_gossip_85 rfl rfl ?_
    refine V_ishl X d_Mod_gossip_87 rfl ?_
    refine V_ior X d_Mod_gossip_88 rfl ?_
    obtain ⟨M9, eM9, h⟩ := memS h
    refine V_iast X kd_176 (inb_in ln_176 (by decide)) d_Mod_gossip_89 rfl ?_
    rw [← eM9]
    refine V_iconst (v := 0) X d_Mod_gossip_90 (by decide) rfl ?_
    refine V_istore (lv' := [(5, .int (0 : Int32)), (0, .ref (G.2.2 + 162)), (1, .int v1), (2, .int v2), (3, .int v3), (4, .int v4)]) X d_Mod_gossip_91 (by decide) rfl rfl ?_
    refine V_sub (lv' := [(0, .ref (G.2.2 + 162)), (1, .int v1), (2, .int v2), (3, .int v3), (4, .int v4), (5, .int (0 : Int32))]) [1, 2, 3, 4, 5, 0] rfl ?_
    obtain ⟨x10, hx10, h⟩ := ob_s h
    refine (lp_Mod_gossip_93_ok X hD v1 v2 v3 v4 _ _ _ hx10 (fun x9 e9 => ?_) :)
    subst e9
    refine V_aload_n (n := 0) X d_Mod_gossip_113 rfl rfl rfl ?_
    refine V_getr (k2 := 176) X fo_Mod_60 kd_162 rfl rf_162_34 d_Mod_gossip_114 rfl ?_
    refine V_bipush (v := 93) X d_Mod_gossip_117 (by decide) rfl ?_
    refine V_iald X kd_176 (inb_in ln_176 (by decide)) d_Mod_gossip_119 rfl ?_
    obtain ⟨x11, hx11, h⟩ := ob_s h
    refine V_si (As := [.int (x10.1 176 (93 : Int32).toNatClampNeg)]) X (Z0 E) ml_Mod_310 yq_JInteger_bitCount (c_JInteger_bitCount E.2.1 G (x10.1 176 (93 : Int32).toNatClampNeg) x10 x11 hx11 _ (Nat.le_refl _)) rfl (by omega) rfl (Nat.le_of_ble_eq_true rfl) d_Mod_gossip_120 rfl (fun r9 M9 hq => ?_)
    rw [hq.1, hq.2]
    refine V_istore (lv' := [(5, .int x11), (0, .ref (G.2.2 + 162)), (1, .int v1), (2, .int v2), (3, .int v3), (4, .int v4)]) X d_Mod_gossip_123 (by decide) rfl rfl ?_
    refine V_iload (n := 0) X d_Mod_gossip_125 rfl rfl ?_
    refine V_iload_n (n := 4) X d_Mod_gossip_127 rfl rfl rfl ?_
    refine V_icmp_gt (tgt := 134) X d_Mod_gossip_128 (by decide) rfl (fun c12 => ?_) (fun c12 => ?_)
    · rw [if_pos c12] at h
      refine V_iload (n := 5) X d_Mod_gossip_134 rfl rfl ?_
      refine V_istore_n (lv' := [(2, .int v4), (5, .int x11), (0, .ref (G.2.2 + 162)), (1, .int v1), (3, .int v3), (4, .int v4)]) X d_Mod_gossip_136 rfl (by decide) rfl rfl ?_
      refine V_iload (n := 1) X d_Mod_gossip_137 rfl rfl ?_
      refine V_istore_n (lv' := [(3, .int x11), (2, .int v4), (5, .int x11), (0, .ref (G.2.2 + 162)), (1, .int v1), (4, .int v4)]) X d_Mod_gossip_139 rfl (by decide) rfl rfl ?_
      refine V_iinc (n := 5) (v := (v4 + (1 : Int32))) (lv' := [(4, .int (v4 + (1 : Int32))), (3, .int x11), (2, .int v4), (5, .int x11), (0, .ref (G.2.2 + 162)), (1, .int v1)]) X d_Mod_gossip_140 rfl rfl (by decide) rfl rfl ?_
      refine V_goto (pc' := 25) X d_Mod_gossip_143 (by decide) ?_
      refine V_sub (lv' := [(0, .ref (G.2.2 + 162)), (1, .int v1), (2, .int v4), (3, .int x11), (4, .int (v4 + (1 : Int32)))]) [4, 5, 2, 1, 0] rfl ?_
      exact kc (v4, x11, (v4 + (1 : Int32)), x10) (Option.some.inj h).symm
    · rw [if_neg c12] at h
      refine V_goto (pc' := 140) X d_Mod_gossip_131 (by decide) ?_
      refine V_iinc (n := 5) (v := (v4 + (1 : Int32))) (lv' := [(4, .int (v4 + (1 : Int32))), (5, .int x11), (0, .ref (G.2.2 + 162)), (1, .int v1), (2, .int v2), (3, .int v3)]) X d_Mod_gossip_140 rfl rfl (by decide) rfl rfl ?_
      refine V_goto (pc' := 25) X d_Mod_gossip_143 (by decide) ?_
      refine V_sub (lv' := [(0, .ref (G.2.2 + 162)), (1, .int v1), (2, .int v2), (3, .int v3), (4, .int (v4 + (1 : Int32)))]) [2, 3, 4, 5, 0] rfl ?_
      exact kc (v2, v3, (v4 + (1 : Int32)), x10) (Option.some.inj h).symm
def lb_Mod_gossip_25 (v1 : Int32) (s : Int32 × Int32 × Int32 × Mem) : Option ((Int32 × Int32 × Int32 × Mem) ⊕ ((Int32 × Int32 × Mem))) :=
  if (s.2.2.2.1 162 4) ≤ s.2.2.1 then
  some (.inr (s.1, s.2.1, s.2.2.2))
  else
  if s.2.2.1 = (-1 : Int32) then
  j_Mod_gossip_58_25 v1 s.1 s.2.1 s.2.2.1 s.2.2.2
  else
  Option.bind (f_Mod_has (s.2.2.2.1 163 (93 : Int32).toNatClampNeg) s.2.2.1) fun x14 =>
  if x14 = 0 then
  j_Mod_gossip_58_25 v1 s.1 s.2.1 s.2.2.1 s.2.2.2
  else
  some (.inl (s.1, s.2.1, (s.2.2.1 + (1 : Int32)), s.2.2.2))
theorem lb_Mod_gossip_25_ok {E : Ev} {G : Gw} {d : Nat} {post : Int32 → Mem → Prop} (X : Cx E G b_Mod_gossip "WomenByTheRoofsModel" 6 d (some .int)) (hD : 403 ≤ d)  (v1 : Int32)   (s : Int32 × Int32 × Int32 × Mem) (o : (Int32 × Int32 × Int32 × Mem) ⊕ ((Int32 × Int32 × Mem))) (h : lb_Mod_gossip_25 v1 s = some o) (kc : ∀ s9 : Int32 × Int32 × Int32 × Mem, o = .inl s9 → V E (0, 0) G 6 (QI E G post) s9.2.2.2 25 [(0, .ref (G.2.2 + 162)), (1, .int v1), (2, .int s9.1), (3, .int s9.2.1), (4, .int s9.2.2.1)] []) (kx0 : ∀ x9 : Int32 × Int32 × Mem, o = .inr x9 → V E (0, 0) G 6 (QI E G post) x9.2.2 146 [(0, .ref (G.2.2 + 162)), (2, .int x9.1), (3, .int x9.2.1)] []) : V E (0, 0) G 6 (QI E G post) s.2.2.2 25 [(0, .ref (G.2.2 + 162)), (1, .int v1), (2, .int s.1), (3, .int s.2.1), (4, .int s.2.2.1)] [] := by
  unfold lb_Mod_gossip_25 at h
  refine V_iload (n := 4) X d_Mod_gossip_25 rfl rfl ?_
  refine V_aload_n (n := 0) X d_Mod_gossip_27 rfl rfl rfl ?_
  refine V_geti X fo_Mod_123 kd_162 rfl d_Mod_gossip_28 rfl ?_
  refine V_icmp_ge (tgt := 146) X d_Mod_gossip_31 (by decide) rfl (fun c17 => ?_) (fun c17 => ?_)
  · rw [if_pos c17] at h
    refine V_sub (lv' := [(0, .ref (G.2.2 + 162)), (2, .int s.1), (3, .int s.2.1)]) [0, 2, 3] rfl ?_
    exact kx0 (s.1, s.2.1, s.2.2.2) (Option.some.inj h).symm
  · rw [if_neg c17] at h
    refine V_iload (n := 4) X d_Mod_gossip_34 rfl rfl ?_
    refine V_iconst (v := -1) X d_Mod_gossip_36 (by decide) rfl ?_
    refine V_icmp_eq (tgt := 58) X d_Mod_gossip_37 (by decide) rfl (fun c16 => ?_) (fun c16 => ?_)
    · rw [if_pos c16] at h
      exact j_Mod_gossip_58_25_ok X hD v1 s.1 s.2.1 s.2.2.1 s.2.2.2 _ h kc kx0
    · rw [if_neg c16] at h
      refine V_aload_n (n := 0) X d_Mod_gossip_40 rfl rfl rfl ?_
      refine V_getr (k2 := 163) X fo_Mod_9 kd_162 rfl rf_162_0 d_Mod_gossip_41 rfl ?_
      refine V_bipush (v := 93) X d_Mod_gossip_44 (by decide) rfl ?_
      refine V_iald X kd_163 (inb_in ln_163 (by decide)) d_Mod_gossip_46 rfl ?_
      refine V_iload (n := 4) X d_Mod_gossip_47 rfl rfl ?_
      obtain ⟨x14, hx14, h⟩ := ob_s h
      refine V_si (As := [.int (s.2.2.2.1 163 (93 : Int32).toNatClampNeg), .int s.2.2.1]) X (Z0 E) ml_Mod_133 yq_Mod_has (c_Mod_has E.2.1 G (s.2.2.2.1 163 (93 : Int32).toNatClampNeg) s.2.2.1 s.2.2.2 x14 hx14 _ (Nat.le_refl _)) rfl (by omega) rfl (Nat.le_of_ble_eq_true rfl) d_Mod_gossip_49 rfl (fun r9 M9 hq => ?_)
      rw [hq.1, hq.2]
      refine V_if_eq (tgt := 58) X d_Mod_gossip_52 (by decide) rfl (fun c15 => ?_) (fun c15 => ?_)
      · rw [if_pos c15] at h
        exact j_Mod_gossip_58_25_ok X hD v1 s.1 s.2.1 s.2.2.1 s.2.2.2 _ h kc kx0
      · rw [if_neg c15] at h
        refine V_goto (pc' := 140) X d_Mod_gossip_55 (by decide) ?_
        refine V_iinc (n := 4) (v := (s.2.2.1 + (1 : Int32))) (lv' := [(4, .int (s.2.2.1 + (1 : Int32))), (0, .ref (G.2.2 + 162)), (1, .int v1), (2, .int s.1), (3, .int s.2.1)]) X d_Mod_gossip_140 rfl rfl (by decide) rfl rfl ?_
        refine V_goto (pc' := 25) X d_Mod_gossip_143 (by decide) ?_
        refine V_sub (lv' := [(0, .ref (G.2.2 + 162)), (1, .int v1), (2, .int s.1), (3, .int s.2.1), (4, .int (s.2.2.1 + (1 : Int32)))]) [1, 2, 3, 4, 0] rfl ?_
        exact kc (s.1, s.2.1, (s.2.2.1 + (1 : Int32)), s.2.2.2) (Option.some.inj h).symm
theorem lp_Mod_gossip_25_ok {E : Ev} {G : Gw} {d : Nat} {post : Int32 → Mem → Prop} (X : Cx E G b_Mod_gossip "WomenByTheRoofsModel" 6 d (some .int)) (hD : 403 ≤ d)  (v1 : Int32)   (n9 : Nat) (s : Int32 × Int32 × Int32 × Mem) (x : (Int32 × Int32 × Mem)) (h : iter (lb_Mod_gossip_25 v1) n9 s = some x) (kx0 : ∀ x9 : Int32 × Int32 × Mem, x = x9 → V E (0, 0) G 6 (QI E G post) x9.2.2 146 [(0, .ref (G.2.2 + 162)), (2, .int x9.1), (3, .int x9.2.1)] []) : V E (0, 0) G 6 (QI E G post) s.2.2.2 25 [(0, .ref (G.2.2 + 162)), (1, .int v1), (2, .int s.1), (3, .int s.2.1), (4, .int s.2.2.1)] [] :=
  iter_P (P := fun s : Int32 × Int32 × Int32 × Mem => V E (0, 0) G 6 (QI E G post) s.2.2.2 25 [(0, .ref (G.2.2 + 162)), (1, .int v1), (2, .int s.1), (3, .int s.2.1), (4, .int s.2.2.1)] []) (fun s o hb kc ky => lb_Mod_gossip_25_ok X hD v1 s o hb kc (fun x9 e9 => kx0 x9 (ky _ e9).symm)) n9 s h
def f_Mod_gossip (v1 : Int32) (M : Mem) : Option (Int32 × Mem) :=
  mem_ (s_i M 162 13 (0 : Int32)) fun M1 =>
  Option.bind (f_Mod_in v1 (0 : Int32) (60 : Int32)) fun x2 =>
  if x2 = 0 then
  some ((-2 : Int32), M1)
  else
  Option.bind (iter (lb_Mod_gossip_25 v1) FU ((-1 : Int32), (-1 : Int32), (-1 : Int32), M1)) fun x18 =>
  mem_ (s_i x18.2.2 162 12 (0 : Int32)) fun M19 =>
  Option.bind (f_Mod_put x18.2.1 M19) fun x20 =>
  some (x18.1, x20)
theorem c_Mod_gossip (l : Launch) (G : Gw)  (v1 : Int32) (M : Mem) (x : Int32 × Mem) (h : f_Mod_gossip v1 M = some x) (d : Nat) (hD : 403 ≤ d) : Ci l G y_Mod_gossip b_Mod_gossip 6 (some .int) d [.ref (G.2.2 + 162), .int v1] M (fun r9 M9 => r9 = x.1 ∧ M9 = x.2) := by
  refine Ci_of (by decide) (Nat.le_of_ble_eq_true rfl) (fun E hE X => ?_)
  subst hE
  have kr : ∀ x9 : Int32 × Mem, x = x9 → (fun r9 M9 => r9 = x.1 ∧ M9 = x.2) x9.1 x9.2 := fun x9 e9 => by subst e9; exact ⟨rfl, rfl⟩
  unfold f_Mod_gossip at h
  refine V_aload_n (n := 0) X d_Mod_gossip_0 rfl rfl rfl ?_
  refine V_iconst (v := 0) X d_Mod_gossip_1 (by decide) rfl ?_
  obtain ⟨M1, eM1, h⟩ := memS h
  refine V_putI X fp_Mod_109 kd_162 rfl d_Mod_gossip_2 rfl ?_
  rw [← eM1]
  refine V_iload_n (n := 1) X d_Mod_gossip_5 rfl rfl rfl ?_
  refine V_iconst (v := 0) X d_Mod_gossip_6 (by decide) rfl ?_
  refine V_bipush (v := 60) X d_Mod_gossip_7 (by decide) rfl ?_
  obtain ⟨x2, hx2, h⟩ := ob_s h
  refine V_si (As := [.int v1, .int (0 : Int32), .int (60 : Int32)]) X (Z0 E) ml_Mod_119 yq_Mod_in (c_Mod_in E.2.1 G v1 (0 : Int32) (60 : Int32) M1 x2 hx2 _ (Nat.le_refl _)) rfl (by omega) rfl (Nat.le_of_ble_eq_true rfl) d_Mod_gossip_9 rfl (fun r9 M9 hq => ?_)
  rw [hq.1, hq.2]
  refine V_if_ne (tgt := 18) X d_Mod_gossip_12 (by decide) rfl (fun c21 => ?_) (fun c21 => ?_)
  · rw [if_neg c21] at h
    refine V_iconst (v := -1) X d_Mod_gossip_18 (by decide) rfl ?_
    refine V_istore_n (lv' := [(2, .int (-1 : Int32)), (0, .ref (G.2.2 + 162)), (1, .int v1)]) X d_Mod_gossip_19 rfl (by decide) rfl rfl ?_
    refine V_iconst (v := -1) X d_Mod_gossip_20 (by decide) rfl ?_
    refine V_istore_n (lv' := [(3, .int (-1 : Int32)), (2, .int (-1 : Int32)), (0, .ref (G.2.2 + 162)), (1, .int v1)]) X d_Mod_gossip_21 rfl (by decide) rfl rfl ?_
    refine V_iconst (v := -1) X d_Mod_gossip_22 (by decide) rfl ?_
    refine V_istore (lv' := [(4, .int (-1 : Int32)), (3, .int (-1 : Int32)), (2, .int (-1 : Int32)), (0, .ref (G.2.2 + 162)), (1, .int v1)]) X d_Mod_gossip_23 (by decide) rfl rfl ?_
    refine V_sub (lv' := [(0, .ref (G.2.2 + 162)), (1, .int v1), (2, .int (-1 : Int32)), (3, .int (-1 : Int32)), (4, .int (-1 : Int32))]) [3, 4, 2, 1, 0] rfl ?_
    obtain ⟨x18, hx18, h⟩ := ob_s h
    refine (lp_Mod_gossip_25_ok X hD v1 _ _ _ hx18 (fun x9 e9 => ?_) :)
    subst e9
    refine V_aload_n (n := 0) X d_Mod_gossip_146 rfl rfl rfl ?_
    refine V_iconst (v := 0) X d_Mod_gossip_147 (by decide) rfl ?_
    obtain ⟨M19, eM19, h⟩ := memS h
    refine V_putI X fp_Mod_112 kd_162 rfl d_Mod_gossip_148 rfl ?_
    rw [← eM19]
    refine V_aload_n (n := 0) X d_Mod_gossip_151 rfl rfl rfl ?_
    refine V_iload_n (n := 2) X d_Mod_gossip_152 rfl rfl rfl ?_
    obtain ⟨x20, hx20, h⟩ := ob_s h
    refine V_cv (As := [.int x18.2.1]) X (Z0 E) ml_Mod_342 yq_Mod_put (c_Mod_put E.2.1 G x18.2.1 M19 x20 hx20 _ (Nat.le_refl _)) kd_162 rfl rfl (by omega) rfl (Nat.le_of_ble_eq_true rfl) d_Mod_gossip_153 rfl (fun M9 hq => ?_)
    rw [hq]
    refine V_iload_n (n := 1) X d_Mod_gossip_156 rfl rfl rfl ?_
    exact V_iret X (kr (x18.1, x20) (Option.some.inj h).symm) d_Mod_gossip_157
  · rw [if_pos c21] at h
    refine V_bipush (v := -2) X d_Mod_gossip_15 (by decide) rfl ?_
    exact V_iret X (kr ((-2 : Int32), M1) (Option.some.inj h).symm) d_Mod_gossip_17
def f_Mod_lower (v1 : Int32) (v2 : Int32) (M : Mem) : Option (Int32 × Mem) :=
  if v1 = (-1 : Int32) then
  some ((0 : Int32), M)
  else
  if inb v1 72 = true then
  if v2 < (M.1 177 v1.toNatClampNeg) then
  if inb v1 72 = true then
  mem_ (s_i M 177 v1.toNatClampNeg v2) fun M1 =>
  some ((1 : Int32), M1)
  else none
  else
  some ((0 : Int32), M)
  else none
theorem c_Mod_lower (l : Launch) (G : Gw)  (v1 : Int32) (v2 : Int32) (M : Mem) (x : Int32 × Mem) (h : f_Mod_lower v1 v2 M = some x) (d : Nat) (hD : 1 ≤ d) : Ci l G y_Mod_lower b_Mod_lower 3 (some .boolean) d [.ref (G.2.2 + 162), .int v1, .int v2] M (fun r9 M9 => r9 = x.1 ∧ M9 = x.2) := by
  refine Ci_of (by decide) (Nat.le_of_ble_eq_true rfl) (fun E hE X => ?_)
  subst hE
  have kr : ∀ x9 : Int32 × Mem, x = x9 → (fun r9 M9 => r9 = x.1 ∧ M9 = x.2) x9.1 x9.2 := fun x9 e9 => by subst e9; exact ⟨rfl, rfl⟩
  unfold f_Mod_lower at h
  refine V_iload_n (n := 1) X d_Mod_lower_0 rfl rfl rfl ?_
  refine V_iconst (v := -1) X d_Mod_lower_1 (by decide) rfl ?_
  refine V_icmp_eq (tgt := 15) X d_Mod_lower_2 (by decide) rfl (fun c3 => ?_) (fun c3 => ?_)
  · rw [if_pos c3] at h
    refine V_iconst (v := 0) X d_Mod_lower_15 (by decide) rfl ?_
    exact V_zret X (kr ((0 : Int32), M) (Option.some.inj h).symm) (by decide) d_Mod_lower_16
  · rw [if_neg c3] at h
    refine V_aload_n (n := 0) X d_Mod_lower_5 rfl rfl rfl ?_
    refine V_getr (k2 := 177) X fo_Mod_63 kd_162 rfl rf_162_35 d_Mod_lower_6 rfl ?_
    refine V_iload_n (n := 1) X d_Mod_lower_9 rfl rfl rfl ?_
    obtain ⟨hb, h⟩ := ifn h
    refine V_iald X kd_177 (inb_in ln_177 hb) d_Mod_lower_10 rfl ?_
    refine V_iload_n (n := 2) X d_Mod_lower_11 rfl rfl rfl ?_
    refine V_icmp_gt (tgt := 17) X d_Mod_lower_12 (by decide) rfl (fun c2 => ?_) (fun c2 => ?_)
    · rw [if_pos c2] at h
      refine V_aload_n (n := 0) X d_Mod_lower_17 rfl rfl rfl ?_
      refine V_getr (k2 := 177) X fo_Mod_63 kd_162 rfl rf_162_35 d_Mod_lower_18 rfl ?_
      refine V_iload_n (n := 1) X d_Mod_lower_21 rfl rfl rfl ?_
      refine V_iload_n (n := 2) X d_Mod_lower_22 rfl rfl rfl ?_
      obtain ⟨hb, h⟩ := ifn h
      obtain ⟨M1, eM1, h⟩ := memS h
      refine V_iast X kd_177 (inb_in ln_177 hb) d_Mod_lower_23 rfl ?_
      rw [← eM1]
      refine V_iconst (v := 1) X d_Mod_lower_24 (by decide) rfl ?_
      exact V_zret X (kr ((1 : Int32), M1) (Option.some.inj h).symm) (by decide) d_Mod_lower_25
    · rw [if_neg c2] at h
      refine V_iconst (v := 0) X d_Mod_lower_15 (by decide) rfl ?_
      exact V_zret X (kr ((0 : Int32), M) (Option.some.inj h).symm) (by decide) d_Mod_lower_16
def lb_Mod_spread_34 (v1 : Int32) (v3 : Int32) (s : Int32 × Int32 × Mem) : Option ((Int32 × Int32 × Mem) ⊕ ((Int32 × Mem))) :=
  if (4 : Int32) ≤ s.2.1 then
  some (.inr (s.1, s.2.2))
  else
  Option.bind (f_Mod_go 163 v3 s.2.1 s.2.2) fun x1 =>
  if inb v3 72 = true then
  Option.bind (f_Mod_lower x1 ((s.2.2.1 177 v3.toNatClampNeg) + (1 : Int32)) s.2.2) fun x2 =>
  some (.inl ((s.1 ||| x2.1), (s.2.1 + (1 : Int32)), x2.2))
  else none
theorem lb_Mod_spread_34_ok {E : Ev} {G : Gw} {d : Nat} {post : Mem → Prop} (X : Cx E G b_Mod_spread "WomenByTheRoofsModel" 5 d none) (hD : 5 ≤ d)  (v1 : Int32) (v3 : Int32)   (s : Int32 × Int32 × Mem) (o : (Int32 × Int32 × Mem) ⊕ ((Int32 × Mem))) (h : lb_Mod_spread_34 v1 v3 s = some o) (kc : ∀ s9 : Int32 × Int32 × Mem, o = .inl s9 → V E (0, 0) G 5 (QV E G post) s9.2.2 34 [(0, .ref (G.2.2 + 162)), (1, .int v1), (2, .int s9.1), (3, .int v3), (4, .int s9.2.1)] []) (kx0 : ∀ x9 : Int32 × Mem, o = .inr x9 → V E (0, 0) G 5 (QV E G post) x9.2 72 [(0, .ref (G.2.2 + 162)), (1, .int v1), (2, .int x9.1), (3, .int v3)] []) : V E (0, 0) G 5 (QV E G post) s.2.2 34 [(0, .ref (G.2.2 + 162)), (1, .int v1), (2, .int s.1), (3, .int v3), (4, .int s.2.1)] [] := by
  unfold lb_Mod_spread_34 at h
  refine V_iload (n := 4) X d_Mod_spread_34 rfl rfl ?_
  refine V_iconst (v := 4) X d_Mod_spread_36 (by decide) rfl ?_
  refine V_icmp_ge (tgt := 72) X d_Mod_spread_37 (by decide) rfl (fun c3 => ?_) (fun c3 => ?_)
  · rw [if_pos c3] at h
    refine V_sub (lv' := [(0, .ref (G.2.2 + 162)), (1, .int v1), (2, .int s.1), (3, .int v3)]) [0, 1, 2, 3] rfl ?_
    exact kx0 (s.1, s.2.2) (Option.some.inj h).symm
  · rw [if_neg c3] at h
    refine V_iload_n (n := 2) X d_Mod_spread_40 rfl rfl rfl ?_
    refine V_aload_n (n := 0) X d_Mod_spread_41 rfl rfl rfl ?_
    refine V_aload_n (n := 0) X d_Mod_spread_42 rfl rfl rfl ?_
    refine V_aload_n (n := 0) X d_Mod_spread_43 rfl rfl rfl ?_
    refine V_getr (k2 := 163) X fo_Mod_9 kd_162 rfl rf_162_0 d_Mod_spread_44 rfl ?_
    refine V_iload_n (n := 3) X d_Mod_spread_47 rfl rfl rfl ?_
    refine V_iload (n := 4) X d_Mod_spread_48 rfl rfl ?_
    obtain ⟨x1, hx1, h⟩ := ob_s h
    refine V_ci (As := [.ref (G.2.2 + 163), .int v3, .int s.2.1]) X (Z0 E) ml_Mod_252 yq_Mod_go (c_Mod_go E.2.1 G 163 v3 s.2.1 s.2.2 x1 hx1 _ (Nat.le_refl _)) kd_162 rfl rfl (by omega) rfl (Nat.le_of_ble_eq_true rfl) d_Mod_spread_50 rfl (fun r9 M9 hq => ?_)
    rw [hq.1, hq.2]
    refine V_aload_n (n := 0) X d_Mod_spread_53 rfl rfl rfl ?_
    refine V_getr (k2 := 177) X fo_Mod_63 kd_162 rfl rf_162_35 d_Mod_spread_54 rfl ?_
    refine V_iload_n (n := 3) X d_Mod_spread_57 rfl rfl rfl ?_
    obtain ⟨hb, h⟩ := ifn h
    refine V_iald X kd_177 (inb_in ln_177 hb) d_Mod_spread_58 rfl ?_
    refine V_iconst (v := 1) X d_Mod_spread_59 (by decide) rfl ?_
    refine V_iadd X d_Mod_spread_60 rfl ?_
    obtain ⟨x2, hx2, h⟩ := ob_s h
    refine V_ci (As := [.int x1, .int ((s.2.2.1 177 v3.toNatClampNeg) + (1 : Int32))]) X (Z0 E) ml_Mod_358 yq_Mod_lower (c_Mod_lower E.2.1 G x1 ((s.2.2.1 177 v3.toNatClampNeg) + (1 : Int32)) s.2.2 x2 hx2 _ (Nat.le_refl _)) kd_162 rfl rfl (by omega) rfl (Nat.le_of_ble_eq_true rfl) d_Mod_spread_61 rfl (fun r9 M9 hq => ?_)
    rw [hq.1, hq.2]
    refine V_ior X d_Mod_spread_64 rfl ?_
    refine V_istore_n (lv' := [(2, .int (s.1 ||| x2.1)), (0, .ref (G.2.2 + 162)), (1, .int v1), (3, .int v3), (4, .int s.2.1)]) X d_Mod_spread_65 rfl (by decide) rfl rfl ?_
    refine V_iinc (n := 4) (v := (s.2.1 + (1 : Int32))) (lv' := [(4, .int (s.2.1 + (1 : Int32))), (2, .int (s.1 ||| x2.1)), (0, .ref (G.2.2 + 162)), (1, .int v1), (3, .int v3)]) X d_Mod_spread_66 rfl rfl (by decide) rfl rfl ?_
    refine V_goto (pc' := 34) X d_Mod_spread_69 (by decide) ?_
    refine V_sub (lv' := [(0, .ref (G.2.2 + 162)), (1, .int v1), (2, .int (s.1 ||| x2.1)), (3, .int v3), (4, .int (s.2.1 + (1 : Int32)))]) [2, 3, 1, 4, 0] rfl ?_
    exact kc ((s.1 ||| x2.1), (s.2.1 + (1 : Int32)), x2.2) (Option.some.inj h).symm
theorem lp_Mod_spread_34_ok {E : Ev} {G : Gw} {d : Nat} {post : Mem → Prop} (X : Cx E G b_Mod_spread "WomenByTheRoofsModel" 5 d none) (hD : 5 ≤ d)  (v1 : Int32) (v3 : Int32)   (n9 : Nat) (s : Int32 × Int32 × Mem) (x : (Int32 × Mem)) (h : iter (lb_Mod_spread_34 v1 v3) n9 s = some x) (kx0 : ∀ x9 : Int32 × Mem, x = x9 → V E (0, 0) G 5 (QV E G post) x9.2 72 [(0, .ref (G.2.2 + 162)), (1, .int v1), (2, .int x9.1), (3, .int v3)] []) : V E (0, 0) G 5 (QV E G post) s.2.2 34 [(0, .ref (G.2.2 + 162)), (1, .int v1), (2, .int s.1), (3, .int v3), (4, .int s.2.1)] [] :=
  iter_P (P := fun s : Int32 × Int32 × Mem => V E (0, 0) G 5 (QV E G post) s.2.2 34 [(0, .ref (G.2.2 + 162)), (1, .int v1), (2, .int s.1), (3, .int v3), (4, .int s.2.1)] []) (fun s o hb kc ky => lb_Mod_spread_34_ok X hD v1 v3 s o hb kc (fun x9 e9 => kx0 x9 (ky _ e9).symm)) n9 s h
def lb_Mod_spread_10 (v1 : Int32) (s : Int32 × Int32 × Mem) : Option ((Int32 × Int32 × Mem) ⊕ ((Int32 × Mem))) :=
  if (72 : Int32) ≤ s.2.1 then
  some (.inr (s.1, s.2.2))
  else
  if inb s.2.1 72 = true then
  if (s.2.2.1 177 s.2.1.toNatClampNeg) < (1000000 : Int32) then
  Option.bind (iter (lb_Mod_spread_34 v1 s.2.1) FU (s.1, (0 : Int32), s.2.2)) fun x4 =>
  if v1 = 0 then
  some (.inl (x4.1, (s.2.1 + (1 : Int32)), x4.2))
  else
  Option.bind (f_Mod_cellOf s.2.1) fun x5 =>
  if inb x5 36 = true then
  if (x4.2.1 164 x5.toNatClampNeg) = (3 : Int32) then
  Option.bind (f_Mod_levelOf s.2.1) fun x6 =>
  Option.bind (f_Mod_cellOf s.2.1) fun x7 =>
  Option.bind (f_Mod_placeOf ((1 : Int32) - x6) x7) fun x8 =>
  if inb s.2.1 72 = true then
  Option.bind (f_Mod_lower x8 (x4.2.1 177 s.2.1.toNatClampNeg) x4.2) fun x9 =>
  some (.inl ((x4.1 ||| x9.1), (s.2.1 + (1 : Int32)), x9.2))
  else none
  else
  some (.inl (x4.1, (s.2.1 + (1 : Int32)), x4.2))
  else none
  else
  some (.inl (s.1, (s.2.1 + (1 : Int32)), s.2.2))
  else none
theorem lb_Mod_spread_10_ok {E : Ev} {G : Gw} {d : Nat} {post : Mem → Prop} (X : Cx E G b_Mod_spread "WomenByTheRoofsModel" 5 d none) (hD : 5 ≤ d)  (v1 : Int32)   (s : Int32 × Int32 × Mem) (o : (Int32 × Int32 × Mem) ⊕ ((Int32 × Mem))) (h : lb_Mod_spread_10 v1 s = some o) (kc : ∀ s9 : Int32 × Int32 × Mem, o = .inl s9 → V E (0, 0) G 5 (QV E G post) s9.2.2 10 [(0, .ref (G.2.2 + 162)), (1, .int v1), (2, .int s9.1), (3, .int s9.2.1)] []) (kx0 : ∀ x9 : Int32 × Mem, o = .inr x9 → V E (0, 0) G 5 (QV E G post) x9.2 121 [(0, .ref (G.2.2 + 162)), (1, .int v1), (2, .int x9.1)] []) : V E (0, 0) G 5 (QV E G post) s.2.2 10 [(0, .ref (G.2.2 + 162)), (1, .int v1), (2, .int s.1), (3, .int s.2.1)] [] := by
  unfold lb_Mod_spread_10 at h
  refine V_iload_n (n := 3) X d_Mod_spread_10 rfl rfl rfl ?_
  refine V_bipush (v := 72) X d_Mod_spread_11 (by decide) rfl ?_
  refine V_icmp_ge (tgt := 121) X d_Mod_spread_13 (by decide) rfl (fun c13 => ?_) (fun c13 => ?_)
  · rw [if_pos c13] at h
    refine V_sub (lv' := [(0, .ref (G.2.2 + 162)), (1, .int v1), (2, .int s.1)]) [0, 1, 2] rfl ?_
    exact kx0 (s.1, s.2.2) (Option.some.inj h).symm
  · rw [if_neg c13] at h
    refine V_aload_n (n := 0) X d_Mod_spread_16 rfl rfl rfl ?_
    refine V_getr (k2 := 177) X fo_Mod_63 kd_162 rfl rf_162_35 d_Mod_spread_17 rfl ?_
    refine V_iload_n (n := 3) X d_Mod_spread_20 rfl rfl rfl ?_
    obtain ⟨hb, h⟩ := ifn h
    refine V_iald X kd_177 (inb_in ln_177 hb) d_Mod_spread_21 rfl ?_
    refine V_ldc_w (v := 1000000) X d_Mod_spread_22 kc_Mod_357 rfl ?_
    refine V_icmp_lt (tgt := 31) X d_Mod_spread_25 (by decide) rfl (fun c12 => ?_) (fun c12 => ?_)
    · rw [if_pos c12] at h
      refine V_iconst (v := 0) X d_Mod_spread_31 (by decide) rfl ?_
      refine V_istore (lv' := [(4, .int (0 : Int32)), (0, .ref (G.2.2 + 162)), (1, .int v1), (2, .int s.1), (3, .int s.2.1)]) X d_Mod_spread_32 (by decide) rfl rfl ?_
      refine V_sub (lv' := [(0, .ref (G.2.2 + 162)), (1, .int v1), (2, .int s.1), (3, .int s.2.1), (4, .int (0 : Int32))]) [1, 2, 3, 4, 0] rfl ?_
      obtain ⟨x4, hx4, h⟩ := ob_s h
      refine (lp_Mod_spread_34_ok X hD v1 s.2.1 _ _ _ hx4 (fun x9 e9 => ?_) :)
      subst e9
      refine V_iload_n (n := 1) X d_Mod_spread_72 rfl rfl rfl ?_
      refine V_if_eq (tgt := 115) X d_Mod_spread_73 (by decide) rfl (fun c11 => ?_) (fun c11 => ?_)
      · rw [if_pos c11] at h
        refine V_iinc (n := 3) (v := (s.2.1 + (1 : Int32))) (lv' := [(3, .int (s.2.1 + (1 : Int32))), (0, .ref (G.2.2 + 162)), (1, .int v1), (2, .int x4.1)]) X d_Mod_spread_115 rfl rfl (by decide) rfl rfl ?_
        refine V_goto (pc' := 10) X d_Mod_spread_118 (by decide) ?_
        refine V_sub (lv' := [(0, .ref (G.2.2 + 162)), (1, .int v1), (2, .int x4.1), (3, .int (s.2.1 + (1 : Int32)))]) [1, 2, 3, 0] rfl ?_
        exact kc (x4.1, (s.2.1 + (1 : Int32)), x4.2) (Option.some.inj h).symm
      · rw [if_neg c11] at h
        refine V_aload_n (n := 0) X d_Mod_spread_76 rfl rfl rfl ?_
        refine V_getr (k2 := 164) X fo_Mod_13 kd_162 rfl rf_162_1 d_Mod_spread_77 rfl ?_
        refine V_iload_n (n := 3) X d_Mod_spread_80 rfl rfl rfl ?_
        obtain ⟨x5, hx5, h⟩ := ob_s h
        refine V_si (As := [.int s.2.1]) X (Z0 E) ml_Mod_147 yq_Mod_cellOf (c_Mod_cellOf E.2.1 G s.2.1 x4.2 x5 hx5 _ (Nat.le_refl _)) rfl (by omega) rfl (Nat.le_of_ble_eq_true rfl) d_Mod_spread_81 rfl (fun r9 M9 hq => ?_)
        rw [hq.1, hq.2]
        obtain ⟨hb, h⟩ := ifn h
        refine V_iald X kd_164 (inb_in ln_164 hb) d_Mod_spread_84 rfl ?_
        refine V_iconst (v := 3) X d_Mod_spread_85 (by decide) rfl ?_
        refine V_icmp_ne (tgt := 115) X d_Mod_spread_86 (by decide) rfl (fun c10 => ?_) (fun c10 => ?_)
        · rw [if_neg c10] at h
          refine V_iinc (n := 3) (v := (s.2.1 + (1 : Int32))) (lv' := [(3, .int (s.2.1 + (1 : Int32))), (0, .ref (G.2.2 + 162)), (1, .int v1), (2, .int x4.1)]) X d_Mod_spread_115 rfl rfl (by decide) rfl rfl ?_
          refine V_goto (pc' := 10) X d_Mod_spread_118 (by decide) ?_
          refine V_sub (lv' := [(0, .ref (G.2.2 + 162)), (1, .int v1), (2, .int x4.1), (3, .int (s.2.1 + (1 : Int32)))]) [1, 2, 3, 0] rfl ?_
          exact kc (x4.1, (s.2.1 + (1 : Int32)), x4.2) (Option.some.inj h).symm
        · rw [if_pos c10] at h
          refine V_iload_n (n := 2) X d_Mod_spread_89 rfl rfl rfl ?_
          refine V_aload_n (n := 0) X d_Mod_spread_90 rfl rfl rfl ?_
          refine V_iconst (v := 1) X d_Mod_spread_91 (by decide) rfl ?_
          refine V_iload_n (n := 3) X d_Mod_spread_92 rfl rfl rfl ?_
          obtain ⟨x6, hx6, h⟩ := ob_s h
          refine V_si (As := [.int s.2.1]) X (Z0 E) ml_Mod_143 yq_Mod_levelOf (c_Mod_levelOf E.2.1 G s.2.1 x4.2 x6 hx6 _ (Nat.le_refl _)) rfl (by omega) rfl (Nat.le_of_ble_eq_true rfl) d_Mod_spread_93 rfl (fun r9 M9 hq => ?_)
          rw [hq.1, hq.2]
          refine V_isub X d_Mod_spread_96 rfl ?_
          refine V_iload_n (n := 3) X d_Mod_spread_97 rfl rfl rfl ?_
          obtain ⟨x7, hx7, h⟩ := ob_s h
          refine V_si (As := [.int s.2.1]) X (Z0 E) ml_Mod_147 yq_Mod_cellOf (c_Mod_cellOf E.2.1 G s.2.1 x4.2 x7 hx7 _ (Nat.le_refl _)) rfl (by omega) rfl (Nat.le_of_ble_eq_true rfl) d_Mod_spread_98 rfl (fun r9 M9 hq => ?_)
          rw [hq.1, hq.2]
          obtain ⟨x8, hx8, h⟩ := ob_s h
          refine V_si (As := [.int ((1 : Int32) - x6), .int x7]) X (Z0 E) ml_Mod_154 yq_Mod_placeOf (c_Mod_placeOf E.2.1 G ((1 : Int32) - x6) x7 x4.2 x8 hx8 _ (Nat.le_refl _)) rfl (by omega) rfl (Nat.le_of_ble_eq_true rfl) d_Mod_spread_101 rfl (fun r9 M9 hq => ?_)
          rw [hq.1, hq.2]
          refine V_aload_n (n := 0) X d_Mod_spread_104 rfl rfl rfl ?_
          refine V_getr (k2 := 177) X fo_Mod_63 kd_162 rfl rf_162_35 d_Mod_spread_105 rfl ?_
          refine V_iload_n (n := 3) X d_Mod_spread_108 rfl rfl rfl ?_
          obtain ⟨hb, h⟩ := ifn h
          refine V_iald X kd_177 (inb_in ln_177 hb) d_Mod_spread_109 rfl ?_
          obtain ⟨x9, hx9, h⟩ := ob_s h
          refine V_ci (As := [.int x8, .int (x4.2.1 177 s.2.1.toNatClampNeg)]) X (Z0 E) ml_Mod_358 yq_Mod_lower (c_Mod_lower E.2.1 G x8 (x4.2.1 177 s.2.1.toNatClampNeg) x4.2 x9 hx9 _ (Nat.le_refl _)) kd_162 rfl rfl (by omega) rfl (Nat.le_of_ble_eq_true rfl) d_Mod_spread_110 rfl (fun r9 M9 hq => ?_)
          rw [hq.1, hq.2]
          refine V_ior X d_Mod_spread_113 rfl ?_
          refine V_istore_n (lv' := [(2, .int (x4.1 ||| x9.1)), (0, .ref (G.2.2 + 162)), (1, .int v1), (3, .int s.2.1)]) X d_Mod_spread_114 rfl (by decide) rfl rfl ?_
          refine V_iinc (n := 3) (v := (s.2.1 + (1 : Int32))) (lv' := [(3, .int (s.2.1 + (1 : Int32))), (2, .int (x4.1 ||| x9.1)), (0, .ref (G.2.2 + 162)), (1, .int v1)]) X d_Mod_spread_115 rfl rfl (by decide) rfl rfl ?_
          refine V_goto (pc' := 10) X d_Mod_spread_118 (by decide) ?_
          refine V_sub (lv' := [(0, .ref (G.2.2 + 162)), (1, .int v1), (2, .int (x4.1 ||| x9.1)), (3, .int (s.2.1 + (1 : Int32)))]) [2, 3, 1, 0] rfl ?_
          exact kc ((x4.1 ||| x9.1), (s.2.1 + (1 : Int32)), x9.2) (Option.some.inj h).symm
    · rw [if_neg c12] at h
      refine V_goto (pc' := 115) X d_Mod_spread_28 (by decide) ?_
      refine V_iinc (n := 3) (v := (s.2.1 + (1 : Int32))) (lv' := [(3, .int (s.2.1 + (1 : Int32))), (0, .ref (G.2.2 + 162)), (1, .int v1), (2, .int s.1)]) X d_Mod_spread_115 rfl rfl (by decide) rfl rfl ?_
      refine V_goto (pc' := 10) X d_Mod_spread_118 (by decide) ?_
      refine V_sub (lv' := [(0, .ref (G.2.2 + 162)), (1, .int v1), (2, .int s.1), (3, .int (s.2.1 + (1 : Int32)))]) [1, 2, 3, 0] rfl ?_
      exact kc (s.1, (s.2.1 + (1 : Int32)), s.2.2) (Option.some.inj h).symm
theorem lp_Mod_spread_10_ok {E : Ev} {G : Gw} {d : Nat} {post : Mem → Prop} (X : Cx E G b_Mod_spread "WomenByTheRoofsModel" 5 d none) (hD : 5 ≤ d)  (v1 : Int32)   (n9 : Nat) (s : Int32 × Int32 × Mem) (x : (Int32 × Mem)) (h : iter (lb_Mod_spread_10 v1) n9 s = some x) (kx0 : ∀ x9 : Int32 × Mem, x = x9 → V E (0, 0) G 5 (QV E G post) x9.2 121 [(0, .ref (G.2.2 + 162)), (1, .int v1), (2, .int x9.1)] []) : V E (0, 0) G 5 (QV E G post) s.2.2 10 [(0, .ref (G.2.2 + 162)), (1, .int v1), (2, .int s.1), (3, .int s.2.1)] [] :=
  iter_P (P := fun s : Int32 × Int32 × Mem => V E (0, 0) G 5 (QV E G post) s.2.2 10 [(0, .ref (G.2.2 + 162)), (1, .int v1), (2, .int s.1), (3, .int s.2.1)] []) (fun s o hb kc ky => lb_Mod_spread_10_ok X hD v1 s o hb kc (fun x9 e9 => kx0 x9 (ky _ e9).symm)) n9 s h
def lb_Mod_spread_2 (v1 : Int32) (s : Int32 × Mem) : Option ((Int32 × Mem) ⊕ ((Mem))) :=
  if s.1 = 0 then
  some (.inr s.2)
  else
  Option.bind (iter (lb_Mod_spread_10 v1) FU ((0 : Int32), (0 : Int32), s.2)) fun x14 =>
  some (.inl (x14.1, x14.2))
theorem lb_Mod_spread_2_ok {E : Ev} {G : Gw} {d : Nat} {post : Mem → Prop} (X : Cx E G b_Mod_spread "WomenByTheRoofsModel" 5 d none) (hD : 5 ≤ d)  (v1 : Int32)   (s : Int32 × Mem) (o : (Int32 × Mem) ⊕ ((Mem))) (h : lb_Mod_spread_2 v1 s = some o) (kc : ∀ s9 : Int32 × Mem, o = .inl s9 → V E (0, 0) G 5 (QV E G post) s9.2 2 [(0, .ref (G.2.2 + 162)), (1, .int v1), (2, .int s9.1)] []) (kx0 : ∀ x9 : Mem, o = .inr x9 → V E (0, 0) G 5 (QV E G post) x9 124 [] []) : V E (0, 0) G 5 (QV E G post) s.2 2 [(0, .ref (G.2.2 + 162)), (1, .int v1), (2, .int s.1)] [] := by
  unfold lb_Mod_spread_2 at h
  refine V_iload_n (n := 2) X d_Mod_spread_2 rfl rfl rfl ?_
  refine V_if_eq (tgt := 124) X d_Mod_spread_3 (by decide) rfl (fun c15 => ?_) (fun c15 => ?_)
  · rw [if_pos c15] at h
    refine V_sub (lv' := []) [] rfl ?_
    exact kx0 s.2 (Option.some.inj h).symm
  · rw [if_neg c15] at h
    refine V_iconst (v := 0) X d_Mod_spread_6 (by decide) rfl ?_
    refine V_istore_n (lv' := [(2, .int (0 : Int32)), (0, .ref (G.2.2 + 162)), (1, .int v1)]) X d_Mod_spread_7 rfl (by decide) rfl rfl ?_
    refine V_iconst (v := 0) X d_Mod_spread_8 (by decide) rfl ?_
    refine V_istore_n (lv' := [(3, .int (0 : Int32)), (2, .int (0 : Int32)), (0, .ref (G.2.2 + 162)), (1, .int v1)]) X d_Mod_spread_9 rfl (by decide) rfl rfl ?_
    refine V_sub (lv' := [(0, .ref (G.2.2 + 162)), (1, .int v1), (2, .int (0 : Int32)), (3, .int (0 : Int32))]) [2, 3, 1, 0] rfl ?_
    obtain ⟨x14, hx14, h⟩ := ob_s h
    refine (lp_Mod_spread_10_ok X hD v1 _ _ _ hx14 (fun x9 e9 => ?_) :)
    subst e9
    refine V_goto (pc' := 2) X d_Mod_spread_121 (by decide) ?_
    exact kc (x14.1, x14.2) (Option.some.inj h).symm
theorem lp_Mod_spread_2_ok {E : Ev} {G : Gw} {d : Nat} {post : Mem → Prop} (X : Cx E G b_Mod_spread "WomenByTheRoofsModel" 5 d none) (hD : 5 ≤ d)  (v1 : Int32)   (n9 : Nat) (s : Int32 × Mem) (x : (Mem)) (h : iter (lb_Mod_spread_2 v1) n9 s = some x) (kx0 : ∀ x9 : Mem, x = x9 → V E (0, 0) G 5 (QV E G post) x9 124 [] []) : V E (0, 0) G 5 (QV E G post) s.2 2 [(0, .ref (G.2.2 + 162)), (1, .int v1), (2, .int s.1)] [] :=
  iter_P (P := fun s : Int32 × Mem => V E (0, 0) G 5 (QV E G post) s.2 2 [(0, .ref (G.2.2 + 162)), (1, .int v1), (2, .int s.1)] []) (fun s o hb kc ky => lb_Mod_spread_2_ok X hD v1 s o hb kc (fun x9 e9 => kx0 x9 (ky _ e9).symm)) n9 s h
def f_Mod_spread (v1 : Int32) (M : Mem) : Option (Mem) :=
  Option.bind (iter (lb_Mod_spread_2 v1) FU ((1 : Int32), M)) fun x16 =>
  some x16
theorem c_Mod_spread (l : Launch) (G : Gw)  (v1 : Int32) (M : Mem) (x : Mem) (h : f_Mod_spread v1 M = some x) (d : Nat) (hD : 5 ≤ d) : Cv l G y_Mod_spread b_Mod_spread 5 none d [.ref (G.2.2 + 162), .int v1] M (fun M9 => M9 = x) := by
  refine Cv_of (by decide) (Nat.le_of_ble_eq_true rfl) (fun E hE X => ?_)
  subst hE
  have kr : ∀ x9 : Mem, x = x9 → (fun M9 => M9 = x) x9 := fun x9 e9 => by subst e9; exact rfl
  unfold f_Mod_spread at h
  refine V_iconst (v := 1) X d_Mod_spread_0 (by decide) rfl ?_
  refine V_istore_n (lv' := [(2, .int (1 : Int32)), (0, .ref (G.2.2 + 162)), (1, .int v1)]) X d_Mod_spread_1 rfl (by decide) rfl rfl ?_
  refine V_sub (lv' := [(0, .ref (G.2.2 + 162)), (1, .int v1), (2, .int (1 : Int32))]) [1, 2, 0] rfl ?_
  obtain ⟨x16, hx16, h⟩ := ob_s h
  refine (lp_Mod_spread_2_ok X hD v1 _ _ _ hx16 (fun x9 e9 => ?_) :)
  subst e9
  exact V_vret X (kr x16 (Option.some.inj h).symm) d_Mod_spread_124
def lb_Mod_findFar_2 (v1 : Int32) (s : Int32 × Mem) : Option ((Int32 × Mem) ⊕ ((Mem))) :=
  if (72 : Int32) ≤ s.1 then
  some (.inr s.2)
  else
  if inb s.1 72 = true then
  mem_ (s_i s.2 177 s.1.toNatClampNeg (1000000 : Int32)) fun M1 =>
  some (.inl ((s.1 + (1 : Int32)), M1))
  else none
theorem lb_Mod_findFar_2_ok {E : Ev} {G : Gw} {d : Nat} {post : Mem → Prop} (X : Cx E G b_Mod_findFar "WomenByTheRoofsModel" 3 d none) (hD : 6 ≤ d)  (v1 : Int32)   (s : Int32 × Mem) (o : (Int32 × Mem) ⊕ ((Mem))) (h : lb_Mod_findFar_2 v1 s = some o) (kc : ∀ s9 : Int32 × Mem, o = .inl s9 → V E (0, 0) G 3 (QV E G post) s9.2 2 [(0, .ref (G.2.2 + 162)), (1, .int v1), (2, .int s9.1)] []) (kx0 : ∀ x9 : Mem, o = .inr x9 → V E (0, 0) G 3 (QV E G post) x9 23 [(0, .ref (G.2.2 + 162)), (1, .int v1)] []) : V E (0, 0) G 3 (QV E G post) s.2 2 [(0, .ref (G.2.2 + 162)), (1, .int v1), (2, .int s.1)] [] := by
  unfold lb_Mod_findFar_2 at h
  refine V_iload_n (n := 2) X d_Mod_findFar_2 rfl rfl rfl ?_
  refine V_bipush (v := 72) X d_Mod_findFar_3 (by decide) rfl ?_
  refine V_icmp_ge (tgt := 23) X d_Mod_findFar_5 (by decide) rfl (fun c2 => ?_) (fun c2 => ?_)
  · rw [if_pos c2] at h
    refine V_sub (lv' := [(0, .ref (G.2.2 + 162)), (1, .int v1)]) [0, 1] rfl ?_
    exact kx0 s.2 (Option.some.inj h).symm
  · rw [if_neg c2] at h
    refine V_aload_n (n := 0) X d_Mod_findFar_8 rfl rfl rfl ?_
    refine V_getr (k2 := 177) X fo_Mod_63 kd_162 rfl rf_162_35 d_Mod_findFar_9 rfl ?_
    refine V_iload_n (n := 2) X d_Mod_findFar_12 rfl rfl rfl ?_
    refine V_ldc_w (v := 1000000) X d_Mod_findFar_13 kc_Mod_357 rfl ?_
    obtain ⟨hb, h⟩ := ifn h
    obtain ⟨M1, eM1, h⟩ := memS h
    refine V_iast X kd_177 (inb_in ln_177 hb) d_Mod_findFar_16 rfl ?_
    rw [← eM1]
    refine V_iinc (n := 2) (v := (s.1 + (1 : Int32))) (lv' := [(2, .int (s.1 + (1 : Int32))), (0, .ref (G.2.2 + 162)), (1, .int v1)]) X d_Mod_findFar_17 rfl rfl (by decide) rfl rfl ?_
    refine V_goto (pc' := 2) X d_Mod_findFar_20 (by decide) ?_
    refine V_sub (lv' := [(0, .ref (G.2.2 + 162)), (1, .int v1), (2, .int (s.1 + (1 : Int32)))]) [1, 2, 0] rfl ?_
    exact kc ((s.1 + (1 : Int32)), M1) (Option.some.inj h).symm
theorem lp_Mod_findFar_2_ok {E : Ev} {G : Gw} {d : Nat} {post : Mem → Prop} (X : Cx E G b_Mod_findFar "WomenByTheRoofsModel" 3 d none) (hD : 6 ≤ d)  (v1 : Int32)   (n9 : Nat) (s : Int32 × Mem) (x : (Mem)) (h : iter (lb_Mod_findFar_2 v1) n9 s = some x) (kx0 : ∀ x9 : Mem, x = x9 → V E (0, 0) G 3 (QV E G post) x9 23 [(0, .ref (G.2.2 + 162)), (1, .int v1)] []) : V E (0, 0) G 3 (QV E G post) s.2 2 [(0, .ref (G.2.2 + 162)), (1, .int v1), (2, .int s.1)] [] :=
  iter_P (P := fun s : Int32 × Mem => V E (0, 0) G 3 (QV E G post) s.2 2 [(0, .ref (G.2.2 + 162)), (1, .int v1), (2, .int s.1)] []) (fun s o hb kc ky => lb_Mod_findFar_2_ok X hD v1 s o hb kc (fun x9 e9 => kx0 x9 (ky _ e9).symm)) n9 s h
def f_Mod_findFar (v1 : Int32) (M : Mem) : Option (Mem) :=
  Option.bind (iter (lb_Mod_findFar_2 v1) FU ((0 : Int32), M)) fun x3 =>
  if inb v1 72 = true then
  mem_ (s_i x3 177 v1.toNatClampNeg (0 : Int32)) fun M4 =>
  Option.bind (f_Mod_spread (0 : Int32) M4) fun x5 =>
  some x5
  else none
theorem c_Mod_findFar (l : Launch) (G : Gw)  (v1 : Int32) (M : Mem) (x : Mem) (h : f_Mod_findFar v1 M = some x) (d : Nat) (hD : 6 ≤ d) : Cv l G y_Mod_findFar b_Mod_findFar 3 none d [.ref (G.2.2 + 162), .int v1] M (fun M9 => M9 = x) := by
  refine Cv_of (by decide) (Nat.le_of_ble_eq_true rfl) (fun E hE X => ?_)
  subst hE
  have kr : ∀ x9 : Mem, x = x9 → (fun M9 => M9 = x) x9 := fun x9 e9 => by subst e9; exact rfl
  unfold f_Mod_findFar at h
  refine V_iconst (v := 0) X d_Mod_findFar_0 (by decide) rfl ?_
  refine V_istore_n (lv' := [(2, .int (0 : Int32)), (0, .ref (G.2.2 + 162)), (1, .int v1)]) X d_Mod_findFar_1 rfl (by decide) rfl rfl ?_
  refine V_sub (lv' := [(0, .ref (G.2.2 + 162)), (1, .int v1), (2, .int (0 : Int32))]) [1, 2, 0] rfl ?_
  obtain ⟨x3, hx3, h⟩ := ob_s h
  refine (lp_Mod_findFar_2_ok X hD v1 _ _ _ hx3 (fun x9 e9 => ?_) :)
  subst e9
  refine V_aload_n (n := 0) X d_Mod_findFar_23 rfl rfl rfl ?_
  refine V_getr (k2 := 177) X fo_Mod_63 kd_162 rfl rf_162_35 d_Mod_findFar_24 rfl ?_
  refine V_iload_n (n := 1) X d_Mod_findFar_27 rfl rfl rfl ?_
  refine V_iconst (v := 0) X d_Mod_findFar_28 (by decide) rfl ?_
  obtain ⟨hb, h⟩ := ifn h
  obtain ⟨M4, eM4, h⟩ := memS h
  refine V_iast X kd_177 (inb_in ln_177 hb) d_Mod_findFar_29 rfl ?_
  rw [← eM4]
  refine V_aload_n (n := 0) X d_Mod_findFar_30 rfl rfl rfl ?_
  refine V_iconst (v := 0) X d_Mod_findFar_31 (by decide) rfl ?_
  obtain ⟨x5, hx5, h⟩ := ob_s h
  refine V_cv (As := [.int (0 : Int32)]) X (Z0 E) ml_Mod_361 yq_Mod_spread (c_Mod_spread E.2.1 G (0 : Int32) M4 x5 hx5 _ (Nat.le_refl _)) kd_162 rfl rfl (by omega) rfl (Nat.le_of_ble_eq_true rfl) d_Mod_findFar_32 rfl (fun M9 hq => ?_)
  rw [hq]
  exact V_vret X (kr x5 (Option.some.inj h).symm) d_Mod_findFar_35
def lb_Mod_putCells_16 (v1 : Int32) (s : Int32 × Mem) : Option ((Int32 × Mem) ⊕ ((Mem))) :=
  if (36 : Int32) ≤ s.1 then
  some (.inr s.2)
  else
  Option.bind (f_Mod_placeOf v1 s.1) fun x3 =>
  if inb x3 72 = true then
  if (1000000 : Int32) ≤ (s.2.1 177 x3.toNatClampNeg) then
  some (.inl ((s.1 + (1 : Int32)), s.2))
  else
  if inb (s.1 / (18 : Int32)) 2 = true then
  if inb (s.1 / (18 : Int32)) 2 = true then
  mem_ (s_i s.2 178 (s.1 / (18 : Int32)).toNatClampNeg ((s.2.1 178 (s.1 / (18 : Int32)).toNatClampNeg) ||| ((1 : Int32) <<< ((s.1 - s.1 / (18 : Int32) * (18 : Int32)) &&& 31)))) fun M4 =>
  some (.inl ((s.1 + (1 : Int32)), M4))
  else none
  else none
  else none
theorem lb_Mod_putCells_16_ok {E : Ev} {G : Gw} {d : Nat} {post : Mem → Prop} (X : Cx E G b_Mod_putCells "WomenByTheRoofsModel" 3 d none) (hD : 2 ≤ d)  (v1 : Int32)   (s : Int32 × Mem) (o : (Int32 × Mem) ⊕ ((Mem))) (h : lb_Mod_putCells_16 v1 s = some o) (kc : ∀ s9 : Int32 × Mem, o = .inl s9 → V E (0, 0) G 3 (QV E G post) s9.2 16 [(0, .ref (G.2.2 + 162)), (1, .int v1), (2, .int s9.1)] []) (kx0 : ∀ x9 : Mem, o = .inr x9 → V E (0, 0) G 3 (QV E G post) x9 62 [(0, .ref (G.2.2 + 162))] []) : V E (0, 0) G 3 (QV E G post) s.2 16 [(0, .ref (G.2.2 + 162)), (1, .int v1), (2, .int s.1)] [] := by
  unfold lb_Mod_putCells_16 at h
  refine V_iload_n (n := 2) X d_Mod_putCells_16 rfl rfl rfl ?_
  refine V_bipush (v := 36) X d_Mod_putCells_17 (by decide) rfl ?_
  refine V_icmp_ge (tgt := 62) X d_Mod_putCells_19 (by decide) rfl (fun c6 => ?_) (fun c6 => ?_)
  · rw [if_pos c6] at h
    refine V_sub (lv' := [(0, .ref (G.2.2 + 162))]) [0] rfl ?_
    exact kx0 s.2 (Option.some.inj h).symm
  · rw [if_neg c6] at h
    refine V_aload_n (n := 0) X d_Mod_putCells_22 rfl rfl rfl ?_
    refine V_getr (k2 := 177) X fo_Mod_63 kd_162 rfl rf_162_35 d_Mod_putCells_23 rfl ?_
    refine V_iload_n (n := 1) X d_Mod_putCells_26 rfl rfl rfl ?_
    refine V_iload_n (n := 2) X d_Mod_putCells_27 rfl rfl rfl ?_
    obtain ⟨x3, hx3, h⟩ := ob_s h
    refine V_si (As := [.int v1, .int s.1]) X (Z0 E) ml_Mod_154 yq_Mod_placeOf (c_Mod_placeOf E.2.1 G v1 s.1 s.2 x3 hx3 _ (Nat.le_refl _)) rfl (by omega) rfl (Nat.le_of_ble_eq_true rfl) d_Mod_putCells_28 rfl (fun r9 M9 hq => ?_)
    rw [hq.1, hq.2]
    obtain ⟨hb, h⟩ := ifn h
    refine V_iald X kd_177 (inb_in ln_177 hb) d_Mod_putCells_31 rfl ?_
    refine V_ldc_w (v := 1000000) X d_Mod_putCells_32 kc_Mod_357 rfl ?_
    refine V_icmp_ge (tgt := 56) X d_Mod_putCells_35 (by decide) rfl (fun c5 => ?_) (fun c5 => ?_)
    · rw [if_pos c5] at h
      refine V_iinc (n := 2) (v := (s.1 + (1 : Int32))) (lv' := [(2, .int (s.1 + (1 : Int32))), (0, .ref (G.2.2 + 162)), (1, .int v1)]) X d_Mod_putCells_56 rfl rfl (by decide) rfl rfl ?_
      refine V_goto (pc' := 16) X d_Mod_putCells_59 (by decide) ?_
      refine V_sub (lv' := [(0, .ref (G.2.2 + 162)), (1, .int v1), (2, .int (s.1 + (1 : Int32)))]) [1, 2, 0] rfl ?_
      exact kc ((s.1 + (1 : Int32)), s.2) (Option.some.inj h).symm
    · rw [if_neg c5] at h
      refine V_aload_n (n := 0) X d_Mod_putCells_38 rfl rfl rfl ?_
      refine V_getr (k2 := 178) X fo_Mod_66 kd_162 rfl rf_162_36 d_Mod_putCells_39 rfl ?_
      refine V_iload_n (n := 2) X d_Mod_putCells_42 rfl rfl rfl ?_
      refine V_bipush (v := 18) X d_Mod_putCells_43 (by decide) rfl ?_
      refine V_idiv X d_Mod_putCells_45 (by decide) rfl ?_
      refine V_dup2 X d_Mod_putCells_46 rfl rfl rfl ?_
      obtain ⟨hb, h⟩ := ifn h
      refine V_iald X kd_178 (inb_in ln_178 hb) d_Mod_putCells_47 rfl ?_
      refine V_iconst (v := 1) X d_Mod_putCells_48 (by decide) rfl ?_
      refine V_iload_n (n := 2) X d_Mod_putCells_49 rfl rfl rfl ?_
      refine V_bipush (v := 18) X d_Mod_putCells_50 (by decide) rfl ?_
      refine V_irem X d_Mod_putCells_52 (by decide) rfl ?_
      refine V_ishl X d_Mod_putCells_53 rfl ?_
      refine V_ior X d_Mod_putCells_54 rfl ?_
      obtain ⟨hb, h⟩ := ifn h
      obtain ⟨M4, eM4, h⟩ := memS h
      refine V_iast X kd_178 (inb_in ln_178 hb) d_Mod_putCells_55 rfl ?_
      rw [← eM4]
      refine V_iinc (n := 2) (v := (s.1 + (1 : Int32))) (lv' := [(2, .int (s.1 + (1 : Int32))), (0, .ref (G.2.2 + 162)), (1, .int v1)]) X d_Mod_putCells_56 rfl rfl (by decide) rfl rfl ?_
      refine V_goto (pc' := 16) X d_Mod_putCells_59 (by decide) ?_
      refine V_sub (lv' := [(0, .ref (G.2.2 + 162)), (1, .int v1), (2, .int (s.1 + (1 : Int32)))]) [1, 2, 0] rfl ?_
      exact kc ((s.1 + (1 : Int32)), M4) (Option.some.inj h).symm
theorem lp_Mod_putCells_16_ok {E : Ev} {G : Gw} {d : Nat} {post : Mem → Prop} (X : Cx E G b_Mod_putCells "WomenByTheRoofsModel" 3 d none) (hD : 2 ≤ d)  (v1 : Int32)   (n9 : Nat) (s : Int32 × Mem) (x : (Mem)) (h : iter (lb_Mod_putCells_16 v1) n9 s = some x) (kx0 : ∀ x9 : Mem, x = x9 → V E (0, 0) G 3 (QV E G post) x9 62 [(0, .ref (G.2.2 + 162))] []) : V E (0, 0) G 3 (QV E G post) s.2 16 [(0, .ref (G.2.2 + 162)), (1, .int v1), (2, .int s.1)] [] :=
  iter_P (P := fun s : Int32 × Mem => V E (0, 0) G 3 (QV E G post) s.2 16 [(0, .ref (G.2.2 + 162)), (1, .int v1), (2, .int s.1)] []) (fun s o hb kc ky => lb_Mod_putCells_16_ok X hD v1 s o hb kc (fun x9 e9 => kx0 x9 (ky _ e9).symm)) n9 s h
def f_Mod_putCells (v1 : Int32) (M : Mem) : Option (Mem) :=
  mem_ (s_i M 178 (0 : Int32).toNatClampNeg (0 : Int32)) fun M1 =>
  mem_ (s_i M1 178 (1 : Int32).toNatClampNeg (0 : Int32)) fun M2 =>
  Option.bind (iter (lb_Mod_putCells_16 v1) FU ((0 : Int32), M2)) fun x7 =>
  Option.bind (f_Mod_put (x7.1 178 (0 : Int32).toNatClampNeg) x7) fun x8 =>
  Option.bind (f_Mod_put (x8.1 178 (1 : Int32).toNatClampNeg) x8) fun x9 =>
  some x9
theorem c_Mod_putCells (l : Launch) (G : Gw)  (v1 : Int32) (M : Mem) (x : Mem) (h : f_Mod_putCells v1 M = some x) (d : Nat) (hD : 2 ≤ d) : Cv l G y_Mod_putCells b_Mod_putCells 3 none d [.ref (G.2.2 + 162), .int v1] M (fun M9 => M9 = x) := by
  refine Cv_of (by decide) (Nat.le_of_ble_eq_true rfl) (fun E hE X => ?_)
  subst hE
  have kr : ∀ x9 : Mem, x = x9 → (fun M9 => M9 = x) x9 := fun x9 e9 => by subst e9; exact rfl
  unfold f_Mod_putCells at h
  refine V_aload_n (n := 0) X d_Mod_putCells_0 rfl rfl rfl ?_
  refine V_getr (k2 := 178) X fo_Mod_66 kd_162 rfl rf_162_36 d_Mod_putCells_1 rfl ?_
  refine V_iconst (v := 0) X d_Mod_putCells_4 (by decide) rfl ?_
  refine V_iconst (v := 0) X d_Mod_putCells_5 (by decide) rfl ?_
  obtain ⟨M1, eM1, h⟩ := memS h
  refine V_iast X kd_178 (inb_in ln_178 (by decide)) d_Mod_putCells_6 rfl ?_
  rw [← eM1]
  refine V_aload_n (n := 0) X d_Mod_putCells_7 rfl rfl rfl ?_
  refine V_getr (k2 := 178) X fo_Mod_66 kd_162 rfl rf_162_36 d_Mod_putCells_8 rfl ?_
  refine V_iconst (v := 1) X d_Mod_putCells_11 (by decide) rfl ?_
  refine V_iconst (v := 0) X d_Mod_putCells_12 (by decide) rfl ?_
  obtain ⟨M2, eM2, h⟩ := memS h
  refine V_iast X kd_178 (inb_in ln_178 (by decide)) d_Mod_putCells_13 rfl ?_
  rw [← eM2]
  refine V_iconst (v := 0) X d_Mod_putCells_14 (by decide) rfl ?_
  refine V_istore_n (lv' := [(2, .int (0 : Int32)), (0, .ref (G.2.2 + 162)), (1, .int v1)]) X d_Mod_putCells_15 rfl (by decide) rfl rfl ?_
  refine V_sub (lv' := [(0, .ref (G.2.2 + 162)), (1, .int v1), (2, .int (0 : Int32))]) [1, 2, 0] rfl ?_
  obtain ⟨x7, hx7, h⟩ := ob_s h
  refine (lp_Mod_putCells_16_ok X hD v1 _ _ _ hx7 (fun x9 e9 => ?_) :)
  subst e9
  refine V_aload_n (n := 0) X d_Mod_putCells_62 rfl rfl rfl ?_
  refine V_aload_n (n := 0) X d_Mod_putCells_63 rfl rfl rfl ?_
  refine V_getr (k2 := 178) X fo_Mod_66 kd_162 rfl rf_162_36 d_Mod_putCells_64 rfl ?_
  refine V_iconst (v := 0) X d_Mod_putCells_67 (by decide) rfl ?_
  refine V_iald X kd_178 (inb_in ln_178 (by decide)) d_Mod_putCells_68 rfl ?_
  obtain ⟨x8, hx8, h⟩ := ob_s h
  refine V_cv (As := [.int (x7.1 178 (0 : Int32).toNatClampNeg)]) X (Z0 E) ml_Mod_342 yq_Mod_put (c_Mod_put E.2.1 G (x7.1 178 (0 : Int32).toNatClampNeg) x7 x8 hx8 _ (Nat.le_refl _)) kd_162 rfl rfl (by omega) rfl (Nat.le_of_ble_eq_true rfl) d_Mod_putCells_69 rfl (fun M9 hq => ?_)
  rw [hq]
  refine V_aload_n (n := 0) X d_Mod_putCells_72 rfl rfl rfl ?_
  refine V_aload_n (n := 0) X d_Mod_putCells_73 rfl rfl rfl ?_
  refine V_getr (k2 := 178) X fo_Mod_66 kd_162 rfl rf_162_36 d_Mod_putCells_74 rfl ?_
  refine V_iconst (v := 1) X d_Mod_putCells_77 (by decide) rfl ?_
  refine V_iald X kd_178 (inb_in ln_178 (by decide)) d_Mod_putCells_78 rfl ?_
  obtain ⟨x9, hx9, h⟩ := ob_s h
  refine V_cv (As := [.int (x8.1 178 (1 : Int32).toNatClampNeg)]) X (Z0 E) ml_Mod_342 yq_Mod_put (c_Mod_put E.2.1 G (x8.1 178 (1 : Int32).toNatClampNeg) x8 x9 hx9 _ (Nat.le_refl _)) kd_162 rfl rfl (by omega) rfl (Nat.le_of_ble_eq_true rfl) d_Mod_putCells_79 rfl (fun M9 hq => ?_)
  rw [hq]
  exact V_vret X (kr x9 (Option.some.inj h).symm) d_Mod_putCells_82
def lb_Mod_reached_4 (v1 : Int32) (M : Mem) (s : Int32 × Int32) : Option ((Int32 × Int32) ⊕ ((Int32))) :=
  if (36 : Int32) ≤ s.2 then
  some (.inr s.1)
  else
  Option.bind (f_Mod_placeOf v1 s.2) fun x1 =>
  if inb x1 72 = true then
  if (1000000 : Int32) ≤ (M.1 177 x1.toNatClampNeg) then
  some (.inl ((s.1 + (0 : Int32)), (s.2 + (1 : Int32))))
  else
  some (.inl ((s.1 + (1 : Int32)), (s.2 + (1 : Int32))))
  else none
theorem lb_Mod_reached_4_ok {E : Ev} {G : Gw} {d : Nat} {post : Int32 → Mem → Prop} (X : Cx E G b_Mod_reached "WomenByTheRoofsModel" 4 d (some .int)) (hD : 2 ≤ d)  (v1 : Int32)  (M : Mem) (s : Int32 × Int32) (o : (Int32 × Int32) ⊕ ((Int32))) (h : lb_Mod_reached_4 v1 M s = some o) (kc : ∀ s9 : Int32 × Int32, o = .inl s9 → V E (0, 0) G 4 (QI E G post) M 4 [(0, .ref (G.2.2 + 162)), (1, .int v1), (2, .int s9.1), (3, .int s9.2)] []) (kx0 : ∀ x9 : Int32, o = .inr x9 → V E (0, 0) G 4 (QI E G post) M 40 [(2, .int x9)] []) : V E (0, 0) G 4 (QI E G post) M 4 [(0, .ref (G.2.2 + 162)), (1, .int v1), (2, .int s.1), (3, .int s.2)] [] := by
  unfold lb_Mod_reached_4 at h
  refine V_iload_n (n := 3) X d_Mod_reached_4 rfl rfl rfl ?_
  refine V_bipush (v := 36) X d_Mod_reached_5 (by decide) rfl ?_
  refine V_icmp_ge (tgt := 40) X d_Mod_reached_7 (by decide) rfl (fun c3 => ?_) (fun c3 => ?_)
  · rw [if_pos c3] at h
    refine V_sub (lv' := [(2, .int s.1)]) [2] rfl ?_
    exact kx0 s.1 (Option.some.inj h).symm
  · rw [if_neg c3] at h
    refine V_iload_n (n := 2) X d_Mod_reached_10 rfl rfl rfl ?_
    refine V_aload_n (n := 0) X d_Mod_reached_11 rfl rfl rfl ?_
    refine V_getr (k2 := 177) X fo_Mod_63 kd_162 rfl rf_162_35 d_Mod_reached_12 rfl ?_
    refine V_iload_n (n := 1) X d_Mod_reached_15 rfl rfl rfl ?_
    refine V_iload_n (n := 3) X d_Mod_reached_16 rfl rfl rfl ?_
    obtain ⟨x1, hx1, h⟩ := ob_s h
    refine V_si (As := [.int v1, .int s.2]) X (Z0 E) ml_Mod_154 yq_Mod_placeOf (c_Mod_placeOf E.2.1 G v1 s.2 M x1 hx1 _ (Nat.le_refl _)) rfl (by omega) rfl (Nat.le_of_ble_eq_true rfl) d_Mod_reached_17 rfl (fun r9 M9 hq => ?_)
    rw [hq.1, hq.2]
    obtain ⟨hb, h⟩ := ifn h
    refine V_iald X kd_177 (inb_in ln_177 hb) d_Mod_reached_20 rfl ?_
    refine V_ldc_w (v := 1000000) X d_Mod_reached_21 kc_Mod_357 rfl ?_
    refine V_icmp_ge (tgt := 31) X d_Mod_reached_24 (by decide) rfl (fun c2 => ?_) (fun c2 => ?_)
    · rw [if_pos c2] at h
      refine V_iconst (v := 0) X d_Mod_reached_31 (by decide) rfl ?_
      refine V_iadd X d_Mod_reached_32 rfl ?_
      refine V_istore_n (lv' := [(2, .int (s.1 + (0 : Int32))), (0, .ref (G.2.2 + 162)), (1, .int v1), (3, .int s.2)]) X d_Mod_reached_33 rfl (by decide) rfl rfl ?_
      refine V_iinc (n := 3) (v := (s.2 + (1 : Int32))) (lv' := [(3, .int (s.2 + (1 : Int32))), (2, .int (s.1 + (0 : Int32))), (0, .ref (G.2.2 + 162)), (1, .int v1)]) X d_Mod_reached_34 rfl rfl (by decide) rfl rfl ?_
      refine V_goto (pc' := 4) X d_Mod_reached_37 (by decide) ?_
      refine V_sub (lv' := [(0, .ref (G.2.2 + 162)), (1, .int v1), (2, .int (s.1 + (0 : Int32))), (3, .int (s.2 + (1 : Int32)))]) [2, 3, 1, 0] rfl ?_
      exact kc ((s.1 + (0 : Int32)), (s.2 + (1 : Int32))) (Option.some.inj h).symm
    · rw [if_neg c2] at h
      refine V_iconst (v := 1) X d_Mod_reached_27 (by decide) rfl ?_
      refine V_goto (pc' := 32) X d_Mod_reached_28 (by decide) ?_
      refine V_iadd X d_Mod_reached_32 rfl ?_
      refine V_istore_n (lv' := [(2, .int (s.1 + (1 : Int32))), (0, .ref (G.2.2 + 162)), (1, .int v1), (3, .int s.2)]) X d_Mod_reached_33 rfl (by decide) rfl rfl ?_
      refine V_iinc (n := 3) (v := (s.2 + (1 : Int32))) (lv' := [(3, .int (s.2 + (1 : Int32))), (2, .int (s.1 + (1 : Int32))), (0, .ref (G.2.2 + 162)), (1, .int v1)]) X d_Mod_reached_34 rfl rfl (by decide) rfl rfl ?_
      refine V_goto (pc' := 4) X d_Mod_reached_37 (by decide) ?_
      refine V_sub (lv' := [(0, .ref (G.2.2 + 162)), (1, .int v1), (2, .int (s.1 + (1 : Int32))), (3, .int (s.2 + (1 : Int32)))]) [2, 3, 1, 0] rfl ?_
      exact kc ((s.1 + (1 : Int32)), (s.2 + (1 : Int32))) (Option.some.inj h).symm
theorem lp_Mod_reached_4_ok {E : Ev} {G : Gw} {d : Nat} {post : Int32 → Mem → Prop} (X : Cx E G b_Mod_reached "WomenByTheRoofsModel" 4 d (some .int)) (hD : 2 ≤ d)  (v1 : Int32)  (M : Mem) (n9 : Nat) (s : Int32 × Int32) (x : (Int32)) (h : iter (lb_Mod_reached_4 v1 M) n9 s = some x) (kx0 : ∀ x9 : Int32, x = x9 → V E (0, 0) G 4 (QI E G post) M 40 [(2, .int x9)] []) : V E (0, 0) G 4 (QI E G post) M 4 [(0, .ref (G.2.2 + 162)), (1, .int v1), (2, .int s.1), (3, .int s.2)] [] :=
  iter_P (P := fun s : Int32 × Int32 => V E (0, 0) G 4 (QI E G post) M 4 [(0, .ref (G.2.2 + 162)), (1, .int v1), (2, .int s.1), (3, .int s.2)] []) (fun s o hb kc ky => lb_Mod_reached_4_ok X hD v1 M s o hb kc (fun x9 e9 => kx0 x9 (ky _ e9).symm)) n9 s h
def f_Mod_reached (v1 : Int32) (M : Mem) : Option (Int32) :=
  Option.bind (iter (lb_Mod_reached_4 v1 M) FU ((0 : Int32), (0 : Int32))) fun x4 =>
  some x4
theorem c_Mod_reached (l : Launch) (G : Gw)  (v1 : Int32) (M : Mem) (x : Int32) (h : f_Mod_reached v1 M = some x) (d : Nat) (hD : 2 ≤ d) : Ci l G y_Mod_reached b_Mod_reached 4 (some .int) d [.ref (G.2.2 + 162), .int v1] M (fun r9 M9 => r9 = x ∧ M9 = M) := by
  refine Ci_of (by decide) (Nat.le_of_ble_eq_true rfl) (fun E hE X => ?_)
  subst hE
  have kr : ∀ x9 : Int32, x = x9 → (fun r9 M9 => r9 = x ∧ M9 = M) x9 M := fun x9 e9 => by subst e9; exact ⟨rfl, rfl⟩
  unfold f_Mod_reached at h
  refine V_iconst (v := 0) X d_Mod_reached_0 (by decide) rfl ?_
  refine V_istore_n (lv' := [(2, .int (0 : Int32)), (0, .ref (G.2.2 + 162)), (1, .int v1)]) X d_Mod_reached_1 rfl (by decide) rfl rfl ?_
  refine V_iconst (v := 0) X d_Mod_reached_2 (by decide) rfl ?_
  refine V_istore_n (lv' := [(3, .int (0 : Int32)), (2, .int (0 : Int32)), (0, .ref (G.2.2 + 162)), (1, .int v1)]) X d_Mod_reached_3 rfl (by decide) rfl rfl ?_
  refine V_sub (lv' := [(0, .ref (G.2.2 + 162)), (1, .int v1), (2, .int (0 : Int32)), (3, .int (0 : Int32))]) [2, 3, 1, 0] rfl ?_
  obtain ⟨x4, hx4, h⟩ := ob_s h
  refine (lp_Mod_reached_4_ok X hD v1 M _ _ _ hx4 (fun x9 e9 => ?_) :)
  subst e9
  refine V_iload_n (n := 0) X d_Mod_reached_40 rfl rfl rfl ?_
  exact V_iret X (kr x4 (Option.some.inj h).symm) d_Mod_reached_41
