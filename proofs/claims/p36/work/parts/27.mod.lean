theorem d_Mod_wardrobe_0 : decode b_Mod_wardrobe 0 = .ok (.aload_n 0, 1) := kq_42 byq_r (by decide +kernel)
theorem d_Mod_wardrobe_1 : decode b_Mod_wardrobe 1 = .ok (.iconst 0, 1) := kq_3 byq_r (by decide +kernel)
theorem d_Mod_wardrobe_2 : decode b_Mod_wardrobe 2 = .ok (.putfield 109, 3) := kq_181 byq_r (a := 0) (b := 109) (by decide +kernel)
theorem d_Mod_wardrobe_5 : decode b_Mod_wardrobe 5 = .ok (.aload_n 0, 1) := kq_42 byq_r (by decide +kernel)
theorem d_Mod_wardrobe_6 : decode b_Mod_wardrobe 6 = .ok (.iload_n 1, 1) := kq_27 byq_r (by decide +kernel)
theorem d_Mod_wardrobe_7 : decode b_Mod_wardrobe 7 = .ok (.invokevirtual 137, 3) := kq_182 byq_r (a := 0) (b := 137) (by decide +kernel)
theorem d_Mod_wardrobe_10 : decode b_Mod_wardrobe 10 = .ok (.ifCond .eq 31, 3) := kq_153 byq_r (a := 0) (b := 31) (by decide +kernel)
theorem d_Mod_wardrobe_13 : decode b_Mod_wardrobe 13 = .ok (.aload_n 0, 1) := kq_42 byq_r (by decide +kernel)
theorem d_Mod_wardrobe_14 : decode b_Mod_wardrobe 14 = .ok (.iload_n 2, 1) := kq_28 byq_r (by decide +kernel)
theorem d_Mod_wardrobe_15 : decode b_Mod_wardrobe 15 = .ok (.invokevirtual 137, 3) := kq_182 byq_r (a := 0) (b := 137) (by decide +kernel)
theorem d_Mod_wardrobe_18 : decode b_Mod_wardrobe 18 = .ok (.ifCond .eq 23, 3) := kq_153 byq_r (a := 0) (b := 23) (by decide +kernel)
theorem d_Mod_wardrobe_21 : decode b_Mod_wardrobe 21 = .ok (.aload_n 0, 1) := kq_42 byq_r (by decide +kernel)
theorem d_Mod_wardrobe_22 : decode b_Mod_wardrobe 22 = .ok (.getfield 13, 3) := kq_180 byq_r (a := 0) (b := 13) (by decide +kernel)
theorem d_Mod_wardrobe_25 : decode b_Mod_wardrobe 25 = .ok (.iload_n 1, 1) := kq_27 byq_r (by decide +kernel)
theorem d_Mod_wardrobe_26 : decode b_Mod_wardrobe 26 = .ok (.iaload, 1) := kq_46 byq_r (by decide +kernel)
theorem d_Mod_wardrobe_27 : decode b_Mod_wardrobe 27 = .ok (.iconst 3, 1) := kq_6 byq_r (by decide +kernel)
theorem d_Mod_wardrobe_28 : decode b_Mod_wardrobe 28 = .ok (.if_icmp .ne 13, 3) := kq_160 byq_r (a := 0) (b := 13) (by decide +kernel)
theorem d_Mod_wardrobe_31 : decode b_Mod_wardrobe 31 = .ok (.aload_n 0, 1) := kq_42 byq_r (by decide +kernel)
theorem d_Mod_wardrobe_32 : decode b_Mod_wardrobe 32 = .ok (.getfield 13, 3) := kq_180 byq_r (a := 0) (b := 13) (by decide +kernel)
theorem d_Mod_wardrobe_35 : decode b_Mod_wardrobe 35 = .ok (.iload_n 2, 1) := kq_28 byq_r (by decide +kernel)
theorem d_Mod_wardrobe_36 : decode b_Mod_wardrobe 36 = .ok (.iaload, 1) := kq_46 byq_r (by decide +kernel)
theorem d_Mod_wardrobe_37 : decode b_Mod_wardrobe 37 = .ok (.iconst 3, 1) := kq_6 byq_r (by decide +kernel)
theorem d_Mod_wardrobe_38 : decode b_Mod_wardrobe 38 = .ok (.if_icmp .eq 5, 3) := kq_159 byq_r (a := 0) (b := 5) (by decide +kernel)
theorem d_Mod_wardrobe_41 : decode b_Mod_wardrobe 41 = .ok (.iconst (-1), 1) := kq_2 byq_r (by decide +kernel)
theorem d_Mod_wardrobe_42 : decode b_Mod_wardrobe 42 = .ok (.ireturn, 1) := kq_172 byq_r (by decide +kernel)
theorem d_Mod_wardrobe_43 : decode b_Mod_wardrobe 43 = .ok (.iconst 0, 1) := kq_3 byq_r (by decide +kernel)
theorem d_Mod_wardrobe_44 : decode b_Mod_wardrobe 44 = .ok (.istore_n 3, 1) := kq_62 byq_r (by decide +kernel)
theorem d_Mod_wardrobe_45 : decode b_Mod_wardrobe 45 = .ok (.iload_n 3, 1) := kq_29 byq_r (by decide +kernel)
theorem d_Mod_wardrobe_46 : decode b_Mod_wardrobe 46 = .ok (.sipush 1296, 3) := kq_17 byq_r (a := 5) (b := 16) (by decide +kernel)
theorem d_Mod_wardrobe_49 : decode b_Mod_wardrobe 49 = .ok (.if_icmp .ge 18, 3) := kq_162 byq_r (a := 0) (b := 18) (by decide +kernel)
theorem d_Mod_wardrobe_52 : decode b_Mod_wardrobe 52 = .ok (.aload_n 0, 1) := kq_42 byq_r (by decide +kernel)
theorem d_Mod_wardrobe_53 : decode b_Mod_wardrobe 53 = .ok (.getfield 88, 3) := kq_180 byq_r (a := 0) (b := 88) (by decide +kernel)
theorem d_Mod_wardrobe_56 : decode b_Mod_wardrobe 56 = .ok (.iload_n 3, 1) := kq_29 byq_r (by decide +kernel)
theorem d_Mod_wardrobe_57 : decode b_Mod_wardrobe 57 = .ok (.ldc_w 357, 3) := kq_19 byq_r (a := 1) (b := 101) (by decide +kernel)
theorem d_Mod_wardrobe_60 : decode b_Mod_wardrobe 60 = .ok (.iastore, 1) := kq_79 byq_r (by decide +kernel)
theorem d_Mod_wardrobe_61 : decode b_Mod_wardrobe 61 = .ok (.iinc 3 1, 3) := kq_132 byq_r (b := 1) (by decide +kernel)
theorem d_Mod_wardrobe_64 : decode b_Mod_wardrobe 64 = .ok (.goto (-19), 3) := kq_167 byq_r (a := 255) (b := 237) (by decide +kernel)
theorem d_Mod_wardrobe_67 : decode b_Mod_wardrobe 67 = .ok (.aload_n 0, 1) := kq_42 byq_r (by decide +kernel)
theorem d_Mod_wardrobe_68 : decode b_Mod_wardrobe 68 = .ok (.getfield 88, 3) := kq_180 byq_r (a := 0) (b := 88) (by decide +kernel)
theorem d_Mod_wardrobe_71 : decode b_Mod_wardrobe 71 = .ok (.bipush 36, 2) := kq_16 byq_r (b := 36) (by decide +kernel)
theorem d_Mod_wardrobe_73 : decode b_Mod_wardrobe 73 = .ok (.iload_n 2, 1) := kq_28 byq_r (by decide +kernel)
theorem d_Mod_wardrobe_74 : decode b_Mod_wardrobe 74 = .ok (.imul, 1) := kq_104 byq_r (by decide +kernel)
theorem d_Mod_wardrobe_75 : decode b_Mod_wardrobe 75 = .ok (.iload_n 2, 1) := kq_28 byq_r (by decide +kernel)
theorem d_Mod_wardrobe_76 : decode b_Mod_wardrobe 76 = .ok (.iadd, 1) := kq_96 byq_r (by decide +kernel)
theorem d_Mod_wardrobe_77 : decode b_Mod_wardrobe 77 = .ok (.iconst 0, 1) := kq_3 byq_r (by decide +kernel)
theorem d_Mod_wardrobe_78 : decode b_Mod_wardrobe 78 = .ok (.iastore, 1) := kq_79 byq_r (by decide +kernel)
theorem d_Mod_wardrobe_79 : decode b_Mod_wardrobe 79 = .ok (.iconst 1, 1) := kq_4 byq_r (by decide +kernel)
theorem d_Mod_wardrobe_80 : decode b_Mod_wardrobe 80 = .ok (.istore_n 3, 1) := kq_62 byq_r (by decide +kernel)
theorem d_Mod_wardrobe_81 : decode b_Mod_wardrobe 81 = .ok (.iconst 0, 1) := kq_3 byq_r (by decide +kernel)
theorem d_Mod_wardrobe_82 : decode b_Mod_wardrobe 82 = .ok (.istore 4, 2) := kq_54 byq_r (by decide +kernel)
theorem d_Mod_wardrobe_84 : decode b_Mod_wardrobe 84 = .ok (.iload_n 3, 1) := kq_29 byq_r (by decide +kernel)
theorem d_Mod_wardrobe_85 : decode b_Mod_wardrobe 85 = .ok (.ifCond .eq 144, 3) := kq_153 byq_r (a := 0) (b := 144) (by decide +kernel)
theorem d_Mod_wardrobe_88 : decode b_Mod_wardrobe 88 = .ok (.iconst 0, 1) := kq_3 byq_r (by decide +kernel)
theorem d_Mod_wardrobe_89 : decode b_Mod_wardrobe 89 = .ok (.istore_n 3, 1) := kq_62 byq_r (by decide +kernel)
theorem d_Mod_wardrobe_90 : decode b_Mod_wardrobe 90 = .ok (.iconst 0, 1) := kq_3 byq_r (by decide +kernel)
theorem d_Mod_wardrobe_91 : decode b_Mod_wardrobe 91 = .ok (.istore 5, 2) := kq_54 byq_r (by decide +kernel)
theorem d_Mod_wardrobe_93 : decode b_Mod_wardrobe 93 = .ok (.iload 5, 2) := kq_21 byq_r (by decide +kernel)
theorem d_Mod_wardrobe_95 : decode b_Mod_wardrobe 95 = .ok (.aload_n 0, 1) := kq_42 byq_r (by decide +kernel)
theorem d_Mod_wardrobe_96 : decode b_Mod_wardrobe 96 = .ok (.invokevirtual 115, 3) := kq_182 byq_r (a := 0) (b := 115) (by decide +kernel)
theorem d_Mod_wardrobe_99 : decode b_Mod_wardrobe 99 = .ok (.if_icmp .ge 124, 3) := kq_162 byq_r (a := 0) (b := 124) (by decide +kernel)
theorem d_Mod_wardrobe_102 : decode b_Mod_wardrobe 102 = .ok (.iconst 0, 1) := kq_3 byq_r (by decide +kernel)
theorem d_Mod_wardrobe_103 : decode b_Mod_wardrobe 103 = .ok (.istore 6, 2) := kq_54 byq_r (by decide +kernel)
theorem d_Mod_wardrobe_105 : decode b_Mod_wardrobe 105 = .ok (.iload 6, 2) := kq_21 byq_r (by decide +kernel)
theorem d_Mod_wardrobe_107 : decode b_Mod_wardrobe 107 = .ok (.aload_n 0, 1) := kq_42 byq_r (by decide +kernel)
theorem d_Mod_wardrobe_108 : decode b_Mod_wardrobe 108 = .ok (.invokevirtual 115, 3) := kq_182 byq_r (a := 0) (b := 115) (by decide +kernel)
theorem d_Mod_wardrobe_111 : decode b_Mod_wardrobe 111 = .ok (.if_icmp .ge 106, 3) := kq_162 byq_r (a := 0) (b := 106) (by decide +kernel)
theorem d_Mod_wardrobe_114 : decode b_Mod_wardrobe 114 = .ok (.aload_n 0, 1) := kq_42 byq_r (by decide +kernel)
theorem d_Mod_wardrobe_115 : decode b_Mod_wardrobe 115 = .ok (.getfield 88, 3) := kq_180 byq_r (a := 0) (b := 88) (by decide +kernel)
theorem d_Mod_wardrobe_118 : decode b_Mod_wardrobe 118 = .ok (.bipush 36, 2) := kq_16 byq_r (b := 36) (by decide +kernel)
theorem d_Mod_wardrobe_120 : decode b_Mod_wardrobe 120 = .ok (.iload 5, 2) := kq_21 byq_r (by decide +kernel)
theorem d_Mod_wardrobe_122 : decode b_Mod_wardrobe 122 = .ok (.imul, 1) := kq_104 byq_r (by decide +kernel)
theorem d_Mod_wardrobe_123 : decode b_Mod_wardrobe 123 = .ok (.iload 6, 2) := kq_21 byq_r (by decide +kernel)
theorem d_Mod_wardrobe_125 : decode b_Mod_wardrobe 125 = .ok (.iadd, 1) := kq_96 byq_r (by decide +kernel)
theorem d_Mod_wardrobe_126 : decode b_Mod_wardrobe 126 = .ok (.iaload, 1) := kq_46 byq_r (by decide +kernel)
theorem d_Mod_wardrobe_127 : decode b_Mod_wardrobe 127 = .ok (.iload 4, 2) := kq_21 byq_r (by decide +kernel)
theorem d_Mod_wardrobe_129 : decode b_Mod_wardrobe 129 = .ok (.if_icmp .eq 6, 3) := kq_159 byq_r (a := 0) (b := 6) (by decide +kernel)
theorem d_Mod_wardrobe_132 : decode b_Mod_wardrobe 132 = .ok (.goto 79, 3) := kq_167 byq_r (a := 0) (b := 79) (by decide +kernel)
theorem d_Mod_wardrobe_135 : decode b_Mod_wardrobe 135 = .ok (.iconst 0, 1) := kq_3 byq_r (by decide +kernel)
theorem d_Mod_wardrobe_136 : decode b_Mod_wardrobe 136 = .ok (.istore 7, 2) := kq_54 byq_r (by decide +kernel)
theorem d_Mod_wardrobe_138 : decode b_Mod_wardrobe 138 = .ok (.iload 7, 2) := kq_21 byq_r (by decide +kernel)
theorem d_Mod_wardrobe_140 : decode b_Mod_wardrobe 140 = .ok (.bipush 45, 2) := kq_16 byq_r (b := 45) (by decide +kernel)
theorem d_Mod_wardrobe_142 : decode b_Mod_wardrobe 142 = .ok (.if_icmp .ge 69, 3) := kq_162 byq_r (a := 0) (b := 69) (by decide +kernel)
theorem d_Mod_wardrobe_145 : decode b_Mod_wardrobe 145 = .ok (.iload 7, 2) := kq_21 byq_r (by decide +kernel)
theorem d_Mod_wardrobe_147 : decode b_Mod_wardrobe 147 = .ok (.bipush 10, 2) := kq_16 byq_r (b := 10) (by decide +kernel)
theorem d_Mod_wardrobe_149 : decode b_Mod_wardrobe 149 = .ok (.irem, 1) := kq_112 byq_r (by decide +kernel)
theorem d_Mod_wardrobe_150 : decode b_Mod_wardrobe 150 = .ok (.iconst 4, 1) := kq_7 byq_r (by decide +kernel)
theorem d_Mod_wardrobe_151 : decode b_Mod_wardrobe 151 = .ok (.if_icmp .le 7, 3) := kq_164 byq_r (a := 0) (b := 7) (by decide +kernel)
theorem d_Mod_wardrobe_154 : decode b_Mod_wardrobe 154 = .ok (.iconst (-1), 1) := kq_2 byq_r (by decide +kernel)
theorem d_Mod_wardrobe_155 : decode b_Mod_wardrobe 155 = .ok (.goto 13, 3) := kq_167 byq_r (a := 0) (b := 13) (by decide +kernel)
theorem d_Mod_wardrobe_158 : decode b_Mod_wardrobe 158 = .ok (.aload_n 0, 1) := kq_42 byq_r (by decide +kernel)
theorem d_Mod_wardrobe_159 : decode b_Mod_wardrobe 159 = .ok (.iload 5, 2) := kq_21 byq_r (by decide +kernel)
theorem d_Mod_wardrobe_161 : decode b_Mod_wardrobe 161 = .ok (.iload 6, 2) := kq_21 byq_r (by decide +kernel)
theorem d_Mod_wardrobe_163 : decode b_Mod_wardrobe 163 = .ok (.iload 7, 2) := kq_21 byq_r (by decide +kernel)
theorem d_Mod_wardrobe_165 : decode b_Mod_wardrobe 165 = .ok (.invokevirtual 407, 3) := kq_182 byq_r (a := 1) (b := 151) (by decide +kernel)
theorem d_Mod_wardrobe_168 : decode b_Mod_wardrobe 168 = .ok (.istore 8, 2) := kq_54 byq_r (by decide +kernel)
theorem d_Mod_wardrobe_170 : decode b_Mod_wardrobe 170 = .ok (.iload 8, 2) := kq_21 byq_r (by decide +kernel)
theorem d_Mod_wardrobe_172 : decode b_Mod_wardrobe 172 = .ok (.iconst (-1), 1) := kq_2 byq_r (by decide +kernel)
theorem d_Mod_wardrobe_173 : decode b_Mod_wardrobe 173 = .ok (.if_icmp .eq 32, 3) := kq_159 byq_r (a := 0) (b := 32) (by decide +kernel)
theorem d_Mod_wardrobe_176 : decode b_Mod_wardrobe 176 = .ok (.aload_n 0, 1) := kq_42 byq_r (by decide +kernel)
theorem d_Mod_wardrobe_177 : decode b_Mod_wardrobe 177 = .ok (.getfield 88, 3) := kq_180 byq_r (a := 0) (b := 88) (by decide +kernel)
theorem d_Mod_wardrobe_180 : decode b_Mod_wardrobe 180 = .ok (.iload 8, 2) := kq_21 byq_r (by decide +kernel)
theorem d_Mod_wardrobe_182 : decode b_Mod_wardrobe 182 = .ok (.iaload, 1) := kq_46 byq_r (by decide +kernel)
theorem d_Mod_wardrobe_183 : decode b_Mod_wardrobe 183 = .ok (.ldc_w 357, 3) := kq_19 byq_r (a := 1) (b := 101) (by decide +kernel)
theorem d_Mod_wardrobe_186 : decode b_Mod_wardrobe 186 = .ok (.if_icmp .ge 6, 3) := kq_162 byq_r (a := 0) (b := 6) (by decide +kernel)
theorem d_Mod_wardrobe_189 : decode b_Mod_wardrobe 189 = .ok (.goto 16, 3) := kq_167 byq_r (a := 0) (b := 16) (by decide +kernel)
theorem d_Mod_wardrobe_192 : decode b_Mod_wardrobe 192 = .ok (.aload_n 0, 1) := kq_42 byq_r (by decide +kernel)
theorem d_Mod_wardrobe_193 : decode b_Mod_wardrobe 193 = .ok (.getfield 88, 3) := kq_180 byq_r (a := 0) (b := 88) (by decide +kernel)
theorem d_Mod_wardrobe_196 : decode b_Mod_wardrobe 196 = .ok (.iload 8, 2) := kq_21 byq_r (by decide +kernel)
theorem d_Mod_wardrobe_198 : decode b_Mod_wardrobe 198 = .ok (.iload 4, 2) := kq_21 byq_r (by decide +kernel)
theorem d_Mod_wardrobe_200 : decode b_Mod_wardrobe 200 = .ok (.iconst 1, 1) := kq_4 byq_r (by decide +kernel)
theorem d_Mod_wardrobe_201 : decode b_Mod_wardrobe 201 = .ok (.iadd, 1) := kq_96 byq_r (by decide +kernel)
theorem d_Mod_wardrobe_202 : decode b_Mod_wardrobe 202 = .ok (.iastore, 1) := kq_79 byq_r (by decide +kernel)
theorem d_Mod_wardrobe_203 : decode b_Mod_wardrobe 203 = .ok (.iconst 1, 1) := kq_4 byq_r (by decide +kernel)
theorem d_Mod_wardrobe_204 : decode b_Mod_wardrobe 204 = .ok (.istore_n 3, 1) := kq_62 byq_r (by decide +kernel)
theorem d_Mod_wardrobe_205 : decode b_Mod_wardrobe 205 = .ok (.iinc 7 1, 3) := kq_132 byq_r (b := 1) (by decide +kernel)
theorem d_Mod_wardrobe_208 : decode b_Mod_wardrobe 208 = .ok (.goto (-70), 3) := kq_167 byq_r (a := 255) (b := 186) (by decide +kernel)
theorem d_Mod_wardrobe_211 : decode b_Mod_wardrobe 211 = .ok (.iinc 6 1, 3) := kq_132 byq_r (b := 1) (by decide +kernel)
theorem d_Mod_wardrobe_214 : decode b_Mod_wardrobe 214 = .ok (.goto (-109), 3) := kq_167 byq_r (a := 255) (b := 147) (by decide +kernel)
theorem d_Mod_wardrobe_217 : decode b_Mod_wardrobe 217 = .ok (.iinc 5 1, 3) := kq_132 byq_r (b := 1) (by decide +kernel)
theorem d_Mod_wardrobe_220 : decode b_Mod_wardrobe 220 = .ok (.goto (-127), 3) := kq_167 byq_r (a := 255) (b := 129) (by decide +kernel)
theorem d_Mod_wardrobe_223 : decode b_Mod_wardrobe 223 = .ok (.iinc 4 1, 3) := kq_132 byq_r (b := 1) (by decide +kernel)
theorem d_Mod_wardrobe_226 : decode b_Mod_wardrobe 226 = .ok (.goto (-142), 3) := kq_167 byq_r (a := 255) (b := 114) (by decide +kernel)
theorem d_Mod_wardrobe_229 : decode b_Mod_wardrobe 229 = .ok (.aload_n 0, 1) := kq_42 byq_r (by decide +kernel)
theorem d_Mod_wardrobe_230 : decode b_Mod_wardrobe 230 = .ok (.getfield 88, 3) := kq_180 byq_r (a := 0) (b := 88) (by decide +kernel)
theorem d_Mod_wardrobe_233 : decode b_Mod_wardrobe 233 = .ok (.bipush 36, 2) := kq_16 byq_r (b := 36) (by decide +kernel)
theorem d_Mod_wardrobe_235 : decode b_Mod_wardrobe 235 = .ok (.iload_n 1, 1) := kq_27 byq_r (by decide +kernel)
theorem d_Mod_wardrobe_236 : decode b_Mod_wardrobe 236 = .ok (.imul, 1) := kq_104 byq_r (by decide +kernel)
theorem d_Mod_wardrobe_237 : decode b_Mod_wardrobe 237 = .ok (.iload_n 1, 1) := kq_27 byq_r (by decide +kernel)
theorem d_Mod_wardrobe_238 : decode b_Mod_wardrobe 238 = .ok (.iadd, 1) := kq_96 byq_r (by decide +kernel)
theorem d_Mod_wardrobe_239 : decode b_Mod_wardrobe 239 = .ok (.iaload, 1) := kq_46 byq_r (by decide +kernel)
theorem d_Mod_wardrobe_240 : decode b_Mod_wardrobe 240 = .ok (.istore 4, 2) := kq_54 byq_r (by decide +kernel)
theorem d_Mod_wardrobe_242 : decode b_Mod_wardrobe 242 = .ok (.iload 4, 2) := kq_21 byq_r (by decide +kernel)
theorem d_Mod_wardrobe_244 : decode b_Mod_wardrobe 244 = .ok (.ldc_w 357, 3) := kq_19 byq_r (a := 1) (b := 101) (by decide +kernel)
theorem d_Mod_wardrobe_247 : decode b_Mod_wardrobe 247 = .ok (.if_icmp .lt 6, 3) := kq_161 byq_r (a := 0) (b := 6) (by decide +kernel)
theorem d_Mod_wardrobe_250 : decode b_Mod_wardrobe 250 = .ok (.bipush (-2), 2) := kq_16 byq_r (b := 254) (by decide +kernel)
theorem d_Mod_wardrobe_252 : decode b_Mod_wardrobe 252 = .ok (.ireturn, 1) := kq_172 byq_r (by decide +kernel)
theorem d_Mod_wardrobe_253 : decode b_Mod_wardrobe 253 = .ok (.aload_n 0, 1) := kq_42 byq_r (by decide +kernel)
theorem d_Mod_wardrobe_254 : decode b_Mod_wardrobe 254 = .ok (.iconst 0, 1) := kq_3 byq_r (by decide +kernel)
theorem d_Mod_wardrobe_255 : decode b_Mod_wardrobe 255 = .ok (.putfield 112, 3) := kq_181 byq_r (a := 0) (b := 112) (by decide +kernel)
theorem d_Mod_wardrobe_258 : decode b_Mod_wardrobe 258 = .ok (.iload_n 1, 1) := kq_27 byq_r (by decide +kernel)
theorem d_Mod_wardrobe_259 : decode b_Mod_wardrobe 259 = .ok (.istore 5, 2) := kq_54 byq_r (by decide +kernel)
theorem d_Mod_wardrobe_261 : decode b_Mod_wardrobe 261 = .ok (.iload_n 1, 1) := kq_27 byq_r (by decide +kernel)
theorem d_Mod_wardrobe_262 : decode b_Mod_wardrobe 262 = .ok (.istore 6, 2) := kq_54 byq_r (by decide +kernel)
theorem d_Mod_wardrobe_264 : decode b_Mod_wardrobe 264 = .ok (.iconst 0, 1) := kq_3 byq_r (by decide +kernel)
theorem d_Mod_wardrobe_265 : decode b_Mod_wardrobe 265 = .ok (.istore 7, 2) := kq_54 byq_r (by decide +kernel)
theorem d_Mod_wardrobe_267 : decode b_Mod_wardrobe 267 = .ok (.iload 7, 2) := kq_21 byq_r (by decide +kernel)
theorem d_Mod_wardrobe_269 : decode b_Mod_wardrobe 269 = .ok (.iload 4, 2) := kq_21 byq_r (by decide +kernel)
theorem d_Mod_wardrobe_271 : decode b_Mod_wardrobe 271 = .ok (.if_icmp .ge 105, 3) := kq_162 byq_r (a := 0) (b := 105) (by decide +kernel)
theorem d_Mod_wardrobe_274 : decode b_Mod_wardrobe 274 = .ok (.iconst 0, 1) := kq_3 byq_r (by decide +kernel)
theorem d_Mod_wardrobe_275 : decode b_Mod_wardrobe 275 = .ok (.istore 8, 2) := kq_54 byq_r (by decide +kernel)
theorem d_Mod_wardrobe_277 : decode b_Mod_wardrobe 277 = .ok (.iload 8, 2) := kq_21 byq_r (by decide +kernel)
theorem d_Mod_wardrobe_279 : decode b_Mod_wardrobe 279 = .ok (.bipush 10, 2) := kq_16 byq_r (b := 10) (by decide +kernel)
theorem d_Mod_wardrobe_281 : decode b_Mod_wardrobe 281 = .ok (.irem, 1) := kq_112 byq_r (by decide +kernel)
theorem d_Mod_wardrobe_282 : decode b_Mod_wardrobe 282 = .ok (.iconst 4, 1) := kq_7 byq_r (by decide +kernel)
theorem d_Mod_wardrobe_283 : decode b_Mod_wardrobe 283 = .ok (.if_icmp .gt 42, 3) := kq_163 byq_r (a := 0) (b := 42) (by decide +kernel)
theorem d_Mod_wardrobe_286 : decode b_Mod_wardrobe 286 = .ok (.aload_n 0, 1) := kq_42 byq_r (by decide +kernel)
theorem d_Mod_wardrobe_287 : decode b_Mod_wardrobe 287 = .ok (.iload 5, 2) := kq_21 byq_r (by decide +kernel)
theorem d_Mod_wardrobe_289 : decode b_Mod_wardrobe 289 = .ok (.iload 6, 2) := kq_21 byq_r (by decide +kernel)
theorem d_Mod_wardrobe_291 : decode b_Mod_wardrobe 291 = .ok (.iload 8, 2) := kq_21 byq_r (by decide +kernel)
theorem d_Mod_wardrobe_293 : decode b_Mod_wardrobe 293 = .ok (.invokevirtual 407, 3) := kq_182 byq_r (a := 1) (b := 151) (by decide +kernel)
theorem d_Mod_wardrobe_296 : decode b_Mod_wardrobe 296 = .ok (.iconst (-1), 1) := kq_2 byq_r (by decide +kernel)
theorem d_Mod_wardrobe_297 : decode b_Mod_wardrobe 297 = .ok (.if_icmp .eq 28, 3) := kq_159 byq_r (a := 0) (b := 28) (by decide +kernel)
theorem d_Mod_wardrobe_300 : decode b_Mod_wardrobe 300 = .ok (.aload_n 0, 1) := kq_42 byq_r (by decide +kernel)
theorem d_Mod_wardrobe_301 : decode b_Mod_wardrobe 301 = .ok (.getfield 88, 3) := kq_180 byq_r (a := 0) (b := 88) (by decide +kernel)
theorem d_Mod_wardrobe_304 : decode b_Mod_wardrobe 304 = .ok (.aload_n 0, 1) := kq_42 byq_r (by decide +kernel)
theorem d_Mod_wardrobe_305 : decode b_Mod_wardrobe 305 = .ok (.iload 5, 2) := kq_21 byq_r (by decide +kernel)
theorem d_Mod_wardrobe_307 : decode b_Mod_wardrobe 307 = .ok (.iload 6, 2) := kq_21 byq_r (by decide +kernel)
theorem d_Mod_wardrobe_309 : decode b_Mod_wardrobe 309 = .ok (.iload 8, 2) := kq_21 byq_r (by decide +kernel)
theorem d_Mod_wardrobe_311 : decode b_Mod_wardrobe 311 = .ok (.invokevirtual 407, 3) := kq_182 byq_r (a := 1) (b := 151) (by decide +kernel)
theorem d_Mod_wardrobe_314 : decode b_Mod_wardrobe 314 = .ok (.iaload, 1) := kq_46 byq_r (by decide +kernel)
theorem d_Mod_wardrobe_315 : decode b_Mod_wardrobe 315 = .ok (.iload 4, 2) := kq_21 byq_r (by decide +kernel)
theorem d_Mod_wardrobe_317 : decode b_Mod_wardrobe 317 = .ok (.iload 7, 2) := kq_21 byq_r (by decide +kernel)
theorem d_Mod_wardrobe_319 : decode b_Mod_wardrobe 319 = .ok (.isub, 1) := kq_100 byq_r (by decide +kernel)
theorem d_Mod_wardrobe_320 : decode b_Mod_wardrobe 320 = .ok (.iconst 1, 1) := kq_4 byq_r (by decide +kernel)
theorem d_Mod_wardrobe_321 : decode b_Mod_wardrobe 321 = .ok (.isub, 1) := kq_100 byq_r (by decide +kernel)
theorem d_Mod_wardrobe_322 : decode b_Mod_wardrobe 322 = .ok (.if_icmp .eq 9, 3) := kq_159 byq_r (a := 0) (b := 9) (by decide +kernel)
theorem d_Mod_wardrobe_325 : decode b_Mod_wardrobe 325 = .ok (.iinc 8 1, 3) := kq_132 byq_r (b := 1) (by decide +kernel)
theorem d_Mod_wardrobe_328 : decode b_Mod_wardrobe 328 = .ok (.goto (-51), 3) := kq_167 byq_r (a := 255) (b := 205) (by decide +kernel)
theorem d_Mod_wardrobe_331 : decode b_Mod_wardrobe 331 = .ok (.iload 7, 2) := kq_21 byq_r (by decide +kernel)
theorem d_Mod_wardrobe_333 : decode b_Mod_wardrobe 333 = .ok (.bipush 10, 2) := kq_16 byq_r (b := 10) (by decide +kernel)
theorem d_Mod_wardrobe_335 : decode b_Mod_wardrobe 335 = .ok (.if_icmp .ge 9, 3) := kq_162 byq_r (a := 0) (b := 9) (by decide +kernel)
theorem d_Mod_wardrobe_338 : decode b_Mod_wardrobe 338 = .ok (.aload_n 0, 1) := kq_42 byq_r (by decide +kernel)
theorem d_Mod_wardrobe_339 : decode b_Mod_wardrobe 339 = .ok (.iload 8, 2) := kq_21 byq_r (by decide +kernel)
theorem d_Mod_wardrobe_341 : decode b_Mod_wardrobe 341 = .ok (.invokevirtual 342, 3) := kq_182 byq_r (a := 1) (b := 86) (by decide +kernel)
theorem d_Mod_wardrobe_344 : decode b_Mod_wardrobe 344 = .ok (.aload_n 0, 1) := kq_42 byq_r (by decide +kernel)
theorem d_Mod_wardrobe_345 : decode b_Mod_wardrobe 345 = .ok (.iload 5, 2) := kq_21 byq_r (by decide +kernel)
theorem d_Mod_wardrobe_347 : decode b_Mod_wardrobe 347 = .ok (.iload 6, 2) := kq_21 byq_r (by decide +kernel)
theorem d_Mod_wardrobe_349 : decode b_Mod_wardrobe 349 = .ok (.iload 8, 2) := kq_21 byq_r (by decide +kernel)
theorem d_Mod_wardrobe_351 : decode b_Mod_wardrobe 351 = .ok (.invokevirtual 407, 3) := kq_182 byq_r (a := 1) (b := 151) (by decide +kernel)
theorem d_Mod_wardrobe_354 : decode b_Mod_wardrobe 354 = .ok (.istore 9, 2) := kq_54 byq_r (by decide +kernel)
theorem d_Mod_wardrobe_356 : decode b_Mod_wardrobe 356 = .ok (.iload 9, 2) := kq_21 byq_r (by decide +kernel)
theorem d_Mod_wardrobe_358 : decode b_Mod_wardrobe 358 = .ok (.bipush 36, 2) := kq_16 byq_r (b := 36) (by decide +kernel)
theorem d_Mod_wardrobe_360 : decode b_Mod_wardrobe 360 = .ok (.idiv, 1) := kq_108 byq_r (by decide +kernel)
theorem d_Mod_wardrobe_361 : decode b_Mod_wardrobe 361 = .ok (.istore 5, 2) := kq_54 byq_r (by decide +kernel)
theorem d_Mod_wardrobe_363 : decode b_Mod_wardrobe 363 = .ok (.iload 9, 2) := kq_21 byq_r (by decide +kernel)
theorem d_Mod_wardrobe_365 : decode b_Mod_wardrobe 365 = .ok (.bipush 36, 2) := kq_16 byq_r (b := 36) (by decide +kernel)
theorem d_Mod_wardrobe_367 : decode b_Mod_wardrobe 367 = .ok (.irem, 1) := kq_112 byq_r (by decide +kernel)
theorem d_Mod_wardrobe_368 : decode b_Mod_wardrobe 368 = .ok (.istore 6, 2) := kq_54 byq_r (by decide +kernel)
theorem d_Mod_wardrobe_370 : decode b_Mod_wardrobe 370 = .ok (.iinc 7 1, 3) := kq_132 byq_r (b := 1) (by decide +kernel)
theorem d_Mod_wardrobe_373 : decode b_Mod_wardrobe 373 = .ok (.goto (-106), 3) := kq_167 byq_r (a := 255) (b := 150) (by decide +kernel)
theorem d_Mod_wardrobe_376 : decode b_Mod_wardrobe 376 = .ok (.iload 4, 2) := kq_21 byq_r (by decide +kernel)
theorem d_Mod_wardrobe_378 : decode b_Mod_wardrobe 378 = .ok (.ireturn, 1) := kq_172 byq_r (by decide +kernel)
theorem d_Mod_goThief_0 : decode b_Mod_goThief 0 = .ok (.iconst 0, 1) := kq_3 byq_r (by decide +kernel)
theorem d_Mod_goThief_1 : decode b_Mod_goThief 1 = .ok (.istore_n 1, 1) := kq_60 byq_r (by decide +kernel)
theorem d_Mod_goThief_2 : decode b_Mod_goThief 2 = .ok (.iload_n 1, 1) := kq_27 byq_r (by decide +kernel)
theorem d_Mod_goThief_3 : decode b_Mod_goThief 3 = .ok (.bipush 72, 2) := kq_16 byq_r (b := 72) (by decide +kernel)
theorem d_Mod_goThief_5 : decode b_Mod_goThief 5 = .ok (.if_icmp .ge 16, 3) := kq_162 byq_r (a := 0) (b := 16) (by decide +kernel)
theorem d_Mod_goThief_8 : decode b_Mod_goThief 8 = .ok (.aload_n 0, 1) := kq_42 byq_r (by decide +kernel)
theorem d_Mod_goThief_9 : decode b_Mod_goThief 9 = .ok (.getfield 94, 3) := kq_180 byq_r (a := 0) (b := 94) (by decide +kernel)
theorem d_Mod_goThief_12 : decode b_Mod_goThief 12 = .ok (.iload_n 1, 1) := kq_27 byq_r (by decide +kernel)
theorem d_Mod_goThief_13 : decode b_Mod_goThief 13 = .ok (.iconst 0, 1) := kq_3 byq_r (by decide +kernel)
theorem d_Mod_goThief_14 : decode b_Mod_goThief 14 = .ok (.bastore, 1) := kq_84 byq_r (by decide +kernel)
theorem d_Mod_goThief_15 : decode b_Mod_goThief 15 = .ok (.iinc 1 1, 3) := kq_132 byq_r (b := 1) (by decide +kernel)
theorem d_Mod_goThief_18 : decode b_Mod_goThief 18 = .ok (.goto (-16), 3) := kq_167 byq_r (a := 255) (b := 240) (by decide +kernel)
theorem d_Mod_goThief_21 : decode b_Mod_goThief 21 = .ok (.iconst 0, 1) := kq_3 byq_r (by decide +kernel)
theorem d_Mod_goThief_22 : decode b_Mod_goThief 22 = .ok (.istore_n 1, 1) := kq_60 byq_r (by decide +kernel)
theorem d_Mod_goThief_23 : decode b_Mod_goThief 23 = .ok (.iload_n 1, 1) := kq_27 byq_r (by decide +kernel)
theorem d_Mod_goThief_24 : decode b_Mod_goThief 24 = .ok (.bipush 72, 2) := kq_16 byq_r (b := 72) (by decide +kernel)
theorem d_Mod_goThief_26 : decode b_Mod_goThief 26 = .ok (.if_icmp .ge 96, 3) := kq_162 byq_r (a := 0) (b := 96) (by decide +kernel)
theorem d_Mod_goThief_29 : decode b_Mod_goThief 29 = .ok (.aload_n 0, 1) := kq_42 byq_r (by decide +kernel)
theorem d_Mod_goThief_30 : decode b_Mod_goThief 30 = .ok (.getfield 91, 3) := kq_180 byq_r (a := 0) (b := 91) (by decide +kernel)
theorem d_Mod_goThief_33 : decode b_Mod_goThief 33 = .ok (.iload_n 1, 1) := kq_27 byq_r (by decide +kernel)
theorem d_Mod_goThief_34 : decode b_Mod_goThief 34 = .ok (.baload, 1) := kq_51 byq_r (by decide +kernel)
theorem d_Mod_goThief_35 : decode b_Mod_goThief 35 = .ok (.ifCond .ne 6, 3) := kq_154 byq_r (a := 0) (b := 6) (by decide +kernel)
theorem d_Mod_goThief_38 : decode b_Mod_goThief 38 = .ok (.goto 78, 3) := kq_167 byq_r (a := 0) (b := 78) (by decide +kernel)
theorem d_Mod_goThief_41 : decode b_Mod_goThief 41 = .ok (.iconst 0, 1) := kq_3 byq_r (by decide +kernel)
theorem d_Mod_goThief_42 : decode b_Mod_goThief 42 = .ok (.istore_n 2, 1) := kq_61 byq_r (by decide +kernel)
theorem d_Mod_goThief_43 : decode b_Mod_goThief 43 = .ok (.iload_n 2, 1) := kq_28 byq_r (by decide +kernel)
theorem d_Mod_goThief_44 : decode b_Mod_goThief 44 = .ok (.iconst 4, 1) := kq_7 byq_r (by decide +kernel)
theorem d_Mod_goThief_45 : decode b_Mod_goThief 45 = .ok (.if_icmp .gt 39, 3) := kq_163 byq_r (a := 0) (b := 39) (by decide +kernel)
theorem d_Mod_goThief_48 : decode b_Mod_goThief 48 = .ok (.aload_n 0, 1) := kq_42 byq_r (by decide +kernel)
theorem d_Mod_goThief_49 : decode b_Mod_goThief 49 = .ok (.aload_n 0, 1) := kq_42 byq_r (by decide +kernel)
theorem d_Mod_goThief_50 : decode b_Mod_goThief 50 = .ok (.getfield 60, 3) := kq_180 byq_r (a := 0) (b := 60) (by decide +kernel)
theorem d_Mod_goThief_53 : decode b_Mod_goThief 53 = .ok (.iload_n 1, 1) := kq_27 byq_r (by decide +kernel)
theorem d_Mod_goThief_54 : decode b_Mod_goThief 54 = .ok (.iload_n 2, 1) := kq_28 byq_r (by decide +kernel)
theorem d_Mod_goThief_55 : decode b_Mod_goThief 55 = .ok (.invokevirtual 252, 3) := kq_182 byq_r (a := 0) (b := 252) (by decide +kernel)
theorem d_Mod_goThief_58 : decode b_Mod_goThief 58 = .ok (.iconst (-1), 1) := kq_2 byq_r (by decide +kernel)
theorem d_Mod_goThief_59 : decode b_Mod_goThief 59 = .ok (.if_icmp .eq 19, 3) := kq_159 byq_r (a := 0) (b := 19) (by decide +kernel)
theorem d_Mod_goThief_62 : decode b_Mod_goThief 62 = .ok (.aload_n 0, 1) := kq_42 byq_r (by decide +kernel)
theorem d_Mod_goThief_63 : decode b_Mod_goThief 63 = .ok (.getfield 94, 3) := kq_180 byq_r (a := 0) (b := 94) (by decide +kernel)
theorem d_Mod_goThief_66 : decode b_Mod_goThief 66 = .ok (.aload_n 0, 1) := kq_42 byq_r (by decide +kernel)
theorem d_Mod_goThief_67 : decode b_Mod_goThief 67 = .ok (.aload_n 0, 1) := kq_42 byq_r (by decide +kernel)
theorem d_Mod_goThief_68 : decode b_Mod_goThief 68 = .ok (.getfield 60, 3) := kq_180 byq_r (a := 0) (b := 60) (by decide +kernel)
theorem d_Mod_goThief_71 : decode b_Mod_goThief 71 = .ok (.iload_n 1, 1) := kq_27 byq_r (by decide +kernel)
theorem d_Mod_goThief_72 : decode b_Mod_goThief 72 = .ok (.iload_n 2, 1) := kq_28 byq_r (by decide +kernel)
theorem d_Mod_goThief_73 : decode b_Mod_goThief 73 = .ok (.invokevirtual 252, 3) := kq_182 byq_r (a := 0) (b := 252) (by decide +kernel)
theorem d_Mod_goThief_76 : decode b_Mod_goThief 76 = .ok (.iconst 1, 1) := kq_4 byq_r (by decide +kernel)
theorem d_Mod_goThief_77 : decode b_Mod_goThief 77 = .ok (.bastore, 1) := kq_84 byq_r (by decide +kernel)
theorem d_Mod_goThief_78 : decode b_Mod_goThief 78 = .ok (.iinc 2 1, 3) := kq_132 byq_r (b := 1) (by decide +kernel)
theorem d_Mod_goThief_81 : decode b_Mod_goThief 81 = .ok (.goto (-38), 3) := kq_167 byq_r (a := 255) (b := 218) (by decide +kernel)
theorem d_Mod_goThief_84 : decode b_Mod_goThief 84 = .ok (.aload_n 0, 1) := kq_42 byq_r (by decide +kernel)
theorem d_Mod_goThief_85 : decode b_Mod_goThief 85 = .ok (.getfield 13, 3) := kq_180 byq_r (a := 0) (b := 13) (by decide +kernel)
theorem d_Mod_goThief_88 : decode b_Mod_goThief 88 = .ok (.iload_n 1, 1) := kq_27 byq_r (by decide +kernel)
theorem d_Mod_goThief_89 : decode b_Mod_goThief 89 = .ok (.invokestatic 147, 3) := kq_184 byq_r (a := 0) (b := 147) (by decide +kernel)
theorem d_Mod_goThief_92 : decode b_Mod_goThief 92 = .ok (.iaload, 1) := kq_46 byq_r (by decide +kernel)
theorem d_Mod_goThief_93 : decode b_Mod_goThief 93 = .ok (.iconst 3, 1) := kq_6 byq_r (by decide +kernel)
theorem d_Mod_goThief_94 : decode b_Mod_goThief 94 = .ok (.if_icmp .ne 22, 3) := kq_160 byq_r (a := 0) (b := 22) (by decide +kernel)
theorem d_Mod_goThief_97 : decode b_Mod_goThief 97 = .ok (.aload_n 0, 1) := kq_42 byq_r (by decide +kernel)
theorem d_Mod_goThief_98 : decode b_Mod_goThief 98 = .ok (.getfield 94, 3) := kq_180 byq_r (a := 0) (b := 94) (by decide +kernel)
theorem d_Mod_goThief_101 : decode b_Mod_goThief 101 = .ok (.iconst 1, 1) := kq_4 byq_r (by decide +kernel)
theorem d_Mod_goThief_102 : decode b_Mod_goThief 102 = .ok (.iload_n 1, 1) := kq_27 byq_r (by decide +kernel)
theorem d_Mod_goThief_103 : decode b_Mod_goThief 103 = .ok (.invokestatic 143, 3) := kq_184 byq_r (a := 0) (b := 143) (by decide +kernel)
theorem d_Mod_goThief_106 : decode b_Mod_goThief 106 = .ok (.isub, 1) := kq_100 byq_r (by decide +kernel)
theorem d_Mod_goThief_107 : decode b_Mod_goThief 107 = .ok (.iload_n 1, 1) := kq_27 byq_r (by decide +kernel)
theorem d_Mod_goThief_108 : decode b_Mod_goThief 108 = .ok (.invokestatic 147, 3) := kq_184 byq_r (a := 0) (b := 147) (by decide +kernel)
theorem d_Mod_goThief_111 : decode b_Mod_goThief 111 = .ok (.invokestatic 154, 3) := kq_184 byq_r (a := 0) (b := 154) (by decide +kernel)
theorem d_Mod_goThief_114 : decode b_Mod_goThief 114 = .ok (.iconst 1, 1) := kq_4 byq_r (by decide +kernel)
theorem d_Mod_goThief_115 : decode b_Mod_goThief 115 = .ok (.bastore, 1) := kq_84 byq_r (by decide +kernel)
theorem d_Mod_goThief_116 : decode b_Mod_goThief 116 = .ok (.iinc 1 1, 3) := kq_132 byq_r (b := 1) (by decide +kernel)
theorem d_Mod_goThief_119 : decode b_Mod_goThief 119 = .ok (.goto (-96), 3) := kq_167 byq_r (a := 255) (b := 160) (by decide +kernel)
theorem d_Mod_goThief_122 : decode b_Mod_goThief 122 = .ok (.iconst 0, 1) := kq_3 byq_r (by decide +kernel)
theorem d_Mod_goThief_123 : decode b_Mod_goThief 123 = .ok (.istore_n 1, 1) := kq_60 byq_r (by decide +kernel)
theorem d_Mod_goThief_124 : decode b_Mod_goThief 124 = .ok (.iconst 0, 1) := kq_3 byq_r (by decide +kernel)
theorem d_Mod_goThief_125 : decode b_Mod_goThief 125 = .ok (.istore_n 2, 1) := kq_61 byq_r (by decide +kernel)
theorem d_Mod_goThief_126 : decode b_Mod_goThief 126 = .ok (.iload_n 2, 1) := kq_28 byq_r (by decide +kernel)
theorem d_Mod_goThief_127 : decode b_Mod_goThief 127 = .ok (.bipush 72, 2) := kq_16 byq_r (b := 72) (by decide +kernel)
theorem d_Mod_goThief_129 : decode b_Mod_goThief 129 = .ok (.if_icmp .ge 50, 3) := kq_162 byq_r (a := 0) (b := 50) (by decide +kernel)
theorem d_Mod_goThief_132 : decode b_Mod_goThief 132 = .ok (.aload_n 0, 1) := kq_42 byq_r (by decide +kernel)
theorem d_Mod_goThief_133 : decode b_Mod_goThief 133 = .ok (.getfield 91, 3) := kq_180 byq_r (a := 0) (b := 91) (by decide +kernel)
theorem d_Mod_goThief_136 : decode b_Mod_goThief 136 = .ok (.iload_n 2, 1) := kq_28 byq_r (by decide +kernel)
theorem d_Mod_goThief_137 : decode b_Mod_goThief 137 = .ok (.aload_n 0, 1) := kq_42 byq_r (by decide +kernel)
theorem d_Mod_goThief_138 : decode b_Mod_goThief 138 = .ok (.getfield 94, 3) := kq_180 byq_r (a := 0) (b := 94) (by decide +kernel)
theorem d_Mod_goThief_141 : decode b_Mod_goThief 141 = .ok (.iload_n 2, 1) := kq_28 byq_r (by decide +kernel)
theorem d_Mod_goThief_142 : decode b_Mod_goThief 142 = .ok (.baload, 1) := kq_51 byq_r (by decide +kernel)
theorem d_Mod_goThief_143 : decode b_Mod_goThief 143 = .ok (.ifCond .eq 19, 3) := kq_153 byq_r (a := 0) (b := 19) (by decide +kernel)
theorem d_Mod_goThief_146 : decode b_Mod_goThief 146 = .ok (.aload_n 0, 1) := kq_42 byq_r (by decide +kernel)
theorem d_Mod_goThief_147 : decode b_Mod_goThief 147 = .ok (.aload_n 0, 1) := kq_42 byq_r (by decide +kernel)
theorem d_Mod_goThief_148 : decode b_Mod_goThief 148 = .ok (.getfield 60, 3) := kq_180 byq_r (a := 0) (b := 60) (by decide +kernel)
theorem d_Mod_goThief_151 : decode b_Mod_goThief 151 = .ok (.iload_n 2, 1) := kq_28 byq_r (by decide +kernel)
theorem d_Mod_goThief_152 : decode b_Mod_goThief 152 = .ok (.invokevirtual 259, 3) := kq_182 byq_r (a := 1) (b := 3) (by decide +kernel)
theorem d_Mod_goThief_155 : decode b_Mod_goThief 155 = .ok (.ifCond .ne 7, 3) := kq_154 byq_r (a := 0) (b := 7) (by decide +kernel)
theorem d_Mod_goThief_158 : decode b_Mod_goThief 158 = .ok (.iconst 1, 1) := kq_4 byq_r (by decide +kernel)
theorem d_Mod_goThief_159 : decode b_Mod_goThief 159 = .ok (.goto 4, 3) := kq_167 byq_r (a := 0) (b := 4) (by decide +kernel)
theorem d_Mod_goThief_162 : decode b_Mod_goThief 162 = .ok (.iconst 0, 1) := kq_3 byq_r (by decide +kernel)
theorem d_Mod_goThief_163 : decode b_Mod_goThief 163 = .ok (.bastore, 1) := kq_84 byq_r (by decide +kernel)
theorem d_Mod_goThief_164 : decode b_Mod_goThief 164 = .ok (.iload_n 1, 1) := kq_27 byq_r (by decide +kernel)
theorem d_Mod_goThief_165 : decode b_Mod_goThief 165 = .ok (.aload_n 0, 1) := kq_42 byq_r (by decide +kernel)
theorem d_Mod_goThief_166 : decode b_Mod_goThief 166 = .ok (.getfield 91, 3) := kq_180 byq_r (a := 0) (b := 91) (by decide +kernel)
theorem d_Mod_goThief_169 : decode b_Mod_goThief 169 = .ok (.iload_n 2, 1) := kq_28 byq_r (by decide +kernel)
theorem d_Mod_goThief_170 : decode b_Mod_goThief 170 = .ok (.baload, 1) := kq_51 byq_r (by decide +kernel)
theorem d_Mod_goThief_171 : decode b_Mod_goThief 171 = .ok (.ior, 1) := kq_128 byq_r (by decide +kernel)
theorem d_Mod_goThief_172 : decode b_Mod_goThief 172 = .ok (.istore_n 1, 1) := kq_60 byq_r (by decide +kernel)
theorem d_Mod_goThief_173 : decode b_Mod_goThief 173 = .ok (.iinc 2 1, 3) := kq_132 byq_r (b := 1) (by decide +kernel)
theorem d_Mod_goThief_176 : decode b_Mod_goThief 176 = .ok (.goto (-50), 3) := kq_167 byq_r (a := 255) (b := 206) (by decide +kernel)
theorem d_Mod_goThief_179 : decode b_Mod_goThief 179 = .ok (.iload_n 1, 1) := kq_27 byq_r (by decide +kernel)
theorem d_Mod_goThief_180 : decode b_Mod_goThief 180 = .ok (.ireturn, 1) := kq_172 byq_r (by decide +kernel)
theorem d_Mod_thiefIn_0 : decode b_Mod_thiefIn 0 = .ok (.aload_n 0, 1) := kq_42 byq_r (by decide +kernel)
theorem d_Mod_thiefIn_1 : decode b_Mod_thiefIn 1 = .ok (.getfield 9, 3) := kq_180 byq_r (a := 0) (b := 9) (by decide +kernel)
theorem d_Mod_thiefIn_4 : decode b_Mod_thiefIn 4 = .ok (.aload_n 0, 1) := kq_42 byq_r (by decide +kernel)
theorem d_Mod_thiefIn_5 : decode b_Mod_thiefIn 5 = .ok (.getfield 60, 3) := kq_180 byq_r (a := 0) (b := 60) (by decide +kernel)
theorem d_Mod_thiefIn_8 : decode b_Mod_thiefIn 8 = .ok (.iconst 0, 1) := kq_3 byq_r (by decide +kernel)
theorem d_Mod_thiefIn_9 : decode b_Mod_thiefIn 9 = .ok (.invokestatic 286, 3) := kq_184 byq_r (a := 1) (b := 30) (by decide +kernel)
theorem d_Mod_thiefIn_12 : decode b_Mod_thiefIn 12 = .ok (.iconst 0, 1) := kq_3 byq_r (by decide +kernel)
theorem d_Mod_thiefIn_13 : decode b_Mod_thiefIn 13 = .ok (.istore_n 3, 1) := kq_62 byq_r (by decide +kernel)
theorem d_Mod_thiefIn_14 : decode b_Mod_thiefIn 14 = .ok (.iload_n 3, 1) := kq_29 byq_r (by decide +kernel)
theorem d_Mod_thiefIn_15 : decode b_Mod_thiefIn 15 = .ok (.bipush 72, 2) := kq_16 byq_r (b := 72) (by decide +kernel)
theorem d_Mod_thiefIn_17 : decode b_Mod_thiefIn 17 = .ok (.if_icmp .ge 25, 3) := kq_162 byq_r (a := 0) (b := 25) (by decide +kernel)
theorem d_Mod_thiefIn_20 : decode b_Mod_thiefIn 20 = .ok (.aload_n 0, 1) := kq_42 byq_r (by decide +kernel)
theorem d_Mod_thiefIn_21 : decode b_Mod_thiefIn 21 = .ok (.getfield 91, 3) := kq_180 byq_r (a := 0) (b := 91) (by decide +kernel)
theorem d_Mod_thiefIn_24 : decode b_Mod_thiefIn 24 = .ok (.iload_n 3, 1) := kq_29 byq_r (by decide +kernel)
theorem d_Mod_thiefIn_25 : decode b_Mod_thiefIn 25 = .ok (.iload_n 3, 1) := kq_29 byq_r (by decide +kernel)
theorem d_Mod_thiefIn_26 : decode b_Mod_thiefIn 26 = .ok (.iload_n 1, 1) := kq_27 byq_r (by decide +kernel)
theorem d_Mod_thiefIn_27 : decode b_Mod_thiefIn 27 = .ok (.if_icmp .ne 7, 3) := kq_160 byq_r (a := 0) (b := 7) (by decide +kernel)
theorem d_Mod_thiefIn_30 : decode b_Mod_thiefIn 30 = .ok (.iconst 1, 1) := kq_4 byq_r (by decide +kernel)
theorem d_Mod_thiefIn_31 : decode b_Mod_thiefIn 31 = .ok (.goto 4, 3) := kq_167 byq_r (a := 0) (b := 4) (by decide +kernel)
theorem d_Mod_thiefIn_34 : decode b_Mod_thiefIn 34 = .ok (.iconst 0, 1) := kq_3 byq_r (by decide +kernel)
theorem d_Mod_thiefIn_35 : decode b_Mod_thiefIn 35 = .ok (.bastore, 1) := kq_84 byq_r (by decide +kernel)
theorem d_Mod_thiefIn_36 : decode b_Mod_thiefIn 36 = .ok (.iinc 3 1, 3) := kq_132 byq_r (b := 1) (by decide +kernel)
theorem d_Mod_thiefIn_39 : decode b_Mod_thiefIn 39 = .ok (.goto (-25), 3) := kq_167 byq_r (a := 255) (b := 231) (by decide +kernel)
theorem d_Mod_thiefIn_42 : decode b_Mod_thiefIn 42 = .ok (.iconst 1, 1) := kq_4 byq_r (by decide +kernel)
theorem d_Mod_thiefIn_43 : decode b_Mod_thiefIn 43 = .ok (.istore_n 3, 1) := kq_62 byq_r (by decide +kernel)
theorem d_Mod_thiefIn_44 : decode b_Mod_thiefIn 44 = .ok (.iload_n 3, 1) := kq_29 byq_r (by decide +kernel)
theorem d_Mod_thiefIn_45 : decode b_Mod_thiefIn 45 = .ok (.iload_n 2, 1) := kq_28 byq_r (by decide +kernel)
theorem d_Mod_thiefIn_46 : decode b_Mod_thiefIn 46 = .ok (.if_icmp .gt 26, 3) := kq_163 byq_r (a := 0) (b := 26) (by decide +kernel)
theorem d_Mod_thiefIn_49 : decode b_Mod_thiefIn 49 = .ok (.aload_n 0, 1) := kq_42 byq_r (by decide +kernel)
theorem d_Mod_thiefIn_50 : decode b_Mod_thiefIn 50 = .ok (.aload_n 0, 1) := kq_42 byq_r (by decide +kernel)
theorem d_Mod_thiefIn_51 : decode b_Mod_thiefIn 51 = .ok (.getfield 60, 3) := kq_180 byq_r (a := 0) (b := 60) (by decide +kernel)
theorem d_Mod_thiefIn_54 : decode b_Mod_thiefIn 54 = .ok (.invokevirtual 339, 3) := kq_182 byq_r (a := 1) (b := 83) (by decide +kernel)
theorem d_Mod_thiefIn_57 : decode b_Mod_thiefIn 57 = .ok (.aload_n 0, 1) := kq_42 byq_r (by decide +kernel)
theorem d_Mod_thiefIn_58 : decode b_Mod_thiefIn 58 = .ok (.invokevirtual 410, 3) := kq_182 byq_r (a := 1) (b := 154) (by decide +kernel)
theorem d_Mod_thiefIn_61 : decode b_Mod_thiefIn 61 = .ok (.ifCond .ne 5, 3) := kq_154 byq_r (a := 0) (b := 5) (by decide +kernel)
theorem d_Mod_thiefIn_64 : decode b_Mod_thiefIn 64 = .ok (.iload_n 3, 1) := kq_29 byq_r (by decide +kernel)
theorem d_Mod_thiefIn_65 : decode b_Mod_thiefIn 65 = .ok (.ireturn, 1) := kq_172 byq_r (by decide +kernel)
theorem d_Mod_thiefIn_66 : decode b_Mod_thiefIn 66 = .ok (.iinc 3 1, 3) := kq_132 byq_r (b := 1) (by decide +kernel)
theorem d_Mod_thiefIn_69 : decode b_Mod_thiefIn 69 = .ok (.goto (-25), 3) := kq_167 byq_r (a := 255) (b := 231) (by decide +kernel)
theorem d_Mod_thiefIn_72 : decode b_Mod_thiefIn 72 = .ok (.ldc_w 357, 3) := kq_19 byq_r (a := 1) (b := 101) (by decide +kernel)
theorem d_Mod_thiefIn_75 : decode b_Mod_thiefIn 75 = .ok (.ireturn, 1) := kq_172 byq_r (by decide +kernel)
theorem d_Mod_putMay_0 : decode b_Mod_putMay 0 = .ok (.iconst 0, 1) := kq_3 byq_r (by decide +kernel)
theorem d_Mod_putMay_1 : decode b_Mod_putMay 1 = .ok (.istore_n 2, 1) := kq_61 byq_r (by decide +kernel)
theorem d_Mod_putMay_2 : decode b_Mod_putMay 2 = .ok (.iload_n 2, 1) := kq_28 byq_r (by decide +kernel)
theorem d_Mod_putMay_3 : decode b_Mod_putMay 3 = .ok (.iconst 2, 1) := kq_5 byq_r (by decide +kernel)
theorem d_Mod_putMay_4 : decode b_Mod_putMay 4 = .ok (.if_icmp .ge 85, 3) := kq_162 byq_r (a := 0) (b := 85) (by decide +kernel)
theorem d_Mod_putMay_7 : decode b_Mod_putMay 7 = .ok (.aload_n 0, 1) := kq_42 byq_r (by decide +kernel)
theorem d_Mod_putMay_8 : decode b_Mod_putMay 8 = .ok (.getfield 66, 3) := kq_180 byq_r (a := 0) (b := 66) (by decide +kernel)
theorem d_Mod_putMay_11 : decode b_Mod_putMay 11 = .ok (.iconst 0, 1) := kq_3 byq_r (by decide +kernel)
theorem d_Mod_putMay_12 : decode b_Mod_putMay 12 = .ok (.iconst 0, 1) := kq_3 byq_r (by decide +kernel)
theorem d_Mod_putMay_13 : decode b_Mod_putMay 13 = .ok (.iastore, 1) := kq_79 byq_r (by decide +kernel)
theorem d_Mod_putMay_14 : decode b_Mod_putMay 14 = .ok (.aload_n 0, 1) := kq_42 byq_r (by decide +kernel)
theorem d_Mod_putMay_15 : decode b_Mod_putMay 15 = .ok (.getfield 66, 3) := kq_180 byq_r (a := 0) (b := 66) (by decide +kernel)
theorem d_Mod_putMay_18 : decode b_Mod_putMay 18 = .ok (.iconst 1, 1) := kq_4 byq_r (by decide +kernel)
theorem d_Mod_putMay_19 : decode b_Mod_putMay 19 = .ok (.iconst 0, 1) := kq_3 byq_r (by decide +kernel)
theorem d_Mod_putMay_20 : decode b_Mod_putMay 20 = .ok (.iastore, 1) := kq_79 byq_r (by decide +kernel)
theorem d_Mod_putMay_21 : decode b_Mod_putMay 21 = .ok (.iconst 0, 1) := kq_3 byq_r (by decide +kernel)
theorem d_Mod_putMay_22 : decode b_Mod_putMay 22 = .ok (.istore_n 3, 1) := kq_62 byq_r (by decide +kernel)
theorem d_Mod_putMay_23 : decode b_Mod_putMay 23 = .ok (.iload_n 3, 1) := kq_29 byq_r (by decide +kernel)
theorem d_Mod_putMay_24 : decode b_Mod_putMay 24 = .ok (.bipush 36, 2) := kq_16 byq_r (b := 36) (by decide +kernel)
theorem d_Mod_putMay_26 : decode b_Mod_putMay 26 = .ok (.if_icmp .ge 37, 3) := kq_162 byq_r (a := 0) (b := 37) (by decide +kernel)
theorem d_Mod_putMay_29 : decode b_Mod_putMay 29 = .ok (.aload_n 1, 1) := kq_43 byq_r (by decide +kernel)
theorem d_Mod_putMay_30 : decode b_Mod_putMay 30 = .ok (.iload_n 2, 1) := kq_28 byq_r (by decide +kernel)
theorem d_Mod_putMay_31 : decode b_Mod_putMay 31 = .ok (.iload_n 3, 1) := kq_29 byq_r (by decide +kernel)
theorem d_Mod_putMay_32 : decode b_Mod_putMay 32 = .ok (.invokestatic 154, 3) := kq_184 byq_r (a := 0) (b := 154) (by decide +kernel)
theorem d_Mod_putMay_35 : decode b_Mod_putMay 35 = .ok (.baload, 1) := kq_51 byq_r (by decide +kernel)
theorem d_Mod_putMay_36 : decode b_Mod_putMay 36 = .ok (.ifCond .eq 21, 3) := kq_153 byq_r (a := 0) (b := 21) (by decide +kernel)
theorem d_Mod_putMay_39 : decode b_Mod_putMay 39 = .ok (.aload_n 0, 1) := kq_42 byq_r (by decide +kernel)
theorem d_Mod_putMay_40 : decode b_Mod_putMay 40 = .ok (.getfield 66, 3) := kq_180 byq_r (a := 0) (b := 66) (by decide +kernel)
theorem d_Mod_putMay_43 : decode b_Mod_putMay 43 = .ok (.iload_n 3, 1) := kq_29 byq_r (by decide +kernel)
theorem d_Mod_putMay_44 : decode b_Mod_putMay 44 = .ok (.bipush 18, 2) := kq_16 byq_r (b := 18) (by decide +kernel)
theorem d_Mod_putMay_46 : decode b_Mod_putMay 46 = .ok (.idiv, 1) := kq_108 byq_r (by decide +kernel)
theorem d_Mod_putMay_47 : decode b_Mod_putMay 47 = .ok (.dup2, 1) := kq_92 byq_r (by decide +kernel)
theorem d_Mod_putMay_48 : decode b_Mod_putMay 48 = .ok (.iaload, 1) := kq_46 byq_r (by decide +kernel)
theorem d_Mod_putMay_49 : decode b_Mod_putMay 49 = .ok (.iconst 1, 1) := kq_4 byq_r (by decide +kernel)
theorem d_Mod_putMay_50 : decode b_Mod_putMay 50 = .ok (.iload_n 3, 1) := kq_29 byq_r (by decide +kernel)
theorem d_Mod_putMay_51 : decode b_Mod_putMay 51 = .ok (.bipush 18, 2) := kq_16 byq_r (b := 18) (by decide +kernel)
theorem d_Mod_putMay_53 : decode b_Mod_putMay 53 = .ok (.irem, 1) := kq_112 byq_r (by decide +kernel)
theorem d_Mod_putMay_54 : decode b_Mod_putMay 54 = .ok (.ishl, 1) := kq_120 byq_r (by decide +kernel)
theorem d_Mod_putMay_55 : decode b_Mod_putMay 55 = .ok (.ior, 1) := kq_128 byq_r (by decide +kernel)
theorem d_Mod_putMay_56 : decode b_Mod_putMay 56 = .ok (.iastore, 1) := kq_79 byq_r (by decide +kernel)
theorem d_Mod_putMay_57 : decode b_Mod_putMay 57 = .ok (.iinc 3 1, 3) := kq_132 byq_r (b := 1) (by decide +kernel)
theorem d_Mod_putMay_60 : decode b_Mod_putMay 60 = .ok (.goto (-37), 3) := kq_167 byq_r (a := 255) (b := 219) (by decide +kernel)
theorem d_Mod_putMay_63 : decode b_Mod_putMay 63 = .ok (.aload_n 0, 1) := kq_42 byq_r (by decide +kernel)
theorem d_Mod_putMay_64 : decode b_Mod_putMay 64 = .ok (.aload_n 0, 1) := kq_42 byq_r (by decide +kernel)
theorem d_Mod_putMay_65 : decode b_Mod_putMay 65 = .ok (.getfield 66, 3) := kq_180 byq_r (a := 0) (b := 66) (by decide +kernel)
theorem d_Mod_putMay_68 : decode b_Mod_putMay 68 = .ok (.iconst 0, 1) := kq_3 byq_r (by decide +kernel)
theorem d_Mod_putMay_69 : decode b_Mod_putMay 69 = .ok (.iaload, 1) := kq_46 byq_r (by decide +kernel)
theorem d_Mod_putMay_70 : decode b_Mod_putMay 70 = .ok (.invokevirtual 342, 3) := kq_182 byq_r (a := 1) (b := 86) (by decide +kernel)
theorem d_Mod_putMay_73 : decode b_Mod_putMay 73 = .ok (.aload_n 0, 1) := kq_42 byq_r (by decide +kernel)
theorem d_Mod_putMay_74 : decode b_Mod_putMay 74 = .ok (.aload_n 0, 1) := kq_42 byq_r (by decide +kernel)
theorem d_Mod_putMay_75 : decode b_Mod_putMay 75 = .ok (.getfield 66, 3) := kq_180 byq_r (a := 0) (b := 66) (by decide +kernel)
theorem d_Mod_putMay_78 : decode b_Mod_putMay 78 = .ok (.iconst 1, 1) := kq_4 byq_r (by decide +kernel)
theorem d_Mod_putMay_79 : decode b_Mod_putMay 79 = .ok (.iaload, 1) := kq_46 byq_r (by decide +kernel)
theorem d_Mod_putMay_80 : decode b_Mod_putMay 80 = .ok (.invokevirtual 342, 3) := kq_182 byq_r (a := 1) (b := 86) (by decide +kernel)
theorem d_Mod_putMay_83 : decode b_Mod_putMay 83 = .ok (.iinc 2 1, 3) := kq_132 byq_r (b := 1) (by decide +kernel)
theorem d_Mod_putMay_86 : decode b_Mod_putMay 86 = .ok (.goto (-84), 3) := kq_167 byq_r (a := 255) (b := 172) (by decide +kernel)
theorem d_Mod_putMay_89 : decode b_Mod_putMay 89 = .ok (.return_, 1) := kq_177 byq_r (by decide +kernel)
theorem d_Mod_flees_0 : decode b_Mod_flees 0 = .ok (.aload_n 0, 1) := kq_42 byq_r (by decide +kernel)
theorem d_Mod_flees_1 : decode b_Mod_flees 1 = .ok (.iconst 0, 1) := kq_3 byq_r (by decide +kernel)
theorem d_Mod_flees_2 : decode b_Mod_flees 2 = .ok (.putfield 109, 3) := kq_181 byq_r (a := 0) (b := 109) (by decide +kernel)
theorem d_Mod_flees_5 : decode b_Mod_flees 5 = .ok (.aload_n 0, 1) := kq_42 byq_r (by decide +kernel)
theorem d_Mod_flees_6 : decode b_Mod_flees 6 = .ok (.iload_n 2, 1) := kq_28 byq_r (by decide +kernel)
theorem d_Mod_flees_7 : decode b_Mod_flees 7 = .ok (.iload_n 1, 1) := kq_27 byq_r (by decide +kernel)
theorem d_Mod_flees_8 : decode b_Mod_flees 8 = .ok (.invokevirtual 374, 3) := kq_182 byq_r (a := 1) (b := 118) (by decide +kernel)
theorem d_Mod_flees_11 : decode b_Mod_flees 11 = .ok (.ifCond .eq 13, 3) := kq_153 byq_r (a := 0) (b := 13) (by decide +kernel)
theorem d_Mod_flees_14 : decode b_Mod_flees 14 = .ok (.iload_n 3, 1) := kq_29 byq_r (by decide +kernel)
theorem d_Mod_flees_15 : decode b_Mod_flees 15 = .ok (.iconst 1, 1) := kq_4 byq_r (by decide +kernel)
theorem d_Mod_flees_16 : decode b_Mod_flees 16 = .ok (.bipush 30, 2) := kq_16 byq_r (b := 30) (by decide +kernel)
theorem d_Mod_flees_18 : decode b_Mod_flees 18 = .ok (.invokestatic 119, 3) := kq_184 byq_r (a := 0) (b := 119) (by decide +kernel)
theorem d_Mod_flees_21 : decode b_Mod_flees 21 = .ok (.ifCond .ne 5, 3) := kq_154 byq_r (a := 0) (b := 5) (by decide +kernel)
theorem d_Mod_flees_24 : decode b_Mod_flees 24 = .ok (.iconst (-1), 1) := kq_2 byq_r (by decide +kernel)
theorem d_Mod_flees_25 : decode b_Mod_flees 25 = .ok (.ireturn, 1) := kq_172 byq_r (by decide +kernel)
theorem d_Mod_flees_26 : decode b_Mod_flees 26 = .ok (.aload_n 0, 1) := kq_42 byq_r (by decide +kernel)
theorem d_Mod_flees_27 : decode b_Mod_flees 27 = .ok (.iload_n 2, 1) := kq_28 byq_r (by decide +kernel)
theorem d_Mod_flees_28 : decode b_Mod_flees 28 = .ok (.iload_n 1, 1) := kq_27 byq_r (by decide +kernel)
theorem d_Mod_flees_29 : decode b_Mod_flees 29 = .ok (.invokestatic 154, 3) := kq_184 byq_r (a := 0) (b := 154) (by decide +kernel)
theorem d_Mod_flees_32 : decode b_Mod_flees 32 = .ok (.iload_n 3, 1) := kq_29 byq_r (by decide +kernel)
theorem d_Mod_flees_33 : decode b_Mod_flees 33 = .ok (.invokevirtual 413, 3) := kq_182 byq_r (a := 1) (b := 157) (by decide +kernel)
theorem d_Mod_flees_36 : decode b_Mod_flees 36 = .ok (.ldc_w 357, 3) := kq_19 byq_r (a := 1) (b := 101) (by decide +kernel)
theorem d_Mod_flees_39 : decode b_Mod_flees 39 = .ok (.if_icmp .ne 7, 3) := kq_160 byq_r (a := 0) (b := 7) (by decide +kernel)
theorem d_Mod_flees_42 : decode b_Mod_flees 42 = .ok (.iconst 1, 1) := kq_4 byq_r (by decide +kernel)
theorem d_Mod_flees_43 : decode b_Mod_flees 43 = .ok (.goto 4, 3) := kq_167 byq_r (a := 0) (b := 4) (by decide +kernel)
theorem d_Mod_flees_46 : decode b_Mod_flees 46 = .ok (.iconst 0, 1) := kq_3 byq_r (by decide +kernel)
theorem d_Mod_flees_47 : decode b_Mod_flees 47 = .ok (.istore 4, 2) := kq_54 byq_r (by decide +kernel)
theorem d_Mod_flees_49 : decode b_Mod_flees 49 = .ok (.aload_n 0, 1) := kq_42 byq_r (by decide +kernel)
theorem d_Mod_flees_50 : decode b_Mod_flees 50 = .ok (.iconst 0, 1) := kq_3 byq_r (by decide +kernel)
theorem d_Mod_flees_51 : decode b_Mod_flees 51 = .ok (.putfield 112, 3) := kq_181 byq_r (a := 0) (b := 112) (by decide +kernel)
theorem d_Mod_flees_54 : decode b_Mod_flees 54 = .ok (.aload_n 0, 1) := kq_42 byq_r (by decide +kernel)
theorem d_Mod_flees_55 : decode b_Mod_flees 55 = .ok (.aload_n 0, 1) := kq_42 byq_r (by decide +kernel)
theorem d_Mod_flees_56 : decode b_Mod_flees 56 = .ok (.getfield 91, 3) := kq_180 byq_r (a := 0) (b := 91) (by decide +kernel)
theorem d_Mod_flees_59 : decode b_Mod_flees 59 = .ok (.invokevirtual 416, 3) := kq_182 byq_r (a := 1) (b := 160) (by decide +kernel)
theorem d_Mod_flees_62 : decode b_Mod_flees 62 = .ok (.iload 4, 2) := kq_21 byq_r (by decide +kernel)
theorem d_Mod_flees_64 : decode b_Mod_flees 64 = .ok (.ifCond .eq 7, 3) := kq_153 byq_r (a := 0) (b := 7) (by decide +kernel)
theorem d_Mod_flees_67 : decode b_Mod_flees 67 = .ok (.iconst 1, 1) := kq_4 byq_r (by decide +kernel)
theorem d_Mod_flees_68 : decode b_Mod_flees 68 = .ok (.goto 4, 3) := kq_167 byq_r (a := 0) (b := 4) (by decide +kernel)
theorem d_Mod_flees_71 : decode b_Mod_flees 71 = .ok (.iconst 0, 1) := kq_3 byq_r (by decide +kernel)
theorem d_Mod_flees_72 : decode b_Mod_flees 72 = .ok (.ireturn, 1) := kq_172 byq_r (by decide +kernel)
theorem d_Mod_lairs_0 : decode b_Mod_lairs 0 = .ok (.aload_n 0, 1) := kq_42 byq_r (by decide +kernel)
theorem d_Mod_lairs_1 : decode b_Mod_lairs 1 = .ok (.iconst 0, 1) := kq_3 byq_r (by decide +kernel)
theorem d_Mod_lairs_2 : decode b_Mod_lairs 2 = .ok (.putfield 109, 3) := kq_181 byq_r (a := 0) (b := 109) (by decide +kernel)
theorem d_Mod_lairs_5 : decode b_Mod_lairs 5 = .ok (.iload_n 1, 1) := kq_27 byq_r (by decide +kernel)
theorem d_Mod_lairs_6 : decode b_Mod_lairs 6 = .ok (.iconst 1, 1) := kq_4 byq_r (by decide +kernel)
theorem d_Mod_lairs_7 : decode b_Mod_lairs 7 = .ok (.bipush 30, 2) := kq_16 byq_r (b := 30) (by decide +kernel)
theorem d_Mod_lairs_9 : decode b_Mod_lairs 9 = .ok (.invokestatic 119, 3) := kq_184 byq_r (a := 0) (b := 119) (by decide +kernel)
theorem d_Mod_lairs_12 : decode b_Mod_lairs 12 = .ok (.ifCond .ne 5, 3) := kq_154 byq_r (a := 0) (b := 5) (by decide +kernel)
theorem d_Mod_lairs_15 : decode b_Mod_lairs 15 = .ok (.iconst (-1), 1) := kq_2 byq_r (by decide +kernel)
theorem d_Mod_lairs_16 : decode b_Mod_lairs 16 = .ok (.ireturn, 1) := kq_172 byq_r (by decide +kernel)
theorem d_Mod_lairs_17 : decode b_Mod_lairs 17 = .ok (.iconst 0, 1) := kq_3 byq_r (by decide +kernel)
theorem d_Mod_lairs_18 : decode b_Mod_lairs 18 = .ok (.istore_n 2, 1) := kq_61 byq_r (by decide +kernel)
theorem d_Mod_lairs_19 : decode b_Mod_lairs 19 = .ok (.iconst 0, 1) := kq_3 byq_r (by decide +kernel)
theorem d_Mod_lairs_20 : decode b_Mod_lairs 20 = .ok (.istore_n 3, 1) := kq_62 byq_r (by decide +kernel)
theorem d_Mod_lairs_21 : decode b_Mod_lairs 21 = .ok (.iload_n 3, 1) := kq_29 byq_r (by decide +kernel)
theorem d_Mod_lairs_22 : decode b_Mod_lairs 22 = .ok (.bipush 72, 2) := kq_16 byq_r (b := 72) (by decide +kernel)
theorem d_Mod_lairs_24 : decode b_Mod_lairs 24 = .ok (.if_icmp .ge 64, 3) := kq_162 byq_r (a := 0) (b := 64) (by decide +kernel)
theorem d_Mod_lairs_27 : decode b_Mod_lairs 27 = .ok (.aload_n 0, 1) := kq_42 byq_r (by decide +kernel)
theorem d_Mod_lairs_28 : decode b_Mod_lairs 28 = .ok (.getfield 97, 3) := kq_180 byq_r (a := 0) (b := 97) (by decide +kernel)
theorem d_Mod_lairs_31 : decode b_Mod_lairs 31 = .ok (.iload_n 3, 1) := kq_29 byq_r (by decide +kernel)
theorem d_Mod_lairs_32 : decode b_Mod_lairs 32 = .ok (.aload_n 0, 1) := kq_42 byq_r (by decide +kernel)
theorem d_Mod_lairs_33 : decode b_Mod_lairs 33 = .ok (.iload_n 3, 1) := kq_29 byq_r (by decide +kernel)
theorem d_Mod_lairs_34 : decode b_Mod_lairs 34 = .ok (.invokestatic 143, 3) := kq_184 byq_r (a := 0) (b := 143) (by decide +kernel)
theorem d_Mod_lairs_37 : decode b_Mod_lairs 37 = .ok (.iload_n 3, 1) := kq_29 byq_r (by decide +kernel)
theorem d_Mod_lairs_38 : decode b_Mod_lairs 38 = .ok (.invokestatic 147, 3) := kq_184 byq_r (a := 0) (b := 147) (by decide +kernel)
theorem d_Mod_lairs_41 : decode b_Mod_lairs 41 = .ok (.invokevirtual 140, 3) := kq_182 byq_r (a := 0) (b := 140) (by decide +kernel)
theorem d_Mod_lairs_44 : decode b_Mod_lairs 44 = .ok (.ifCond .eq 19, 3) := kq_153 byq_r (a := 0) (b := 19) (by decide +kernel)
theorem d_Mod_lairs_47 : decode b_Mod_lairs 47 = .ok (.aload_n 0, 1) := kq_42 byq_r (by decide +kernel)
theorem d_Mod_lairs_48 : decode b_Mod_lairs 48 = .ok (.iload_n 3, 1) := kq_29 byq_r (by decide +kernel)
theorem d_Mod_lairs_49 : decode b_Mod_lairs 49 = .ok (.iload_n 1, 1) := kq_27 byq_r (by decide +kernel)
theorem d_Mod_lairs_50 : decode b_Mod_lairs 50 = .ok (.invokevirtual 413, 3) := kq_182 byq_r (a := 1) (b := 157) (by decide +kernel)
theorem d_Mod_lairs_53 : decode b_Mod_lairs 53 = .ok (.ldc_w 357, 3) := kq_19 byq_r (a := 1) (b := 101) (by decide +kernel)
theorem d_Mod_lairs_56 : decode b_Mod_lairs 56 = .ok (.if_icmp .ne 7, 3) := kq_160 byq_r (a := 0) (b := 7) (by decide +kernel)
theorem d_Mod_lairs_59 : decode b_Mod_lairs 59 = .ok (.iconst 1, 1) := kq_4 byq_r (by decide +kernel)
theorem d_Mod_lairs_60 : decode b_Mod_lairs 60 = .ok (.goto 4, 3) := kq_167 byq_r (a := 0) (b := 4) (by decide +kernel)
theorem d_Mod_lairs_63 : decode b_Mod_lairs 63 = .ok (.iconst 0, 1) := kq_3 byq_r (by decide +kernel)
theorem d_Mod_lairs_64 : decode b_Mod_lairs 64 = .ok (.bastore, 1) := kq_84 byq_r (by decide +kernel)
theorem d_Mod_lairs_65 : decode b_Mod_lairs 65 = .ok (.iload_n 2, 1) := kq_28 byq_r (by decide +kernel)
theorem d_Mod_lairs_66 : decode b_Mod_lairs 66 = .ok (.aload_n 0, 1) := kq_42 byq_r (by decide +kernel)
theorem d_Mod_lairs_67 : decode b_Mod_lairs 67 = .ok (.getfield 97, 3) := kq_180 byq_r (a := 0) (b := 97) (by decide +kernel)
theorem d_Mod_lairs_70 : decode b_Mod_lairs 70 = .ok (.iload_n 3, 1) := kq_29 byq_r (by decide +kernel)
theorem d_Mod_lairs_71 : decode b_Mod_lairs 71 = .ok (.baload, 1) := kq_51 byq_r (by decide +kernel)
theorem d_Mod_lairs_72 : decode b_Mod_lairs 72 = .ok (.ifCond .eq 7, 3) := kq_153 byq_r (a := 0) (b := 7) (by decide +kernel)
theorem d_Mod_lairs_75 : decode b_Mod_lairs 75 = .ok (.iconst 1, 1) := kq_4 byq_r (by decide +kernel)
theorem d_Mod_lairs_76 : decode b_Mod_lairs 76 = .ok (.goto 4, 3) := kq_167 byq_r (a := 0) (b := 4) (by decide +kernel)
theorem d_Mod_lairs_79 : decode b_Mod_lairs 79 = .ok (.iconst 0, 1) := kq_3 byq_r (by decide +kernel)
theorem d_Mod_lairs_80 : decode b_Mod_lairs 80 = .ok (.iadd, 1) := kq_96 byq_r (by decide +kernel)
theorem d_Mod_lairs_81 : decode b_Mod_lairs 81 = .ok (.istore_n 2, 1) := kq_61 byq_r (by decide +kernel)
theorem d_Mod_lairs_82 : decode b_Mod_lairs 82 = .ok (.iinc 3 1, 3) := kq_132 byq_r (b := 1) (by decide +kernel)
theorem d_Mod_lairs_85 : decode b_Mod_lairs 85 = .ok (.goto (-64), 3) := kq_167 byq_r (a := 255) (b := 192) (by decide +kernel)
theorem d_Mod_lairs_88 : decode b_Mod_lairs 88 = .ok (.aload_n 0, 1) := kq_42 byq_r (by decide +kernel)
theorem d_Mod_lairs_89 : decode b_Mod_lairs 89 = .ok (.iconst 0, 1) := kq_3 byq_r (by decide +kernel)
theorem d_Mod_lairs_90 : decode b_Mod_lairs 90 = .ok (.putfield 112, 3) := kq_181 byq_r (a := 0) (b := 112) (by decide +kernel)
theorem d_Mod_lairs_93 : decode b_Mod_lairs 93 = .ok (.aload_n 0, 1) := kq_42 byq_r (by decide +kernel)
theorem d_Mod_lairs_94 : decode b_Mod_lairs 94 = .ok (.aload_n 0, 1) := kq_42 byq_r (by decide +kernel)
theorem d_Mod_lairs_95 : decode b_Mod_lairs 95 = .ok (.getfield 97, 3) := kq_180 byq_r (a := 0) (b := 97) (by decide +kernel)
theorem d_Mod_lairs_98 : decode b_Mod_lairs 98 = .ok (.invokevirtual 416, 3) := kq_182 byq_r (a := 1) (b := 160) (by decide +kernel)
theorem d_Mod_lairs_101 : decode b_Mod_lairs 101 = .ok (.iload_n 2, 1) := kq_28 byq_r (by decide +kernel)
theorem d_Mod_lairs_102 : decode b_Mod_lairs 102 = .ok (.ireturn, 1) := kq_172 byq_r (by decide +kernel)
theorem d_Mod_caught_0 : decode b_Mod_caught 0 = .ok (.aload_n 0, 1) := kq_42 byq_r (by decide +kernel)
theorem d_Mod_caught_1 : decode b_Mod_caught 1 = .ok (.iconst 0, 1) := kq_3 byq_r (by decide +kernel)
theorem d_Mod_caught_2 : decode b_Mod_caught 2 = .ok (.putfield 109, 3) := kq_181 byq_r (a := 0) (b := 109) (by decide +kernel)
theorem d_Mod_caught_5 : decode b_Mod_caught 5 = .ok (.aload_n 0, 1) := kq_42 byq_r (by decide +kernel)
theorem d_Mod_caught_6 : decode b_Mod_caught 6 = .ok (.iload_n 2, 1) := kq_28 byq_r (by decide +kernel)
theorem d_Mod_caught_7 : decode b_Mod_caught 7 = .ok (.iload_n 1, 1) := kq_27 byq_r (by decide +kernel)
theorem d_Mod_caught_8 : decode b_Mod_caught 8 = .ok (.invokevirtual 374, 3) := kq_182 byq_r (a := 1) (b := 118) (by decide +kernel)
theorem d_Mod_caught_11 : decode b_Mod_caught 11 = .ok (.ifCond .ne 5, 3) := kq_154 byq_r (a := 0) (b := 5) (by decide +kernel)
theorem d_Mod_caught_14 : decode b_Mod_caught 14 = .ok (.iconst (-1), 1) := kq_2 byq_r (by decide +kernel)
theorem d_Mod_caught_15 : decode b_Mod_caught 15 = .ok (.ireturn, 1) := kq_172 byq_r (by decide +kernel)
theorem d_Mod_caught_16 : decode b_Mod_caught 16 = .ok (.aload_n 0, 1) := kq_42 byq_r (by decide +kernel)
theorem d_Mod_caught_17 : decode b_Mod_caught 17 = .ok (.iload_n 2, 1) := kq_28 byq_r (by decide +kernel)
theorem d_Mod_caught_18 : decode b_Mod_caught 18 = .ok (.iload_n 1, 1) := kq_27 byq_r (by decide +kernel)
theorem d_Mod_caught_19 : decode b_Mod_caught 19 = .ok (.invokestatic 154, 3) := kq_184 byq_r (a := 0) (b := 154) (by decide +kernel)
theorem d_Mod_caught_22 : decode b_Mod_caught 22 = .ok (.bipush 30, 2) := kq_16 byq_r (b := 30) (by decide +kernel)
theorem d_Mod_caught_24 : decode b_Mod_caught 24 = .ok (.invokevirtual 413, 3) := kq_182 byq_r (a := 1) (b := 157) (by decide +kernel)
theorem d_Mod_caught_27 : decode b_Mod_caught 27 = .ok (.istore_n 3, 1) := kq_62 byq_r (by decide +kernel)
theorem d_Mod_caught_28 : decode b_Mod_caught 28 = .ok (.iload_n 3, 1) := kq_29 byq_r (by decide +kernel)
theorem d_Mod_caught_29 : decode b_Mod_caught 29 = .ok (.ldc_w 357, 3) := kq_19 byq_r (a := 1) (b := 101) (by decide +kernel)
theorem d_Mod_caught_32 : decode b_Mod_caught 32 = .ok (.if_icmp .ne 8, 3) := kq_160 byq_r (a := 0) (b := 8) (by decide +kernel)
theorem d_Mod_caught_35 : decode b_Mod_caught 35 = .ok (.bipush (-2), 2) := kq_16 byq_r (b := 254) (by decide +kernel)
theorem d_Mod_caught_37 : decode b_Mod_caught 37 = .ok (.goto 4, 3) := kq_167 byq_r (a := 0) (b := 4) (by decide +kernel)
theorem d_Mod_caught_40 : decode b_Mod_caught 40 = .ok (.iload_n 3, 1) := kq_29 byq_r (by decide +kernel)
theorem d_Mod_caught_41 : decode b_Mod_caught 41 = .ok (.ireturn, 1) := kq_172 byq_r (by decide +kernel)
theorem d_Mod_enter_0 : decode b_Mod_enter 0 = .ok (.iload_n 1, 1) := kq_27 byq_r (by decide +kernel)
theorem d_Mod_enter_1 : decode b_Mod_enter 1 = .ok (.iconst (-1), 1) := kq_2 byq_r (by decide +kernel)
theorem d_Mod_enter_2 : decode b_Mod_enter 2 = .ok (.if_icmp .eq 26, 3) := kq_159 byq_r (a := 0) (b := 26) (by decide +kernel)
theorem d_Mod_enter_5 : decode b_Mod_enter 5 = .ok (.aload_n 0, 1) := kq_42 byq_r (by decide +kernel)
theorem d_Mod_enter_6 : decode b_Mod_enter 6 = .ok (.getfield 91, 3) := kq_180 byq_r (a := 0) (b := 91) (by decide +kernel)
theorem d_Mod_enter_9 : decode b_Mod_enter 9 = .ok (.iload_n 1, 1) := kq_27 byq_r (by decide +kernel)
theorem d_Mod_enter_10 : decode b_Mod_enter 10 = .ok (.baload, 1) := kq_51 byq_r (by decide +kernel)
theorem d_Mod_enter_11 : decode b_Mod_enter 11 = .ok (.ifCond .ne 17, 3) := kq_154 byq_r (a := 0) (b := 17) (by decide +kernel)
theorem d_Mod_enter_14 : decode b_Mod_enter 14 = .ok (.aload_n 0, 1) := kq_42 byq_r (by decide +kernel)
theorem d_Mod_enter_15 : decode b_Mod_enter 15 = .ok (.aload_n 0, 1) := kq_42 byq_r (by decide +kernel)
theorem d_Mod_enter_16 : decode b_Mod_enter 16 = .ok (.getfield 9, 3) := kq_180 byq_r (a := 0) (b := 9) (by decide +kernel)
theorem d_Mod_enter_19 : decode b_Mod_enter 19 = .ok (.iload_n 1, 1) := kq_27 byq_r (by decide +kernel)
theorem d_Mod_enter_20 : decode b_Mod_enter 20 = .ok (.invokevirtual 259, 3) := kq_182 byq_r (a := 1) (b := 3) (by decide +kernel)
theorem d_Mod_enter_23 : decode b_Mod_enter 23 = .ok (.iload_n 2, 1) := kq_28 byq_r (by decide +kernel)
theorem d_Mod_enter_24 : decode b_Mod_enter 24 = .ok (.iand, 1) := kq_126 byq_r (by decide +kernel)
theorem d_Mod_enter_25 : decode b_Mod_enter 25 = .ok (.ifCond .eq 5, 3) := kq_153 byq_r (a := 0) (b := 5) (by decide +kernel)
theorem d_Mod_enter_28 : decode b_Mod_enter 28 = .ok (.iconst 0, 1) := kq_3 byq_r (by decide +kernel)
theorem d_Mod_enter_29 : decode b_Mod_enter 29 = .ok (.ireturn, 1) := kq_172 byq_r (by decide +kernel)
theorem d_Mod_enter_30 : decode b_Mod_enter 30 = .ok (.aload_n 0, 1) := kq_42 byq_r (by decide +kernel)
theorem d_Mod_enter_31 : decode b_Mod_enter 31 = .ok (.getfield 91, 3) := kq_180 byq_r (a := 0) (b := 91) (by decide +kernel)
theorem d_Mod_enter_34 : decode b_Mod_enter 34 = .ok (.iload_n 1, 1) := kq_27 byq_r (by decide +kernel)
theorem d_Mod_enter_35 : decode b_Mod_enter 35 = .ok (.iconst 1, 1) := kq_4 byq_r (by decide +kernel)
theorem d_Mod_enter_36 : decode b_Mod_enter 36 = .ok (.bastore, 1) := kq_84 byq_r (by decide +kernel)
theorem d_Mod_enter_37 : decode b_Mod_enter 37 = .ok (.iconst 1, 1) := kq_4 byq_r (by decide +kernel)
theorem d_Mod_enter_38 : decode b_Mod_enter 38 = .ok (.ireturn, 1) := kq_172 byq_r (by decide +kernel)
theorem d_Mod_gets_0 : decode b_Mod_gets 0 = .ok (.iconst 0, 1) := kq_3 byq_r (by decide +kernel)
theorem d_Mod_gets_1 : decode b_Mod_gets 1 = .ok (.istore 4, 2) := kq_54 byq_r (by decide +kernel)
theorem d_Mod_gets_3 : decode b_Mod_gets 3 = .ok (.iload 4, 2) := kq_21 byq_r (by decide +kernel)
theorem d_Mod_gets_5 : decode b_Mod_gets 5 = .ok (.bipush 72, 2) := kq_16 byq_r (b := 72) (by decide +kernel)
theorem d_Mod_gets_7 : decode b_Mod_gets 7 = .ok (.if_icmp .ge 27, 3) := kq_162 byq_r (a := 0) (b := 27) (by decide +kernel)
theorem d_Mod_gets_10 : decode b_Mod_gets 10 = .ok (.aload_n 0, 1) := kq_42 byq_r (by decide +kernel)
theorem d_Mod_gets_11 : decode b_Mod_gets 11 = .ok (.getfield 91, 3) := kq_180 byq_r (a := 0) (b := 91) (by decide +kernel)
theorem d_Mod_gets_14 : decode b_Mod_gets 14 = .ok (.iload 4, 2) := kq_21 byq_r (by decide +kernel)
theorem d_Mod_gets_16 : decode b_Mod_gets 16 = .ok (.iload 4, 2) := kq_21 byq_r (by decide +kernel)
theorem d_Mod_gets_18 : decode b_Mod_gets 18 = .ok (.iload_n 1, 1) := kq_27 byq_r (by decide +kernel)
theorem d_Mod_gets_19 : decode b_Mod_gets 19 = .ok (.if_icmp .ne 7, 3) := kq_160 byq_r (a := 0) (b := 7) (by decide +kernel)
theorem d_Mod_gets_22 : decode b_Mod_gets 22 = .ok (.iconst 1, 1) := kq_4 byq_r (by decide +kernel)
theorem d_Mod_gets_23 : decode b_Mod_gets 23 = .ok (.goto 4, 3) := kq_167 byq_r (a := 0) (b := 4) (by decide +kernel)
theorem d_Mod_gets_26 : decode b_Mod_gets 26 = .ok (.iconst 0, 1) := kq_3 byq_r (by decide +kernel)
theorem d_Mod_gets_27 : decode b_Mod_gets 27 = .ok (.bastore, 1) := kq_84 byq_r (by decide +kernel)
theorem d_Mod_gets_28 : decode b_Mod_gets 28 = .ok (.iinc 4 1, 3) := kq_132 byq_r (b := 1) (by decide +kernel)
theorem d_Mod_gets_31 : decode b_Mod_gets 31 = .ok (.goto (-28), 3) := kq_167 byq_r (a := 255) (b := 228) (by decide +kernel)
theorem d_Mod_gets_34 : decode b_Mod_gets 34 = .ok (.iconst 1, 1) := kq_4 byq_r (by decide +kernel)
theorem d_Mod_gets_35 : decode b_Mod_gets 35 = .ok (.istore 4, 2) := kq_54 byq_r (by decide +kernel)
theorem d_Mod_gets_37 : decode b_Mod_gets 37 = .ok (.iload 4, 2) := kq_21 byq_r (by decide +kernel)
theorem d_Mod_gets_39 : decode b_Mod_gets 39 = .ok (.ifCond .eq 114, 3) := kq_153 byq_r (a := 0) (b := 114) (by decide +kernel)
theorem d_Mod_gets_42 : decode b_Mod_gets 42 = .ok (.iconst 0, 1) := kq_3 byq_r (by decide +kernel)
theorem d_Mod_gets_43 : decode b_Mod_gets 43 = .ok (.istore 4, 2) := kq_54 byq_r (by decide +kernel)
theorem d_Mod_gets_45 : decode b_Mod_gets 45 = .ok (.iconst 0, 1) := kq_3 byq_r (by decide +kernel)
theorem d_Mod_gets_46 : decode b_Mod_gets 46 = .ok (.istore 5, 2) := kq_54 byq_r (by decide +kernel)
theorem d_Mod_gets_48 : decode b_Mod_gets 48 = .ok (.iload 5, 2) := kq_21 byq_r (by decide +kernel)
theorem d_Mod_gets_50 : decode b_Mod_gets 50 = .ok (.bipush 72, 2) := kq_16 byq_r (b := 72) (by decide +kernel)
theorem d_Mod_gets_52 : decode b_Mod_gets 52 = .ok (.if_icmp .ge 98, 3) := kq_162 byq_r (a := 0) (b := 98) (by decide +kernel)
theorem d_Mod_gets_55 : decode b_Mod_gets 55 = .ok (.aload_n 0, 1) := kq_42 byq_r (by decide +kernel)
theorem d_Mod_gets_56 : decode b_Mod_gets 56 = .ok (.getfield 91, 3) := kq_180 byq_r (a := 0) (b := 91) (by decide +kernel)
theorem d_Mod_gets_59 : decode b_Mod_gets 59 = .ok (.iload 5, 2) := kq_21 byq_r (by decide +kernel)
theorem d_Mod_gets_61 : decode b_Mod_gets 61 = .ok (.baload, 1) := kq_51 byq_r (by decide +kernel)
theorem d_Mod_gets_62 : decode b_Mod_gets 62 = .ok (.ifCond .ne 6, 3) := kq_154 byq_r (a := 0) (b := 6) (by decide +kernel)
theorem d_Mod_gets_65 : decode b_Mod_gets 65 = .ok (.goto 79, 3) := kq_167 byq_r (a := 0) (b := 79) (by decide +kernel)
theorem d_Mod_gets_68 : decode b_Mod_gets 68 = .ok (.iconst 0, 1) := kq_3 byq_r (by decide +kernel)
theorem d_Mod_gets_69 : decode b_Mod_gets 69 = .ok (.istore 6, 2) := kq_54 byq_r (by decide +kernel)
theorem d_Mod_gets_71 : decode b_Mod_gets 71 = .ok (.iload 6, 2) := kq_21 byq_r (by decide +kernel)
theorem d_Mod_gets_73 : decode b_Mod_gets 73 = .ok (.iconst 4, 1) := kq_7 byq_r (by decide +kernel)
theorem d_Mod_gets_74 : decode b_Mod_gets 74 = .ok (.if_icmp .ge 31, 3) := kq_162 byq_r (a := 0) (b := 31) (by decide +kernel)
theorem d_Mod_gets_77 : decode b_Mod_gets 77 = .ok (.iload 4, 2) := kq_21 byq_r (by decide +kernel)
theorem d_Mod_gets_79 : decode b_Mod_gets 79 = .ok (.aload_n 0, 1) := kq_42 byq_r (by decide +kernel)
theorem d_Mod_gets_80 : decode b_Mod_gets 80 = .ok (.aload_n 0, 1) := kq_42 byq_r (by decide +kernel)
theorem d_Mod_gets_81 : decode b_Mod_gets 81 = .ok (.aload_n 0, 1) := kq_42 byq_r (by decide +kernel)
theorem d_Mod_gets_82 : decode b_Mod_gets 82 = .ok (.getfield 9, 3) := kq_180 byq_r (a := 0) (b := 9) (by decide +kernel)
theorem d_Mod_gets_85 : decode b_Mod_gets 85 = .ok (.iload 5, 2) := kq_21 byq_r (by decide +kernel)
theorem d_Mod_gets_87 : decode b_Mod_gets 87 = .ok (.iload 6, 2) := kq_21 byq_r (by decide +kernel)
theorem d_Mod_gets_89 : decode b_Mod_gets 89 = .ok (.invokevirtual 252, 3) := kq_182 byq_r (a := 0) (b := 252) (by decide +kernel)
theorem d_Mod_gets_92 : decode b_Mod_gets 92 = .ok (.iload_n 3, 1) := kq_29 byq_r (by decide +kernel)
theorem d_Mod_gets_93 : decode b_Mod_gets 93 = .ok (.invokevirtual 420, 3) := kq_182 byq_r (a := 1) (b := 164) (by decide +kernel)
theorem d_Mod_gets_96 : decode b_Mod_gets 96 = .ok (.ior, 1) := kq_128 byq_r (by decide +kernel)
theorem d_Mod_gets_97 : decode b_Mod_gets 97 = .ok (.istore 4, 2) := kq_54 byq_r (by decide +kernel)
theorem d_Mod_gets_99 : decode b_Mod_gets 99 = .ok (.iinc 6 1, 3) := kq_132 byq_r (b := 1) (by decide +kernel)
theorem d_Mod_gets_102 : decode b_Mod_gets 102 = .ok (.goto (-31), 3) := kq_167 byq_r (a := 255) (b := 225) (by decide +kernel)
theorem d_Mod_gets_105 : decode b_Mod_gets 105 = .ok (.aload_n 0, 1) := kq_42 byq_r (by decide +kernel)
theorem d_Mod_gets_106 : decode b_Mod_gets 106 = .ok (.getfield 13, 3) := kq_180 byq_r (a := 0) (b := 13) (by decide +kernel)
theorem d_Mod_gets_109 : decode b_Mod_gets 109 = .ok (.iload 5, 2) := kq_21 byq_r (by decide +kernel)
theorem d_Mod_gets_111 : decode b_Mod_gets 111 = .ok (.invokestatic 147, 3) := kq_184 byq_r (a := 0) (b := 147) (by decide +kernel)
theorem d_Mod_gets_114 : decode b_Mod_gets 114 = .ok (.iaload, 1) := kq_46 byq_r (by decide +kernel)
theorem d_Mod_gets_115 : decode b_Mod_gets 115 = .ok (.iconst 3, 1) := kq_6 byq_r (by decide +kernel)
theorem d_Mod_gets_116 : decode b_Mod_gets 116 = .ok (.if_icmp .ne 28, 3) := kq_160 byq_r (a := 0) (b := 28) (by decide +kernel)
theorem d_Mod_gets_119 : decode b_Mod_gets 119 = .ok (.iload 4, 2) := kq_21 byq_r (by decide +kernel)
theorem d_Mod_gets_121 : decode b_Mod_gets 121 = .ok (.aload_n 0, 1) := kq_42 byq_r (by decide +kernel)
theorem d_Mod_gets_122 : decode b_Mod_gets 122 = .ok (.iconst 1, 1) := kq_4 byq_r (by decide +kernel)
theorem d_Mod_gets_123 : decode b_Mod_gets 123 = .ok (.iload 5, 2) := kq_21 byq_r (by decide +kernel)
theorem d_Mod_gets_125 : decode b_Mod_gets 125 = .ok (.invokestatic 143, 3) := kq_184 byq_r (a := 0) (b := 143) (by decide +kernel)
theorem d_Mod_gets_128 : decode b_Mod_gets 128 = .ok (.isub, 1) := kq_100 byq_r (by decide +kernel)
theorem d_Mod_gets_129 : decode b_Mod_gets 129 = .ok (.iload 5, 2) := kq_21 byq_r (by decide +kernel)
theorem d_Mod_gets_131 : decode b_Mod_gets 131 = .ok (.invokestatic 147, 3) := kq_184 byq_r (a := 0) (b := 147) (by decide +kernel)
theorem d_Mod_gets_134 : decode b_Mod_gets 134 = .ok (.invokestatic 154, 3) := kq_184 byq_r (a := 0) (b := 154) (by decide +kernel)
theorem d_Mod_gets_137 : decode b_Mod_gets 137 = .ok (.iload_n 3, 1) := kq_29 byq_r (by decide +kernel)
theorem d_Mod_gets_138 : decode b_Mod_gets 138 = .ok (.invokevirtual 420, 3) := kq_182 byq_r (a := 1) (b := 164) (by decide +kernel)
theorem d_Mod_gets_141 : decode b_Mod_gets 141 = .ok (.ior, 1) := kq_128 byq_r (by decide +kernel)
theorem d_Mod_gets_142 : decode b_Mod_gets 142 = .ok (.istore 4, 2) := kq_54 byq_r (by decide +kernel)
theorem d_Mod_gets_144 : decode b_Mod_gets 144 = .ok (.iinc 5 1, 3) := kq_132 byq_r (b := 1) (by decide +kernel)
theorem d_Mod_gets_147 : decode b_Mod_gets 147 = .ok (.goto (-99), 3) := kq_167 byq_r (a := 255) (b := 157) (by decide +kernel)
theorem d_Mod_gets_150 : decode b_Mod_gets 150 = .ok (.goto (-113), 3) := kq_167 byq_r (a := 255) (b := 143) (by decide +kernel)
theorem d_Mod_gets_153 : decode b_Mod_gets 153 = .ok (.aload_n 0, 1) := kq_42 byq_r (by decide +kernel)
theorem d_Mod_gets_154 : decode b_Mod_gets 154 = .ok (.getfield 91, 3) := kq_180 byq_r (a := 0) (b := 91) (by decide +kernel)
theorem d_Mod_gets_157 : decode b_Mod_gets 157 = .ok (.iload_n 2, 1) := kq_28 byq_r (by decide +kernel)
theorem d_Mod_gets_158 : decode b_Mod_gets 158 = .ok (.baload, 1) := kq_51 byq_r (by decide +kernel)
theorem d_Mod_gets_159 : decode b_Mod_gets 159 = .ok (.ireturn, 1) := kq_172 byq_r (by decide +kernel)
def lb_Mod_wardrobe_45 (v1 : Int32) (v2 : Int32) (s : Int32 × Mem) : Option ((Int32 × Mem) ⊕ ((Mem))) :=
  if (1296 : Int32) ≤ s.1 then
  some (.inr s.2)
  else
  if inb s.1 1296 = true then
  mem_ (s_i s.2 185 s.1.toNatClampNeg (1000000 : Int32)) fun M4 =>
  some (.inl ((s.1 + (1 : Int32)), M4))
  else none
theorem lb_Mod_wardrobe_45_ok {E : Ev} {G : Gw} {d : Nat} {post : Int32 → Mem → Prop} (X : Cx E G b_Mod_wardrobe "WomenByTheRoofsModel" 10 d (some .int)) (hD : 6 ≤ d)  (v1 : Int32) (v2 : Int32)   (s : Int32 × Mem) (o : (Int32 × Mem) ⊕ ((Mem))) (h : lb_Mod_wardrobe_45 v1 v2 s = some o) (kc : ∀ s9 : Int32 × Mem, o = .inl s9 → V E (0, 0) G 10 (QI E G post) s9.2 45 [(0, .ref (G.2.2 + 162)), (1, .int v1), (2, .int v2), (3, .int s9.1)] []) (kx0 : ∀ x9 : Mem, o = .inr x9 → V E (0, 0) G 10 (QI E G post) x9 67 [(0, .ref (G.2.2 + 162)), (1, .int v1), (2, .int v2)] []) : V E (0, 0) G 10 (QI E G post) s.2 45 [(0, .ref (G.2.2 + 162)), (1, .int v1), (2, .int v2), (3, .int s.1)] [] := by
  unfold lb_Mod_wardrobe_45 at h
  refine V_iload_n (n := 3) X d_Mod_wardrobe_45 rfl rfl rfl ?_
  refine V_sipush (v := 1296) X d_Mod_wardrobe_46 (by decide) rfl ?_
  refine V_icmp_ge (tgt := 67) X d_Mod_wardrobe_49 (by decide) rfl (fun c5 => ?_) (fun c5 => ?_)
  · rw [if_pos c5] at h
    refine V_sub (lv' := [(0, .ref (G.2.2 + 162)), (1, .int v1), (2, .int v2)]) [0, 1, 2] rfl ?_
    exact kx0 s.2 (Option.some.inj h).symm
  · rw [if_neg c5] at h
    refine V_aload_n (n := 0) X d_Mod_wardrobe_52 rfl rfl rfl ?_
    refine V_getr (k2 := 185) X fo_Mod_88 kd_162 rfl rf_162_44 d_Mod_wardrobe_53 rfl ?_
    refine V_iload_n (n := 3) X d_Mod_wardrobe_56 rfl rfl rfl ?_
    refine V_ldc_w (v := 1000000) X d_Mod_wardrobe_57 kc_Mod_357 rfl ?_
    obtain ⟨hb, h⟩ := ifn h
    obtain ⟨M4, eM4, h⟩ := memS h
    refine V_iast X kd_185 (inb_in ln_185 hb) d_Mod_wardrobe_60 rfl ?_
    rw [← eM4]
    refine V_iinc (n := 3) (v := (s.1 + (1 : Int32))) (lv' := [(3, .int (s.1 + (1 : Int32))), (0, .ref (G.2.2 + 162)), (1, .int v1), (2, .int v2)]) X d_Mod_wardrobe_61 rfl rfl (by decide) rfl rfl ?_
    refine V_goto (pc' := 45) X d_Mod_wardrobe_64 (by decide) ?_
    refine V_sub (lv' := [(0, .ref (G.2.2 + 162)), (1, .int v1), (2, .int v2), (3, .int (s.1 + (1 : Int32)))]) [1, 2, 3, 0] rfl ?_
    exact kc ((s.1 + (1 : Int32)), M4) (Option.some.inj h).symm
theorem lp_Mod_wardrobe_45_ok {E : Ev} {G : Gw} {d : Nat} {post : Int32 → Mem → Prop} (X : Cx E G b_Mod_wardrobe "WomenByTheRoofsModel" 10 d (some .int)) (hD : 6 ≤ d)  (v1 : Int32) (v2 : Int32)   (n9 : Nat) (s : Int32 × Mem) (x : (Mem)) (h : iter (lb_Mod_wardrobe_45 v1 v2) n9 s = some x) (kx0 : ∀ x9 : Mem, x = x9 → V E (0, 0) G 10 (QI E G post) x9 67 [(0, .ref (G.2.2 + 162)), (1, .int v1), (2, .int v2)] []) : V E (0, 0) G 10 (QI E G post) s.2 45 [(0, .ref (G.2.2 + 162)), (1, .int v1), (2, .int v2), (3, .int s.1)] [] :=
  iter_P (P := fun s : Int32 × Mem => V E (0, 0) G 10 (QI E G post) s.2 45 [(0, .ref (G.2.2 + 162)), (1, .int v1), (2, .int v2), (3, .int s.1)] []) (fun s o hb kc ky => lb_Mod_wardrobe_45_ok X hD v1 v2 s o hb kc (fun x9 e9 => kx0 x9 (ky _ e9).symm)) n9 s h
def j_Mod_wardrobe_168_138 (v1 : Int32) (v3 : Int32) (v4 : Int32) (v5 : Int32) (v6 : Int32) (v7 : Int32) (w0 : Int32) (M : Mem) : Option ((Int32 × Int32 × Mem) ⊕ ((Int32 × Mem))) :=
  if w0 = (-1 : Int32) then
  some (.inl (v3, (v7 + (1 : Int32)), M))
  else
  if inb w0 1296 = true then
  if (1000000 : Int32) ≤ (M.1 185 w0.toNatClampNeg) then
  if inb w0 1296 = true then
  mem_ (s_i M 185 w0.toNatClampNeg (v4 + (1 : Int32))) fun M11 =>
  some (.inl ((1 : Int32), (v7 + (1 : Int32)), M11))
  else none
  else
  some (.inl (v3, (v7 + (1 : Int32)), M))
  else none
theorem j_Mod_wardrobe_168_138_ok {E : Ev} {G : Gw} {d : Nat} {post : Int32 → Mem → Prop} (X : Cx E G b_Mod_wardrobe "WomenByTheRoofsModel" 10 d (some .int)) (hD : 6 ≤ d)  (v1 : Int32) (v3 : Int32) (v4 : Int32) (v5 : Int32) (v6 : Int32) (v7 : Int32) (w0 : Int32)  (M : Mem)  (o : (Int32 × Int32 × Mem) ⊕ ((Int32 × Mem))) (h : j_Mod_wardrobe_168_138 v1 v3 v4 v5 v6 v7 w0 M = some o) (kc : ∀ s9 : Int32 × Int32 × Mem, o = .inl s9 → V E (0, 0) G 10 (QI E G post) s9.2.2 138 [(0, .ref (G.2.2 + 162)), (1, .int v1), (3, .int s9.1), (4, .int v4), (5, .int v5), (6, .int v6), (7, .int s9.2.1)] []) (kx0 : ∀ x9 : Int32 × Mem, o = .inr x9 → V E (0, 0) G 10 (QI E G post) x9.2 211 [(0, .ref (G.2.2 + 162)), (1, .int v1), (3, .int x9.1), (4, .int v4), (5, .int v5), (6, .int v6)] []) : V E (0, 0) G 10 (QI E G post) M 168 [(0, .ref (G.2.2 + 162)), (1, .int v1), (3, .int v3), (4, .int v4), (5, .int v5), (6, .int v6), (7, .int v7)] [.int w0] := by
  unfold j_Mod_wardrobe_168_138 at h
  refine V_istore (lv' := [(8, .int w0), (0, .ref (G.2.2 + 162)), (1, .int v1), (3, .int v3), (4, .int v4), (5, .int v5), (6, .int v6), (7, .int v7)]) X d_Mod_wardrobe_168 (by decide) rfl rfl ?_
  refine V_iload (n := 0) X d_Mod_wardrobe_170 rfl rfl ?_
  refine V_iconst (v := -1) X d_Mod_wardrobe_172 (by decide) rfl ?_
  refine V_icmp_eq (tgt := 205) X d_Mod_wardrobe_173 (by decide) rfl (fun c13 => ?_) (fun c13 => ?_)
  · rw [if_pos c13] at h
    refine V_iinc (n := 7) (v := (v7 + (1 : Int32))) (lv' := [(7, .int (v7 + (1 : Int32))), (8, .int w0), (0, .ref (G.2.2 + 162)), (1, .int v1), (3, .int v3), (4, .int v4), (5, .int v5), (6, .int v6)]) X d_Mod_wardrobe_205 rfl rfl (by decide) rfl rfl ?_
    refine V_goto (pc' := 138) X d_Mod_wardrobe_208 (by decide) ?_
    refine V_sub (lv' := [(0, .ref (G.2.2 + 162)), (1, .int v1), (3, .int v3), (4, .int v4), (5, .int v5), (6, .int v6), (7, .int (v7 + (1 : Int32)))]) [2, 3, 4, 5, 6, 7, 0] rfl ?_
    exact kc (v3, (v7 + (1 : Int32)), M) (Option.some.inj h).symm
  · rw [if_neg c13] at h
    refine V_aload_n (n := 1) X d_Mod_wardrobe_176 rfl rfl rfl ?_
    refine V_getr (k2 := 185) X fo_Mod_88 kd_162 rfl rf_162_44 d_Mod_wardrobe_177 rfl ?_
    refine V_iload (n := 0) X d_Mod_wardrobe_180 rfl rfl ?_
    obtain ⟨hb, h⟩ := ifn h
    refine V_iald X kd_185 (inb_in ln_185 hb) d_Mod_wardrobe_182 rfl ?_
    refine V_ldc_w (v := 1000000) X d_Mod_wardrobe_183 kc_Mod_357 rfl ?_
    refine V_icmp_ge (tgt := 192) X d_Mod_wardrobe_186 (by decide) rfl (fun c12 => ?_) (fun c12 => ?_)
    · rw [if_pos c12] at h
      refine V_aload_n (n := 1) X d_Mod_wardrobe_192 rfl rfl rfl ?_
      refine V_getr (k2 := 185) X fo_Mod_88 kd_162 rfl rf_162_44 d_Mod_wardrobe_193 rfl ?_
      refine V_iload (n := 0) X d_Mod_wardrobe_196 rfl rfl ?_
      refine V_iload (n := 4) X d_Mod_wardrobe_198 rfl rfl ?_
      refine V_iconst (v := 1) X d_Mod_wardrobe_200 (by decide) rfl ?_
      refine V_iadd X d_Mod_wardrobe_201 rfl ?_
      obtain ⟨hb, h⟩ := ifn h
      obtain ⟨M11, eM11, h⟩ := memS h
      refine V_iast X kd_185 (inb_in ln_185 hb) d_Mod_wardrobe_202 rfl ?_
      rw [← eM11]
      refine V_iconst (v := 1) X d_Mod_wardrobe_203 (by decide) rfl ?_
      refine V_istore_n (lv' := [(3, .int (1 : Int32)), (8, .int w0), (0, .ref (G.2.2 + 162)), (1, .int v1), (4, .int v4), (5, .int v5), (6, .int v6), (7, .int v7)]) X d_Mod_wardrobe_204 rfl (by decide) rfl rfl ?_
      refine V_iinc (n := 7) (v := (v7 + (1 : Int32))) (lv' := [(7, .int (v7 + (1 : Int32))), (3, .int (1 : Int32)), (8, .int w0), (0, .ref (G.2.2 + 162)), (1, .int v1), (4, .int v4), (5, .int v5), (6, .int v6)]) X d_Mod_wardrobe_205 rfl rfl (by decide) rfl rfl ?_
      refine V_goto (pc' := 138) X d_Mod_wardrobe_208 (by decide) ?_
      refine V_sub (lv' := [(0, .ref (G.2.2 + 162)), (1, .int v1), (3, .int (1 : Int32)), (4, .int v4), (5, .int v5), (6, .int v6), (7, .int (v7 + (1 : Int32)))]) [3, 4, 1, 5, 6, 7, 0] rfl ?_
      exact kc ((1 : Int32), (v7 + (1 : Int32)), M11) (Option.some.inj h).symm
    · rw [if_neg c12] at h
      refine V_goto (pc' := 205) X d_Mod_wardrobe_189 (by decide) ?_
      refine V_iinc (n := 7) (v := (v7 + (1 : Int32))) (lv' := [(7, .int (v7 + (1 : Int32))), (8, .int w0), (0, .ref (G.2.2 + 162)), (1, .int v1), (3, .int v3), (4, .int v4), (5, .int v5), (6, .int v6)]) X d_Mod_wardrobe_205 rfl rfl (by decide) rfl rfl ?_
      refine V_goto (pc' := 138) X d_Mod_wardrobe_208 (by decide) ?_
      refine V_sub (lv' := [(0, .ref (G.2.2 + 162)), (1, .int v1), (3, .int v3), (4, .int v4), (5, .int v5), (6, .int v6), (7, .int (v7 + (1 : Int32)))]) [2, 3, 4, 5, 6, 7, 0] rfl ?_
      exact kc (v3, (v7 + (1 : Int32)), M) (Option.some.inj h).symm
def lb_Mod_wardrobe_138 (v1 : Int32) (v4 : Int32) (v5 : Int32) (v6 : Int32) (s : Int32 × Int32 × Mem) : Option ((Int32 × Int32 × Mem) ⊕ ((Int32 × Mem))) :=
  if (45 : Int32) ≤ s.2.1 then
  some (.inr (s.1, s.2.2))
  else
  if (s.2.1 - s.2.1 / (10 : Int32) * (10 : Int32)) ≤ (4 : Int32) then
  Option.bind (f_Mod_carryTo v5 v6 s.2.1 s.2.2) fun x10 =>
  j_Mod_wardrobe_168_138 v1 s.1 v4 v5 v6 s.2.1 x10 s.2.2
  else
  j_Mod_wardrobe_168_138 v1 s.1 v4 v5 v6 s.2.1 (-1 : Int32) s.2.2
theorem lb_Mod_wardrobe_138_ok {E : Ev} {G : Gw} {d : Nat} {post : Int32 → Mem → Prop} (X : Cx E G b_Mod_wardrobe "WomenByTheRoofsModel" 10 d (some .int)) (hD : 6 ≤ d)  (v1 : Int32) (v4 : Int32) (v5 : Int32) (v6 : Int32)   (s : Int32 × Int32 × Mem) (o : (Int32 × Int32 × Mem) ⊕ ((Int32 × Mem))) (h : lb_Mod_wardrobe_138 v1 v4 v5 v6 s = some o) (kc : ∀ s9 : Int32 × Int32 × Mem, o = .inl s9 → V E (0, 0) G 10 (QI E G post) s9.2.2 138 [(0, .ref (G.2.2 + 162)), (1, .int v1), (3, .int s9.1), (4, .int v4), (5, .int v5), (6, .int v6), (7, .int s9.2.1)] []) (kx0 : ∀ x9 : Int32 × Mem, o = .inr x9 → V E (0, 0) G 10 (QI E G post) x9.2 211 [(0, .ref (G.2.2 + 162)), (1, .int v1), (3, .int x9.1), (4, .int v4), (5, .int v5), (6, .int v6)] []) : V E (0, 0) G 10 (QI E G post) s.2.2 138 [(0, .ref (G.2.2 + 162)), (1, .int v1), (3, .int s.1), (4, .int v4), (5, .int v5), (6, .int v6), (7, .int s.2.1)] [] := by
  unfold lb_Mod_wardrobe_138 at h
  refine V_iload (n := 6) X d_Mod_wardrobe_138 rfl rfl ?_
  refine V_bipush (v := 45) X d_Mod_wardrobe_140 (by decide) rfl ?_
  refine V_icmp_ge (tgt := 211) X d_Mod_wardrobe_142 (by decide) rfl (fun c15 => ?_) (fun c15 => ?_)
  · rw [if_pos c15] at h
    refine V_sub (lv' := [(0, .ref (G.2.2 + 162)), (1, .int v1), (3, .int s.1), (4, .int v4), (5, .int v5), (6, .int v6)]) [0, 1, 2, 3, 4, 5] rfl ?_
    exact kx0 (s.1, s.2.2) (Option.some.inj h).symm
  · rw [if_neg c15] at h
    refine V_iload (n := 6) X d_Mod_wardrobe_145 rfl rfl ?_
    refine V_bipush (v := 10) X d_Mod_wardrobe_147 (by decide) rfl ?_
    refine V_irem X d_Mod_wardrobe_149 (by decide) rfl ?_
    refine V_iconst (v := 4) X d_Mod_wardrobe_150 (by decide) rfl ?_
    refine V_icmp_le (tgt := 158) X d_Mod_wardrobe_151 (by decide) rfl (fun c14 => ?_) (fun c14 => ?_)
    · rw [if_pos c14] at h
      refine V_aload_n (n := 0) X d_Mod_wardrobe_158 rfl rfl rfl ?_
      refine V_iload (n := 4) X d_Mod_wardrobe_159 rfl rfl ?_
      refine V_iload (n := 5) X d_Mod_wardrobe_161 rfl rfl ?_
      refine V_iload (n := 6) X d_Mod_wardrobe_163 rfl rfl ?_
      obtain ⟨x10, hx10, h⟩ := ob_s h
      refine V_ci (As := [.int v5, .int v6, .int s.2.1]) X (Z0 E) ml_Mod_407 yq_Mod_carryTo (c_Mod_carryTo E.2.1 G v5 v6 s.2.1 s.2.2 x10 hx10 _ (Nat.le_refl _)) kd_162 rfl rfl (by omega) rfl (Nat.le_of_ble_eq_true rfl) d_Mod_wardrobe_165 rfl (fun r9 M9 hq => ?_)
      rw [hq.1, hq.2]
      exact j_Mod_wardrobe_168_138_ok X hD v1 s.1 v4 v5 v6 s.2.1 x10 s.2.2 _ h kc kx0
    · rw [if_neg c14] at h
      refine V_iconst (v := -1) X d_Mod_wardrobe_154 (by decide) rfl ?_
      refine V_goto (pc' := 168) X d_Mod_wardrobe_155 (by decide) ?_
      exact j_Mod_wardrobe_168_138_ok X hD v1 s.1 v4 v5 v6 s.2.1 (-1 : Int32) s.2.2 _ h kc kx0
theorem lp_Mod_wardrobe_138_ok {E : Ev} {G : Gw} {d : Nat} {post : Int32 → Mem → Prop} (X : Cx E G b_Mod_wardrobe "WomenByTheRoofsModel" 10 d (some .int)) (hD : 6 ≤ d)  (v1 : Int32) (v4 : Int32) (v5 : Int32) (v6 : Int32)   (n9 : Nat) (s : Int32 × Int32 × Mem) (x : (Int32 × Mem)) (h : iter (lb_Mod_wardrobe_138 v1 v4 v5 v6) n9 s = some x) (kx0 : ∀ x9 : Int32 × Mem, x = x9 → V E (0, 0) G 10 (QI E G post) x9.2 211 [(0, .ref (G.2.2 + 162)), (1, .int v1), (3, .int x9.1), (4, .int v4), (5, .int v5), (6, .int v6)] []) : V E (0, 0) G 10 (QI E G post) s.2.2 138 [(0, .ref (G.2.2 + 162)), (1, .int v1), (3, .int s.1), (4, .int v4), (5, .int v5), (6, .int v6), (7, .int s.2.1)] [] :=
  iter_P (P := fun s : Int32 × Int32 × Mem => V E (0, 0) G 10 (QI E G post) s.2.2 138 [(0, .ref (G.2.2 + 162)), (1, .int v1), (3, .int s.1), (4, .int v4), (5, .int v5), (6, .int v6), (7, .int s.2.1)] []) (fun s o hb kc ky => lb_Mod_wardrobe_138_ok X hD v1 v4 v5 v6 s o hb kc (fun x9 e9 => kx0 x9 (ky _ e9).symm)) n9 s h
def lb_Mod_wardrobe_105 (v1 : Int32) (v4 : Int32) (v5 : Int32) (s : Int32 × Int32 × Mem) : Option ((Int32 × Int32 × Mem) ⊕ ((Int32 × Mem))) :=
  Option.bind (f_Mod_cells s.2.2) fun x9 =>
  if x9 ≤ s.2.1 then
  some (.inr (s.1, s.2.2))
  else
  if inb (((36 : Int32) * v5) + s.2.1) 1296 = true then
  if (s.2.2.1 185 (((36 : Int32) * v5) + s.2.1).toNatClampNeg) = v4 then
  Option.bind (iter (lb_Mod_wardrobe_138 v1 v4 v5 s.2.1) FU (s.1, (0 : Int32), s.2.2)) fun x16 =>
  some (.inl (x16.1, (s.2.1 + (1 : Int32)), x16.2))
  else
  some (.inl (s.1, (s.2.1 + (1 : Int32)), s.2.2))
  else none
theorem lb_Mod_wardrobe_105_ok {E : Ev} {G : Gw} {d : Nat} {post : Int32 → Mem → Prop} (X : Cx E G b_Mod_wardrobe "WomenByTheRoofsModel" 10 d (some .int)) (hD : 6 ≤ d)  (v1 : Int32) (v4 : Int32) (v5 : Int32)   (s : Int32 × Int32 × Mem) (o : (Int32 × Int32 × Mem) ⊕ ((Int32 × Mem))) (h : lb_Mod_wardrobe_105 v1 v4 v5 s = some o) (kc : ∀ s9 : Int32 × Int32 × Mem, o = .inl s9 → V E (0, 0) G 10 (QI E G post) s9.2.2 105 [(0, .ref (G.2.2 + 162)), (1, .int v1), (3, .int s9.1), (4, .int v4), (5, .int v5), (6, .int s9.2.1)] []) (kx0 : ∀ x9 : Int32 × Mem, o = .inr x9 → V E (0, 0) G 10 (QI E G post) x9.2 217 [(0, .ref (G.2.2 + 162)), (1, .int v1), (3, .int x9.1), (4, .int v4), (5, .int v5)] []) : V E (0, 0) G 10 (QI E G post) s.2.2 105 [(0, .ref (G.2.2 + 162)), (1, .int v1), (3, .int s.1), (4, .int v4), (5, .int v5), (6, .int s.2.1)] [] := by
  unfold lb_Mod_wardrobe_105 at h
  refine V_iload (n := 5) X d_Mod_wardrobe_105 rfl rfl ?_
  refine V_aload_n (n := 0) X d_Mod_wardrobe_107 rfl rfl rfl ?_
  obtain ⟨x9, hx9, h⟩ := ob_s h
  refine V_ci (As := []) X (Z0 E) ml_Mod_115 yq_Mod_cells (c_Mod_cells E.2.1 G  s.2.2 x9 hx9 _ (Nat.le_refl _)) kd_162 rfl rfl (by omega) rfl (Nat.le_of_ble_eq_true rfl) d_Mod_wardrobe_108 rfl (fun r9 M9 hq => ?_)
  rw [hq.1, hq.2]
  refine V_icmp_ge (tgt := 217) X d_Mod_wardrobe_111 (by decide) rfl (fun c18 => ?_) (fun c18 => ?_)
  · rw [if_pos c18] at h
    refine V_sub (lv' := [(0, .ref (G.2.2 + 162)), (1, .int v1), (3, .int s.1), (4, .int v4), (5, .int v5)]) [0, 1, 2, 3, 4] rfl ?_
    exact kx0 (s.1, s.2.2) (Option.some.inj h).symm
  · rw [if_neg c18] at h
    refine V_aload_n (n := 0) X d_Mod_wardrobe_114 rfl rfl rfl ?_
    refine V_getr (k2 := 185) X fo_Mod_88 kd_162 rfl rf_162_44 d_Mod_wardrobe_115 rfl ?_
    refine V_bipush (v := 36) X d_Mod_wardrobe_118 (by decide) rfl ?_
    refine V_iload (n := 4) X d_Mod_wardrobe_120 rfl rfl ?_
    refine V_imul X d_Mod_wardrobe_122 rfl ?_
    refine V_iload (n := 5) X d_Mod_wardrobe_123 rfl rfl ?_
    refine V_iadd X d_Mod_wardrobe_125 rfl ?_
    obtain ⟨hb, h⟩ := ifn h
    refine V_iald X kd_185 (inb_in ln_185 hb) d_Mod_wardrobe_126 rfl ?_
    refine V_iload (n := 3) X d_Mod_wardrobe_127 rfl rfl ?_
    refine V_icmp_eq (tgt := 135) X d_Mod_wardrobe_129 (by decide) rfl (fun c17 => ?_) (fun c17 => ?_)
    · rw [if_pos c17] at h
      refine V_iconst (v := 0) X d_Mod_wardrobe_135 (by decide) rfl ?_
      refine V_istore (lv' := [(7, .int (0 : Int32)), (0, .ref (G.2.2 + 162)), (1, .int v1), (3, .int s.1), (4, .int v4), (5, .int v5), (6, .int s.2.1)]) X d_Mod_wardrobe_136 (by decide) rfl rfl ?_
      refine V_sub (lv' := [(0, .ref (G.2.2 + 162)), (1, .int v1), (3, .int s.1), (4, .int v4), (5, .int v5), (6, .int s.2.1), (7, .int (0 : Int32))]) [1, 2, 3, 4, 5, 6, 0] rfl ?_
      obtain ⟨x16, hx16, h⟩ := ob_s h
      refine (lp_Mod_wardrobe_138_ok X hD v1 v4 v5 s.2.1 _ _ _ hx16 (fun x9 e9 => ?_) :)
      subst e9
      refine V_iinc (n := 5) (v := (s.2.1 + (1 : Int32))) (lv' := [(6, .int (s.2.1 + (1 : Int32))), (0, .ref (G.2.2 + 162)), (1, .int v1), (3, .int x16.1), (4, .int v4), (5, .int v5)]) X d_Mod_wardrobe_211 rfl rfl (by decide) rfl rfl ?_
      refine V_goto (pc' := 105) X d_Mod_wardrobe_214 (by decide) ?_
      refine V_sub (lv' := [(0, .ref (G.2.2 + 162)), (1, .int v1), (3, .int x16.1), (4, .int v4), (5, .int v5), (6, .int (s.2.1 + (1 : Int32)))]) [1, 2, 3, 4, 5, 0] rfl ?_
      exact kc (x16.1, (s.2.1 + (1 : Int32)), x16.2) (Option.some.inj h).symm
    · rw [if_neg c17] at h
      refine V_goto (pc' := 211) X d_Mod_wardrobe_132 (by decide) ?_
      refine V_iinc (n := 5) (v := (s.2.1 + (1 : Int32))) (lv' := [(6, .int (s.2.1 + (1 : Int32))), (0, .ref (G.2.2 + 162)), (1, .int v1), (3, .int s.1), (4, .int v4), (5, .int v5)]) X d_Mod_wardrobe_211 rfl rfl (by decide) rfl rfl ?_
      refine V_goto (pc' := 105) X d_Mod_wardrobe_214 (by decide) ?_
      refine V_sub (lv' := [(0, .ref (G.2.2 + 162)), (1, .int v1), (3, .int s.1), (4, .int v4), (5, .int v5), (6, .int (s.2.1 + (1 : Int32)))]) [1, 2, 3, 4, 5, 0] rfl ?_
      exact kc (s.1, (s.2.1 + (1 : Int32)), s.2.2) (Option.some.inj h).symm
theorem lp_Mod_wardrobe_105_ok {E : Ev} {G : Gw} {d : Nat} {post : Int32 → Mem → Prop} (X : Cx E G b_Mod_wardrobe "WomenByTheRoofsModel" 10 d (some .int)) (hD : 6 ≤ d)  (v1 : Int32) (v4 : Int32) (v5 : Int32)   (n9 : Nat) (s : Int32 × Int32 × Mem) (x : (Int32 × Mem)) (h : iter (lb_Mod_wardrobe_105 v1 v4 v5) n9 s = some x) (kx0 : ∀ x9 : Int32 × Mem, x = x9 → V E (0, 0) G 10 (QI E G post) x9.2 217 [(0, .ref (G.2.2 + 162)), (1, .int v1), (3, .int x9.1), (4, .int v4), (5, .int v5)] []) : V E (0, 0) G 10 (QI E G post) s.2.2 105 [(0, .ref (G.2.2 + 162)), (1, .int v1), (3, .int s.1), (4, .int v4), (5, .int v5), (6, .int s.2.1)] [] :=
  iter_P (P := fun s : Int32 × Int32 × Mem => V E (0, 0) G 10 (QI E G post) s.2.2 105 [(0, .ref (G.2.2 + 162)), (1, .int v1), (3, .int s.1), (4, .int v4), (5, .int v5), (6, .int s.2.1)] []) (fun s o hb kc ky => lb_Mod_wardrobe_105_ok X hD v1 v4 v5 s o hb kc (fun x9 e9 => kx0 x9 (ky _ e9).symm)) n9 s h
def lb_Mod_wardrobe_93 (v1 : Int32) (v4 : Int32) (s : Int32 × Int32 × Mem) : Option ((Int32 × Int32 × Mem) ⊕ ((Int32 × Mem))) :=
  Option.bind (f_Mod_cells s.2.2) fun x8 =>
  if x8 ≤ s.2.1 then
  some (.inr (s.1, s.2.2))
  else
  Option.bind (iter (lb_Mod_wardrobe_105 v1 v4 s.2.1) FU (s.1, (0 : Int32), s.2.2)) fun x19 =>
  some (.inl (x19.1, (s.2.1 + (1 : Int32)), x19.2))
theorem lb_Mod_wardrobe_93_ok {E : Ev} {G : Gw} {d : Nat} {post : Int32 → Mem → Prop} (X : Cx E G b_Mod_wardrobe "WomenByTheRoofsModel" 10 d (some .int)) (hD : 6 ≤ d)  (v1 : Int32) (v4 : Int32)   (s : Int32 × Int32 × Mem) (o : (Int32 × Int32 × Mem) ⊕ ((Int32 × Mem))) (h : lb_Mod_wardrobe_93 v1 v4 s = some o) (kc : ∀ s9 : Int32 × Int32 × Mem, o = .inl s9 → V E (0, 0) G 10 (QI E G post) s9.2.2 93 [(0, .ref (G.2.2 + 162)), (1, .int v1), (3, .int s9.1), (4, .int v4), (5, .int s9.2.1)] []) (kx0 : ∀ x9 : Int32 × Mem, o = .inr x9 → V E (0, 0) G 10 (QI E G post) x9.2 223 [(0, .ref (G.2.2 + 162)), (1, .int v1), (3, .int x9.1), (4, .int v4)] []) : V E (0, 0) G 10 (QI E G post) s.2.2 93 [(0, .ref (G.2.2 + 162)), (1, .int v1), (3, .int s.1), (4, .int v4), (5, .int s.2.1)] [] := by
  unfold lb_Mod_wardrobe_93 at h
  refine V_iload (n := 4) X d_Mod_wardrobe_93 rfl rfl ?_
  refine V_aload_n (n := 0) X d_Mod_wardrobe_95 rfl rfl rfl ?_
  obtain ⟨x8, hx8, h⟩ := ob_s h
  refine V_ci (As := []) X (Z0 E) ml_Mod_115 yq_Mod_cells (c_Mod_cells E.2.1 G  s.2.2 x8 hx8 _ (Nat.le_refl _)) kd_162 rfl rfl (by omega) rfl (Nat.le_of_ble_eq_true rfl) d_Mod_wardrobe_96 rfl (fun r9 M9 hq => ?_)
  rw [hq.1, hq.2]
  refine V_icmp_ge (tgt := 223) X d_Mod_wardrobe_99 (by decide) rfl (fun c20 => ?_) (fun c20 => ?_)
  · rw [if_pos c20] at h
    refine V_sub (lv' := [(0, .ref (G.2.2 + 162)), (1, .int v1), (3, .int s.1), (4, .int v4)]) [0, 1, 2, 3] rfl ?_
    exact kx0 (s.1, s.2.2) (Option.some.inj h).symm
  · rw [if_neg c20] at h
    refine V_iconst (v := 0) X d_Mod_wardrobe_102 (by decide) rfl ?_
    refine V_istore (lv' := [(6, .int (0 : Int32)), (0, .ref (G.2.2 + 162)), (1, .int v1), (3, .int s.1), (4, .int v4), (5, .int s.2.1)]) X d_Mod_wardrobe_103 (by decide) rfl rfl ?_
    refine V_sub (lv' := [(0, .ref (G.2.2 + 162)), (1, .int v1), (3, .int s.1), (4, .int v4), (5, .int s.2.1), (6, .int (0 : Int32))]) [1, 2, 3, 4, 5, 0] rfl ?_
    obtain ⟨x19, hx19, h⟩ := ob_s h
    refine (lp_Mod_wardrobe_105_ok X hD v1 v4 s.2.1 _ _ _ hx19 (fun x9 e9 => ?_) :)
    subst e9
    refine V_iinc (n := 4) (v := (s.2.1 + (1 : Int32))) (lv' := [(5, .int (s.2.1 + (1 : Int32))), (0, .ref (G.2.2 + 162)), (1, .int v1), (3, .int x19.1), (4, .int v4)]) X d_Mod_wardrobe_217 rfl rfl (by decide) rfl rfl ?_
    refine V_goto (pc' := 93) X d_Mod_wardrobe_220 (by decide) ?_
    refine V_sub (lv' := [(0, .ref (G.2.2 + 162)), (1, .int v1), (3, .int x19.1), (4, .int v4), (5, .int (s.2.1 + (1 : Int32)))]) [1, 2, 3, 4, 0] rfl ?_
    exact kc (x19.1, (s.2.1 + (1 : Int32)), x19.2) (Option.some.inj h).symm
theorem lp_Mod_wardrobe_93_ok {E : Ev} {G : Gw} {d : Nat} {post : Int32 → Mem → Prop} (X : Cx E G b_Mod_wardrobe "WomenByTheRoofsModel" 10 d (some .int)) (hD : 6 ≤ d)  (v1 : Int32) (v4 : Int32)   (n9 : Nat) (s : Int32 × Int32 × Mem) (x : (Int32 × Mem)) (h : iter (lb_Mod_wardrobe_93 v1 v4) n9 s = some x) (kx0 : ∀ x9 : Int32 × Mem, x = x9 → V E (0, 0) G 10 (QI E G post) x9.2 223 [(0, .ref (G.2.2 + 162)), (1, .int v1), (3, .int x9.1), (4, .int v4)] []) : V E (0, 0) G 10 (QI E G post) s.2.2 93 [(0, .ref (G.2.2 + 162)), (1, .int v1), (3, .int s.1), (4, .int v4), (5, .int s.2.1)] [] :=
  iter_P (P := fun s : Int32 × Int32 × Mem => V E (0, 0) G 10 (QI E G post) s.2.2 93 [(0, .ref (G.2.2 + 162)), (1, .int v1), (3, .int s.1), (4, .int v4), (5, .int s.2.1)] []) (fun s o hb kc ky => lb_Mod_wardrobe_93_ok X hD v1 v4 s o hb kc (fun x9 e9 => kx0 x9 (ky _ e9).symm)) n9 s h
def lb_Mod_wardrobe_84 (v1 : Int32) (s : Int32 × Int32 × Mem) : Option ((Int32 × Int32 × Mem) ⊕ ((Mem))) :=
  if s.1 = 0 then
  some (.inr s.2.2)
  else
  Option.bind (iter (lb_Mod_wardrobe_93 v1 s.2.1) FU ((0 : Int32), (0 : Int32), s.2.2)) fun x21 =>
  some (.inl (x21.1, (s.2.1 + (1 : Int32)), x21.2))
theorem lb_Mod_wardrobe_84_ok {E : Ev} {G : Gw} {d : Nat} {post : Int32 → Mem → Prop} (X : Cx E G b_Mod_wardrobe "WomenByTheRoofsModel" 10 d (some .int)) (hD : 6 ≤ d)  (v1 : Int32)   (s : Int32 × Int32 × Mem) (o : (Int32 × Int32 × Mem) ⊕ ((Mem))) (h : lb_Mod_wardrobe_84 v1 s = some o) (kc : ∀ s9 : Int32 × Int32 × Mem, o = .inl s9 → V E (0, 0) G 10 (QI E G post) s9.2.2 84 [(0, .ref (G.2.2 + 162)), (1, .int v1), (3, .int s9.1), (4, .int s9.2.1)] []) (kx0 : ∀ x9 : Mem, o = .inr x9 → V E (0, 0) G 10 (QI E G post) x9 229 [(0, .ref (G.2.2 + 162)), (1, .int v1)] []) : V E (0, 0) G 10 (QI E G post) s.2.2 84 [(0, .ref (G.2.2 + 162)), (1, .int v1), (3, .int s.1), (4, .int s.2.1)] [] := by
  unfold lb_Mod_wardrobe_84 at h
  refine V_iload_n (n := 2) X d_Mod_wardrobe_84 rfl rfl rfl ?_
  refine V_if_eq (tgt := 229) X d_Mod_wardrobe_85 (by decide) rfl (fun c22 => ?_) (fun c22 => ?_)
  · rw [if_pos c22] at h
    refine V_sub (lv' := [(0, .ref (G.2.2 + 162)), (1, .int v1)]) [0, 1] rfl ?_
    exact kx0 s.2.2 (Option.some.inj h).symm
  · rw [if_neg c22] at h
    refine V_iconst (v := 0) X d_Mod_wardrobe_88 (by decide) rfl ?_
    refine V_istore_n (lv' := [(3, .int (0 : Int32)), (0, .ref (G.2.2 + 162)), (1, .int v1), (4, .int s.2.1)]) X d_Mod_wardrobe_89 rfl (by decide) rfl rfl ?_
    refine V_iconst (v := 0) X d_Mod_wardrobe_90 (by decide) rfl ?_
    refine V_istore (lv' := [(5, .int (0 : Int32)), (3, .int (0 : Int32)), (0, .ref (G.2.2 + 162)), (1, .int v1), (4, .int s.2.1)]) X d_Mod_wardrobe_91 (by decide) rfl rfl ?_
    refine V_sub (lv' := [(0, .ref (G.2.2 + 162)), (1, .int v1), (3, .int (0 : Int32)), (4, .int s.2.1), (5, .int (0 : Int32))]) [2, 3, 1, 4, 0] rfl ?_
    obtain ⟨x21, hx21, h⟩ := ob_s h
    refine (lp_Mod_wardrobe_93_ok X hD v1 s.2.1 _ _ _ hx21 (fun x9 e9 => ?_) :)
    subst e9
    refine V_iinc (n := 3) (v := (s.2.1 + (1 : Int32))) (lv' := [(4, .int (s.2.1 + (1 : Int32))), (0, .ref (G.2.2 + 162)), (1, .int v1), (3, .int x21.1)]) X d_Mod_wardrobe_223 rfl rfl (by decide) rfl rfl ?_
    refine V_goto (pc' := 84) X d_Mod_wardrobe_226 (by decide) ?_
    refine V_sub (lv' := [(0, .ref (G.2.2 + 162)), (1, .int v1), (3, .int x21.1), (4, .int (s.2.1 + (1 : Int32)))]) [1, 2, 3, 0] rfl ?_
    exact kc (x21.1, (s.2.1 + (1 : Int32)), x21.2) (Option.some.inj h).symm
theorem lp_Mod_wardrobe_84_ok {E : Ev} {G : Gw} {d : Nat} {post : Int32 → Mem → Prop} (X : Cx E G b_Mod_wardrobe "WomenByTheRoofsModel" 10 d (some .int)) (hD : 6 ≤ d)  (v1 : Int32)   (n9 : Nat) (s : Int32 × Int32 × Mem) (x : (Mem)) (h : iter (lb_Mod_wardrobe_84 v1) n9 s = some x) (kx0 : ∀ x9 : Mem, x = x9 → V E (0, 0) G 10 (QI E G post) x9 229 [(0, .ref (G.2.2 + 162)), (1, .int v1)] []) : V E (0, 0) G 10 (QI E G post) s.2.2 84 [(0, .ref (G.2.2 + 162)), (1, .int v1), (3, .int s.1), (4, .int s.2.1)] [] :=
  iter_P (P := fun s : Int32 × Int32 × Mem => V E (0, 0) G 10 (QI E G post) s.2.2 84 [(0, .ref (G.2.2 + 162)), (1, .int v1), (3, .int s.1), (4, .int s.2.1)] []) (fun s o hb kc ky => lb_Mod_wardrobe_84_ok X hD v1 s o hb kc (fun x9 e9 => kx0 x9 (ky _ e9).symm)) n9 s h
def lb_Mod_wardrobe_277 (v4 : Int32) (v5 : Int32) (v6 : Int32) (v7 : Int32) (M : Mem) (s : Int32) : Option ((Int32) ⊕ ((Int32))) :=
  if (4 : Int32) < (s - s / (10 : Int32) * (10 : Int32)) then
  some (.inl (s + (1 : Int32)))
  else
  Option.bind (f_Mod_carryTo v5 v6 s M) fun x25 =>
  if x25 = (-1 : Int32) then
  some (.inl (s + (1 : Int32)))
  else
  Option.bind (f_Mod_carryTo v5 v6 s M) fun x26 =>
  if inb x26 1296 = true then
  if (M.1 185 x26.toNatClampNeg) = ((v4 - v7) - (1 : Int32)) then
  some (.inr s)
  else
  some (.inl (s + (1 : Int32)))
  else none
theorem lb_Mod_wardrobe_277_ok {E : Ev} {G : Gw} {d : Nat} {post : Int32 → Mem → Prop} (X : Cx E G b_Mod_wardrobe "WomenByTheRoofsModel" 10 d (some .int)) (hD : 6 ≤ d)  (v4 : Int32) (v5 : Int32) (v6 : Int32) (v7 : Int32)  (M : Mem) (s : Int32) (o : (Int32) ⊕ ((Int32))) (h : lb_Mod_wardrobe_277 v4 v5 v6 v7 M s = some o) (kc : ∀ s9 : Int32, o = .inl s9 → V E (0, 0) G 10 (QI E G post) M 277 [(0, .ref (G.2.2 + 162)), (4, .int v4), (5, .int v5), (6, .int v6), (7, .int v7), (8, .int s9)] []) (kx0 : ∀ x9 : Int32, o = .inr x9 → V E (0, 0) G 10 (QI E G post) M 331 [(0, .ref (G.2.2 + 162)), (4, .int v4), (5, .int v5), (6, .int v6), (7, .int v7), (8, .int x9)] []) : V E (0, 0) G 10 (QI E G post) M 277 [(0, .ref (G.2.2 + 162)), (4, .int v4), (5, .int v5), (6, .int v6), (7, .int v7), (8, .int s)] [] := by
  unfold lb_Mod_wardrobe_277 at h
  refine V_iload (n := 5) X d_Mod_wardrobe_277 rfl rfl ?_
  refine V_bipush (v := 10) X d_Mod_wardrobe_279 (by decide) rfl ?_
  refine V_irem X d_Mod_wardrobe_281 (by decide) rfl ?_
  refine V_iconst (v := 4) X d_Mod_wardrobe_282 (by decide) rfl ?_
  refine V_icmp_gt (tgt := 325) X d_Mod_wardrobe_283 (by decide) rfl (fun c29 => ?_) (fun c29 => ?_)
  · rw [if_pos c29] at h
    refine V_iinc (n := 5) (v := (s + (1 : Int32))) (lv' := [(8, .int (s + (1 : Int32))), (0, .ref (G.2.2 + 162)), (4, .int v4), (5, .int v5), (6, .int v6), (7, .int v7)]) X d_Mod_wardrobe_325 rfl rfl (by decide) rfl rfl ?_
    refine V_goto (pc' := 277) X d_Mod_wardrobe_328 (by decide) ?_
    refine V_sub (lv' := [(0, .ref (G.2.2 + 162)), (4, .int v4), (5, .int v5), (6, .int v6), (7, .int v7), (8, .int (s + (1 : Int32)))]) [1, 2, 3, 4, 5, 0] rfl ?_
    exact kc (s + (1 : Int32)) (Option.some.inj h).symm
  · rw [if_neg c29] at h
    refine V_aload_n (n := 0) X d_Mod_wardrobe_286 rfl rfl rfl ?_
    refine V_iload (n := 2) X d_Mod_wardrobe_287 rfl rfl ?_
    refine V_iload (n := 3) X d_Mod_wardrobe_289 rfl rfl ?_
    refine V_iload (n := 5) X d_Mod_wardrobe_291 rfl rfl ?_
    obtain ⟨x25, hx25, h⟩ := ob_s h
    refine V_ci (As := [.int v5, .int v6, .int s]) X (Z0 E) ml_Mod_407 yq_Mod_carryTo (c_Mod_carryTo E.2.1 G v5 v6 s M x25 hx25 _ (Nat.le_refl _)) kd_162 rfl rfl (by omega) rfl (Nat.le_of_ble_eq_true rfl) d_Mod_wardrobe_293 rfl (fun r9 M9 hq => ?_)
    rw [hq.1, hq.2]
    refine V_iconst (v := -1) X d_Mod_wardrobe_296 (by decide) rfl ?_
    refine V_icmp_eq (tgt := 325) X d_Mod_wardrobe_297 (by decide) rfl (fun c28 => ?_) (fun c28 => ?_)
    · rw [if_pos c28] at h
      refine V_iinc (n := 5) (v := (s + (1 : Int32))) (lv' := [(8, .int (s + (1 : Int32))), (0, .ref (G.2.2 + 162)), (4, .int v4), (5, .int v5), (6, .int v6), (7, .int v7)]) X d_Mod_wardrobe_325 rfl rfl (by decide) rfl rfl ?_
      refine V_goto (pc' := 277) X d_Mod_wardrobe_328 (by decide) ?_
      refine V_sub (lv' := [(0, .ref (G.2.2 + 162)), (4, .int v4), (5, .int v5), (6, .int v6), (7, .int v7), (8, .int (s + (1 : Int32)))]) [1, 2, 3, 4, 5, 0] rfl ?_
      exact kc (s + (1 : Int32)) (Option.some.inj h).symm
    · rw [if_neg c28] at h
      refine V_aload_n (n := 0) X d_Mod_wardrobe_300 rfl rfl rfl ?_
      refine V_getr (k2 := 185) X fo_Mod_88 kd_162 rfl rf_162_44 d_Mod_wardrobe_301 rfl ?_
      refine V_aload_n (n := 0) X d_Mod_wardrobe_304 rfl rfl rfl ?_
      refine V_iload (n := 2) X d_Mod_wardrobe_305 rfl rfl ?_
      refine V_iload (n := 3) X d_Mod_wardrobe_307 rfl rfl ?_
      refine V_iload (n := 5) X d_Mod_wardrobe_309 rfl rfl ?_
      obtain ⟨x26, hx26, h⟩ := ob_s h
      refine V_ci (As := [.int v5, .int v6, .int s]) X (Z0 E) ml_Mod_407 yq_Mod_carryTo (c_Mod_carryTo E.2.1 G v5 v6 s M x26 hx26 _ (Nat.le_refl _)) kd_162 rfl rfl (by omega) rfl (Nat.le_of_ble_eq_true rfl) d_Mod_wardrobe_311 rfl (fun r9 M9 hq => ?_)
      rw [hq.1, hq.2]
      obtain ⟨hb, h⟩ := ifn h
      refine V_iald X kd_185 (inb_in ln_185 hb) d_Mod_wardrobe_314 rfl ?_
      refine V_iload (n := 1) X d_Mod_wardrobe_315 rfl rfl ?_
      refine V_iload (n := 4) X d_Mod_wardrobe_317 rfl rfl ?_
      refine V_isub X d_Mod_wardrobe_319 rfl ?_
      refine V_iconst (v := 1) X d_Mod_wardrobe_320 (by decide) rfl ?_
      refine V_isub X d_Mod_wardrobe_321 rfl ?_
      refine V_icmp_eq (tgt := 331) X d_Mod_wardrobe_322 (by decide) rfl (fun c27 => ?_) (fun c27 => ?_)
      · rw [if_pos c27] at h
        exact kx0 s (Option.some.inj h).symm
      · rw [if_neg c27] at h
        refine V_iinc (n := 5) (v := (s + (1 : Int32))) (lv' := [(8, .int (s + (1 : Int32))), (0, .ref (G.2.2 + 162)), (4, .int v4), (5, .int v5), (6, .int v6), (7, .int v7)]) X d_Mod_wardrobe_325 rfl rfl (by decide) rfl rfl ?_
        refine V_goto (pc' := 277) X d_Mod_wardrobe_328 (by decide) ?_
        refine V_sub (lv' := [(0, .ref (G.2.2 + 162)), (4, .int v4), (5, .int v5), (6, .int v6), (7, .int v7), (8, .int (s + (1 : Int32)))]) [1, 2, 3, 4, 5, 0] rfl ?_
        exact kc (s + (1 : Int32)) (Option.some.inj h).symm
theorem lp_Mod_wardrobe_277_ok {E : Ev} {G : Gw} {d : Nat} {post : Int32 → Mem → Prop} (X : Cx E G b_Mod_wardrobe "WomenByTheRoofsModel" 10 d (some .int)) (hD : 6 ≤ d)  (v4 : Int32) (v5 : Int32) (v6 : Int32) (v7 : Int32)  (M : Mem) (n9 : Nat) (s : Int32) (x : (Int32)) (h : iter (lb_Mod_wardrobe_277 v4 v5 v6 v7 M) n9 s = some x) (kx0 : ∀ x9 : Int32, x = x9 → V E (0, 0) G 10 (QI E G post) M 331 [(0, .ref (G.2.2 + 162)), (4, .int v4), (5, .int v5), (6, .int v6), (7, .int v7), (8, .int x9)] []) : V E (0, 0) G 10 (QI E G post) M 277 [(0, .ref (G.2.2 + 162)), (4, .int v4), (5, .int v5), (6, .int v6), (7, .int v7), (8, .int s)] [] :=
  iter_P (P := fun s : Int32 => V E (0, 0) G 10 (QI E G post) M 277 [(0, .ref (G.2.2 + 162)), (4, .int v4), (5, .int v5), (6, .int v6), (7, .int v7), (8, .int s)] []) (fun s o hb kc ky => lb_Mod_wardrobe_277_ok X hD v4 v5 v6 v7 M s o hb kc (fun x9 e9 => kx0 x9 (ky _ e9).symm)) n9 s h
def j_Mod_wardrobe_344_267 (v4 : Int32) (v5 : Int32) (v6 : Int32) (v7 : Int32) (v8 : Int32) (M : Mem) : Option ((Int32 × Int32 × Int32 × Mem) ⊕ ((Mem))) :=
  Option.bind (f_Mod_carryTo v5 v6 v8 M) fun x31 =>
  some (.inl ((x31 / (36 : Int32)), (x31 - x31 / (36 : Int32) * (36 : Int32)), (v7 + (1 : Int32)), M))
theorem j_Mod_wardrobe_344_267_ok {E : Ev} {G : Gw} {d : Nat} {post : Int32 → Mem → Prop} (X : Cx E G b_Mod_wardrobe "WomenByTheRoofsModel" 10 d (some .int)) (hD : 6 ≤ d)  (v4 : Int32) (v5 : Int32) (v6 : Int32) (v7 : Int32) (v8 : Int32)  (M : Mem)  (o : (Int32 × Int32 × Int32 × Mem) ⊕ ((Mem))) (h : j_Mod_wardrobe_344_267 v4 v5 v6 v7 v8 M = some o) (kc : ∀ s9 : Int32 × Int32 × Int32 × Mem, o = .inl s9 → V E (0, 0) G 10 (QI E G post) s9.2.2.2 267 [(0, .ref (G.2.2 + 162)), (4, .int v4), (5, .int s9.1), (6, .int s9.2.1), (7, .int s9.2.2.1)] []) (kx0 : ∀ x9 : Mem, o = .inr x9 → V E (0, 0) G 10 (QI E G post) x9 376 [(4, .int v4)] []) : V E (0, 0) G 10 (QI E G post) M 344 [(0, .ref (G.2.2 + 162)), (4, .int v4), (5, .int v5), (6, .int v6), (7, .int v7), (8, .int v8)] [] := by
  unfold j_Mod_wardrobe_344_267 at h
  refine V_aload_n (n := 0) X d_Mod_wardrobe_344 rfl rfl rfl ?_
  refine V_iload (n := 2) X d_Mod_wardrobe_345 rfl rfl ?_
  refine V_iload (n := 3) X d_Mod_wardrobe_347 rfl rfl ?_
  refine V_iload (n := 5) X d_Mod_wardrobe_349 rfl rfl ?_
  obtain ⟨x31, hx31, h⟩ := ob_s h
  refine V_ci (As := [.int v5, .int v6, .int v8]) X (Z0 E) ml_Mod_407 yq_Mod_carryTo (c_Mod_carryTo E.2.1 G v5 v6 v8 M x31 hx31 _ (Nat.le_refl _)) kd_162 rfl rfl (by omega) rfl (Nat.le_of_ble_eq_true rfl) d_Mod_wardrobe_351 rfl (fun r9 M9 hq => ?_)
  rw [hq.1, hq.2]
  refine V_istore (lv' := [(9, .int x31), (0, .ref (G.2.2 + 162)), (4, .int v4), (5, .int v5), (6, .int v6), (7, .int v7), (8, .int v8)]) X d_Mod_wardrobe_354 (by decide) rfl rfl ?_
  refine V_iload (n := 0) X d_Mod_wardrobe_356 rfl rfl ?_
  refine V_bipush (v := 36) X d_Mod_wardrobe_358 (by decide) rfl ?_
  refine V_idiv X d_Mod_wardrobe_360 (by decide) rfl ?_
  refine V_istore (lv' := [(5, .int (x31 / (36 : Int32))), (9, .int x31), (0, .ref (G.2.2 + 162)), (4, .int v4), (6, .int v6), (7, .int v7), (8, .int v8)]) X d_Mod_wardrobe_361 (by decide) rfl rfl ?_
  refine V_iload (n := 1) X d_Mod_wardrobe_363 rfl rfl ?_
  refine V_bipush (v := 36) X d_Mod_wardrobe_365 (by decide) rfl ?_
  refine V_irem X d_Mod_wardrobe_367 (by decide) rfl ?_
  refine V_istore (lv' := [(6, .int (x31 - x31 / (36 : Int32) * (36 : Int32))), (5, .int (x31 / (36 : Int32))), (9, .int x31), (0, .ref (G.2.2 + 162)), (4, .int v4), (7, .int v7), (8, .int v8)]) X d_Mod_wardrobe_368 (by decide) rfl rfl ?_
  refine V_iinc (n := 5) (v := (v7 + (1 : Int32))) (lv' := [(7, .int (v7 + (1 : Int32))), (6, .int (x31 - x31 / (36 : Int32) * (36 : Int32))), (5, .int (x31 / (36 : Int32))), (9, .int x31), (0, .ref (G.2.2 + 162)), (4, .int v4), (8, .int v8)]) X d_Mod_wardrobe_370 rfl rfl (by decide) rfl rfl ?_
  refine V_goto (pc' := 267) X d_Mod_wardrobe_373 (by decide) ?_
  refine V_sub (lv' := [(0, .ref (G.2.2 + 162)), (4, .int v4), (5, .int (x31 / (36 : Int32))), (6, .int (x31 - x31 / (36 : Int32) * (36 : Int32))), (7, .int (v7 + (1 : Int32)))]) [4, 5, 2, 1, 0] rfl ?_
  exact kc ((x31 / (36 : Int32)), (x31 - x31 / (36 : Int32) * (36 : Int32)), (v7 + (1 : Int32)), M) (Option.some.inj h).symm
def lb_Mod_wardrobe_267 (v4 : Int32) (s : Int32 × Int32 × Int32 × Mem) : Option ((Int32 × Int32 × Int32 × Mem) ⊕ ((Mem))) :=
  if v4 ≤ s.2.2.1 then
  some (.inr s.2.2.2)
  else
  Option.bind (iter (lb_Mod_wardrobe_277 v4 s.1 s.2.1 s.2.2.1 s.2.2.2) FU (0 : Int32)) fun x30 =>
  if (10 : Int32) ≤ s.2.2.1 then
  j_Mod_wardrobe_344_267 v4 s.1 s.2.1 s.2.2.1 x30 s.2.2.2
  else
  Option.bind (f_Mod_put x30 s.2.2.2) fun x32 =>
  j_Mod_wardrobe_344_267 v4 s.1 s.2.1 s.2.2.1 x30 x32
theorem lb_Mod_wardrobe_267_ok {E : Ev} {G : Gw} {d : Nat} {post : Int32 → Mem → Prop} (X : Cx E G b_Mod_wardrobe "WomenByTheRoofsModel" 10 d (some .int)) (hD : 6 ≤ d)  (v4 : Int32)   (s : Int32 × Int32 × Int32 × Mem) (o : (Int32 × Int32 × Int32 × Mem) ⊕ ((Mem))) (h : lb_Mod_wardrobe_267 v4 s = some o) (kc : ∀ s9 : Int32 × Int32 × Int32 × Mem, o = .inl s9 → V E (0, 0) G 10 (QI E G post) s9.2.2.2 267 [(0, .ref (G.2.2 + 162)), (4, .int v4), (5, .int s9.1), (6, .int s9.2.1), (7, .int s9.2.2.1)] []) (kx0 : ∀ x9 : Mem, o = .inr x9 → V E (0, 0) G 10 (QI E G post) x9 376 [(4, .int v4)] []) : V E (0, 0) G 10 (QI E G post) s.2.2.2 267 [(0, .ref (G.2.2 + 162)), (4, .int v4), (5, .int s.1), (6, .int s.2.1), (7, .int s.2.2.1)] [] := by
  unfold lb_Mod_wardrobe_267 at h
  refine V_iload (n := 4) X d_Mod_wardrobe_267 rfl rfl ?_
  refine V_iload (n := 1) X d_Mod_wardrobe_269 rfl rfl ?_
  refine V_icmp_ge (tgt := 376) X d_Mod_wardrobe_271 (by decide) rfl (fun c34 => ?_) (fun c34 => ?_)
  · rw [if_pos c34] at h
    refine V_sub (lv' := [(4, .int v4)]) [1] rfl ?_
    exact kx0 s.2.2.2 (Option.some.inj h).symm
  · rw [if_neg c34] at h
    refine V_iconst (v := 0) X d_Mod_wardrobe_274 (by decide) rfl ?_
    refine V_istore (lv' := [(8, .int (0 : Int32)), (0, .ref (G.2.2 + 162)), (4, .int v4), (5, .int s.1), (6, .int s.2.1), (7, .int s.2.2.1)]) X d_Mod_wardrobe_275 (by decide) rfl rfl ?_
    refine V_sub (lv' := [(0, .ref (G.2.2 + 162)), (4, .int v4), (5, .int s.1), (6, .int s.2.1), (7, .int s.2.2.1), (8, .int (0 : Int32))]) [1, 2, 3, 4, 5, 0] rfl ?_
    obtain ⟨x30, hx30, h⟩ := ob_s h
    refine (lp_Mod_wardrobe_277_ok X hD v4 s.1 s.2.1 s.2.2.1 s.2.2.2 _ _ _ hx30 (fun x9 e9 => ?_) :)
    subst e9
    refine V_iload (n := 4) X d_Mod_wardrobe_331 rfl rfl ?_
    refine V_bipush (v := 10) X d_Mod_wardrobe_333 (by decide) rfl ?_
    refine V_icmp_ge (tgt := 344) X d_Mod_wardrobe_335 (by decide) rfl (fun c33 => ?_) (fun c33 => ?_)
    · rw [if_pos c33] at h
      exact j_Mod_wardrobe_344_267_ok X hD v4 s.1 s.2.1 s.2.2.1 x30 s.2.2.2 _ h kc kx0
    · rw [if_neg c33] at h
      refine V_aload_n (n := 0) X d_Mod_wardrobe_338 rfl rfl rfl ?_
      refine V_iload (n := 5) X d_Mod_wardrobe_339 rfl rfl ?_
      obtain ⟨x32, hx32, h⟩ := ob_s h
      refine V_cv (As := [.int x30]) X (Z0 E) ml_Mod_342 yq_Mod_put (c_Mod_put E.2.1 G x30 s.2.2.2 x32 hx32 _ (Nat.le_refl _)) kd_162 rfl rfl (by omega) rfl (Nat.le_of_ble_eq_true rfl) d_Mod_wardrobe_341 rfl (fun M9 hq => ?_)
      rw [hq]
      exact j_Mod_wardrobe_344_267_ok X hD v4 s.1 s.2.1 s.2.2.1 x30 x32 _ h kc kx0
theorem lp_Mod_wardrobe_267_ok {E : Ev} {G : Gw} {d : Nat} {post : Int32 → Mem → Prop} (X : Cx E G b_Mod_wardrobe "WomenByTheRoofsModel" 10 d (some .int)) (hD : 6 ≤ d)  (v4 : Int32)   (n9 : Nat) (s : Int32 × Int32 × Int32 × Mem) (x : (Mem)) (h : iter (lb_Mod_wardrobe_267 v4) n9 s = some x) (kx0 : ∀ x9 : Mem, x = x9 → V E (0, 0) G 10 (QI E G post) x9 376 [(4, .int v4)] []) : V E (0, 0) G 10 (QI E G post) s.2.2.2 267 [(0, .ref (G.2.2 + 162)), (4, .int v4), (5, .int s.1), (6, .int s.2.1), (7, .int s.2.2.1)] [] :=
  iter_P (P := fun s : Int32 × Int32 × Int32 × Mem => V E (0, 0) G 10 (QI E G post) s.2.2.2 267 [(0, .ref (G.2.2 + 162)), (4, .int v4), (5, .int s.1), (6, .int s.2.1), (7, .int s.2.2.1)] []) (fun s o hb kc ky => lb_Mod_wardrobe_267_ok X hD v4 s o hb kc (fun x9 e9 => kx0 x9 (ky _ e9).symm)) n9 s h
def f_Mod_wardrobe (v1 : Int32) (v2 : Int32) (M : Mem) : Option (Int32 × Mem) :=
  mem_ (s_i M 162 13 (0 : Int32)) fun M1 =>
  Option.bind (f_Mod_isCell v1 M1) fun x2 =>
  if x2 = 0 then
  some ((-1 : Int32), M1)
  else
  Option.bind (f_Mod_isCell v2 M1) fun x3 =>
  if x3 = 0 then
  some ((-1 : Int32), M1)
  else
  if inb v1 36 = true then
  if (M1.1 164 v1.toNatClampNeg) = (3 : Int32) then
  if inb v2 36 = true then
  if (M1.1 164 v2.toNatClampNeg) = (3 : Int32) then
  Option.bind (iter (lb_Mod_wardrobe_45 v1 v2) FU ((0 : Int32), M1)) fun x6 =>
  if inb (((36 : Int32) * v2) + v2) 1296 = true then
  mem_ (s_i x6 185 (((36 : Int32) * v2) + v2).toNatClampNeg (0 : Int32)) fun M7 =>
  Option.bind (iter (lb_Mod_wardrobe_84 v1) FU ((1 : Int32), (0 : Int32), M7)) fun x23 =>
  if inb (((36 : Int32) * v1) + v1) 1296 = true then
  if (x23.1 185 (((36 : Int32) * v1) + v1).toNatClampNeg) < (1000000 : Int32) then
  mem_ (s_i x23 162 12 (0 : Int32)) fun M24 =>
  Option.bind (iter (lb_Mod_wardrobe_267 (x23.1 185 (((36 : Int32) * v1) + v1).toNatClampNeg)) FU (v1, v1, (0 : Int32), M24)) fun x35 =>
  some ((x23.1 185 (((36 : Int32) * v1) + v1).toNatClampNeg), x35)
  else
  some ((-2 : Int32), x23)
  else none
  else none
  else
  some ((-1 : Int32), M1)
  else none
  else
  some ((-1 : Int32), M1)
  else none
theorem c_Mod_wardrobe (l : Launch) (G : Gw)  (v1 : Int32) (v2 : Int32) (M : Mem) (x : Int32 × Mem) (h : f_Mod_wardrobe v1 v2 M = some x) (d : Nat) (hD : 6 ≤ d) : Ci l G y_Mod_wardrobe b_Mod_wardrobe 10 (some .int) d [.ref (G.2.2 + 162), .int v1, .int v2] M (fun r9 M9 => r9 = x.1 ∧ M9 = x.2) := by
  refine Ci_of (by decide) (Nat.le_of_ble_eq_true rfl) (fun E hE X => ?_)
  subst hE
  have kr : ∀ x9 : Int32 × Mem, x = x9 → (fun r9 M9 => r9 = x.1 ∧ M9 = x.2) x9.1 x9.2 := fun x9 e9 => by subst e9; exact ⟨rfl, rfl⟩
  unfold f_Mod_wardrobe at h
  refine V_aload_n (n := 0) X d_Mod_wardrobe_0 rfl rfl rfl ?_
  refine V_iconst (v := 0) X d_Mod_wardrobe_1 (by decide) rfl ?_
  obtain ⟨M1, eM1, h⟩ := memS h
  refine V_putI X fp_Mod_109 kd_162 rfl d_Mod_wardrobe_2 rfl ?_
  rw [← eM1]
  refine V_aload_n (n := 0) X d_Mod_wardrobe_5 rfl rfl rfl ?_
  refine V_iload_n (n := 1) X d_Mod_wardrobe_6 rfl rfl rfl ?_
  obtain ⟨x2, hx2, h⟩ := ob_s h
  refine V_ci (As := [.int v1]) X (Z0 E) ml_Mod_137 yq_Mod_isCell (c_Mod_isCell E.2.1 G v1 M1 x2 hx2 _ (Nat.le_refl _)) kd_162 rfl rfl (by omega) rfl (Nat.le_of_ble_eq_true rfl) d_Mod_wardrobe_7 rfl (fun r9 M9 hq => ?_)
  rw [hq.1, hq.2]
  refine V_if_eq (tgt := 41) X d_Mod_wardrobe_10 (by decide) rfl (fun c40 => ?_) (fun c40 => ?_)
  · rw [if_pos c40] at h
    refine V_iconst (v := -1) X d_Mod_wardrobe_41 (by decide) rfl ?_
    exact V_iret X (kr ((-1 : Int32), M1) (Option.some.inj h).symm) d_Mod_wardrobe_42
  · rw [if_neg c40] at h
    refine V_aload_n (n := 0) X d_Mod_wardrobe_13 rfl rfl rfl ?_
    refine V_iload_n (n := 2) X d_Mod_wardrobe_14 rfl rfl rfl ?_
    obtain ⟨x3, hx3, h⟩ := ob_s h
    refine V_ci (As := [.int v2]) X (Z0 E) ml_Mod_137 yq_Mod_isCell (c_Mod_isCell E.2.1 G v2 M1 x3 hx3 _ (Nat.le_refl _)) kd_162 rfl rfl (by omega) rfl (Nat.le_of_ble_eq_true rfl) d_Mod_wardrobe_15 rfl (fun r9 M9 hq => ?_)
    rw [hq.1, hq.2]
    refine V_if_eq (tgt := 41) X d_Mod_wardrobe_18 (by decide) rfl (fun c39 => ?_) (fun c39 => ?_)
    · rw [if_pos c39] at h
      refine V_iconst (v := -1) X d_Mod_wardrobe_41 (by decide) rfl ?_
      exact V_iret X (kr ((-1 : Int32), M1) (Option.some.inj h).symm) d_Mod_wardrobe_42
    · rw [if_neg c39] at h
      refine V_aload_n (n := 0) X d_Mod_wardrobe_21 rfl rfl rfl ?_
      refine V_getr (k2 := 164) X fo_Mod_13 kd_162 rfl rf_162_1 d_Mod_wardrobe_22 rfl ?_
      refine V_iload_n (n := 1) X d_Mod_wardrobe_25 rfl rfl rfl ?_
      obtain ⟨hb, h⟩ := ifn h
      refine V_iald X kd_164 (inb_in ln_164 hb) d_Mod_wardrobe_26 rfl ?_
      refine V_iconst (v := 3) X d_Mod_wardrobe_27 (by decide) rfl ?_
      refine V_icmp_ne (tgt := 41) X d_Mod_wardrobe_28 (by decide) rfl (fun c38 => ?_) (fun c38 => ?_)
      · rw [if_neg c38] at h
        refine V_iconst (v := -1) X d_Mod_wardrobe_41 (by decide) rfl ?_
        exact V_iret X (kr ((-1 : Int32), M1) (Option.some.inj h).symm) d_Mod_wardrobe_42
      · rw [if_pos c38] at h
        refine V_aload_n (n := 0) X d_Mod_wardrobe_31 rfl rfl rfl ?_
        refine V_getr (k2 := 164) X fo_Mod_13 kd_162 rfl rf_162_1 d_Mod_wardrobe_32 rfl ?_
        refine V_iload_n (n := 2) X d_Mod_wardrobe_35 rfl rfl rfl ?_
        obtain ⟨hb, h⟩ := ifn h
        refine V_iald X kd_164 (inb_in ln_164 hb) d_Mod_wardrobe_36 rfl ?_
        refine V_iconst (v := 3) X d_Mod_wardrobe_37 (by decide) rfl ?_
        refine V_icmp_eq (tgt := 43) X d_Mod_wardrobe_38 (by decide) rfl (fun c37 => ?_) (fun c37 => ?_)
        · rw [if_pos c37] at h
          refine V_iconst (v := 0) X d_Mod_wardrobe_43 (by decide) rfl ?_
          refine V_istore_n (lv' := [(3, .int (0 : Int32)), (0, .ref (G.2.2 + 162)), (1, .int v1), (2, .int v2)]) X d_Mod_wardrobe_44 rfl (by decide) rfl rfl ?_
          refine V_sub (lv' := [(0, .ref (G.2.2 + 162)), (1, .int v1), (2, .int v2), (3, .int (0 : Int32))]) [1, 2, 3, 0] rfl ?_
          obtain ⟨x6, hx6, h⟩ := ob_s h
          refine (lp_Mod_wardrobe_45_ok X hD v1 v2 _ _ _ hx6 (fun x9 e9 => ?_) :)
          subst e9
          refine V_aload_n (n := 0) X d_Mod_wardrobe_67 rfl rfl rfl ?_
          refine V_getr (k2 := 185) X fo_Mod_88 kd_162 rfl rf_162_44 d_Mod_wardrobe_68 rfl ?_
          refine V_bipush (v := 36) X d_Mod_wardrobe_71 (by decide) rfl ?_
          refine V_iload_n (n := 2) X d_Mod_wardrobe_73 rfl rfl rfl ?_
          refine V_imul X d_Mod_wardrobe_74 rfl ?_
          refine V_iload_n (n := 2) X d_Mod_wardrobe_75 rfl rfl rfl ?_
          refine V_iadd X d_Mod_wardrobe_76 rfl ?_
          refine V_iconst (v := 0) X d_Mod_wardrobe_77 (by decide) rfl ?_
          obtain ⟨hb, h⟩ := ifn h
          obtain ⟨M7, eM7, h⟩ := memS h
          refine V_iast X kd_185 (inb_in ln_185 hb) d_Mod_wardrobe_78 rfl ?_
          rw [← eM7]
          refine V_iconst (v := 1) X d_Mod_wardrobe_79 (by decide) rfl ?_
          refine V_istore_n (lv' := [(3, .int (1 : Int32)), (0, .ref (G.2.2 + 162)), (1, .int v1), (2, .int v2)]) X d_Mod_wardrobe_80 rfl (by decide) rfl rfl ?_
          refine V_iconst (v := 0) X d_Mod_wardrobe_81 (by decide) rfl ?_
          refine V_istore (lv' := [(4, .int (0 : Int32)), (3, .int (1 : Int32)), (0, .ref (G.2.2 + 162)), (1, .int v1), (2, .int v2)]) X d_Mod_wardrobe_82 (by decide) rfl rfl ?_
          refine V_sub (lv' := [(0, .ref (G.2.2 + 162)), (1, .int v1), (3, .int (1 : Int32)), (4, .int (0 : Int32))]) [2, 3, 1, 0] rfl ?_
          obtain ⟨x23, hx23, h⟩ := ob_s h
          refine (lp_Mod_wardrobe_84_ok X hD v1 _ _ _ hx23 (fun x9 e9 => ?_) :)
          subst e9
          refine V_aload_n (n := 0) X d_Mod_wardrobe_229 rfl rfl rfl ?_
          refine V_getr (k2 := 185) X fo_Mod_88 kd_162 rfl rf_162_44 d_Mod_wardrobe_230 rfl ?_
          refine V_bipush (v := 36) X d_Mod_wardrobe_233 (by decide) rfl ?_
          refine V_iload_n (n := 1) X d_Mod_wardrobe_235 rfl rfl rfl ?_
          refine V_imul X d_Mod_wardrobe_236 rfl ?_
          refine V_iload_n (n := 1) X d_Mod_wardrobe_237 rfl rfl rfl ?_
          refine V_iadd X d_Mod_wardrobe_238 rfl ?_
          obtain ⟨hb, h⟩ := ifn h
          refine V_iald X kd_185 (inb_in ln_185 hb) d_Mod_wardrobe_239 rfl ?_
          refine V_istore (lv' := [(4, .int (x23.1 185 (((36 : Int32) * v1) + v1).toNatClampNeg)), (0, .ref (G.2.2 + 162)), (1, .int v1)]) X d_Mod_wardrobe_240 (by decide) rfl rfl ?_
          refine V_iload (n := 0) X d_Mod_wardrobe_242 rfl rfl ?_
          refine V_ldc_w (v := 1000000) X d_Mod_wardrobe_244 kc_Mod_357 rfl ?_
          refine V_icmp_lt (tgt := 253) X d_Mod_wardrobe_247 (by decide) rfl (fun c36 => ?_) (fun c36 => ?_)
          · rw [if_pos c36] at h
            refine V_aload_n (n := 1) X d_Mod_wardrobe_253 rfl rfl rfl ?_
            refine V_iconst (v := 0) X d_Mod_wardrobe_254 (by decide) rfl ?_
            obtain ⟨M24, eM24, h⟩ := memS h
            refine V_putI X fp_Mod_112 kd_162 rfl d_Mod_wardrobe_255 rfl ?_
            rw [← eM24]
            refine V_iload_n (n := 2) X d_Mod_wardrobe_258 rfl rfl rfl ?_
            refine V_istore (lv' := [(5, .int v1), (4, .int (x23.1 185 (((36 : Int32) * v1) + v1).toNatClampNeg)), (0, .ref (G.2.2 + 162)), (1, .int v1)]) X d_Mod_wardrobe_259 (by decide) rfl rfl ?_
            refine V_iload_n (n := 3) X d_Mod_wardrobe_261 rfl rfl rfl ?_
            refine V_istore (lv' := [(6, .int v1), (5, .int v1), (4, .int (x23.1 185 (((36 : Int32) * v1) + v1).toNatClampNeg)), (0, .ref (G.2.2 + 162)), (1, .int v1)]) X d_Mod_wardrobe_262 (by decide) rfl rfl ?_
            refine V_iconst (v := 0) X d_Mod_wardrobe_264 (by decide) rfl ?_
            refine V_istore (lv' := [(7, .int (0 : Int32)), (6, .int v1), (5, .int v1), (4, .int (x23.1 185 (((36 : Int32) * v1) + v1).toNatClampNeg)), (0, .ref (G.2.2 + 162)), (1, .int v1)]) X d_Mod_wardrobe_265 (by decide) rfl rfl ?_
            refine V_sub (lv' := [(0, .ref (G.2.2 + 162)), (4, .int (x23.1 185 (((36 : Int32) * v1) + v1).toNatClampNeg)), (5, .int v1), (6, .int v1), (7, .int (0 : Int32))]) [4, 3, 2, 1, 0] rfl ?_
            obtain ⟨x35, hx35, h⟩ := ob_s h
            refine (lp_Mod_wardrobe_267_ok X hD (x23.1 185 (((36 : Int32) * v1) + v1).toNatClampNeg) _ _ _ hx35 (fun x9 e9 => ?_) :)
            subst e9
            refine V_iload (n := 0) X d_Mod_wardrobe_376 rfl rfl ?_
            exact V_iret X (kr ((x23.1 185 (((36 : Int32) * v1) + v1).toNatClampNeg), x35) (Option.some.inj h).symm) d_Mod_wardrobe_378
          · rw [if_neg c36] at h
            refine V_bipush (v := -2) X d_Mod_wardrobe_250 (by decide) rfl ?_
            exact V_iret X (kr ((-2 : Int32), x23) (Option.some.inj h).symm) d_Mod_wardrobe_252
        · rw [if_neg c37] at h
          refine V_iconst (v := -1) X d_Mod_wardrobe_41 (by decide) rfl ?_
          exact V_iret X (kr ((-1 : Int32), M1) (Option.some.inj h).symm) d_Mod_wardrobe_42
def lb_Mod_goThief_2  (s : Int32 × Mem) : Option ((Int32 × Mem) ⊕ ((Mem))) :=
  if (72 : Int32) ≤ s.1 then
  some (.inr s.2)
  else
  if inb s.1 72 = true then
  mem_ (s_i s.2 187 s.1.toNatClampNeg (vp_nar .boolean (0 : Int32))) fun M1 =>
  some (.inl ((s.1 + (1 : Int32)), M1))
  else none
theorem lb_Mod_goThief_2_ok {E : Ev} {G : Gw} {d : Nat} {post : Int32 → Mem → Prop} (X : Cx E G b_Mod_goThief "WomenByTheRoofsModel" 3 d (some .boolean)) (hD : 5 ≤ d)     (s : Int32 × Mem) (o : (Int32 × Mem) ⊕ ((Mem))) (h : lb_Mod_goThief_2 s = some o) (kc : ∀ s9 : Int32 × Mem, o = .inl s9 → V E (0, 0) G 3 (QI E G post) s9.2 2 [(0, .ref (G.2.2 + 162)), (1, .int s9.1)] []) (kx0 : ∀ x9 : Mem, o = .inr x9 → V E (0, 0) G 3 (QI E G post) x9 21 [(0, .ref (G.2.2 + 162))] []) : V E (0, 0) G 3 (QI E G post) s.2 2 [(0, .ref (G.2.2 + 162)), (1, .int s.1)] [] := by
  unfold lb_Mod_goThief_2 at h
  refine V_iload_n (n := 1) X d_Mod_goThief_2 rfl rfl rfl ?_
  refine V_bipush (v := 72) X d_Mod_goThief_3 (by decide) rfl ?_
  refine V_icmp_ge (tgt := 21) X d_Mod_goThief_5 (by decide) rfl (fun c2 => ?_) (fun c2 => ?_)
  · rw [if_pos c2] at h
    refine V_sub (lv' := [(0, .ref (G.2.2 + 162))]) [0] rfl ?_
    exact kx0 s.2 (Option.some.inj h).symm
  · rw [if_neg c2] at h
    refine V_aload_n (n := 0) X d_Mod_goThief_8 rfl rfl rfl ?_
    refine V_getr (k2 := 187) X fo_Mod_94 kd_162 rfl rf_162_46 d_Mod_goThief_9 rfl ?_
    refine V_iload_n (n := 1) X d_Mod_goThief_12 rfl rfl rfl ?_
    refine V_iconst (v := 0) X d_Mod_goThief_13 (by decide) rfl ?_
    obtain ⟨hb, h⟩ := ifn h
    obtain ⟨M1, eM1, h⟩ := memS h
    refine V_zast X kd_187 (inb_in ln_187 hb) d_Mod_goThief_14 rfl ?_
    rw [← eM1]
    refine V_iinc (n := 1) (v := (s.1 + (1 : Int32))) (lv' := [(1, .int (s.1 + (1 : Int32))), (0, .ref (G.2.2 + 162))]) X d_Mod_goThief_15 rfl rfl (by decide) rfl rfl ?_
    refine V_goto (pc' := 2) X d_Mod_goThief_18 (by decide) ?_
    refine V_sub (lv' := [(0, .ref (G.2.2 + 162)), (1, .int (s.1 + (1 : Int32)))]) [1, 0] rfl ?_
    exact kc ((s.1 + (1 : Int32)), M1) (Option.some.inj h).symm
theorem lp_Mod_goThief_2_ok {E : Ev} {G : Gw} {d : Nat} {post : Int32 → Mem → Prop} (X : Cx E G b_Mod_goThief "WomenByTheRoofsModel" 3 d (some .boolean)) (hD : 5 ≤ d)     (n9 : Nat) (s : Int32 × Mem) (x : (Mem)) (h : iter (lb_Mod_goThief_2) n9 s = some x) (kx0 : ∀ x9 : Mem, x = x9 → V E (0, 0) G 3 (QI E G post) x9 21 [(0, .ref (G.2.2 + 162))] []) : V E (0, 0) G 3 (QI E G post) s.2 2 [(0, .ref (G.2.2 + 162)), (1, .int s.1)] [] :=
  iter_P (P := fun s : Int32 × Mem => V E (0, 0) G 3 (QI E G post) s.2 2 [(0, .ref (G.2.2 + 162)), (1, .int s.1)] []) (fun s o hb kc ky => lb_Mod_goThief_2_ok X hD  s o hb kc (fun x9 e9 => kx0 x9 (ky _ e9).symm)) n9 s h
def lb_Mod_goThief_43 (v1 : Int32) (s : Int32 × Mem) : Option ((Int32 × Mem) ⊕ ((Mem))) :=
  if (4 : Int32) < s.1 then
  some (.inr s.2)
  else
  Option.bind (f_Mod_go 176 v1 s.1 s.2) fun x4 =>
  if x4 = (-1 : Int32) then
  some (.inl ((s.1 + (1 : Int32)), s.2))
  else
  Option.bind (f_Mod_go 176 v1 s.1 s.2) fun x5 =>
  if inb x5 72 = true then
  mem_ (s_i s.2 187 x5.toNatClampNeg (vp_nar .boolean (1 : Int32))) fun M6 =>
  some (.inl ((s.1 + (1 : Int32)), M6))
  else none
theorem lb_Mod_goThief_43_ok {E : Ev} {G : Gw} {d : Nat} {post : Int32 → Mem → Prop} (X : Cx E G b_Mod_goThief "WomenByTheRoofsModel" 3 d (some .boolean)) (hD : 5 ≤ d)  (v1 : Int32)   (s : Int32 × Mem) (o : (Int32 × Mem) ⊕ ((Mem))) (h : lb_Mod_goThief_43 v1 s = some o) (kc : ∀ s9 : Int32 × Mem, o = .inl s9 → V E (0, 0) G 3 (QI E G post) s9.2 43 [(0, .ref (G.2.2 + 162)), (1, .int v1), (2, .int s9.1)] []) (kx0 : ∀ x9 : Mem, o = .inr x9 → V E (0, 0) G 3 (QI E G post) x9 84 [(0, .ref (G.2.2 + 162)), (1, .int v1)] []) : V E (0, 0) G 3 (QI E G post) s.2 43 [(0, .ref (G.2.2 + 162)), (1, .int v1), (2, .int s.1)] [] := by
  unfold lb_Mod_goThief_43 at h
  refine V_iload_n (n := 2) X d_Mod_goThief_43 rfl rfl rfl ?_
  refine V_iconst (v := 4) X d_Mod_goThief_44 (by decide) rfl ?_
  refine V_icmp_gt (tgt := 84) X d_Mod_goThief_45 (by decide) rfl (fun c8 => ?_) (fun c8 => ?_)
  · rw [if_pos c8] at h
    refine V_sub (lv' := [(0, .ref (G.2.2 + 162)), (1, .int v1)]) [0, 1] rfl ?_
    exact kx0 s.2 (Option.some.inj h).symm
  · rw [if_neg c8] at h
    refine V_aload_n (n := 0) X d_Mod_goThief_48 rfl rfl rfl ?_
    refine V_aload_n (n := 0) X d_Mod_goThief_49 rfl rfl rfl ?_
    refine V_getr (k2 := 176) X fo_Mod_60 kd_162 rfl rf_162_34 d_Mod_goThief_50 rfl ?_
    refine V_iload_n (n := 1) X d_Mod_goThief_53 rfl rfl rfl ?_
    refine V_iload_n (n := 2) X d_Mod_goThief_54 rfl rfl rfl ?_
    obtain ⟨x4, hx4, h⟩ := ob_s h
    refine V_ci (As := [.ref (G.2.2 + 176), .int v1, .int s.1]) X (Z0 E) ml_Mod_252 yq_Mod_go (c_Mod_go E.2.1 G 176 v1 s.1 s.2 x4 hx4 _ (Nat.le_refl _)) kd_162 rfl rfl (by omega) rfl (Nat.le_of_ble_eq_true rfl) d_Mod_goThief_55 rfl (fun r9 M9 hq => ?_)
    rw [hq.1, hq.2]
    refine V_iconst (v := -1) X d_Mod_goThief_58 (by decide) rfl ?_
    refine V_icmp_eq (tgt := 78) X d_Mod_goThief_59 (by decide) rfl (fun c7 => ?_) (fun c7 => ?_)
    · rw [if_pos c7] at h
      refine V_iinc (n := 2) (v := (s.1 + (1 : Int32))) (lv' := [(2, .int (s.1 + (1 : Int32))), (0, .ref (G.2.2 + 162)), (1, .int v1)]) X d_Mod_goThief_78 rfl rfl (by decide) rfl rfl ?_
      refine V_goto (pc' := 43) X d_Mod_goThief_81 (by decide) ?_
      refine V_sub (lv' := [(0, .ref (G.2.2 + 162)), (1, .int v1), (2, .int (s.1 + (1 : Int32)))]) [1, 2, 0] rfl ?_
      exact kc ((s.1 + (1 : Int32)), s.2) (Option.some.inj h).symm
    · rw [if_neg c7] at h
      refine V_aload_n (n := 0) X d_Mod_goThief_62 rfl rfl rfl ?_
      refine V_getr (k2 := 187) X fo_Mod_94 kd_162 rfl rf_162_46 d_Mod_goThief_63 rfl ?_
      refine V_aload_n (n := 0) X d_Mod_goThief_66 rfl rfl rfl ?_
      refine V_aload_n (n := 0) X d_Mod_goThief_67 rfl rfl rfl ?_
      refine V_getr (k2 := 176) X fo_Mod_60 kd_162 rfl rf_162_34 d_Mod_goThief_68 rfl ?_
      refine V_iload_n (n := 1) X d_Mod_goThief_71 rfl rfl rfl ?_
      refine V_iload_n (n := 2) X d_Mod_goThief_72 rfl rfl rfl ?_
      obtain ⟨x5, hx5, h⟩ := ob_s h
      refine V_ci (As := [.ref (G.2.2 + 176), .int v1, .int s.1]) X (Z0 E) ml_Mod_252 yq_Mod_go (c_Mod_go E.2.1 G 176 v1 s.1 s.2 x5 hx5 _ (Nat.le_refl _)) kd_162 rfl rfl (by omega) rfl (Nat.le_of_ble_eq_true rfl) d_Mod_goThief_73 rfl (fun r9 M9 hq => ?_)
      rw [hq.1, hq.2]
      refine V_iconst (v := 1) X d_Mod_goThief_76 (by decide) rfl ?_
      obtain ⟨hb, h⟩ := ifn h
      obtain ⟨M6, eM6, h⟩ := memS h
      refine V_zast X kd_187 (inb_in ln_187 hb) d_Mod_goThief_77 rfl ?_
      rw [← eM6]
      refine V_iinc (n := 2) (v := (s.1 + (1 : Int32))) (lv' := [(2, .int (s.1 + (1 : Int32))), (0, .ref (G.2.2 + 162)), (1, .int v1)]) X d_Mod_goThief_78 rfl rfl (by decide) rfl rfl ?_
      refine V_goto (pc' := 43) X d_Mod_goThief_81 (by decide) ?_
      refine V_sub (lv' := [(0, .ref (G.2.2 + 162)), (1, .int v1), (2, .int (s.1 + (1 : Int32)))]) [1, 2, 0] rfl ?_
      exact kc ((s.1 + (1 : Int32)), M6) (Option.some.inj h).symm
theorem lp_Mod_goThief_43_ok {E : Ev} {G : Gw} {d : Nat} {post : Int32 → Mem → Prop} (X : Cx E G b_Mod_goThief "WomenByTheRoofsModel" 3 d (some .boolean)) (hD : 5 ≤ d)  (v1 : Int32)   (n9 : Nat) (s : Int32 × Mem) (x : (Mem)) (h : iter (lb_Mod_goThief_43 v1) n9 s = some x) (kx0 : ∀ x9 : Mem, x = x9 → V E (0, 0) G 3 (QI E G post) x9 84 [(0, .ref (G.2.2 + 162)), (1, .int v1)] []) : V E (0, 0) G 3 (QI E G post) s.2 43 [(0, .ref (G.2.2 + 162)), (1, .int v1), (2, .int s.1)] [] :=
  iter_P (P := fun s : Int32 × Mem => V E (0, 0) G 3 (QI E G post) s.2 43 [(0, .ref (G.2.2 + 162)), (1, .int v1), (2, .int s.1)] []) (fun s o hb kc ky => lb_Mod_goThief_43_ok X hD v1 s o hb kc (fun x9 e9 => kx0 x9 (ky _ e9).symm)) n9 s h
def lb_Mod_goThief_23  (s : Int32 × Mem) : Option ((Int32 × Mem) ⊕ ((Mem))) :=
  if (72 : Int32) ≤ s.1 then
  some (.inr s.2)
  else
  if inb s.1 72 = true then
  if (s.2.1 186 s.1.toNatClampNeg) = 0 then
  some (.inl ((s.1 + (1 : Int32)), s.2))
  else
  Option.bind (iter (lb_Mod_goThief_43 s.1) FU ((0 : Int32), s.2)) fun x9 =>
  Option.bind (f_Mod_cellOf s.1) fun x10 =>
  if inb x10 36 = true then
  if (x9.1 164 x10.toNatClampNeg) = (3 : Int32) then
  Option.bind (f_Mod_levelOf s.1) fun x11 =>
  Option.bind (f_Mod_cellOf s.1) fun x12 =>
  Option.bind (f_Mod_placeOf ((1 : Int32) - x11) x12) fun x13 =>
  if inb x13 72 = true then
  mem_ (s_i x9 187 x13.toNatClampNeg (vp_nar .boolean (1 : Int32))) fun M14 =>
  some (.inl ((s.1 + (1 : Int32)), M14))
  else none
  else
  some (.inl ((s.1 + (1 : Int32)), x9))
  else none
  else none
theorem lb_Mod_goThief_23_ok {E : Ev} {G : Gw} {d : Nat} {post : Int32 → Mem → Prop} (X : Cx E G b_Mod_goThief "WomenByTheRoofsModel" 3 d (some .boolean)) (hD : 5 ≤ d)     (s : Int32 × Mem) (o : (Int32 × Mem) ⊕ ((Mem))) (h : lb_Mod_goThief_23 s = some o) (kc : ∀ s9 : Int32 × Mem, o = .inl s9 → V E (0, 0) G 3 (QI E G post) s9.2 23 [(0, .ref (G.2.2 + 162)), (1, .int s9.1)] []) (kx0 : ∀ x9 : Mem, o = .inr x9 → V E (0, 0) G 3 (QI E G post) x9 122 [(0, .ref (G.2.2 + 162))] []) : V E (0, 0) G 3 (QI E G post) s.2 23 [(0, .ref (G.2.2 + 162)), (1, .int s.1)] [] := by
  unfold lb_Mod_goThief_23 at h
  refine V_iload_n (n := 1) X d_Mod_goThief_23 rfl rfl rfl ?_
  refine V_bipush (v := 72) X d_Mod_goThief_24 (by decide) rfl ?_
  refine V_icmp_ge (tgt := 122) X d_Mod_goThief_26 (by decide) rfl (fun c17 => ?_) (fun c17 => ?_)
  · rw [if_pos c17] at h
    refine V_sub (lv' := [(0, .ref (G.2.2 + 162))]) [0] rfl ?_
    exact kx0 s.2 (Option.some.inj h).symm
  · rw [if_neg c17] at h
    refine V_aload_n (n := 0) X d_Mod_goThief_29 rfl rfl rfl ?_
    refine V_getr (k2 := 186) X fo_Mod_91 kd_162 rfl rf_162_45 d_Mod_goThief_30 rfl ?_
    refine V_iload_n (n := 1) X d_Mod_goThief_33 rfl rfl rfl ?_
    obtain ⟨hb, h⟩ := ifn h
    refine V_zald X kd_186 (inb_in ln_186 hb) d_Mod_goThief_34 rfl ?_
    refine V_if_ne (tgt := 41) X d_Mod_goThief_35 (by decide) rfl (fun c16 => ?_) (fun c16 => ?_)
    · rw [if_neg c16] at h
      refine V_iconst (v := 0) X d_Mod_goThief_41 (by decide) rfl ?_
      refine V_istore_n (lv' := [(2, .int (0 : Int32)), (0, .ref (G.2.2 + 162)), (1, .int s.1)]) X d_Mod_goThief_42 rfl (by decide) rfl rfl ?_
      refine V_sub (lv' := [(0, .ref (G.2.2 + 162)), (1, .int s.1), (2, .int (0 : Int32))]) [1, 2, 0] rfl ?_
      obtain ⟨x9, hx9, h⟩ := ob_s h
      refine (lp_Mod_goThief_43_ok X hD s.1 _ _ _ hx9 (fun x9 e9 => ?_) :)
      subst e9
      refine V_aload_n (n := 0) X d_Mod_goThief_84 rfl rfl rfl ?_
      refine V_getr (k2 := 164) X fo_Mod_13 kd_162 rfl rf_162_1 d_Mod_goThief_85 rfl ?_
      refine V_iload_n (n := 1) X d_Mod_goThief_88 rfl rfl rfl ?_
      obtain ⟨x10, hx10, h⟩ := ob_s h
      refine V_si (As := [.int s.1]) X (Z0 E) ml_Mod_147 yq_Mod_cellOf (c_Mod_cellOf E.2.1 G s.1 x9 x10 hx10 _ (Nat.le_refl _)) rfl (by omega) rfl (Nat.le_of_ble_eq_true rfl) d_Mod_goThief_89 rfl (fun r9 M9 hq => ?_)
      rw [hq.1, hq.2]
      obtain ⟨hb, h⟩ := ifn h
      refine V_iald X kd_164 (inb_in ln_164 hb) d_Mod_goThief_92 rfl ?_
      refine V_iconst (v := 3) X d_Mod_goThief_93 (by decide) rfl ?_
      refine V_icmp_ne (tgt := 116) X d_Mod_goThief_94 (by decide) rfl (fun c15 => ?_) (fun c15 => ?_)
      · rw [if_neg c15] at h
        refine V_iinc (n := 1) (v := (s.1 + (1 : Int32))) (lv' := [(1, .int (s.1 + (1 : Int32))), (0, .ref (G.2.2 + 162))]) X d_Mod_goThief_116 rfl rfl (by decide) rfl rfl ?_
        refine V_goto (pc' := 23) X d_Mod_goThief_119 (by decide) ?_
        refine V_sub (lv' := [(0, .ref (G.2.2 + 162)), (1, .int (s.1 + (1 : Int32)))]) [1, 0] rfl ?_
        exact kc ((s.1 + (1 : Int32)), x9) (Option.some.inj h).symm
      · rw [if_pos c15] at h
        refine V_aload_n (n := 0) X d_Mod_goThief_97 rfl rfl rfl ?_
        refine V_getr (k2 := 187) X fo_Mod_94 kd_162 rfl rf_162_46 d_Mod_goThief_98 rfl ?_
        refine V_iconst (v := 1) X d_Mod_goThief_101 (by decide) rfl ?_
        refine V_iload_n (n := 1) X d_Mod_goThief_102 rfl rfl rfl ?_
        obtain ⟨x11, hx11, h⟩ := ob_s h
        refine V_si (As := [.int s.1]) X (Z0 E) ml_Mod_143 yq_Mod_levelOf (c_Mod_levelOf E.2.1 G s.1 x9 x11 hx11 _ (Nat.le_refl _)) rfl (by omega) rfl (Nat.le_of_ble_eq_true rfl) d_Mod_goThief_103 rfl (fun r9 M9 hq => ?_)
        rw [hq.1, hq.2]
        refine V_isub X d_Mod_goThief_106 rfl ?_
        refine V_iload_n (n := 1) X d_Mod_goThief_107 rfl rfl rfl ?_
        obtain ⟨x12, hx12, h⟩ := ob_s h
        refine V_si (As := [.int s.1]) X (Z0 E) ml_Mod_147 yq_Mod_cellOf (c_Mod_cellOf E.2.1 G s.1 x9 x12 hx12 _ (Nat.le_refl _)) rfl (by omega) rfl (Nat.le_of_ble_eq_true rfl) d_Mod_goThief_108 rfl (fun r9 M9 hq => ?_)
        rw [hq.1, hq.2]
        obtain ⟨x13, hx13, h⟩ := ob_s h
        refine V_si (As := [.int ((1 : Int32) - x11), .int x12]) X (Z0 E) ml_Mod_154 yq_Mod_placeOf (c_Mod_placeOf E.2.1 G ((1 : Int32) - x11) x12 x9 x13 hx13 _ (Nat.le_refl _)) rfl (by omega) rfl (Nat.le_of_ble_eq_true rfl) d_Mod_goThief_111 rfl (fun r9 M9 hq => ?_)
        rw [hq.1, hq.2]
        refine V_iconst (v := 1) X d_Mod_goThief_114 (by decide) rfl ?_
        obtain ⟨hb, h⟩ := ifn h
        obtain ⟨M14, eM14, h⟩ := memS h
        refine V_zast X kd_187 (inb_in ln_187 hb) d_Mod_goThief_115 rfl ?_
        rw [← eM14]
        refine V_iinc (n := 1) (v := (s.1 + (1 : Int32))) (lv' := [(1, .int (s.1 + (1 : Int32))), (0, .ref (G.2.2 + 162))]) X d_Mod_goThief_116 rfl rfl (by decide) rfl rfl ?_
        refine V_goto (pc' := 23) X d_Mod_goThief_119 (by decide) ?_
        refine V_sub (lv' := [(0, .ref (G.2.2 + 162)), (1, .int (s.1 + (1 : Int32)))]) [1, 0] rfl ?_
        exact kc ((s.1 + (1 : Int32)), M14) (Option.some.inj h).symm
    · rw [if_pos c16] at h
      refine V_goto (pc' := 116) X d_Mod_goThief_38 (by decide) ?_
      refine V_iinc (n := 1) (v := (s.1 + (1 : Int32))) (lv' := [(1, .int (s.1 + (1 : Int32))), (0, .ref (G.2.2 + 162))]) X d_Mod_goThief_116 rfl rfl (by decide) rfl rfl ?_
      refine V_goto (pc' := 23) X d_Mod_goThief_119 (by decide) ?_
      refine V_sub (lv' := [(0, .ref (G.2.2 + 162)), (1, .int (s.1 + (1 : Int32)))]) [1, 0] rfl ?_
      exact kc ((s.1 + (1 : Int32)), s.2) (Option.some.inj h).symm
theorem lp_Mod_goThief_23_ok {E : Ev} {G : Gw} {d : Nat} {post : Int32 → Mem → Prop} (X : Cx E G b_Mod_goThief "WomenByTheRoofsModel" 3 d (some .boolean)) (hD : 5 ≤ d)     (n9 : Nat) (s : Int32 × Mem) (x : (Mem)) (h : iter (lb_Mod_goThief_23) n9 s = some x) (kx0 : ∀ x9 : Mem, x = x9 → V E (0, 0) G 3 (QI E G post) x9 122 [(0, .ref (G.2.2 + 162))] []) : V E (0, 0) G 3 (QI E G post) s.2 23 [(0, .ref (G.2.2 + 162)), (1, .int s.1)] [] :=
  iter_P (P := fun s : Int32 × Mem => V E (0, 0) G 3 (QI E G post) s.2 23 [(0, .ref (G.2.2 + 162)), (1, .int s.1)] []) (fun s o hb kc ky => lb_Mod_goThief_23_ok X hD  s o hb kc (fun x9 e9 => kx0 x9 (ky _ e9).symm)) n9 s h
def j_Mod_goThief_163_126 (v1 : Int32) (v2 : Int32) (w0 : Int32) (w1 : Int32) (M : Mem) : Option ((Int32 × Int32 × Mem) ⊕ ((Int32 × Mem))) :=
  if inb w1 72 = true then
  mem_ (s_i M 186 w1.toNatClampNeg (vp_nar .boolean w0)) fun M19 =>
  if inb v2 72 = true then
  some (.inl ((v1 ||| (M19.1 186 v2.toNatClampNeg)), (v2 + (1 : Int32)), M19))
  else none
  else none
theorem j_Mod_goThief_163_126_ok {E : Ev} {G : Gw} {d : Nat} {post : Int32 → Mem → Prop} (X : Cx E G b_Mod_goThief "WomenByTheRoofsModel" 3 d (some .boolean)) (hD : 5 ≤ d)  (v1 : Int32) (v2 : Int32) (w0 : Int32) (w1 : Int32)  (M : Mem)  (o : (Int32 × Int32 × Mem) ⊕ ((Int32 × Mem))) (h : j_Mod_goThief_163_126 v1 v2 w0 w1 M = some o) (kc : ∀ s9 : Int32 × Int32 × Mem, o = .inl s9 → V E (0, 0) G 3 (QI E G post) s9.2.2 126 [(0, .ref (G.2.2 + 162)), (1, .int s9.1), (2, .int s9.2.1)] []) (kx0 : ∀ x9 : Int32 × Mem, o = .inr x9 → V E (0, 0) G 3 (QI E G post) x9.2 179 [(1, .int x9.1)] []) : V E (0, 0) G 3 (QI E G post) M 163 [(0, .ref (G.2.2 + 162)), (1, .int v1), (2, .int v2)] [.int w0, .int w1, .ref (G.2.2 + 186)] := by
  unfold j_Mod_goThief_163_126 at h
  obtain ⟨hb, h⟩ := ifn h
  obtain ⟨M19, eM19, h⟩ := memS h
  refine V_zast X kd_186 (inb_in ln_186 hb) d_Mod_goThief_163 rfl ?_
  rw [← eM19]
  refine V_iload_n (n := 1) X d_Mod_goThief_164 rfl rfl rfl ?_
  refine V_aload_n (n := 0) X d_Mod_goThief_165 rfl rfl rfl ?_
  refine V_getr (k2 := 186) X fo_Mod_91 kd_162 rfl rf_162_45 d_Mod_goThief_166 rfl ?_
  refine V_iload_n (n := 2) X d_Mod_goThief_169 rfl rfl rfl ?_
  obtain ⟨hb, h⟩ := ifn h
  refine V_zald X kd_186 (inb_in ln_186 hb) d_Mod_goThief_170 rfl ?_
  refine V_ior X d_Mod_goThief_171 rfl ?_
  refine V_istore_n (lv' := [(1, .int (v1 ||| (M19.1 186 v2.toNatClampNeg))), (0, .ref (G.2.2 + 162)), (2, .int v2)]) X d_Mod_goThief_172 rfl (by decide) rfl rfl ?_
  refine V_iinc (n := 2) (v := (v2 + (1 : Int32))) (lv' := [(2, .int (v2 + (1 : Int32))), (1, .int (v1 ||| (M19.1 186 v2.toNatClampNeg))), (0, .ref (G.2.2 + 162))]) X d_Mod_goThief_173 rfl rfl (by decide) rfl rfl ?_
  refine V_goto (pc' := 126) X d_Mod_goThief_176 (by decide) ?_
  refine V_sub (lv' := [(0, .ref (G.2.2 + 162)), (1, .int (v1 ||| (M19.1 186 v2.toNatClampNeg))), (2, .int (v2 + (1 : Int32)))]) [2, 1, 0] rfl ?_
  exact kc ((v1 ||| (M19.1 186 v2.toNatClampNeg)), (v2 + (1 : Int32)), M19) (Option.some.inj h).symm
def lb_Mod_goThief_126  (s : Int32 × Int32 × Mem) : Option ((Int32 × Int32 × Mem) ⊕ ((Int32 × Mem))) :=
  if (72 : Int32) ≤ s.2.1 then
  some (.inr (s.1, s.2.2))
  else
  if inb s.2.1 72 = true then
  if (s.2.2.1 187 s.2.1.toNatClampNeg) = 0 then
  j_Mod_goThief_163_126 s.1 s.2.1 (0 : Int32) s.2.1 s.2.2
  else
  Option.bind (f_Mod_onPlace 176 s.2.1 s.2.2) fun x20 =>
  if x20 = 0 then
  j_Mod_goThief_163_126 s.1 s.2.1 (1 : Int32) s.2.1 s.2.2
  else
  j_Mod_goThief_163_126 s.1 s.2.1 (0 : Int32) s.2.1 s.2.2
  else none
theorem lb_Mod_goThief_126_ok {E : Ev} {G : Gw} {d : Nat} {post : Int32 → Mem → Prop} (X : Cx E G b_Mod_goThief "WomenByTheRoofsModel" 3 d (some .boolean)) (hD : 5 ≤ d)     (s : Int32 × Int32 × Mem) (o : (Int32 × Int32 × Mem) ⊕ ((Int32 × Mem))) (h : lb_Mod_goThief_126 s = some o) (kc : ∀ s9 : Int32 × Int32 × Mem, o = .inl s9 → V E (0, 0) G 3 (QI E G post) s9.2.2 126 [(0, .ref (G.2.2 + 162)), (1, .int s9.1), (2, .int s9.2.1)] []) (kx0 : ∀ x9 : Int32 × Mem, o = .inr x9 → V E (0, 0) G 3 (QI E G post) x9.2 179 [(1, .int x9.1)] []) : V E (0, 0) G 3 (QI E G post) s.2.2 126 [(0, .ref (G.2.2 + 162)), (1, .int s.1), (2, .int s.2.1)] [] := by
  unfold lb_Mod_goThief_126 at h
  refine V_iload_n (n := 2) X d_Mod_goThief_126 rfl rfl rfl ?_
  refine V_bipush (v := 72) X d_Mod_goThief_127 (by decide) rfl ?_
  refine V_icmp_ge (tgt := 179) X d_Mod_goThief_129 (by decide) rfl (fun c23 => ?_) (fun c23 => ?_)
  · rw [if_pos c23] at h
    refine V_sub (lv' := [(1, .int s.1)]) [1] rfl ?_
    exact kx0 (s.1, s.2.2) (Option.some.inj h).symm
  · rw [if_neg c23] at h
    refine V_aload_n (n := 0) X d_Mod_goThief_132 rfl rfl rfl ?_
    refine V_getr (k2 := 186) X fo_Mod_91 kd_162 rfl rf_162_45 d_Mod_goThief_133 rfl ?_
    refine V_iload_n (n := 2) X d_Mod_goThief_136 rfl rfl rfl ?_
    refine V_aload_n (n := 0) X d_Mod_goThief_137 rfl rfl rfl ?_
    refine V_getr (k2 := 187) X fo_Mod_94 kd_162 rfl rf_162_46 d_Mod_goThief_138 rfl ?_
    refine V_iload_n (n := 2) X d_Mod_goThief_141 rfl rfl rfl ?_
    obtain ⟨hb, h⟩ := ifn h
    refine V_zald X kd_187 (inb_in ln_187 hb) d_Mod_goThief_142 rfl ?_
    refine V_if_eq (tgt := 162) X d_Mod_goThief_143 (by decide) rfl (fun c22 => ?_) (fun c22 => ?_)
    · rw [if_pos c22] at h
      refine V_iconst (v := 0) X d_Mod_goThief_162 (by decide) rfl ?_
      exact j_Mod_goThief_163_126_ok X hD s.1 s.2.1 (0 : Int32) s.2.1 s.2.2 _ h kc kx0
    · rw [if_neg c22] at h
      refine V_aload_n (n := 0) X d_Mod_goThief_146 rfl rfl rfl ?_
      refine V_aload_n (n := 0) X d_Mod_goThief_147 rfl rfl rfl ?_
      refine V_getr (k2 := 176) X fo_Mod_60 kd_162 rfl rf_162_34 d_Mod_goThief_148 rfl ?_
      refine V_iload_n (n := 2) X d_Mod_goThief_151 rfl rfl rfl ?_
      obtain ⟨x20, hx20, h⟩ := ob_s h
      refine V_ci (As := [.ref (G.2.2 + 176), .int s.2.1]) X (Z0 E) ml_Mod_259 yq_Mod_onPlace (c_Mod_onPlace E.2.1 G 176 s.2.1 s.2.2 x20 hx20 _ (Nat.le_refl _)) kd_162 rfl rfl (by omega) rfl (Nat.le_of_ble_eq_true rfl) d_Mod_goThief_152 rfl (fun r9 M9 hq => ?_)
      rw [hq.1, hq.2]
      refine V_if_ne (tgt := 162) X d_Mod_goThief_155 (by decide) rfl (fun c21 => ?_) (fun c21 => ?_)
      · rw [if_neg c21] at h
        refine V_iconst (v := 0) X d_Mod_goThief_162 (by decide) rfl ?_
        exact j_Mod_goThief_163_126_ok X hD s.1 s.2.1 (0 : Int32) s.2.1 s.2.2 _ h kc kx0
      · rw [if_pos c21] at h
        refine V_iconst (v := 1) X d_Mod_goThief_158 (by decide) rfl ?_
        refine V_goto (pc' := 163) X d_Mod_goThief_159 (by decide) ?_
        exact j_Mod_goThief_163_126_ok X hD s.1 s.2.1 (1 : Int32) s.2.1 s.2.2 _ h kc kx0
theorem lp_Mod_goThief_126_ok {E : Ev} {G : Gw} {d : Nat} {post : Int32 → Mem → Prop} (X : Cx E G b_Mod_goThief "WomenByTheRoofsModel" 3 d (some .boolean)) (hD : 5 ≤ d)     (n9 : Nat) (s : Int32 × Int32 × Mem) (x : (Int32 × Mem)) (h : iter (lb_Mod_goThief_126) n9 s = some x) (kx0 : ∀ x9 : Int32 × Mem, x = x9 → V E (0, 0) G 3 (QI E G post) x9.2 179 [(1, .int x9.1)] []) : V E (0, 0) G 3 (QI E G post) s.2.2 126 [(0, .ref (G.2.2 + 162)), (1, .int s.1), (2, .int s.2.1)] [] :=
  iter_P (P := fun s : Int32 × Int32 × Mem => V E (0, 0) G 3 (QI E G post) s.2.2 126 [(0, .ref (G.2.2 + 162)), (1, .int s.1), (2, .int s.2.1)] []) (fun s o hb kc ky => lb_Mod_goThief_126_ok X hD  s o hb kc (fun x9 e9 => kx0 x9 (ky _ e9).symm)) n9 s h
def f_Mod_goThief (M : Mem) : Option (Int32 × Mem) :=
  Option.bind (iter (lb_Mod_goThief_2) FU ((0 : Int32), M)) fun x3 =>
  Option.bind (iter (lb_Mod_goThief_23) FU ((0 : Int32), x3)) fun x18 =>
  Option.bind (iter (lb_Mod_goThief_126) FU ((0 : Int32), (0 : Int32), x18)) fun x24 =>
  if x24.1 = 0 ∨ x24.1 = 1 then some (x24.1, x24.2) else none
theorem c_Mod_goThief (l : Launch) (G : Gw)   (M : Mem) (x : Int32 × Mem) (h : f_Mod_goThief M = some x) (d : Nat) (hD : 5 ≤ d) : Ci l G y_Mod_goThief b_Mod_goThief 3 (some .boolean) d [.ref (G.2.2 + 162)] M (fun r9 M9 => r9 = x.1 ∧ M9 = x.2) := by
  refine Ci_of (by decide) (Nat.le_of_ble_eq_true rfl) (fun E hE X => ?_)
  subst hE
  have kr : ∀ x9 : Int32 × Mem, x = x9 → (fun r9 M9 => r9 = x.1 ∧ M9 = x.2) x9.1 x9.2 := fun x9 e9 => by subst e9; exact ⟨rfl, rfl⟩
  unfold f_Mod_goThief at h
  refine V_iconst (v := 0) X d_Mod_goThief_0 (by decide) rfl ?_
  refine V_istore_n (lv' := [(1, .int (0 : Int32)), (0, .ref (G.2.2 + 162))]) X d_Mod_goThief_1 rfl (by decide) rfl rfl ?_
  refine V_sub (lv' := [(0, .ref (G.2.2 + 162)), (1, .int (0 : Int32))]) [1, 0] rfl ?_
  obtain ⟨x3, hx3, h⟩ := ob_s h
  refine (lp_Mod_goThief_2_ok X hD  _ _ _ hx3 (fun x9 e9 => ?_) :)
  subst e9
  refine V_iconst (v := 0) X d_Mod_goThief_21 (by decide) rfl ?_
  refine V_istore_n (lv' := [(1, .int (0 : Int32)), (0, .ref (G.2.2 + 162))]) X d_Mod_goThief_22 rfl (by decide) rfl rfl ?_
  refine V_sub (lv' := [(0, .ref (G.2.2 + 162)), (1, .int (0 : Int32))]) [1, 0] rfl ?_
  obtain ⟨x18, hx18, h⟩ := ob_s h
  refine (lp_Mod_goThief_23_ok X hD  _ _ _ hx18 (fun x9 e9 => ?_) :)
  subst e9
  refine V_iconst (v := 0) X d_Mod_goThief_122 (by decide) rfl ?_
  refine V_istore_n (lv' := [(1, .int (0 : Int32)), (0, .ref (G.2.2 + 162))]) X d_Mod_goThief_123 rfl (by decide) rfl rfl ?_
  refine V_iconst (v := 0) X d_Mod_goThief_124 (by decide) rfl ?_
  refine V_istore_n (lv' := [(2, .int (0 : Int32)), (1, .int (0 : Int32)), (0, .ref (G.2.2 + 162))]) X d_Mod_goThief_125 rfl (by decide) rfl rfl ?_
  refine V_sub (lv' := [(0, .ref (G.2.2 + 162)), (1, .int (0 : Int32)), (2, .int (0 : Int32))]) [2, 1, 0] rfl ?_
  obtain ⟨x24, hx24, h⟩ := ob_s h
  refine (lp_Mod_goThief_126_ok X hD  _ _ _ hx24 (fun x9 e9 => ?_) :)
  subst e9
  refine V_iload_n (n := 0) X d_Mod_goThief_179 rfl rfl rfl ?_
  obtain ⟨hq, h⟩ := ifn h
  exact V_zret X (kr (x24.1, x24.2) (Option.some.inj h).symm) hq d_Mod_goThief_180
def lb_Mod_thiefIn_14 (v1 : Int32) (v2 : Int32) (s : Int32 × Mem) : Option ((Int32 × Mem) ⊕ ((Mem))) :=
  if (72 : Int32) ≤ s.1 then
  some (.inr s.2)
  else
  if s.1 = v1 then
  if inb s.1 72 = true then
  mem_ (s_i s.2 186 s.1.toNatClampNeg (vp_nar .boolean (1 : Int32))) fun M3 =>
  some (.inl ((s.1 + (1 : Int32)), M3))
  else none
  else
  if inb s.1 72 = true then
  mem_ (s_i s.2 186 s.1.toNatClampNeg (vp_nar .boolean (0 : Int32))) fun M2 =>
  some (.inl ((s.1 + (1 : Int32)), M2))
  else none
theorem lb_Mod_thiefIn_14_ok {E : Ev} {G : Gw} {d : Nat} {post : Int32 → Mem → Prop} (X : Cx E G b_Mod_thiefIn "WomenByTheRoofsModel" 4 d (some .int)) (hD : 403 ≤ d)  (v1 : Int32) (v2 : Int32)   (s : Int32 × Mem) (o : (Int32 × Mem) ⊕ ((Mem))) (h : lb_Mod_thiefIn_14 v1 v2 s = some o) (kc : ∀ s9 : Int32 × Mem, o = .inl s9 → V E (0, 0) G 4 (QI E G post) s9.2 14 [(0, .ref (G.2.2 + 162)), (1, .int v1), (2, .int v2), (3, .int s9.1)] []) (kx0 : ∀ x9 : Mem, o = .inr x9 → V E (0, 0) G 4 (QI E G post) x9 42 [(0, .ref (G.2.2 + 162)), (2, .int v2)] []) : V E (0, 0) G 4 (QI E G post) s.2 14 [(0, .ref (G.2.2 + 162)), (1, .int v1), (2, .int v2), (3, .int s.1)] [] := by
  unfold lb_Mod_thiefIn_14 at h
  refine V_iload_n (n := 3) X d_Mod_thiefIn_14 rfl rfl rfl ?_
  refine V_bipush (v := 72) X d_Mod_thiefIn_15 (by decide) rfl ?_
  refine V_icmp_ge (tgt := 42) X d_Mod_thiefIn_17 (by decide) rfl (fun c5 => ?_) (fun c5 => ?_)
  · rw [if_pos c5] at h
    refine V_sub (lv' := [(0, .ref (G.2.2 + 162)), (2, .int v2)]) [0, 2] rfl ?_
    exact kx0 s.2 (Option.some.inj h).symm
  · rw [if_neg c5] at h
    refine V_aload_n (n := 0) X d_Mod_thiefIn_20 rfl rfl rfl ?_
    refine V_getr (k2 := 186) X fo_Mod_91 kd_162 rfl rf_162_45 d_Mod_thiefIn_21 rfl ?_
    refine V_iload_n (n := 3) X d_Mod_thiefIn_24 rfl rfl rfl ?_
    refine V_iload_n (n := 3) X d_Mod_thiefIn_25 rfl rfl rfl ?_
    refine V_iload_n (n := 1) X d_Mod_thiefIn_26 rfl rfl rfl ?_
    refine V_icmp_ne (tgt := 34) X d_Mod_thiefIn_27 (by decide) rfl (fun c4 => ?_) (fun c4 => ?_)
    · rw [if_neg c4] at h
      refine V_iconst (v := 0) X d_Mod_thiefIn_34 (by decide) rfl ?_
      obtain ⟨hb, h⟩ := ifn h
      obtain ⟨M2, eM2, h⟩ := memS h
      refine V_zast X kd_186 (inb_in ln_186 hb) d_Mod_thiefIn_35 rfl ?_
      rw [← eM2]
      refine V_iinc (n := 3) (v := (s.1 + (1 : Int32))) (lv' := [(3, .int (s.1 + (1 : Int32))), (0, .ref (G.2.2 + 162)), (1, .int v1), (2, .int v2)]) X d_Mod_thiefIn_36 rfl rfl (by decide) rfl rfl ?_
      refine V_goto (pc' := 14) X d_Mod_thiefIn_39 (by decide) ?_
      refine V_sub (lv' := [(0, .ref (G.2.2 + 162)), (1, .int v1), (2, .int v2), (3, .int (s.1 + (1 : Int32)))]) [1, 2, 3, 0] rfl ?_
      exact kc ((s.1 + (1 : Int32)), M2) (Option.some.inj h).symm
    · rw [if_pos c4] at h
      refine V_iconst (v := 1) X d_Mod_thiefIn_30 (by decide) rfl ?_
      refine V_goto (pc' := 35) X d_Mod_thiefIn_31 (by decide) ?_
      obtain ⟨hb, h⟩ := ifn h
      obtain ⟨M3, eM3, h⟩ := memS h
      refine V_zast X kd_186 (inb_in ln_186 hb) d_Mod_thiefIn_35 rfl ?_
      rw [← eM3]
      refine V_iinc (n := 3) (v := (s.1 + (1 : Int32))) (lv' := [(3, .int (s.1 + (1 : Int32))), (0, .ref (G.2.2 + 162)), (1, .int v1), (2, .int v2)]) X d_Mod_thiefIn_36 rfl rfl (by decide) rfl rfl ?_
      refine V_goto (pc' := 14) X d_Mod_thiefIn_39 (by decide) ?_
      refine V_sub (lv' := [(0, .ref (G.2.2 + 162)), (1, .int v1), (2, .int v2), (3, .int (s.1 + (1 : Int32)))]) [1, 2, 3, 0] rfl ?_
      exact kc ((s.1 + (1 : Int32)), M3) (Option.some.inj h).symm
theorem lp_Mod_thiefIn_14_ok {E : Ev} {G : Gw} {d : Nat} {post : Int32 → Mem → Prop} (X : Cx E G b_Mod_thiefIn "WomenByTheRoofsModel" 4 d (some .int)) (hD : 403 ≤ d)  (v1 : Int32) (v2 : Int32)   (n9 : Nat) (s : Int32 × Mem) (x : (Mem)) (h : iter (lb_Mod_thiefIn_14 v1 v2) n9 s = some x) (kx0 : ∀ x9 : Mem, x = x9 → V E (0, 0) G 4 (QI E G post) x9 42 [(0, .ref (G.2.2 + 162)), (2, .int v2)] []) : V E (0, 0) G 4 (QI E G post) s.2 14 [(0, .ref (G.2.2 + 162)), (1, .int v1), (2, .int v2), (3, .int s.1)] [] :=
  iter_P (P := fun s : Int32 × Mem => V E (0, 0) G 4 (QI E G post) s.2 14 [(0, .ref (G.2.2 + 162)), (1, .int v1), (2, .int v2), (3, .int s.1)] []) (fun s o hb kc ky => lb_Mod_thiefIn_14_ok X hD v1 v2 s o hb kc (fun x9 e9 => kx0 x9 (ky _ e9).symm)) n9 s h
def lb_Mod_thiefIn_44 (v2 : Int32) (s : Int32 × Mem) : Option ((Int32 × Mem) ⊕ ((Mem) ⊕ (Int32 × Mem))) :=
  if v2 < s.1 then
  some (.inr (Sum.inl s.2))
  else
  Option.bind (f_Mod_goMinute 176 s.2) fun x7 =>
  Option.bind (f_Mod_goThief x7) fun x8 =>
  if x8.1 = 0 then
  some (.inr (Sum.inr (s.1, x8.2)))
  else
  some (.inl ((s.1 + (1 : Int32)), x8.2))
theorem lb_Mod_thiefIn_44_ok {E : Ev} {G : Gw} {d : Nat} {post : Int32 → Mem → Prop} (X : Cx E G b_Mod_thiefIn "WomenByTheRoofsModel" 4 d (some .int)) (hD : 403 ≤ d)  (v2 : Int32)   (s : Int32 × Mem) (o : (Int32 × Mem) ⊕ ((Mem) ⊕ (Int32 × Mem))) (h : lb_Mod_thiefIn_44 v2 s = some o) (kc : ∀ s9 : Int32 × Mem, o = .inl s9 → V E (0, 0) G 4 (QI E G post) s9.2 44 [(0, .ref (G.2.2 + 162)), (2, .int v2), (3, .int s9.1)] []) (kx0 : ∀ x9 : Mem, o = .inr (Sum.inl x9) → V E (0, 0) G 4 (QI E G post) x9 72 [] []) (kx1 : ∀ x9 : Int32 × Mem, o = .inr (Sum.inr x9) → V E (0, 0) G 4 (QI E G post) x9.2 64 [(3, .int x9.1)] []) : V E (0, 0) G 4 (QI E G post) s.2 44 [(0, .ref (G.2.2 + 162)), (2, .int v2), (3, .int s.1)] [] := by
  unfold lb_Mod_thiefIn_44 at h
  refine V_iload_n (n := 2) X d_Mod_thiefIn_44 rfl rfl rfl ?_
  refine V_iload_n (n := 1) X d_Mod_thiefIn_45 rfl rfl rfl ?_
  refine V_icmp_gt (tgt := 72) X d_Mod_thiefIn_46 (by decide) rfl (fun c10 => ?_) (fun c10 => ?_)
  · rw [if_pos c10] at h
    refine V_sub (lv' := []) [] rfl ?_
    exact kx0 s.2 (Option.some.inj h).symm
  · rw [if_neg c10] at h
    refine V_aload_n (n := 0) X d_Mod_thiefIn_49 rfl rfl rfl ?_
    refine V_aload_n (n := 0) X d_Mod_thiefIn_50 rfl rfl rfl ?_
    refine V_getr (k2 := 176) X fo_Mod_60 kd_162 rfl rf_162_34 d_Mod_thiefIn_51 rfl ?_
    obtain ⟨x7, hx7, h⟩ := ob_s h
    refine V_cv (As := [.ref (G.2.2 + 176)]) X (Z0 E) ml_Mod_339 yq_Mod_goMinute (c_Mod_goMinute E.2.1 G 176 s.2 x7 hx7 _ (Nat.le_refl _)) kd_162 rfl rfl (by omega) rfl (Nat.le_of_ble_eq_true rfl) d_Mod_thiefIn_54 rfl (fun M9 hq => ?_)
    rw [hq]
    refine V_aload_n (n := 0) X d_Mod_thiefIn_57 rfl rfl rfl ?_
    obtain ⟨x8, hx8, h⟩ := ob_s h
    refine V_ci (As := []) X (Z0 E) ml_Mod_410 yq_Mod_goThief (c_Mod_goThief E.2.1 G  x7 x8 hx8 _ (Nat.le_refl _)) kd_162 rfl rfl (by omega) rfl (Nat.le_of_ble_eq_true rfl) d_Mod_thiefIn_58 rfl (fun r9 M9 hq => ?_)
    rw [hq.1, hq.2]
    refine V_if_ne (tgt := 66) X d_Mod_thiefIn_61 (by decide) rfl (fun c9 => ?_) (fun c9 => ?_)
    · rw [if_neg c9] at h
      refine V_iinc (n := 2) (v := (s.1 + (1 : Int32))) (lv' := [(3, .int (s.1 + (1 : Int32))), (0, .ref (G.2.2 + 162)), (2, .int v2)]) X d_Mod_thiefIn_66 rfl rfl (by decide) rfl rfl ?_
      refine V_goto (pc' := 44) X d_Mod_thiefIn_69 (by decide) ?_
      refine V_sub (lv' := [(0, .ref (G.2.2 + 162)), (2, .int v2), (3, .int (s.1 + (1 : Int32)))]) [1, 2, 0] rfl ?_
      exact kc ((s.1 + (1 : Int32)), x8.2) (Option.some.inj h).symm
    · rw [if_pos c9] at h
      refine V_sub (lv' := [(3, .int s.1)]) [2] rfl ?_
      exact kx1 (s.1, x8.2) (Option.some.inj h).symm
theorem lp_Mod_thiefIn_44_ok {E : Ev} {G : Gw} {d : Nat} {post : Int32 → Mem → Prop} (X : Cx E G b_Mod_thiefIn "WomenByTheRoofsModel" 4 d (some .int)) (hD : 403 ≤ d)  (v2 : Int32)   (n9 : Nat) (s : Int32 × Mem) (x : (Mem) ⊕ (Int32 × Mem)) (h : iter (lb_Mod_thiefIn_44 v2) n9 s = some x) (kx0 : ∀ x9 : Mem, x = (Sum.inl x9) → V E (0, 0) G 4 (QI E G post) x9 72 [] []) (kx1 : ∀ x9 : Int32 × Mem, x = (Sum.inr x9) → V E (0, 0) G 4 (QI E G post) x9.2 64 [(3, .int x9.1)] []) : V E (0, 0) G 4 (QI E G post) s.2 44 [(0, .ref (G.2.2 + 162)), (2, .int v2), (3, .int s.1)] [] :=
  iter_P (P := fun s : Int32 × Mem => V E (0, 0) G 4 (QI E G post) s.2 44 [(0, .ref (G.2.2 + 162)), (2, .int v2), (3, .int s.1)] []) (fun s o hb kc ky => lb_Mod_thiefIn_44_ok X hD v2 s o hb kc (fun x9 e9 => kx0 x9 (ky _ e9).symm) (fun x9 e9 => kx1 x9 (ky _ e9).symm)) n9 s h
def f_Mod_thiefIn (v1 : Int32) (v2 : Int32) (M : Mem) : Option (Int32 × Mem) :=
  Option.bind (f_Mod_lay 163 176 (0 : Int32) M) fun x1 =>
  Option.bind (iter (lb_Mod_thiefIn_14 v1 v2) FU ((0 : Int32), x1)) fun x6 =>
  Option.bind (iter (lb_Mod_thiefIn_44 v2) FU ((1 : Int32), x6)) (Sum.elim (fun y12 => some ((1000000 : Int32), y12)) (fun y13 => some (y13.1, y13.2)))
theorem c_Mod_thiefIn (l : Launch) (G : Gw)  (v1 : Int32) (v2 : Int32) (M : Mem) (x : Int32 × Mem) (h : f_Mod_thiefIn v1 v2 M = some x) (d : Nat) (hD : 403 ≤ d) : Ci l G y_Mod_thiefIn b_Mod_thiefIn 4 (some .int) d [.ref (G.2.2 + 162), .int v1, .int v2] M (fun r9 M9 => r9 = x.1 ∧ M9 = x.2) := by
  refine Ci_of (by decide) (Nat.le_of_ble_eq_true rfl) (fun E hE X => ?_)
  subst hE
  have kr : ∀ x9 : Int32 × Mem, x = x9 → (fun r9 M9 => r9 = x.1 ∧ M9 = x.2) x9.1 x9.2 := fun x9 e9 => by subst e9; exact ⟨rfl, rfl⟩
  unfold f_Mod_thiefIn at h
  refine V_aload_n (n := 0) X d_Mod_thiefIn_0 rfl rfl rfl ?_
  refine V_getr (k2 := 163) X fo_Mod_9 kd_162 rfl rf_162_0 d_Mod_thiefIn_1 rfl ?_
  refine V_aload_n (n := 0) X d_Mod_thiefIn_4 rfl rfl rfl ?_
  refine V_getr (k2 := 176) X fo_Mod_60 kd_162 rfl rf_162_34 d_Mod_thiefIn_5 rfl ?_
  refine V_iconst (v := 0) X d_Mod_thiefIn_8 (by decide) rfl ?_
  obtain ⟨x1, hx1, h⟩ := ob_s h
  refine V_sv (As := [.ref (G.2.2 + 163), .ref (G.2.2 + 176), .int (0 : Int32)]) X (Z0 E) ml_Mod_286 yq_Mod_lay (c_Mod_lay E.2.1 G 163 176 (0 : Int32) M x1 hx1 _ (Nat.le_refl _)) rfl (by omega) rfl (Nat.le_of_ble_eq_true rfl) d_Mod_thiefIn_9 rfl (fun M9 hq => ?_)
  rw [hq]
  refine V_iconst (v := 0) X d_Mod_thiefIn_12 (by decide) rfl ?_
  refine V_istore_n (lv' := [(3, .int (0 : Int32)), (0, .ref (G.2.2 + 162)), (1, .int v1), (2, .int v2)]) X d_Mod_thiefIn_13 rfl (by decide) rfl rfl ?_
  refine V_sub (lv' := [(0, .ref (G.2.2 + 162)), (1, .int v1), (2, .int v2), (3, .int (0 : Int32))]) [1, 2, 3, 0] rfl ?_
  obtain ⟨x6, hx6, h⟩ := ob_s h
  refine (lp_Mod_thiefIn_14_ok X hD v1 v2 _ _ _ hx6 (fun x9 e9 => ?_) :)
  subst e9
  refine V_iconst (v := 1) X d_Mod_thiefIn_42 (by decide) rfl ?_
  refine V_istore_n (lv' := [(3, .int (1 : Int32)), (0, .ref (G.2.2 + 162)), (2, .int v2)]) X d_Mod_thiefIn_43 rfl (by decide) rfl rfl ?_
  refine V_sub (lv' := [(0, .ref (G.2.2 + 162)), (2, .int v2), (3, .int (1 : Int32))]) [1, 2, 0] rfl ?_
  obtain ⟨x11, hx11, h⟩ := ob_s h
  rcases x11 with y12 | y13
  · simp only [Sum.elim_inl, Sum.elim_inr] at h
    refine (lp_Mod_thiefIn_44_ok X hD v2 _ _ _ hx11 (fun x9 e9 => ?_) (fun x9 e9 => by cases e9) :)
    cases e9
    refine V_ldc_w (v := 1000000) X d_Mod_thiefIn_72 kc_Mod_357 rfl ?_
    exact V_iret X (kr ((1000000 : Int32), y12) (Option.some.inj h).symm) d_Mod_thiefIn_75
  · simp only [Sum.elim_inl, Sum.elim_inr] at h
    refine (lp_Mod_thiefIn_44_ok X hD v2 _ _ _ hx11 (fun x9 e9 => by cases e9) (fun x9 e9 => ?_) :)
    cases e9
    refine V_iload_n (n := 0) X d_Mod_thiefIn_64 rfl rfl rfl ?_
    exact V_iret X (kr (y13.1, y13.2) (Option.some.inj h).symm) d_Mod_thiefIn_65
def lb_Mod_putMay_23 (v1 : Nat) (v2 : Int32) (s : Int32 × Mem) : Option ((Int32 × Mem) ⊕ ((Mem))) :=
  if (36 : Int32) ≤ s.1 then
  some (.inr s.2)
  else
  Option.bind (f_Mod_placeOf v2 s.1) fun x3 =>
  if inb x3 (ln v1) = true then
  if (s.2.1 v1 x3.toNatClampNeg) = 0 then
  some (.inl ((s.1 + (1 : Int32)), s.2))
  else
  if inb (s.1 / (18 : Int32)) 2 = true then
  if inb (s.1 / (18 : Int32)) 2 = true then
  mem_ (s_i s.2 178 (s.1 / (18 : Int32)).toNatClampNeg ((s.2.1 178 (s.1 / (18 : Int32)).toNatClampNeg) ||| ((1 : Int32) <<< ((s.1 - s.1 / (18 : Int32) * (18 : Int32)) &&& 31)))) fun M4 =>
  some (.inl ((s.1 + (1 : Int32)), M4))
  else none
  else none
  else none
theorem lb_Mod_putMay_23_ok {E : Ev} {G : Gw} {d : Nat} {post : Mem → Prop} (X : Cx E G b_Mod_putMay "WomenByTheRoofsModel" 4 d none) (hD : 2 ≤ d)  (v1 : Nat) (v2 : Int32) (hk_v1 : kd v1 = 3)  (s : Int32 × Mem) (o : (Int32 × Mem) ⊕ ((Mem))) (h : lb_Mod_putMay_23 v1 v2 s = some o) (kc : ∀ s9 : Int32 × Mem, o = .inl s9 → V E (0, 0) G 4 (QV E G post) s9.2 23 [(0, .ref (G.2.2 + 162)), (1, .ref (G.2.2 + v1)), (2, .int v2), (3, .int s9.1)] []) (kx0 : ∀ x9 : Mem, o = .inr x9 → V E (0, 0) G 4 (QV E G post) x9 63 [(0, .ref (G.2.2 + 162)), (1, .ref (G.2.2 + v1)), (2, .int v2)] []) : V E (0, 0) G 4 (QV E G post) s.2 23 [(0, .ref (G.2.2 + 162)), (1, .ref (G.2.2 + v1)), (2, .int v2), (3, .int s.1)] [] := by
  unfold lb_Mod_putMay_23 at h
  refine V_iload_n (n := 3) X d_Mod_putMay_23 rfl rfl rfl ?_
  refine V_bipush (v := 36) X d_Mod_putMay_24 (by decide) rfl ?_
  refine V_icmp_ge (tgt := 63) X d_Mod_putMay_26 (by decide) rfl (fun c6 => ?_) (fun c6 => ?_)
  · rw [if_pos c6] at h
    refine V_sub (lv' := [(0, .ref (G.2.2 + 162)), (1, .ref (G.2.2 + v1)), (2, .int v2)]) [0, 1, 2] rfl ?_
    exact kx0 s.2 (Option.some.inj h).symm
  · rw [if_neg c6] at h
    refine V_aload_n (n := 1) X d_Mod_putMay_29 rfl rfl rfl ?_
    refine V_iload_n (n := 2) X d_Mod_putMay_30 rfl rfl rfl ?_
    refine V_iload_n (n := 3) X d_Mod_putMay_31 rfl rfl rfl ?_
    obtain ⟨x3, hx3, h⟩ := ob_s h
    refine V_si (As := [.int v2, .int s.1]) X (Z0 E) ml_Mod_154 yq_Mod_placeOf (c_Mod_placeOf E.2.1 G v2 s.1 s.2 x3 hx3 _ (Nat.le_refl _)) rfl (by omega) rfl (Nat.le_of_ble_eq_true rfl) d_Mod_putMay_32 rfl (fun r9 M9 hq => ?_)
    rw [hq.1, hq.2]
    obtain ⟨hb, h⟩ := ifn h
    refine V_zald X hk_v1 (inb_in rfl hb) d_Mod_putMay_35 rfl ?_
    refine V_if_eq (tgt := 57) X d_Mod_putMay_36 (by decide) rfl (fun c5 => ?_) (fun c5 => ?_)
    · rw [if_pos c5] at h
      refine V_iinc (n := 3) (v := (s.1 + (1 : Int32))) (lv' := [(3, .int (s.1 + (1 : Int32))), (0, .ref (G.2.2 + 162)), (1, .ref (G.2.2 + v1)), (2, .int v2)]) X d_Mod_putMay_57 rfl rfl (by decide) rfl rfl ?_
      refine V_goto (pc' := 23) X d_Mod_putMay_60 (by decide) ?_
      refine V_sub (lv' := [(0, .ref (G.2.2 + 162)), (1, .ref (G.2.2 + v1)), (2, .int v2), (3, .int (s.1 + (1 : Int32)))]) [1, 2, 3, 0] rfl ?_
      exact kc ((s.1 + (1 : Int32)), s.2) (Option.some.inj h).symm
    · rw [if_neg c5] at h
      refine V_aload_n (n := 0) X d_Mod_putMay_39 rfl rfl rfl ?_
      refine V_getr (k2 := 178) X fo_Mod_66 kd_162 rfl rf_162_36 d_Mod_putMay_40 rfl ?_
      refine V_iload_n (n := 3) X d_Mod_putMay_43 rfl rfl rfl ?_
      refine V_bipush (v := 18) X d_Mod_putMay_44 (by decide) rfl ?_
      refine V_idiv X d_Mod_putMay_46 (by decide) rfl ?_
      refine V_dup2 X d_Mod_putMay_47 rfl rfl rfl ?_
      obtain ⟨hb, h⟩ := ifn h
      refine V_iald X kd_178 (inb_in ln_178 hb) d_Mod_putMay_48 rfl ?_
      refine V_iconst (v := 1) X d_Mod_putMay_49 (by decide) rfl ?_
      refine V_iload_n (n := 3) X d_Mod_putMay_50 rfl rfl rfl ?_
      refine V_bipush (v := 18) X d_Mod_putMay_51 (by decide) rfl ?_
      refine V_irem X d_Mod_putMay_53 (by decide) rfl ?_
      refine V_ishl X d_Mod_putMay_54 rfl ?_
      refine V_ior X d_Mod_putMay_55 rfl ?_
      obtain ⟨hb, h⟩ := ifn h
      obtain ⟨M4, eM4, h⟩ := memS h
      refine V_iast X kd_178 (inb_in ln_178 hb) d_Mod_putMay_56 rfl ?_
      rw [← eM4]
      refine V_iinc (n := 3) (v := (s.1 + (1 : Int32))) (lv' := [(3, .int (s.1 + (1 : Int32))), (0, .ref (G.2.2 + 162)), (1, .ref (G.2.2 + v1)), (2, .int v2)]) X d_Mod_putMay_57 rfl rfl (by decide) rfl rfl ?_
      refine V_goto (pc' := 23) X d_Mod_putMay_60 (by decide) ?_
      refine V_sub (lv' := [(0, .ref (G.2.2 + 162)), (1, .ref (G.2.2 + v1)), (2, .int v2), (3, .int (s.1 + (1 : Int32)))]) [1, 2, 3, 0] rfl ?_
      exact kc ((s.1 + (1 : Int32)), M4) (Option.some.inj h).symm
theorem lp_Mod_putMay_23_ok {E : Ev} {G : Gw} {d : Nat} {post : Mem → Prop} (X : Cx E G b_Mod_putMay "WomenByTheRoofsModel" 4 d none) (hD : 2 ≤ d)  (v1 : Nat) (v2 : Int32) (hk_v1 : kd v1 = 3)  (n9 : Nat) (s : Int32 × Mem) (x : (Mem)) (h : iter (lb_Mod_putMay_23 v1 v2) n9 s = some x) (kx0 : ∀ x9 : Mem, x = x9 → V E (0, 0) G 4 (QV E G post) x9 63 [(0, .ref (G.2.2 + 162)), (1, .ref (G.2.2 + v1)), (2, .int v2)] []) : V E (0, 0) G 4 (QV E G post) s.2 23 [(0, .ref (G.2.2 + 162)), (1, .ref (G.2.2 + v1)), (2, .int v2), (3, .int s.1)] [] :=
  iter_P (P := fun s : Int32 × Mem => V E (0, 0) G 4 (QV E G post) s.2 23 [(0, .ref (G.2.2 + 162)), (1, .ref (G.2.2 + v1)), (2, .int v2), (3, .int s.1)] []) (fun s o hb kc ky => lb_Mod_putMay_23_ok X hD v1 v2 hk_v1 s o hb kc (fun x9 e9 => kx0 x9 (ky _ e9).symm)) n9 s h
def lb_Mod_putMay_2 (v1 : Nat) (s : Int32 × Mem) : Option ((Int32 × Mem) ⊕ ((Mem))) :=
  if (2 : Int32) ≤ s.1 then
  some (.inr s.2)
  else
  mem_ (s_i s.2 178 (0 : Int32).toNatClampNeg (0 : Int32)) fun M1 =>
  mem_ (s_i M1 178 (1 : Int32).toNatClampNeg (0 : Int32)) fun M2 =>
  Option.bind (iter (lb_Mod_putMay_23 v1 s.1) FU ((0 : Int32), M2)) fun x7 =>
  Option.bind (f_Mod_put (x7.1 178 (0 : Int32).toNatClampNeg) x7) fun x8 =>
  Option.bind (f_Mod_put (x8.1 178 (1 : Int32).toNatClampNeg) x8) fun x9 =>
  some (.inl ((s.1 + (1 : Int32)), x9))
theorem lb_Mod_putMay_2_ok {E : Ev} {G : Gw} {d : Nat} {post : Mem → Prop} (X : Cx E G b_Mod_putMay "WomenByTheRoofsModel" 4 d none) (hD : 2 ≤ d)  (v1 : Nat) (hk_v1 : kd v1 = 3)  (s : Int32 × Mem) (o : (Int32 × Mem) ⊕ ((Mem))) (h : lb_Mod_putMay_2 v1 s = some o) (kc : ∀ s9 : Int32 × Mem, o = .inl s9 → V E (0, 0) G 4 (QV E G post) s9.2 2 [(0, .ref (G.2.2 + 162)), (1, .ref (G.2.2 + v1)), (2, .int s9.1)] []) (kx0 : ∀ x9 : Mem, o = .inr x9 → V E (0, 0) G 4 (QV E G post) x9 89 [] []) : V E (0, 0) G 4 (QV E G post) s.2 2 [(0, .ref (G.2.2 + 162)), (1, .ref (G.2.2 + v1)), (2, .int s.1)] [] := by
  unfold lb_Mod_putMay_2 at h
  refine V_iload_n (n := 2) X d_Mod_putMay_2 rfl rfl rfl ?_
  refine V_iconst (v := 2) X d_Mod_putMay_3 (by decide) rfl ?_
  refine V_icmp_ge (tgt := 89) X d_Mod_putMay_4 (by decide) rfl (fun c10 => ?_) (fun c10 => ?_)
  · rw [if_pos c10] at h
    refine V_sub (lv' := []) [] rfl ?_
    exact kx0 s.2 (Option.some.inj h).symm
  · rw [if_neg c10] at h
    refine V_aload_n (n := 0) X d_Mod_putMay_7 rfl rfl rfl ?_
    refine V_getr (k2 := 178) X fo_Mod_66 kd_162 rfl rf_162_36 d_Mod_putMay_8 rfl ?_
    refine V_iconst (v := 0) X d_Mod_putMay_11 (by decide) rfl ?_
    refine V_iconst (v := 0) X d_Mod_putMay_12 (by decide) rfl ?_
    obtain ⟨M1, eM1, h⟩ := memS h
    refine V_iast X kd_178 (inb_in ln_178 (by decide)) d_Mod_putMay_13 rfl ?_
    rw [← eM1]
    refine V_aload_n (n := 0) X d_Mod_putMay_14 rfl rfl rfl ?_
    refine V_getr (k2 := 178) X fo_Mod_66 kd_162 rfl rf_162_36 d_Mod_putMay_15 rfl ?_
    refine V_iconst (v := 1) X d_Mod_putMay_18 (by decide) rfl ?_
    refine V_iconst (v := 0) X d_Mod_putMay_19 (by decide) rfl ?_
    obtain ⟨M2, eM2, h⟩ := memS h
    refine V_iast X kd_178 (inb_in ln_178 (by decide)) d_Mod_putMay_20 rfl ?_
    rw [← eM2]
    refine V_iconst (v := 0) X d_Mod_putMay_21 (by decide) rfl ?_
    refine V_istore_n (lv' := [(3, .int (0 : Int32)), (0, .ref (G.2.2 + 162)), (1, .ref (G.2.2 + v1)), (2, .int s.1)]) X d_Mod_putMay_22 rfl (by decide) rfl rfl ?_
    refine V_sub (lv' := [(0, .ref (G.2.2 + 162)), (1, .ref (G.2.2 + v1)), (2, .int s.1), (3, .int (0 : Int32))]) [1, 2, 3, 0] rfl ?_
    obtain ⟨x7, hx7, h⟩ := ob_s h
    refine (lp_Mod_putMay_23_ok X hD v1 s.1 hk_v1 _ _ _ hx7 (fun x9 e9 => ?_) :)
    subst e9
    refine V_aload_n (n := 0) X d_Mod_putMay_63 rfl rfl rfl ?_
    refine V_aload_n (n := 0) X d_Mod_putMay_64 rfl rfl rfl ?_
    refine V_getr (k2 := 178) X fo_Mod_66 kd_162 rfl rf_162_36 d_Mod_putMay_65 rfl ?_
    refine V_iconst (v := 0) X d_Mod_putMay_68 (by decide) rfl ?_
    refine V_iald X kd_178 (inb_in ln_178 (by decide)) d_Mod_putMay_69 rfl ?_
    obtain ⟨x8, hx8, h⟩ := ob_s h
    refine V_cv (As := [.int (x7.1 178 (0 : Int32).toNatClampNeg)]) X (Z0 E) ml_Mod_342 yq_Mod_put (c_Mod_put E.2.1 G (x7.1 178 (0 : Int32).toNatClampNeg) x7 x8 hx8 _ (Nat.le_refl _)) kd_162 rfl rfl (by omega) rfl (Nat.le_of_ble_eq_true rfl) d_Mod_putMay_70 rfl (fun M9 hq => ?_)
    rw [hq]
    refine V_aload_n (n := 0) X d_Mod_putMay_73 rfl rfl rfl ?_
    refine V_aload_n (n := 0) X d_Mod_putMay_74 rfl rfl rfl ?_
    refine V_getr (k2 := 178) X fo_Mod_66 kd_162 rfl rf_162_36 d_Mod_putMay_75 rfl ?_
    refine V_iconst (v := 1) X d_Mod_putMay_78 (by decide) rfl ?_
    refine V_iald X kd_178 (inb_in ln_178 (by decide)) d_Mod_putMay_79 rfl ?_
    obtain ⟨x9, hx9, h⟩ := ob_s h
    refine V_cv (As := [.int (x8.1 178 (1 : Int32).toNatClampNeg)]) X (Z0 E) ml_Mod_342 yq_Mod_put (c_Mod_put E.2.1 G (x8.1 178 (1 : Int32).toNatClampNeg) x8 x9 hx9 _ (Nat.le_refl _)) kd_162 rfl rfl (by omega) rfl (Nat.le_of_ble_eq_true rfl) d_Mod_putMay_80 rfl (fun M9 hq => ?_)
    rw [hq]
    refine V_iinc (n := 2) (v := (s.1 + (1 : Int32))) (lv' := [(2, .int (s.1 + (1 : Int32))), (0, .ref (G.2.2 + 162)), (1, .ref (G.2.2 + v1))]) X d_Mod_putMay_83 rfl rfl (by decide) rfl rfl ?_
    refine V_goto (pc' := 2) X d_Mod_putMay_86 (by decide) ?_
    refine V_sub (lv' := [(0, .ref (G.2.2 + 162)), (1, .ref (G.2.2 + v1)), (2, .int (s.1 + (1 : Int32)))]) [1, 2, 0] rfl ?_
    exact kc ((s.1 + (1 : Int32)), x9) (Option.some.inj h).symm
theorem lp_Mod_putMay_2_ok {E : Ev} {G : Gw} {d : Nat} {post : Mem → Prop} (X : Cx E G b_Mod_putMay "WomenByTheRoofsModel" 4 d none) (hD : 2 ≤ d)  (v1 : Nat) (hk_v1 : kd v1 = 3)  (n9 : Nat) (s : Int32 × Mem) (x : (Mem)) (h : iter (lb_Mod_putMay_2 v1) n9 s = some x) (kx0 : ∀ x9 : Mem, x = x9 → V E (0, 0) G 4 (QV E G post) x9 89 [] []) : V E (0, 0) G 4 (QV E G post) s.2 2 [(0, .ref (G.2.2 + 162)), (1, .ref (G.2.2 + v1)), (2, .int s.1)] [] :=
  iter_P (P := fun s : Int32 × Mem => V E (0, 0) G 4 (QV E G post) s.2 2 [(0, .ref (G.2.2 + 162)), (1, .ref (G.2.2 + v1)), (2, .int s.1)] []) (fun s o hb kc ky => lb_Mod_putMay_2_ok X hD v1 hk_v1 s o hb kc (fun x9 e9 => kx0 x9 (ky _ e9).symm)) n9 s h
def f_Mod_putMay (v1 : Nat) (M : Mem) : Option (Mem) :=
  if kd v1 = 3 then
  Option.bind (iter (lb_Mod_putMay_2 v1) FU ((0 : Int32), M)) fun x11 =>
  some x11
  else none
theorem c_Mod_putMay (l : Launch) (G : Gw)  (v1 : Nat) (M : Mem) (x : Mem) (h : f_Mod_putMay v1 M = some x) (d : Nat) (hD : 2 ≤ d) : Cv l G y_Mod_putMay b_Mod_putMay 4 none d [.ref (G.2.2 + 162), .ref (G.2.2 + v1)] M (fun M9 => M9 = x) := by
  refine Cv_of (by decide) (Nat.le_of_ble_eq_true rfl) (fun E hE X => ?_)
  subst hE
  have kr : ∀ x9 : Mem, x = x9 → (fun M9 => M9 = x) x9 := fun x9 e9 => by subst e9; exact rfl
  unfold f_Mod_putMay at h
  obtain ⟨hk_v1, h⟩ := ifn h
  refine V_iconst (v := 0) X d_Mod_putMay_0 (by decide) rfl ?_
  refine V_istore_n (lv' := [(2, .int (0 : Int32)), (0, .ref (G.2.2 + 162)), (1, .ref (G.2.2 + v1))]) X d_Mod_putMay_1 rfl (by decide) rfl rfl ?_
  refine V_sub (lv' := [(0, .ref (G.2.2 + 162)), (1, .ref (G.2.2 + v1)), (2, .int (0 : Int32))]) [1, 2, 0] rfl ?_
  obtain ⟨x11, hx11, h⟩ := ob_s h
  refine (lp_Mod_putMay_2_ok X hD v1 hk_v1 _ _ _ hx11 (fun x9 e9 => ?_) :)
  subst e9
  exact V_vret X (kr x11 (Option.some.inj h).symm) d_Mod_putMay_89
def j_Mod_flees_47 (w0 : Int32) (M : Mem) : Option (Int32 × Mem) :=
  mem_ (s_i M 162 12 (0 : Int32)) fun M6 =>
  Option.bind (f_Mod_putMay 186 M6) fun x7 =>
  if w0 = 0 then
  some ((0 : Int32), x7)
  else
  some ((1 : Int32), x7)
theorem j_Mod_flees_47_ok {E : Ev} {G : Gw} {d : Nat} {post : Int32 → Mem → Prop} (X : Cx E G b_Mod_flees "WomenByTheRoofsModel" 5 d (some .int)) (hD : 404 ≤ d)  (w0 : Int32)  (M : Mem)  (o : Int32 × Mem) (h : j_Mod_flees_47 w0 M = some o) (kr : ∀ x9 : Int32 × Mem, o = x9 → post x9.1 x9.2) : V E (0, 0) G 5 (QI E G post) M 47 [(0, .ref (G.2.2 + 162))] [.int w0] := by
  unfold j_Mod_flees_47 at h
  refine V_istore (lv' := [(4, .int w0), (0, .ref (G.2.2 + 162))]) X d_Mod_flees_47 (by decide) rfl rfl ?_
  refine V_aload_n (n := 1) X d_Mod_flees_49 rfl rfl rfl ?_
  refine V_iconst (v := 0) X d_Mod_flees_50 (by decide) rfl ?_
  obtain ⟨M6, eM6, h⟩ := memS h
  refine V_putI X fp_Mod_112 kd_162 rfl d_Mod_flees_51 rfl ?_
  rw [← eM6]
  refine V_aload_n (n := 1) X d_Mod_flees_54 rfl rfl rfl ?_
  refine V_aload_n (n := 1) X d_Mod_flees_55 rfl rfl rfl ?_
  refine V_getr (k2 := 186) X fo_Mod_91 kd_162 rfl rf_162_45 d_Mod_flees_56 rfl ?_
  obtain ⟨x7, hx7, h⟩ := ob_s h
  refine V_cv (As := [.ref (G.2.2 + 186)]) X (Z0 E) ml_Mod_416 yq_Mod_putMay (c_Mod_putMay E.2.1 G 186 M6 x7 hx7 _ (Nat.le_refl _)) kd_162 rfl rfl (by omega) rfl (Nat.le_of_ble_eq_true rfl) d_Mod_flees_59 rfl (fun M9 hq => ?_)
  rw [hq]
  refine V_iload (n := 0) X d_Mod_flees_62 rfl rfl ?_
  refine V_if_eq (tgt := 71) X d_Mod_flees_64 (by decide) rfl (fun c8 => ?_) (fun c8 => ?_)
  · rw [if_pos c8] at h
    refine V_iconst (v := 0) X d_Mod_flees_71 (by decide) rfl ?_
    exact V_iret X (kr ((0 : Int32), x7) (Option.some.inj h).symm) d_Mod_flees_72
  · rw [if_neg c8] at h
    refine V_iconst (v := 1) X d_Mod_flees_67 (by decide) rfl ?_
    refine V_goto (pc' := 72) X d_Mod_flees_68 (by decide) ?_
    exact V_iret X (kr ((1 : Int32), x7) (Option.some.inj h).symm) d_Mod_flees_72
def f_Mod_flees (v1 : Int32) (v2 : Int32) (v3 : Int32) (M : Mem) : Option (Int32 × Mem) :=
  mem_ (s_i M 162 13 (0 : Int32)) fun M1 =>
  Option.bind (f_Mod_isPlaceOf v2 v1 M1) fun x2 =>
  if x2 = 0 then
  some ((-1 : Int32), M1)
  else
  Option.bind (f_Mod_in v3 (1 : Int32) (30 : Int32)) fun x3 =>
  if x3 = 0 then
  some ((-1 : Int32), M1)
  else
  Option.bind (f_Mod_placeOf v2 v1) fun x4 =>
  Option.bind (f_Mod_thiefIn x4 v3 M1) fun x5 =>
  if x5.1 = (1000000 : Int32) then
  j_Mod_flees_47 (1 : Int32) x5.2
  else
  j_Mod_flees_47 (0 : Int32) x5.2
theorem c_Mod_flees (l : Launch) (G : Gw)  (v1 : Int32) (v2 : Int32) (v3 : Int32) (M : Mem) (x : Int32 × Mem) (h : f_Mod_flees v1 v2 v3 M = some x) (d : Nat) (hD : 404 ≤ d) : Ci l G y_Mod_flees b_Mod_flees 5 (some .int) d [.ref (G.2.2 + 162), .int v1, .int v2, .int v3] M (fun r9 M9 => r9 = x.1 ∧ M9 = x.2) := by
  refine Ci_of (by decide) (Nat.le_of_ble_eq_true rfl) (fun E hE X => ?_)
  subst hE
  have kr : ∀ x9 : Int32 × Mem, x = x9 → (fun r9 M9 => r9 = x.1 ∧ M9 = x.2) x9.1 x9.2 := fun x9 e9 => by subst e9; exact ⟨rfl, rfl⟩
  unfold f_Mod_flees at h
  refine V_aload_n (n := 0) X d_Mod_flees_0 rfl rfl rfl ?_
  refine V_iconst (v := 0) X d_Mod_flees_1 (by decide) rfl ?_
  obtain ⟨M1, eM1, h⟩ := memS h
  refine V_putI X fp_Mod_109 kd_162 rfl d_Mod_flees_2 rfl ?_
  rw [← eM1]
  refine V_aload_n (n := 0) X d_Mod_flees_5 rfl rfl rfl ?_
  refine V_iload_n (n := 2) X d_Mod_flees_6 rfl rfl rfl ?_
  refine V_iload_n (n := 1) X d_Mod_flees_7 rfl rfl rfl ?_
  obtain ⟨x2, hx2, h⟩ := ob_s h
  refine V_ci (As := [.int v2, .int v1]) X (Z0 E) ml_Mod_374 yq_Mod_isPlaceOf (c_Mod_isPlaceOf E.2.1 G v2 v1 M1 x2 hx2 _ (Nat.le_refl _)) kd_162 rfl rfl (by omega) rfl (Nat.le_of_ble_eq_true rfl) d_Mod_flees_8 rfl (fun r9 M9 hq => ?_)
  rw [hq.1, hq.2]
  refine V_if_eq (tgt := 24) X d_Mod_flees_11 (by decide) rfl (fun c11 => ?_) (fun c11 => ?_)
  · rw [if_pos c11] at h
    refine V_iconst (v := -1) X d_Mod_flees_24 (by decide) rfl ?_
    exact V_iret X (kr ((-1 : Int32), M1) (Option.some.inj h).symm) d_Mod_flees_25
  · rw [if_neg c11] at h
    refine V_iload_n (n := 3) X d_Mod_flees_14 rfl rfl rfl ?_
    refine V_iconst (v := 1) X d_Mod_flees_15 (by decide) rfl ?_
    refine V_bipush (v := 30) X d_Mod_flees_16 (by decide) rfl ?_
    obtain ⟨x3, hx3, h⟩ := ob_s h
    refine V_si (As := [.int v3, .int (1 : Int32), .int (30 : Int32)]) X (Z0 E) ml_Mod_119 yq_Mod_in (c_Mod_in E.2.1 G v3 (1 : Int32) (30 : Int32) M1 x3 hx3 _ (Nat.le_refl _)) rfl (by omega) rfl (Nat.le_of_ble_eq_true rfl) d_Mod_flees_18 rfl (fun r9 M9 hq => ?_)
    rw [hq.1, hq.2]
    refine V_if_ne (tgt := 26) X d_Mod_flees_21 (by decide) rfl (fun c10 => ?_) (fun c10 => ?_)
    · rw [if_neg c10] at h
      refine V_aload_n (n := 0) X d_Mod_flees_26 rfl rfl rfl ?_
      refine V_iload_n (n := 2) X d_Mod_flees_27 rfl rfl rfl ?_
      refine V_iload_n (n := 1) X d_Mod_flees_28 rfl rfl rfl ?_
      obtain ⟨x4, hx4, h⟩ := ob_s h
      refine V_si (As := [.int v2, .int v1]) X (Z0 E) ml_Mod_154 yq_Mod_placeOf (c_Mod_placeOf E.2.1 G v2 v1 M1 x4 hx4 _ (Nat.le_refl _)) rfl (by omega) rfl (Nat.le_of_ble_eq_true rfl) d_Mod_flees_29 rfl (fun r9 M9 hq => ?_)
      rw [hq.1, hq.2]
      refine V_iload_n (n := 3) X d_Mod_flees_32 rfl rfl rfl ?_
      obtain ⟨x5, hx5, h⟩ := ob_s h
      refine V_ci (As := [.int x4, .int v3]) X (Z0 E) ml_Mod_413 yq_Mod_thiefIn (c_Mod_thiefIn E.2.1 G x4 v3 M1 x5 hx5 _ (Nat.le_refl _)) kd_162 rfl rfl (by omega) rfl (Nat.le_of_ble_eq_true rfl) d_Mod_flees_33 rfl (fun r9 M9 hq => ?_)
      rw [hq.1, hq.2]
      refine V_ldc_w (v := 1000000) X d_Mod_flees_36 kc_Mod_357 rfl ?_
      refine V_icmp_ne (tgt := 46) X d_Mod_flees_39 (by decide) rfl (fun c9 => ?_) (fun c9 => ?_)
      · rw [if_neg c9] at h
        refine V_iconst (v := 0) X d_Mod_flees_46 (by decide) rfl ?_
        refine V_sub (lv' := [(0, .ref (G.2.2 + 162))]) [0] rfl ?_
        exact j_Mod_flees_47_ok X hD (0 : Int32) x5.2 _ h kr
      · rw [if_pos c9] at h
        refine V_iconst (v := 1) X d_Mod_flees_42 (by decide) rfl ?_
        refine V_goto (pc' := 47) X d_Mod_flees_43 (by decide) ?_
        refine V_sub (lv' := [(0, .ref (G.2.2 + 162))]) [0] rfl ?_
        exact j_Mod_flees_47_ok X hD (1 : Int32) x5.2 _ h kr
    · rw [if_pos c10] at h
      refine V_iconst (v := -1) X d_Mod_flees_24 (by decide) rfl ?_
      exact V_iret X (kr ((-1 : Int32), M1) (Option.some.inj h).symm) d_Mod_flees_25
def j_Mod_lairs_64_21 (v1 : Int32) (v2 : Int32) (v3 : Int32) (w0 : Int32) (w1 : Int32) (M : Mem) : Option ((Int32 × Int32 × Mem) ⊕ ((Int32 × Mem))) :=
  if inb w1 72 = true then
  mem_ (s_i M 188 w1.toNatClampNeg (vp_nar .boolean w0)) fun M6 =>
  if inb v3 72 = true then
  if (M6.1 188 v3.toNatClampNeg) = 0 then
  some (.inl ((v2 + (0 : Int32)), (v3 + (1 : Int32)), M6))
  else
  some (.inl ((v2 + (1 : Int32)), (v3 + (1 : Int32)), M6))
  else none
  else none
theorem j_Mod_lairs_64_21_ok {E : Ev} {G : Gw} {d : Nat} {post : Int32 → Mem → Prop} (X : Cx E G b_Mod_lairs "WomenByTheRoofsModel" 4 d (some .int)) (hD : 404 ≤ d)  (v1 : Int32) (v2 : Int32) (v3 : Int32) (w0 : Int32) (w1 : Int32)  (M : Mem)  (o : (Int32 × Int32 × Mem) ⊕ ((Int32 × Mem))) (h : j_Mod_lairs_64_21 v1 v2 v3 w0 w1 M = some o) (kc : ∀ s9 : Int32 × Int32 × Mem, o = .inl s9 → V E (0, 0) G 4 (QI E G post) s9.2.2 21 [(0, .ref (G.2.2 + 162)), (1, .int v1), (2, .int s9.1), (3, .int s9.2.1)] []) (kx0 : ∀ x9 : Int32 × Mem, o = .inr x9 → V E (0, 0) G 4 (QI E G post) x9.2 88 [(0, .ref (G.2.2 + 162)), (2, .int x9.1)] []) : V E (0, 0) G 4 (QI E G post) M 64 [(0, .ref (G.2.2 + 162)), (1, .int v1), (2, .int v2), (3, .int v3)] [.int w0, .int w1, .ref (G.2.2 + 188)] := by
  unfold j_Mod_lairs_64_21 at h
  obtain ⟨hb, h⟩ := ifn h
  obtain ⟨M6, eM6, h⟩ := memS h
  refine V_zast X kd_188 (inb_in ln_188 hb) d_Mod_lairs_64 rfl ?_
  rw [← eM6]
  refine V_iload_n (n := 2) X d_Mod_lairs_65 rfl rfl rfl ?_
  refine V_aload_n (n := 0) X d_Mod_lairs_66 rfl rfl rfl ?_
  refine V_getr (k2 := 188) X fo_Mod_97 kd_162 rfl rf_162_47 d_Mod_lairs_67 rfl ?_
  refine V_iload_n (n := 3) X d_Mod_lairs_70 rfl rfl rfl ?_
  obtain ⟨hb, h⟩ := ifn h
  refine V_zald X kd_188 (inb_in ln_188 hb) d_Mod_lairs_71 rfl ?_
  refine V_if_eq (tgt := 79) X d_Mod_lairs_72 (by decide) rfl (fun c7 => ?_) (fun c7 => ?_)
  · rw [if_pos c7] at h
    refine V_iconst (v := 0) X d_Mod_lairs_79 (by decide) rfl ?_
    refine V_iadd X d_Mod_lairs_80 rfl ?_
    refine V_istore_n (lv' := [(2, .int (v2 + (0 : Int32))), (0, .ref (G.2.2 + 162)), (1, .int v1), (3, .int v3)]) X d_Mod_lairs_81 rfl (by decide) rfl rfl ?_
    refine V_iinc (n := 3) (v := (v3 + (1 : Int32))) (lv' := [(3, .int (v3 + (1 : Int32))), (2, .int (v2 + (0 : Int32))), (0, .ref (G.2.2 + 162)), (1, .int v1)]) X d_Mod_lairs_82 rfl rfl (by decide) rfl rfl ?_
    refine V_goto (pc' := 21) X d_Mod_lairs_85 (by decide) ?_
    refine V_sub (lv' := [(0, .ref (G.2.2 + 162)), (1, .int v1), (2, .int (v2 + (0 : Int32))), (3, .int (v3 + (1 : Int32)))]) [2, 3, 1, 0] rfl ?_
    exact kc ((v2 + (0 : Int32)), (v3 + (1 : Int32)), M6) (Option.some.inj h).symm
  · rw [if_neg c7] at h
    refine V_iconst (v := 1) X d_Mod_lairs_75 (by decide) rfl ?_
    refine V_goto (pc' := 80) X d_Mod_lairs_76 (by decide) ?_
    refine V_iadd X d_Mod_lairs_80 rfl ?_
    refine V_istore_n (lv' := [(2, .int (v2 + (1 : Int32))), (0, .ref (G.2.2 + 162)), (1, .int v1), (3, .int v3)]) X d_Mod_lairs_81 rfl (by decide) rfl rfl ?_
    refine V_iinc (n := 3) (v := (v3 + (1 : Int32))) (lv' := [(3, .int (v3 + (1 : Int32))), (2, .int (v2 + (1 : Int32))), (0, .ref (G.2.2 + 162)), (1, .int v1)]) X d_Mod_lairs_82 rfl rfl (by decide) rfl rfl ?_
    refine V_goto (pc' := 21) X d_Mod_lairs_85 (by decide) ?_
    refine V_sub (lv' := [(0, .ref (G.2.2 + 162)), (1, .int v1), (2, .int (v2 + (1 : Int32))), (3, .int (v3 + (1 : Int32)))]) [2, 3, 1, 0] rfl ?_
    exact kc ((v2 + (1 : Int32)), (v3 + (1 : Int32)), M6) (Option.some.inj h).symm
def lb_Mod_lairs_21 (v1 : Int32) (s : Int32 × Int32 × Mem) : Option ((Int32 × Int32 × Mem) ⊕ ((Int32 × Mem))) :=
  if (72 : Int32) ≤ s.2.1 then
  some (.inr (s.1, s.2.2))
  else
  Option.bind (f_Mod_levelOf s.2.1) fun x3 =>
  Option.bind (f_Mod_cellOf s.2.1) fun x4 =>
  Option.bind (f_Mod_isOf x3 x4 s.2.2) fun x5 =>
  if x5 = 0 then
  j_Mod_lairs_64_21 v1 s.1 s.2.1 (0 : Int32) s.2.1 s.2.2
  else
  Option.bind (f_Mod_thiefIn s.2.1 v1 s.2.2) fun x8 =>
  if x8.1 = (1000000 : Int32) then
  j_Mod_lairs_64_21 v1 s.1 s.2.1 (1 : Int32) s.2.1 x8.2
  else
  j_Mod_lairs_64_21 v1 s.1 s.2.1 (0 : Int32) s.2.1 x8.2
theorem lb_Mod_lairs_21_ok {E : Ev} {G : Gw} {d : Nat} {post : Int32 → Mem → Prop} (X : Cx E G b_Mod_lairs "WomenByTheRoofsModel" 4 d (some .int)) (hD : 404 ≤ d)  (v1 : Int32)   (s : Int32 × Int32 × Mem) (o : (Int32 × Int32 × Mem) ⊕ ((Int32 × Mem))) (h : lb_Mod_lairs_21 v1 s = some o) (kc : ∀ s9 : Int32 × Int32 × Mem, o = .inl s9 → V E (0, 0) G 4 (QI E G post) s9.2.2 21 [(0, .ref (G.2.2 + 162)), (1, .int v1), (2, .int s9.1), (3, .int s9.2.1)] []) (kx0 : ∀ x9 : Int32 × Mem, o = .inr x9 → V E (0, 0) G 4 (QI E G post) x9.2 88 [(0, .ref (G.2.2 + 162)), (2, .int x9.1)] []) : V E (0, 0) G 4 (QI E G post) s.2.2 21 [(0, .ref (G.2.2 + 162)), (1, .int v1), (2, .int s.1), (3, .int s.2.1)] [] := by
  unfold lb_Mod_lairs_21 at h
  refine V_iload_n (n := 3) X d_Mod_lairs_21 rfl rfl rfl ?_
  refine V_bipush (v := 72) X d_Mod_lairs_22 (by decide) rfl ?_
  refine V_icmp_ge (tgt := 88) X d_Mod_lairs_24 (by decide) rfl (fun c11 => ?_) (fun c11 => ?_)
  · rw [if_pos c11] at h
    refine V_sub (lv' := [(0, .ref (G.2.2 + 162)), (2, .int s.1)]) [0, 2] rfl ?_
    exact kx0 (s.1, s.2.2) (Option.some.inj h).symm
  · rw [if_neg c11] at h
    refine V_aload_n (n := 0) X d_Mod_lairs_27 rfl rfl rfl ?_
    refine V_getr (k2 := 188) X fo_Mod_97 kd_162 rfl rf_162_47 d_Mod_lairs_28 rfl ?_
    refine V_iload_n (n := 3) X d_Mod_lairs_31 rfl rfl rfl ?_
    refine V_aload_n (n := 0) X d_Mod_lairs_32 rfl rfl rfl ?_
    refine V_iload_n (n := 3) X d_Mod_lairs_33 rfl rfl rfl ?_
    obtain ⟨x3, hx3, h⟩ := ob_s h
    refine V_si (As := [.int s.2.1]) X (Z0 E) ml_Mod_143 yq_Mod_levelOf (c_Mod_levelOf E.2.1 G s.2.1 s.2.2 x3 hx3 _ (Nat.le_refl _)) rfl (by omega) rfl (Nat.le_of_ble_eq_true rfl) d_Mod_lairs_34 rfl (fun r9 M9 hq => ?_)
    rw [hq.1, hq.2]
    refine V_iload_n (n := 3) X d_Mod_lairs_37 rfl rfl rfl ?_
    obtain ⟨x4, hx4, h⟩ := ob_s h
    refine V_si (As := [.int s.2.1]) X (Z0 E) ml_Mod_147 yq_Mod_cellOf (c_Mod_cellOf E.2.1 G s.2.1 s.2.2 x4 hx4 _ (Nat.le_refl _)) rfl (by omega) rfl (Nat.le_of_ble_eq_true rfl) d_Mod_lairs_38 rfl (fun r9 M9 hq => ?_)
    rw [hq.1, hq.2]
    obtain ⟨x5, hx5, h⟩ := ob_s h
    refine V_ci (As := [.int x3, .int x4]) X (Z0 E) ml_Mod_140 yq_Mod_isOf (c_Mod_isOf E.2.1 G x3 x4 s.2.2 x5 hx5 _ (Nat.le_refl _)) kd_162 rfl rfl (by omega) rfl (Nat.le_of_ble_eq_true rfl) d_Mod_lairs_41 rfl (fun r9 M9 hq => ?_)
    rw [hq.1, hq.2]
    refine V_if_eq (tgt := 63) X d_Mod_lairs_44 (by decide) rfl (fun c10 => ?_) (fun c10 => ?_)
    · rw [if_pos c10] at h
      refine V_iconst (v := 0) X d_Mod_lairs_63 (by decide) rfl ?_
      exact j_Mod_lairs_64_21_ok X hD v1 s.1 s.2.1 (0 : Int32) s.2.1 s.2.2 _ h kc kx0
    · rw [if_neg c10] at h
      refine V_aload_n (n := 0) X d_Mod_lairs_47 rfl rfl rfl ?_
      refine V_iload_n (n := 3) X d_Mod_lairs_48 rfl rfl rfl ?_
      refine V_iload_n (n := 1) X d_Mod_lairs_49 rfl rfl rfl ?_
      obtain ⟨x8, hx8, h⟩ := ob_s h
      refine V_ci (As := [.int s.2.1, .int v1]) X (Z0 E) ml_Mod_413 yq_Mod_thiefIn (c_Mod_thiefIn E.2.1 G s.2.1 v1 s.2.2 x8 hx8 _ (Nat.le_refl _)) kd_162 rfl rfl (by omega) rfl (Nat.le_of_ble_eq_true rfl) d_Mod_lairs_50 rfl (fun r9 M9 hq => ?_)
      rw [hq.1, hq.2]
      refine V_ldc_w (v := 1000000) X d_Mod_lairs_53 kc_Mod_357 rfl ?_
      refine V_icmp_ne (tgt := 63) X d_Mod_lairs_56 (by decide) rfl (fun c9 => ?_) (fun c9 => ?_)
      · rw [if_neg c9] at h
        refine V_iconst (v := 0) X d_Mod_lairs_63 (by decide) rfl ?_
        exact j_Mod_lairs_64_21_ok X hD v1 s.1 s.2.1 (0 : Int32) s.2.1 x8.2 _ h kc kx0
      · rw [if_pos c9] at h
        refine V_iconst (v := 1) X d_Mod_lairs_59 (by decide) rfl ?_
        refine V_goto (pc' := 64) X d_Mod_lairs_60 (by decide) ?_
        exact j_Mod_lairs_64_21_ok X hD v1 s.1 s.2.1 (1 : Int32) s.2.1 x8.2 _ h kc kx0
theorem lp_Mod_lairs_21_ok {E : Ev} {G : Gw} {d : Nat} {post : Int32 → Mem → Prop} (X : Cx E G b_Mod_lairs "WomenByTheRoofsModel" 4 d (some .int)) (hD : 404 ≤ d)  (v1 : Int32)   (n9 : Nat) (s : Int32 × Int32 × Mem) (x : (Int32 × Mem)) (h : iter (lb_Mod_lairs_21 v1) n9 s = some x) (kx0 : ∀ x9 : Int32 × Mem, x = x9 → V E (0, 0) G 4 (QI E G post) x9.2 88 [(0, .ref (G.2.2 + 162)), (2, .int x9.1)] []) : V E (0, 0) G 4 (QI E G post) s.2.2 21 [(0, .ref (G.2.2 + 162)), (1, .int v1), (2, .int s.1), (3, .int s.2.1)] [] :=
  iter_P (P := fun s : Int32 × Int32 × Mem => V E (0, 0) G 4 (QI E G post) s.2.2 21 [(0, .ref (G.2.2 + 162)), (1, .int v1), (2, .int s.1), (3, .int s.2.1)] []) (fun s o hb kc ky => lb_Mod_lairs_21_ok X hD v1 s o hb kc (fun x9 e9 => kx0 x9 (ky _ e9).symm)) n9 s h
def f_Mod_lairs (v1 : Int32) (M : Mem) : Option (Int32 × Mem) :=
  mem_ (s_i M 162 13 (0 : Int32)) fun M1 =>
  Option.bind (f_Mod_in v1 (1 : Int32) (30 : Int32)) fun x2 =>
  if x2 = 0 then
  some ((-1 : Int32), M1)
  else
  Option.bind (iter (lb_Mod_lairs_21 v1) FU ((0 : Int32), (0 : Int32), M1)) fun x12 =>
  mem_ (s_i x12.2 162 12 (0 : Int32)) fun M13 =>
  Option.bind (f_Mod_putMay 188 M13) fun x14 =>
  some (x12.1, x14)
theorem c_Mod_lairs (l : Launch) (G : Gw)  (v1 : Int32) (M : Mem) (x : Int32 × Mem) (h : f_Mod_lairs v1 M = some x) (d : Nat) (hD : 404 ≤ d) : Ci l G y_Mod_lairs b_Mod_lairs 4 (some .int) d [.ref (G.2.2 + 162), .int v1] M (fun r9 M9 => r9 = x.1 ∧ M9 = x.2) := by
  refine Ci_of (by decide) (Nat.le_of_ble_eq_true rfl) (fun E hE X => ?_)
  subst hE
  have kr : ∀ x9 : Int32 × Mem, x = x9 → (fun r9 M9 => r9 = x.1 ∧ M9 = x.2) x9.1 x9.2 := fun x9 e9 => by subst e9; exact ⟨rfl, rfl⟩
  unfold f_Mod_lairs at h
  refine V_aload_n (n := 0) X d_Mod_lairs_0 rfl rfl rfl ?_
  refine V_iconst (v := 0) X d_Mod_lairs_1 (by decide) rfl ?_
  obtain ⟨M1, eM1, h⟩ := memS h
  refine V_putI X fp_Mod_109 kd_162 rfl d_Mod_lairs_2 rfl ?_
  rw [← eM1]
  refine V_iload_n (n := 1) X d_Mod_lairs_5 rfl rfl rfl ?_
  refine V_iconst (v := 1) X d_Mod_lairs_6 (by decide) rfl ?_
  refine V_bipush (v := 30) X d_Mod_lairs_7 (by decide) rfl ?_
  obtain ⟨x2, hx2, h⟩ := ob_s h
  refine V_si (As := [.int v1, .int (1 : Int32), .int (30 : Int32)]) X (Z0 E) ml_Mod_119 yq_Mod_in (c_Mod_in E.2.1 G v1 (1 : Int32) (30 : Int32) M1 x2 hx2 _ (Nat.le_refl _)) rfl (by omega) rfl (Nat.le_of_ble_eq_true rfl) d_Mod_lairs_9 rfl (fun r9 M9 hq => ?_)
  rw [hq.1, hq.2]
  refine V_if_ne (tgt := 17) X d_Mod_lairs_12 (by decide) rfl (fun c15 => ?_) (fun c15 => ?_)
  · rw [if_neg c15] at h
    refine V_iconst (v := 0) X d_Mod_lairs_17 (by decide) rfl ?_
    refine V_istore_n (lv' := [(2, .int (0 : Int32)), (0, .ref (G.2.2 + 162)), (1, .int v1)]) X d_Mod_lairs_18 rfl (by decide) rfl rfl ?_
    refine V_iconst (v := 0) X d_Mod_lairs_19 (by decide) rfl ?_
    refine V_istore_n (lv' := [(3, .int (0 : Int32)), (2, .int (0 : Int32)), (0, .ref (G.2.2 + 162)), (1, .int v1)]) X d_Mod_lairs_20 rfl (by decide) rfl rfl ?_
    refine V_sub (lv' := [(0, .ref (G.2.2 + 162)), (1, .int v1), (2, .int (0 : Int32)), (3, .int (0 : Int32))]) [2, 3, 1, 0] rfl ?_
    obtain ⟨x12, hx12, h⟩ := ob_s h
    refine (lp_Mod_lairs_21_ok X hD v1 _ _ _ hx12 (fun x9 e9 => ?_) :)
    subst e9
    refine V_aload_n (n := 0) X d_Mod_lairs_88 rfl rfl rfl ?_
    refine V_iconst (v := 0) X d_Mod_lairs_89 (by decide) rfl ?_
    obtain ⟨M13, eM13, h⟩ := memS h
    refine V_putI X fp_Mod_112 kd_162 rfl d_Mod_lairs_90 rfl ?_
    rw [← eM13]
    refine V_aload_n (n := 0) X d_Mod_lairs_93 rfl rfl rfl ?_
    refine V_aload_n (n := 0) X d_Mod_lairs_94 rfl rfl rfl ?_
    refine V_getr (k2 := 188) X fo_Mod_97 kd_162 rfl rf_162_47 d_Mod_lairs_95 rfl ?_
    obtain ⟨x14, hx14, h⟩ := ob_s h
    refine V_cv (As := [.ref (G.2.2 + 188)]) X (Z0 E) ml_Mod_416 yq_Mod_putMay (c_Mod_putMay E.2.1 G 188 M13 x14 hx14 _ (Nat.le_refl _)) kd_162 rfl rfl (by omega) rfl (Nat.le_of_ble_eq_true rfl) d_Mod_lairs_98 rfl (fun M9 hq => ?_)
    rw [hq]
    refine V_iload_n (n := 1) X d_Mod_lairs_101 rfl rfl rfl ?_
    exact V_iret X (kr (x12.1, x14) (Option.some.inj h).symm) d_Mod_lairs_102
  · rw [if_pos c15] at h
    refine V_iconst (v := -1) X d_Mod_lairs_15 (by decide) rfl ?_
    exact V_iret X (kr ((-1 : Int32), M1) (Option.some.inj h).symm) d_Mod_lairs_16
def f_Mod_caught (v1 : Int32) (v2 : Int32) (M : Mem) : Option (Int32 × Mem) :=
  mem_ (s_i M 162 13 (0 : Int32)) fun M1 =>
  Option.bind (f_Mod_isPlaceOf v2 v1 M1) fun x2 =>
  if x2 = 0 then
  some ((-1 : Int32), M1)
  else
  Option.bind (f_Mod_placeOf v2 v1) fun x3 =>
  Option.bind (f_Mod_thiefIn x3 (30 : Int32) M1) fun x4 =>
  if x4.1 = (1000000 : Int32) then
  some ((-2 : Int32), x4.2)
  else
  some (x4.1, x4.2)
theorem c_Mod_caught (l : Launch) (G : Gw)  (v1 : Int32) (v2 : Int32) (M : Mem) (x : Int32 × Mem) (h : f_Mod_caught v1 v2 M = some x) (d : Nat) (hD : 404 ≤ d) : Ci l G y_Mod_caught b_Mod_caught 4 (some .int) d [.ref (G.2.2 + 162), .int v1, .int v2] M (fun r9 M9 => r9 = x.1 ∧ M9 = x.2) := by
  refine Ci_of (by decide) (Nat.le_of_ble_eq_true rfl) (fun E hE X => ?_)
  subst hE
  have kr : ∀ x9 : Int32 × Mem, x = x9 → (fun r9 M9 => r9 = x.1 ∧ M9 = x.2) x9.1 x9.2 := fun x9 e9 => by subst e9; exact ⟨rfl, rfl⟩
  unfold f_Mod_caught at h
  refine V_aload_n (n := 0) X d_Mod_caught_0 rfl rfl rfl ?_
  refine V_iconst (v := 0) X d_Mod_caught_1 (by decide) rfl ?_
  obtain ⟨M1, eM1, h⟩ := memS h
  refine V_putI X fp_Mod_109 kd_162 rfl d_Mod_caught_2 rfl ?_
  rw [← eM1]
  refine V_aload_n (n := 0) X d_Mod_caught_5 rfl rfl rfl ?_
  refine V_iload_n (n := 2) X d_Mod_caught_6 rfl rfl rfl ?_
  refine V_iload_n (n := 1) X d_Mod_caught_7 rfl rfl rfl ?_
  obtain ⟨x2, hx2, h⟩ := ob_s h
  refine V_ci (As := [.int v2, .int v1]) X (Z0 E) ml_Mod_374 yq_Mod_isPlaceOf (c_Mod_isPlaceOf E.2.1 G v2 v1 M1 x2 hx2 _ (Nat.le_refl _)) kd_162 rfl rfl (by omega) rfl (Nat.le_of_ble_eq_true rfl) d_Mod_caught_8 rfl (fun r9 M9 hq => ?_)
  rw [hq.1, hq.2]
  refine V_if_ne (tgt := 16) X d_Mod_caught_11 (by decide) rfl (fun c6 => ?_) (fun c6 => ?_)
  · rw [if_neg c6] at h
    refine V_aload_n (n := 0) X d_Mod_caught_16 rfl rfl rfl ?_
    refine V_iload_n (n := 2) X d_Mod_caught_17 rfl rfl rfl ?_
    refine V_iload_n (n := 1) X d_Mod_caught_18 rfl rfl rfl ?_
    obtain ⟨x3, hx3, h⟩ := ob_s h
    refine V_si (As := [.int v2, .int v1]) X (Z0 E) ml_Mod_154 yq_Mod_placeOf (c_Mod_placeOf E.2.1 G v2 v1 M1 x3 hx3 _ (Nat.le_refl _)) rfl (by omega) rfl (Nat.le_of_ble_eq_true rfl) d_Mod_caught_19 rfl (fun r9 M9 hq => ?_)
    rw [hq.1, hq.2]
    refine V_bipush (v := 30) X d_Mod_caught_22 (by decide) rfl ?_
    obtain ⟨x4, hx4, h⟩ := ob_s h
    refine V_ci (As := [.int x3, .int (30 : Int32)]) X (Z0 E) ml_Mod_413 yq_Mod_thiefIn (c_Mod_thiefIn E.2.1 G x3 (30 : Int32) M1 x4 hx4 _ (Nat.le_refl _)) kd_162 rfl rfl (by omega) rfl (Nat.le_of_ble_eq_true rfl) d_Mod_caught_24 rfl (fun r9 M9 hq => ?_)
    rw [hq.1, hq.2]
    refine V_istore_n (lv' := [(3, .int x4.1), (0, .ref (G.2.2 + 162)), (1, .int v1), (2, .int v2)]) X d_Mod_caught_27 rfl (by decide) rfl rfl ?_
    refine V_iload_n (n := 0) X d_Mod_caught_28 rfl rfl rfl ?_
    refine V_ldc_w (v := 1000000) X d_Mod_caught_29 kc_Mod_357 rfl ?_
    refine V_icmp_ne (tgt := 40) X d_Mod_caught_32 (by decide) rfl (fun c5 => ?_) (fun c5 => ?_)
    · rw [if_neg c5] at h
      refine V_iload_n (n := 0) X d_Mod_caught_40 rfl rfl rfl ?_
      exact V_iret X (kr (x4.1, x4.2) (Option.some.inj h).symm) d_Mod_caught_41
    · rw [if_pos c5] at h
      refine V_bipush (v := -2) X d_Mod_caught_35 (by decide) rfl ?_
      refine V_goto (pc' := 41) X d_Mod_caught_37 (by decide) ?_
      exact V_iret X (kr ((-2 : Int32), x4.2) (Option.some.inj h).symm) d_Mod_caught_41
  · rw [if_pos c6] at h
    refine V_iconst (v := -1) X d_Mod_caught_14 (by decide) rfl ?_
    exact V_iret X (kr ((-1 : Int32), M1) (Option.some.inj h).symm) d_Mod_caught_15
def f_Mod_enter (v1 : Int32) (v2 : Int32) (M : Mem) : Option (Int32 × Mem) :=
  if v1 = (-1 : Int32) then
  some ((0 : Int32), M)
  else
  if inb v1 72 = true then
  if (M.1 186 v1.toNatClampNeg) = 0 then
  Option.bind (f_Mod_onPlace 163 v1 M) fun x1 =>
  if (x1 &&& v2) = 0 then
  if inb v1 72 = true then
  mem_ (s_i M 186 v1.toNatClampNeg (vp_nar .boolean (1 : Int32))) fun M2 =>
  some ((1 : Int32), M2)
  else none
  else
  some ((0 : Int32), M)
  else
  some ((0 : Int32), M)
  else none
theorem c_Mod_enter (l : Launch) (G : Gw)  (v1 : Int32) (v2 : Int32) (M : Mem) (x : Int32 × Mem) (h : f_Mod_enter v1 v2 M = some x) (d : Nat) (hD : 2 ≤ d) : Ci l G y_Mod_enter b_Mod_enter 3 (some .boolean) d [.ref (G.2.2 + 162), .int v1, .int v2] M (fun r9 M9 => r9 = x.1 ∧ M9 = x.2) := by
  refine Ci_of (by decide) (Nat.le_of_ble_eq_true rfl) (fun E hE X => ?_)
  subst hE
  have kr : ∀ x9 : Int32 × Mem, x = x9 → (fun r9 M9 => r9 = x.1 ∧ M9 = x.2) x9.1 x9.2 := fun x9 e9 => by subst e9; exact ⟨rfl, rfl⟩
  unfold f_Mod_enter at h
  refine V_iload_n (n := 1) X d_Mod_enter_0 rfl rfl rfl ?_
  refine V_iconst (v := -1) X d_Mod_enter_1 (by decide) rfl ?_
  refine V_icmp_eq (tgt := 28) X d_Mod_enter_2 (by decide) rfl (fun c5 => ?_) (fun c5 => ?_)
  · rw [if_pos c5] at h
    refine V_iconst (v := 0) X d_Mod_enter_28 (by decide) rfl ?_
    exact V_zret X (kr ((0 : Int32), M) (Option.some.inj h).symm) (by decide) d_Mod_enter_29
  · rw [if_neg c5] at h
    refine V_aload_n (n := 0) X d_Mod_enter_5 rfl rfl rfl ?_
    refine V_getr (k2 := 186) X fo_Mod_91 kd_162 rfl rf_162_45 d_Mod_enter_6 rfl ?_
    refine V_iload_n (n := 1) X d_Mod_enter_9 rfl rfl rfl ?_
    obtain ⟨hb, h⟩ := ifn h
    refine V_zald X kd_186 (inb_in ln_186 hb) d_Mod_enter_10 rfl ?_
    refine V_if_ne (tgt := 28) X d_Mod_enter_11 (by decide) rfl (fun c4 => ?_) (fun c4 => ?_)
    · rw [if_neg c4] at h
      refine V_iconst (v := 0) X d_Mod_enter_28 (by decide) rfl ?_
      exact V_zret X (kr ((0 : Int32), M) (Option.some.inj h).symm) (by decide) d_Mod_enter_29
    · rw [if_pos c4] at h
      refine V_aload_n (n := 0) X d_Mod_enter_14 rfl rfl rfl ?_
      refine V_aload_n (n := 0) X d_Mod_enter_15 rfl rfl rfl ?_
      refine V_getr (k2 := 163) X fo_Mod_9 kd_162 rfl rf_162_0 d_Mod_enter_16 rfl ?_
      refine V_iload_n (n := 1) X d_Mod_enter_19 rfl rfl rfl ?_
      obtain ⟨x1, hx1, h⟩ := ob_s h
      refine V_ci (As := [.ref (G.2.2 + 163), .int v1]) X (Z0 E) ml_Mod_259 yq_Mod_onPlace (c_Mod_onPlace E.2.1 G 163 v1 M x1 hx1 _ (Nat.le_refl _)) kd_162 rfl rfl (by omega) rfl (Nat.le_of_ble_eq_true rfl) d_Mod_enter_20 rfl (fun r9 M9 hq => ?_)
      rw [hq.1, hq.2]
      refine V_iload_n (n := 2) X d_Mod_enter_23 rfl rfl rfl ?_
      refine V_iand X d_Mod_enter_24 rfl ?_
      refine V_if_eq (tgt := 30) X d_Mod_enter_25 (by decide) rfl (fun c3 => ?_) (fun c3 => ?_)
      · rw [if_pos c3] at h
        refine V_aload_n (n := 0) X d_Mod_enter_30 rfl rfl rfl ?_
        refine V_getr (k2 := 186) X fo_Mod_91 kd_162 rfl rf_162_45 d_Mod_enter_31 rfl ?_
        refine V_iload_n (n := 1) X d_Mod_enter_34 rfl rfl rfl ?_
        refine V_iconst (v := 1) X d_Mod_enter_35 (by decide) rfl ?_
        obtain ⟨hb, h⟩ := ifn h
        obtain ⟨M2, eM2, h⟩ := memS h
        refine V_zast X kd_186 (inb_in ln_186 hb) d_Mod_enter_36 rfl ?_
        rw [← eM2]
        refine V_iconst (v := 1) X d_Mod_enter_37 (by decide) rfl ?_
        exact V_zret X (kr ((1 : Int32), M2) (Option.some.inj h).symm) (by decide) d_Mod_enter_38
      · rw [if_neg c3] at h
        refine V_iconst (v := 0) X d_Mod_enter_28 (by decide) rfl ?_
        exact V_zret X (kr ((0 : Int32), M) (Option.some.inj h).symm) (by decide) d_Mod_enter_29
def lb_Mod_gets_3 (v1 : Int32) (v2 : Int32) (v3 : Int32) (s : Int32 × Mem) : Option ((Int32 × Mem) ⊕ ((Mem))) :=
  if (72 : Int32) ≤ s.1 then
  some (.inr s.2)
  else
  if s.1 = v1 then
  if inb s.1 72 = true then
  mem_ (s_i s.2 186 s.1.toNatClampNeg (vp_nar .boolean (1 : Int32))) fun M2 =>
  some (.inl ((s.1 + (1 : Int32)), M2))
  else none
  else
  if inb s.1 72 = true then
  mem_ (s_i s.2 186 s.1.toNatClampNeg (vp_nar .boolean (0 : Int32))) fun M1 =>
  some (.inl ((s.1 + (1 : Int32)), M1))
  else none
theorem lb_Mod_gets_3_ok {E : Ev} {G : Gw} {d : Nat} {post : Int32 → Mem → Prop} (X : Cx E G b_Mod_gets "WomenByTheRoofsModel" 7 d (some .boolean)) (hD : 5 ≤ d)  (v1 : Int32) (v2 : Int32) (v3 : Int32)   (s : Int32 × Mem) (o : (Int32 × Mem) ⊕ ((Mem))) (h : lb_Mod_gets_3 v1 v2 v3 s = some o) (kc : ∀ s9 : Int32 × Mem, o = .inl s9 → V E (0, 0) G 7 (QI E G post) s9.2 3 [(0, .ref (G.2.2 + 162)), (1, .int v1), (2, .int v2), (3, .int v3), (4, .int s9.1)] []) (kx0 : ∀ x9 : Mem, o = .inr x9 → V E (0, 0) G 7 (QI E G post) x9 34 [(0, .ref (G.2.2 + 162)), (2, .int v2), (3, .int v3)] []) : V E (0, 0) G 7 (QI E G post) s.2 3 [(0, .ref (G.2.2 + 162)), (1, .int v1), (2, .int v2), (3, .int v3), (4, .int s.1)] [] := by
  unfold lb_Mod_gets_3 at h
  refine V_iload (n := 4) X d_Mod_gets_3 rfl rfl ?_
  refine V_bipush (v := 72) X d_Mod_gets_5 (by decide) rfl ?_
  refine V_icmp_ge (tgt := 34) X d_Mod_gets_7 (by decide) rfl (fun c4 => ?_) (fun c4 => ?_)
  · rw [if_pos c4] at h
    refine V_sub (lv' := [(0, .ref (G.2.2 + 162)), (2, .int v2), (3, .int v3)]) [0, 2, 3] rfl ?_
    exact kx0 s.2 (Option.some.inj h).symm
  · rw [if_neg c4] at h
    refine V_aload_n (n := 0) X d_Mod_gets_10 rfl rfl rfl ?_
    refine V_getr (k2 := 186) X fo_Mod_91 kd_162 rfl rf_162_45 d_Mod_gets_11 rfl ?_
    refine V_iload (n := 4) X d_Mod_gets_14 rfl rfl ?_
    refine V_iload (n := 4) X d_Mod_gets_16 rfl rfl ?_
    refine V_iload_n (n := 1) X d_Mod_gets_18 rfl rfl rfl ?_
    refine V_icmp_ne (tgt := 26) X d_Mod_gets_19 (by decide) rfl (fun c3 => ?_) (fun c3 => ?_)
    · rw [if_neg c3] at h
      refine V_iconst (v := 0) X d_Mod_gets_26 (by decide) rfl ?_
      obtain ⟨hb, h⟩ := ifn h
      obtain ⟨M1, eM1, h⟩ := memS h
      refine V_zast X kd_186 (inb_in ln_186 hb) d_Mod_gets_27 rfl ?_
      rw [← eM1]
      refine V_iinc (n := 4) (v := (s.1 + (1 : Int32))) (lv' := [(4, .int (s.1 + (1 : Int32))), (0, .ref (G.2.2 + 162)), (1, .int v1), (2, .int v2), (3, .int v3)]) X d_Mod_gets_28 rfl rfl (by decide) rfl rfl ?_
      refine V_goto (pc' := 3) X d_Mod_gets_31 (by decide) ?_
      refine V_sub (lv' := [(0, .ref (G.2.2 + 162)), (1, .int v1), (2, .int v2), (3, .int v3), (4, .int (s.1 + (1 : Int32)))]) [1, 2, 3, 4, 0] rfl ?_
      exact kc ((s.1 + (1 : Int32)), M1) (Option.some.inj h).symm
    · rw [if_pos c3] at h
      refine V_iconst (v := 1) X d_Mod_gets_22 (by decide) rfl ?_
      refine V_goto (pc' := 27) X d_Mod_gets_23 (by decide) ?_
      obtain ⟨hb, h⟩ := ifn h
      obtain ⟨M2, eM2, h⟩ := memS h
      refine V_zast X kd_186 (inb_in ln_186 hb) d_Mod_gets_27 rfl ?_
      rw [← eM2]
      refine V_iinc (n := 4) (v := (s.1 + (1 : Int32))) (lv' := [(4, .int (s.1 + (1 : Int32))), (0, .ref (G.2.2 + 162)), (1, .int v1), (2, .int v2), (3, .int v3)]) X d_Mod_gets_28 rfl rfl (by decide) rfl rfl ?_
      refine V_goto (pc' := 3) X d_Mod_gets_31 (by decide) ?_
      refine V_sub (lv' := [(0, .ref (G.2.2 + 162)), (1, .int v1), (2, .int v2), (3, .int v3), (4, .int (s.1 + (1 : Int32)))]) [1, 2, 3, 4, 0] rfl ?_
      exact kc ((s.1 + (1 : Int32)), M2) (Option.some.inj h).symm
theorem lp_Mod_gets_3_ok {E : Ev} {G : Gw} {d : Nat} {post : Int32 → Mem → Prop} (X : Cx E G b_Mod_gets "WomenByTheRoofsModel" 7 d (some .boolean)) (hD : 5 ≤ d)  (v1 : Int32) (v2 : Int32) (v3 : Int32)   (n9 : Nat) (s : Int32 × Mem) (x : (Mem)) (h : iter (lb_Mod_gets_3 v1 v2 v3) n9 s = some x) (kx0 : ∀ x9 : Mem, x = x9 → V E (0, 0) G 7 (QI E G post) x9 34 [(0, .ref (G.2.2 + 162)), (2, .int v2), (3, .int v3)] []) : V E (0, 0) G 7 (QI E G post) s.2 3 [(0, .ref (G.2.2 + 162)), (1, .int v1), (2, .int v2), (3, .int v3), (4, .int s.1)] [] :=
  iter_P (P := fun s : Int32 × Mem => V E (0, 0) G 7 (QI E G post) s.2 3 [(0, .ref (G.2.2 + 162)), (1, .int v1), (2, .int v2), (3, .int v3), (4, .int s.1)] []) (fun s o hb kc ky => lb_Mod_gets_3_ok X hD v1 v2 v3 s o hb kc (fun x9 e9 => kx0 x9 (ky _ e9).symm)) n9 s h
def lb_Mod_gets_71 (v2 : Int32) (v3 : Int32) (v5 : Int32) (s : Int32 × Int32 × Mem) : Option ((Int32 × Int32 × Mem) ⊕ ((Int32 × Mem))) :=
  if (4 : Int32) ≤ s.2.1 then
  some (.inr (s.1, s.2.2))
  else
  Option.bind (f_Mod_go 163 v5 s.2.1 s.2.2) fun x6 =>
  Option.bind (f_Mod_enter x6 v3 s.2.2) fun x7 =>
  some (.inl ((s.1 ||| x7.1), (s.2.1 + (1 : Int32)), x7.2))
theorem lb_Mod_gets_71_ok {E : Ev} {G : Gw} {d : Nat} {post : Int32 → Mem → Prop} (X : Cx E G b_Mod_gets "WomenByTheRoofsModel" 7 d (some .boolean)) (hD : 5 ≤ d)  (v2 : Int32) (v3 : Int32) (v5 : Int32)   (s : Int32 × Int32 × Mem) (o : (Int32 × Int32 × Mem) ⊕ ((Int32 × Mem))) (h : lb_Mod_gets_71 v2 v3 v5 s = some o) (kc : ∀ s9 : Int32 × Int32 × Mem, o = .inl s9 → V E (0, 0) G 7 (QI E G post) s9.2.2 71 [(0, .ref (G.2.2 + 162)), (2, .int v2), (3, .int v3), (4, .int s9.1), (5, .int v5), (6, .int s9.2.1)] []) (kx0 : ∀ x9 : Int32 × Mem, o = .inr x9 → V E (0, 0) G 7 (QI E G post) x9.2 105 [(0, .ref (G.2.2 + 162)), (2, .int v2), (3, .int v3), (4, .int x9.1), (5, .int v5)] []) : V E (0, 0) G 7 (QI E G post) s.2.2 71 [(0, .ref (G.2.2 + 162)), (2, .int v2), (3, .int v3), (4, .int s.1), (5, .int v5), (6, .int s.2.1)] [] := by
  unfold lb_Mod_gets_71 at h
  refine V_iload (n := 5) X d_Mod_gets_71 rfl rfl ?_
  refine V_iconst (v := 4) X d_Mod_gets_73 (by decide) rfl ?_
  refine V_icmp_ge (tgt := 105) X d_Mod_gets_74 (by decide) rfl (fun c8 => ?_) (fun c8 => ?_)
  · rw [if_pos c8] at h
    refine V_sub (lv' := [(0, .ref (G.2.2 + 162)), (2, .int v2), (3, .int v3), (4, .int s.1), (5, .int v5)]) [0, 1, 2, 3, 4] rfl ?_
    exact kx0 (s.1, s.2.2) (Option.some.inj h).symm
  · rw [if_neg c8] at h
    refine V_iload (n := 3) X d_Mod_gets_77 rfl rfl ?_
    refine V_aload_n (n := 0) X d_Mod_gets_79 rfl rfl rfl ?_
    refine V_aload_n (n := 0) X d_Mod_gets_80 rfl rfl rfl ?_
    refine V_aload_n (n := 0) X d_Mod_gets_81 rfl rfl rfl ?_
    refine V_getr (k2 := 163) X fo_Mod_9 kd_162 rfl rf_162_0 d_Mod_gets_82 rfl ?_
    refine V_iload (n := 4) X d_Mod_gets_85 rfl rfl ?_
    refine V_iload (n := 5) X d_Mod_gets_87 rfl rfl ?_
    obtain ⟨x6, hx6, h⟩ := ob_s h
    refine V_ci (As := [.ref (G.2.2 + 163), .int v5, .int s.2.1]) X (Z0 E) ml_Mod_252 yq_Mod_go (c_Mod_go E.2.1 G 163 v5 s.2.1 s.2.2 x6 hx6 _ (Nat.le_refl _)) kd_162 rfl rfl (by omega) rfl (Nat.le_of_ble_eq_true rfl) d_Mod_gets_89 rfl (fun r9 M9 hq => ?_)
    rw [hq.1, hq.2]
    refine V_iload_n (n := 2) X d_Mod_gets_92 rfl rfl rfl ?_
    obtain ⟨x7, hx7, h⟩ := ob_s h
    refine V_ci (As := [.int x6, .int v3]) X (Z0 E) ml_Mod_420 yq_Mod_enter (c_Mod_enter E.2.1 G x6 v3 s.2.2 x7 hx7 _ (Nat.le_refl _)) kd_162 rfl rfl (by omega) rfl (Nat.le_of_ble_eq_true rfl) d_Mod_gets_93 rfl (fun r9 M9 hq => ?_)
    rw [hq.1, hq.2]
    refine V_ior X d_Mod_gets_96 rfl ?_
    refine V_istore (lv' := [(4, .int (s.1 ||| x7.1)), (0, .ref (G.2.2 + 162)), (2, .int v2), (3, .int v3), (5, .int v5), (6, .int s.2.1)]) X d_Mod_gets_97 (by decide) rfl rfl ?_
    refine V_iinc (n := 5) (v := (s.2.1 + (1 : Int32))) (lv' := [(6, .int (s.2.1 + (1 : Int32))), (4, .int (s.1 ||| x7.1)), (0, .ref (G.2.2 + 162)), (2, .int v2), (3, .int v3), (5, .int v5)]) X d_Mod_gets_99 rfl rfl (by decide) rfl rfl ?_
    refine V_goto (pc' := 71) X d_Mod_gets_102 (by decide) ?_
    refine V_sub (lv' := [(0, .ref (G.2.2 + 162)), (2, .int v2), (3, .int v3), (4, .int (s.1 ||| x7.1)), (5, .int v5), (6, .int (s.2.1 + (1 : Int32)))]) [2, 3, 4, 1, 5, 0] rfl ?_
    exact kc ((s.1 ||| x7.1), (s.2.1 + (1 : Int32)), x7.2) (Option.some.inj h).symm
theorem lp_Mod_gets_71_ok {E : Ev} {G : Gw} {d : Nat} {post : Int32 → Mem → Prop} (X : Cx E G b_Mod_gets "WomenByTheRoofsModel" 7 d (some .boolean)) (hD : 5 ≤ d)  (v2 : Int32) (v3 : Int32) (v5 : Int32)   (n9 : Nat) (s : Int32 × Int32 × Mem) (x : (Int32 × Mem)) (h : iter (lb_Mod_gets_71 v2 v3 v5) n9 s = some x) (kx0 : ∀ x9 : Int32 × Mem, x = x9 → V E (0, 0) G 7 (QI E G post) x9.2 105 [(0, .ref (G.2.2 + 162)), (2, .int v2), (3, .int v3), (4, .int x9.1), (5, .int v5)] []) : V E (0, 0) G 7 (QI E G post) s.2.2 71 [(0, .ref (G.2.2 + 162)), (2, .int v2), (3, .int v3), (4, .int s.1), (5, .int v5), (6, .int s.2.1)] [] :=
  iter_P (P := fun s : Int32 × Int32 × Mem => V E (0, 0) G 7 (QI E G post) s.2.2 71 [(0, .ref (G.2.2 + 162)), (2, .int v2), (3, .int v3), (4, .int s.1), (5, .int v5), (6, .int s.2.1)] []) (fun s o hb kc ky => lb_Mod_gets_71_ok X hD v2 v3 v5 s o hb kc (fun x9 e9 => kx0 x9 (ky _ e9).symm)) n9 s h
def lb_Mod_gets_48 (v2 : Int32) (v3 : Int32) (s : Int32 × Int32 × Mem) : Option ((Int32 × Int32 × Mem) ⊕ ((Int32 × Mem))) :=
  if (72 : Int32) ≤ s.2.1 then
  some (.inr (s.1, s.2.2))
  else
  if inb s.2.1 72 = true then
  if (s.2.2.1 186 s.2.1.toNatClampNeg) = 0 then
  some (.inl (s.1, (s.2.1 + (1 : Int32)), s.2.2))
  else
  Option.bind (iter (lb_Mod_gets_71 v2 v3 s.2.1) FU (s.1, (0 : Int32), s.2.2)) fun x9 =>
  Option.bind (f_Mod_cellOf s.2.1) fun x10 =>
  if inb x10 36 = true then
  if (x9.2.1 164 x10.toNatClampNeg) = (3 : Int32) then
  Option.bind (f_Mod_levelOf s.2.1) fun x11 =>
  Option.bind (f_Mod_cellOf s.2.1) fun x12 =>
  Option.bind (f_Mod_placeOf ((1 : Int32) - x11) x12) fun x13 =>
  Option.bind (f_Mod_enter x13 v3 x9.2) fun x14 =>
  some (.inl ((x9.1 ||| x14.1), (s.2.1 + (1 : Int32)), x14.2))
  else
  some (.inl (x9.1, (s.2.1 + (1 : Int32)), x9.2))
  else none
  else none
theorem lb_Mod_gets_48_ok {E : Ev} {G : Gw} {d : Nat} {post : Int32 → Mem → Prop} (X : Cx E G b_Mod_gets "WomenByTheRoofsModel" 7 d (some .boolean)) (hD : 5 ≤ d)  (v2 : Int32) (v3 : Int32)   (s : Int32 × Int32 × Mem) (o : (Int32 × Int32 × Mem) ⊕ ((Int32 × Mem))) (h : lb_Mod_gets_48 v2 v3 s = some o) (kc : ∀ s9 : Int32 × Int32 × Mem, o = .inl s9 → V E (0, 0) G 7 (QI E G post) s9.2.2 48 [(0, .ref (G.2.2 + 162)), (2, .int v2), (3, .int v3), (4, .int s9.1), (5, .int s9.2.1)] []) (kx0 : ∀ x9 : Int32 × Mem, o = .inr x9 → V E (0, 0) G 7 (QI E G post) x9.2 150 [(0, .ref (G.2.2 + 162)), (2, .int v2), (3, .int v3), (4, .int x9.1)] []) : V E (0, 0) G 7 (QI E G post) s.2.2 48 [(0, .ref (G.2.2 + 162)), (2, .int v2), (3, .int v3), (4, .int s.1), (5, .int s.2.1)] [] := by
  unfold lb_Mod_gets_48 at h
  refine V_iload (n := 4) X d_Mod_gets_48 rfl rfl ?_
  refine V_bipush (v := 72) X d_Mod_gets_50 (by decide) rfl ?_
  refine V_icmp_ge (tgt := 150) X d_Mod_gets_52 (by decide) rfl (fun c17 => ?_) (fun c17 => ?_)
  · rw [if_pos c17] at h
    refine V_sub (lv' := [(0, .ref (G.2.2 + 162)), (2, .int v2), (3, .int v3), (4, .int s.1)]) [0, 1, 2, 3] rfl ?_
    exact kx0 (s.1, s.2.2) (Option.some.inj h).symm
  · rw [if_neg c17] at h
    refine V_aload_n (n := 0) X d_Mod_gets_55 rfl rfl rfl ?_
    refine V_getr (k2 := 186) X fo_Mod_91 kd_162 rfl rf_162_45 d_Mod_gets_56 rfl ?_
    refine V_iload (n := 4) X d_Mod_gets_59 rfl rfl ?_
    obtain ⟨hb, h⟩ := ifn h
    refine V_zald X kd_186 (inb_in ln_186 hb) d_Mod_gets_61 rfl ?_
    refine V_if_ne (tgt := 68) X d_Mod_gets_62 (by decide) rfl (fun c16 => ?_) (fun c16 => ?_)
    · rw [if_neg c16] at h
      refine V_iconst (v := 0) X d_Mod_gets_68 (by decide) rfl ?_
      refine V_istore (lv' := [(6, .int (0 : Int32)), (0, .ref (G.2.2 + 162)), (2, .int v2), (3, .int v3), (4, .int s.1), (5, .int s.2.1)]) X d_Mod_gets_69 (by decide) rfl rfl ?_
      refine V_sub (lv' := [(0, .ref (G.2.2 + 162)), (2, .int v2), (3, .int v3), (4, .int s.1), (5, .int s.2.1), (6, .int (0 : Int32))]) [1, 2, 3, 4, 5, 0] rfl ?_
      obtain ⟨x9, hx9, h⟩ := ob_s h
      refine (lp_Mod_gets_71_ok X hD v2 v3 s.2.1 _ _ _ hx9 (fun x9 e9 => ?_) :)
      subst e9
      refine V_aload_n (n := 0) X d_Mod_gets_105 rfl rfl rfl ?_
      refine V_getr (k2 := 164) X fo_Mod_13 kd_162 rfl rf_162_1 d_Mod_gets_106 rfl ?_
      refine V_iload (n := 4) X d_Mod_gets_109 rfl rfl ?_
      obtain ⟨x10, hx10, h⟩ := ob_s h
      refine V_si (As := [.int s.2.1]) X (Z0 E) ml_Mod_147 yq_Mod_cellOf (c_Mod_cellOf E.2.1 G s.2.1 x9.2 x10 hx10 _ (Nat.le_refl _)) rfl (by omega) rfl (Nat.le_of_ble_eq_true rfl) d_Mod_gets_111 rfl (fun r9 M9 hq => ?_)
      rw [hq.1, hq.2]
      obtain ⟨hb, h⟩ := ifn h
      refine V_iald X kd_164 (inb_in ln_164 hb) d_Mod_gets_114 rfl ?_
      refine V_iconst (v := 3) X d_Mod_gets_115 (by decide) rfl ?_
      refine V_icmp_ne (tgt := 144) X d_Mod_gets_116 (by decide) rfl (fun c15 => ?_) (fun c15 => ?_)
      · rw [if_neg c15] at h
        refine V_iinc (n := 4) (v := (s.2.1 + (1 : Int32))) (lv' := [(5, .int (s.2.1 + (1 : Int32))), (0, .ref (G.2.2 + 162)), (2, .int v2), (3, .int v3), (4, .int x9.1)]) X d_Mod_gets_144 rfl rfl (by decide) rfl rfl ?_
        refine V_goto (pc' := 48) X d_Mod_gets_147 (by decide) ?_
        refine V_sub (lv' := [(0, .ref (G.2.2 + 162)), (2, .int v2), (3, .int v3), (4, .int x9.1), (5, .int (s.2.1 + (1 : Int32)))]) [1, 2, 3, 4, 0] rfl ?_
        exact kc (x9.1, (s.2.1 + (1 : Int32)), x9.2) (Option.some.inj h).symm
      · rw [if_pos c15] at h
        refine V_iload (n := 3) X d_Mod_gets_119 rfl rfl ?_
        refine V_aload_n (n := 0) X d_Mod_gets_121 rfl rfl rfl ?_
        refine V_iconst (v := 1) X d_Mod_gets_122 (by decide) rfl ?_
        refine V_iload (n := 4) X d_Mod_gets_123 rfl rfl ?_
        obtain ⟨x11, hx11, h⟩ := ob_s h
        refine V_si (As := [.int s.2.1]) X (Z0 E) ml_Mod_143 yq_Mod_levelOf (c_Mod_levelOf E.2.1 G s.2.1 x9.2 x11 hx11 _ (Nat.le_refl _)) rfl (by omega) rfl (Nat.le_of_ble_eq_true rfl) d_Mod_gets_125 rfl (fun r9 M9 hq => ?_)
        rw [hq.1, hq.2]
        refine V_isub X d_Mod_gets_128 rfl ?_
        refine V_iload (n := 4) X d_Mod_gets_129 rfl rfl ?_
        obtain ⟨x12, hx12, h⟩ := ob_s h
        refine V_si (As := [.int s.2.1]) X (Z0 E) ml_Mod_147 yq_Mod_cellOf (c_Mod_cellOf E.2.1 G s.2.1 x9.2 x12 hx12 _ (Nat.le_refl _)) rfl (by omega) rfl (Nat.le_of_ble_eq_true rfl) d_Mod_gets_131 rfl (fun r9 M9 hq => ?_)
        rw [hq.1, hq.2]
        obtain ⟨x13, hx13, h⟩ := ob_s h
        refine V_si (As := [.int ((1 : Int32) - x11), .int x12]) X (Z0 E) ml_Mod_154 yq_Mod_placeOf (c_Mod_placeOf E.2.1 G ((1 : Int32) - x11) x12 x9.2 x13 hx13 _ (Nat.le_refl _)) rfl (by omega) rfl (Nat.le_of_ble_eq_true rfl) d_Mod_gets_134 rfl (fun r9 M9 hq => ?_)
        rw [hq.1, hq.2]
        refine V_iload_n (n := 2) X d_Mod_gets_137 rfl rfl rfl ?_
        obtain ⟨x14, hx14, h⟩ := ob_s h
        refine V_ci (As := [.int x13, .int v3]) X (Z0 E) ml_Mod_420 yq_Mod_enter (c_Mod_enter E.2.1 G x13 v3 x9.2 x14 hx14 _ (Nat.le_refl _)) kd_162 rfl rfl (by omega) rfl (Nat.le_of_ble_eq_true rfl) d_Mod_gets_138 rfl (fun r9 M9 hq => ?_)
        rw [hq.1, hq.2]
        refine V_ior X d_Mod_gets_141 rfl ?_
        refine V_istore (lv' := [(4, .int (x9.1 ||| x14.1)), (0, .ref (G.2.2 + 162)), (2, .int v2), (3, .int v3), (5, .int s.2.1)]) X d_Mod_gets_142 (by decide) rfl rfl ?_
        refine V_iinc (n := 4) (v := (s.2.1 + (1 : Int32))) (lv' := [(5, .int (s.2.1 + (1 : Int32))), (4, .int (x9.1 ||| x14.1)), (0, .ref (G.2.2 + 162)), (2, .int v2), (3, .int v3)]) X d_Mod_gets_144 rfl rfl (by decide) rfl rfl ?_
        refine V_goto (pc' := 48) X d_Mod_gets_147 (by decide) ?_
        refine V_sub (lv' := [(0, .ref (G.2.2 + 162)), (2, .int v2), (3, .int v3), (4, .int (x9.1 ||| x14.1)), (5, .int (s.2.1 + (1 : Int32)))]) [2, 3, 4, 1, 0] rfl ?_
        exact kc ((x9.1 ||| x14.1), (s.2.1 + (1 : Int32)), x14.2) (Option.some.inj h).symm
    · rw [if_pos c16] at h
      refine V_goto (pc' := 144) X d_Mod_gets_65 (by decide) ?_
      refine V_iinc (n := 4) (v := (s.2.1 + (1 : Int32))) (lv' := [(5, .int (s.2.1 + (1 : Int32))), (0, .ref (G.2.2 + 162)), (2, .int v2), (3, .int v3), (4, .int s.1)]) X d_Mod_gets_144 rfl rfl (by decide) rfl rfl ?_
      refine V_goto (pc' := 48) X d_Mod_gets_147 (by decide) ?_
      refine V_sub (lv' := [(0, .ref (G.2.2 + 162)), (2, .int v2), (3, .int v3), (4, .int s.1), (5, .int (s.2.1 + (1 : Int32)))]) [1, 2, 3, 4, 0] rfl ?_
      exact kc (s.1, (s.2.1 + (1 : Int32)), s.2.2) (Option.some.inj h).symm
theorem lp_Mod_gets_48_ok {E : Ev} {G : Gw} {d : Nat} {post : Int32 → Mem → Prop} (X : Cx E G b_Mod_gets "WomenByTheRoofsModel" 7 d (some .boolean)) (hD : 5 ≤ d)  (v2 : Int32) (v3 : Int32)   (n9 : Nat) (s : Int32 × Int32 × Mem) (x : (Int32 × Mem)) (h : iter (lb_Mod_gets_48 v2 v3) n9 s = some x) (kx0 : ∀ x9 : Int32 × Mem, x = x9 → V E (0, 0) G 7 (QI E G post) x9.2 150 [(0, .ref (G.2.2 + 162)), (2, .int v2), (3, .int v3), (4, .int x9.1)] []) : V E (0, 0) G 7 (QI E G post) s.2.2 48 [(0, .ref (G.2.2 + 162)), (2, .int v2), (3, .int v3), (4, .int s.1), (5, .int s.2.1)] [] :=
  iter_P (P := fun s : Int32 × Int32 × Mem => V E (0, 0) G 7 (QI E G post) s.2.2 48 [(0, .ref (G.2.2 + 162)), (2, .int v2), (3, .int v3), (4, .int s.1), (5, .int s.2.1)] []) (fun s o hb kc ky => lb_Mod_gets_48_ok X hD v2 v3 s o hb kc (fun x9 e9 => kx0 x9 (ky _ e9).symm)) n9 s h
def lb_Mod_gets_37 (v2 : Int32) (v3 : Int32) (s : Int32 × Mem) : Option ((Int32 × Mem) ⊕ ((Mem))) :=
  if s.1 = 0 then
  some (.inr s.2)
  else
  Option.bind (iter (lb_Mod_gets_48 v2 v3) FU ((0 : Int32), (0 : Int32), s.2)) fun x18 =>
  some (.inl (x18.1, x18.2))
theorem lb_Mod_gets_37_ok {E : Ev} {G : Gw} {d : Nat} {post : Int32 → Mem → Prop} (X : Cx E G b_Mod_gets "WomenByTheRoofsModel" 7 d (some .boolean)) (hD : 5 ≤ d)  (v2 : Int32) (v3 : Int32)   (s : Int32 × Mem) (o : (Int32 × Mem) ⊕ ((Mem))) (h : lb_Mod_gets_37 v2 v3 s = some o) (kc : ∀ s9 : Int32 × Mem, o = .inl s9 → V E (0, 0) G 7 (QI E G post) s9.2 37 [(0, .ref (G.2.2 + 162)), (2, .int v2), (3, .int v3), (4, .int s9.1)] []) (kx0 : ∀ x9 : Mem, o = .inr x9 → V E (0, 0) G 7 (QI E G post) x9 153 [(0, .ref (G.2.2 + 162)), (2, .int v2)] []) : V E (0, 0) G 7 (QI E G post) s.2 37 [(0, .ref (G.2.2 + 162)), (2, .int v2), (3, .int v3), (4, .int s.1)] [] := by
  unfold lb_Mod_gets_37 at h
  refine V_iload (n := 3) X d_Mod_gets_37 rfl rfl ?_
  refine V_if_eq (tgt := 153) X d_Mod_gets_39 (by decide) rfl (fun c19 => ?_) (fun c19 => ?_)
  · rw [if_pos c19] at h
    refine V_sub (lv' := [(0, .ref (G.2.2 + 162)), (2, .int v2)]) [0, 1] rfl ?_
    exact kx0 s.2 (Option.some.inj h).symm
  · rw [if_neg c19] at h
    refine V_iconst (v := 0) X d_Mod_gets_42 (by decide) rfl ?_
    refine V_istore (lv' := [(4, .int (0 : Int32)), (0, .ref (G.2.2 + 162)), (2, .int v2), (3, .int v3)]) X d_Mod_gets_43 (by decide) rfl rfl ?_
    refine V_iconst (v := 0) X d_Mod_gets_45 (by decide) rfl ?_
    refine V_istore (lv' := [(5, .int (0 : Int32)), (4, .int (0 : Int32)), (0, .ref (G.2.2 + 162)), (2, .int v2), (3, .int v3)]) X d_Mod_gets_46 (by decide) rfl rfl ?_
    refine V_sub (lv' := [(0, .ref (G.2.2 + 162)), (2, .int v2), (3, .int v3), (4, .int (0 : Int32)), (5, .int (0 : Int32))]) [2, 3, 4, 1, 0] rfl ?_
    obtain ⟨x18, hx18, h⟩ := ob_s h
    refine (lp_Mod_gets_48_ok X hD v2 v3 _ _ _ hx18 (fun x9 e9 => ?_) :)
    subst e9
    refine V_goto (pc' := 37) X d_Mod_gets_150 (by decide) ?_
    exact kc (x18.1, x18.2) (Option.some.inj h).symm
theorem lp_Mod_gets_37_ok {E : Ev} {G : Gw} {d : Nat} {post : Int32 → Mem → Prop} (X : Cx E G b_Mod_gets "WomenByTheRoofsModel" 7 d (some .boolean)) (hD : 5 ≤ d)  (v2 : Int32) (v3 : Int32)   (n9 : Nat) (s : Int32 × Mem) (x : (Mem)) (h : iter (lb_Mod_gets_37 v2 v3) n9 s = some x) (kx0 : ∀ x9 : Mem, x = x9 → V E (0, 0) G 7 (QI E G post) x9 153 [(0, .ref (G.2.2 + 162)), (2, .int v2)] []) : V E (0, 0) G 7 (QI E G post) s.2 37 [(0, .ref (G.2.2 + 162)), (2, .int v2), (3, .int v3), (4, .int s.1)] [] :=
  iter_P (P := fun s : Int32 × Mem => V E (0, 0) G 7 (QI E G post) s.2 37 [(0, .ref (G.2.2 + 162)), (2, .int v2), (3, .int v3), (4, .int s.1)] []) (fun s o hb kc ky => lb_Mod_gets_37_ok X hD v2 v3 s o hb kc (fun x9 e9 => kx0 x9 (ky _ e9).symm)) n9 s h
def f_Mod_gets (v1 : Int32) (v2 : Int32) (v3 : Int32) (M : Mem) : Option (Int32 × Mem) :=
  Option.bind (iter (lb_Mod_gets_3 v1 v2 v3) FU ((0 : Int32), M)) fun x5 =>
  Option.bind (iter (lb_Mod_gets_37 v2 v3) FU ((1 : Int32), x5)) fun x20 =>
  if inb v2 72 = true then
  if (x20.1 186 v2.toNatClampNeg) = 0 ∨ (x20.1 186 v2.toNatClampNeg) = 1 then some ((x20.1 186 v2.toNatClampNeg), x20) else none
  else none
theorem c_Mod_gets (l : Launch) (G : Gw)  (v1 : Int32) (v2 : Int32) (v3 : Int32) (M : Mem) (x : Int32 × Mem) (h : f_Mod_gets v1 v2 v3 M = some x) (d : Nat) (hD : 5 ≤ d) : Ci l G y_Mod_gets b_Mod_gets 7 (some .boolean) d [.ref (G.2.2 + 162), .int v1, .int v2, .int v3] M (fun r9 M9 => r9 = x.1 ∧ M9 = x.2) := by
  refine Ci_of (by decide) (Nat.le_of_ble_eq_true rfl) (fun E hE X => ?_)
  subst hE
  have kr : ∀ x9 : Int32 × Mem, x = x9 → (fun r9 M9 => r9 = x.1 ∧ M9 = x.2) x9.1 x9.2 := fun x9 e9 => by subst e9; exact ⟨rfl, rfl⟩
  unfold f_Mod_gets at h
  refine V_iconst (v := 0) X d_Mod_gets_0 (by decide) rfl ?_
  refine V_istore (lv' := [(4, .int (0 : Int32)), (0, .ref (G.2.2 + 162)), (1, .int v1), (2, .int v2), (3, .int v3)]) X d_Mod_gets_1 (by decide) rfl rfl ?_
  refine V_sub (lv' := [(0, .ref (G.2.2 + 162)), (1, .int v1), (2, .int v2), (3, .int v3), (4, .int (0 : Int32))]) [1, 2, 3, 4, 0] rfl ?_
  obtain ⟨x5, hx5, h⟩ := ob_s h
  refine (lp_Mod_gets_3_ok X hD v1 v2 v3 _ _ _ hx5 (fun x9 e9 => ?_) :)
  subst e9
  refine V_iconst (v := 1) X d_Mod_gets_34 (by decide) rfl ?_
  refine V_istore (lv' := [(4, .int (1 : Int32)), (0, .ref (G.2.2 + 162)), (2, .int v2), (3, .int v3)]) X d_Mod_gets_35 (by decide) rfl rfl ?_
  refine V_sub (lv' := [(0, .ref (G.2.2 + 162)), (2, .int v2), (3, .int v3), (4, .int (1 : Int32))]) [1, 2, 3, 0] rfl ?_
  obtain ⟨x20, hx20, h⟩ := ob_s h
  refine (lp_Mod_gets_37_ok X hD v2 v3 _ _ _ hx20 (fun x9 e9 => ?_) :)
  subst e9
  refine V_aload_n (n := 0) X d_Mod_gets_153 rfl rfl rfl ?_
  refine V_getr (k2 := 186) X fo_Mod_91 kd_162 rfl rf_162_45 d_Mod_gets_154 rfl ?_
  refine V_iload_n (n := 1) X d_Mod_gets_157 rfl rfl rfl ?_
  obtain ⟨hb, h⟩ := ifn h
  refine V_zald X kd_186 (inb_in ln_186 hb) d_Mod_gets_158 rfl ?_
  obtain ⟨hq, h⟩ := ifn h
  exact V_zret X (kr ((x20.1 186 v2.toNatClampNeg), x20) (Option.some.inj h).symm) hq d_Mod_gets_159
