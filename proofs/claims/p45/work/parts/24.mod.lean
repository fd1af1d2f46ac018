theorem d_Mod_goMinute_0 : decode b_Mod_goMinute 0 = .ok (.aload_n 0, 1) := kq_42 byq_r (by decide +kernel)
theorem d_Mod_goMinute_1 : decode b_Mod_goMinute 1 = .ok (.iconst 0, 1) := kq_3 byq_r (by decide +kernel)
theorem d_Mod_goMinute_2 : decode b_Mod_goMinute 2 = .ok (.putfield 324, 3) := kq_181 byq_r (a := 1) (b := 68) (by decide +kernel)
theorem d_Mod_goMinute_5 : decode b_Mod_goMinute 5 = .ok (.aload_n 0, 1) := kq_42 byq_r (by decide +kernel)
theorem d_Mod_goMinute_6 : decode b_Mod_goMinute 6 = .ok (.iconst 0, 1) := kq_3 byq_r (by decide +kernel)
theorem d_Mod_goMinute_7 : decode b_Mod_goMinute 7 = .ok (.putfield 327, 3) := kq_181 byq_r (a := 1) (b := 71) (by decide +kernel)
theorem d_Mod_goMinute_10 : decode b_Mod_goMinute 10 = .ok (.iconst 0, 1) := kq_3 byq_r (by decide +kernel)
theorem d_Mod_goMinute_11 : decode b_Mod_goMinute 11 = .ok (.istore_n 2, 1) := kq_61 byq_r (by decide +kernel)
theorem d_Mod_goMinute_12 : decode b_Mod_goMinute 12 = .ok (.iload_n 2, 1) := kq_28 byq_r (by decide +kernel)
theorem d_Mod_goMinute_13 : decode b_Mod_goMinute 13 = .ok (.aload_n 0, 1) := kq_42 byq_r (by decide +kernel)
theorem d_Mod_goMinute_14 : decode b_Mod_goMinute 14 = .ok (.getfield 123, 3) := kq_180 byq_r (a := 0) (b := 123) (by decide +kernel)
theorem d_Mod_goMinute_17 : decode b_Mod_goMinute 17 = .ok (.if_icmp .ge 95, 3) := kq_162 byq_r (a := 0) (b := 95) (by decide +kernel)
theorem d_Mod_goMinute_20 : decode b_Mod_goMinute 20 = .ok (.aload_n 0, 1) := kq_42 byq_r (by decide +kernel)
theorem d_Mod_goMinute_21 : decode b_Mod_goMinute 21 = .ok (.aload_n 1, 1) := kq_43 byq_r (by decide +kernel)
theorem d_Mod_goMinute_22 : decode b_Mod_goMinute 22 = .ok (.iload_n 2, 1) := kq_28 byq_r (by decide +kernel)
theorem d_Mod_goMinute_23 : decode b_Mod_goMinute 23 = .ok (.invokevirtual 268, 3) := kq_182 byq_r (a := 1) (b := 12) (by decide +kernel)
theorem d_Mod_goMinute_26 : decode b_Mod_goMinute 26 = .ok (.ifCond .ne 6, 3) := kq_154 byq_r (a := 0) (b := 6) (by decide +kernel)
theorem d_Mod_goMinute_29 : decode b_Mod_goMinute 29 = .ok (.goto 77, 3) := kq_167 byq_r (a := 0) (b := 77) (by decide +kernel)
theorem d_Mod_goMinute_32 : decode b_Mod_goMinute 32 = .ok (.aload_n 0, 1) := kq_42 byq_r (by decide +kernel)
theorem d_Mod_goMinute_33 : decode b_Mod_goMinute 33 = .ok (.aload_n 1, 1) := kq_43 byq_r (by decide +kernel)
theorem d_Mod_goMinute_34 : decode b_Mod_goMinute 34 = .ok (.aload_n 1, 1) := kq_43 byq_r (by decide +kernel)
theorem d_Mod_goMinute_35 : decode b_Mod_goMinute 35 = .ok (.iload_n 2, 1) := kq_28 byq_r (by decide +kernel)
theorem d_Mod_goMinute_36 : decode b_Mod_goMinute 36 = .ok (.iaload, 1) := kq_46 byq_r (by decide +kernel)
theorem d_Mod_goMinute_37 : decode b_Mod_goMinute 37 = .ok (.aload_n 0, 1) := kq_42 byq_r (by decide +kernel)
theorem d_Mod_goMinute_38 : decode b_Mod_goMinute 38 = .ok (.getfield 23, 3) := kq_180 byq_r (a := 0) (b := 23) (by decide +kernel)
theorem d_Mod_goMinute_41 : decode b_Mod_goMinute 41 = .ok (.bipush 9, 2) := kq_16 byq_r (b := 9) (by decide +kernel)
theorem d_Mod_goMinute_43 : decode b_Mod_goMinute 43 = .ok (.iload_n 2, 1) := kq_28 byq_r (by decide +kernel)
theorem d_Mod_goMinute_44 : decode b_Mod_goMinute 44 = .ok (.imul, 1) := kq_104 byq_r (by decide +kernel)
theorem d_Mod_goMinute_45 : decode b_Mod_goMinute 45 = .ok (.aload_n 1, 1) := kq_43 byq_r (by decide +kernel)
theorem d_Mod_goMinute_46 : decode b_Mod_goMinute 46 = .ok (.bipush 8, 2) := kq_16 byq_r (b := 8) (by decide +kernel)
theorem d_Mod_goMinute_48 : decode b_Mod_goMinute 48 = .ok (.iload_n 2, 1) := kq_28 byq_r (by decide +kernel)
theorem d_Mod_goMinute_49 : decode b_Mod_goMinute 49 = .ok (.iadd, 1) := kq_96 byq_r (by decide +kernel)
theorem d_Mod_goMinute_50 : decode b_Mod_goMinute 50 = .ok (.iaload, 1) := kq_46 byq_r (by decide +kernel)
theorem d_Mod_goMinute_51 : decode b_Mod_goMinute 51 = .ok (.iadd, 1) := kq_96 byq_r (by decide +kernel)
theorem d_Mod_goMinute_52 : decode b_Mod_goMinute 52 = .ok (.iaload, 1) := kq_46 byq_r (by decide +kernel)
theorem d_Mod_goMinute_53 : decode b_Mod_goMinute 53 = .ok (.invokevirtual 252, 3) := kq_182 byq_r (a := 0) (b := 252) (by decide +kernel)
theorem d_Mod_goMinute_56 : decode b_Mod_goMinute 56 = .ok (.istore_n 3, 1) := kq_62 byq_r (by decide +kernel)
theorem d_Mod_goMinute_57 : decode b_Mod_goMinute 57 = .ok (.iload_n 3, 1) := kq_29 byq_r (by decide +kernel)
theorem d_Mod_goMinute_58 : decode b_Mod_goMinute 58 = .ok (.iconst (-1), 1) := kq_2 byq_r (by decide +kernel)
theorem d_Mod_goMinute_59 : decode b_Mod_goMinute 59 = .ok (.if_icmp .eq 26, 3) := kq_159 byq_r (a := 0) (b := 26) (by decide +kernel)
theorem d_Mod_goMinute_62 : decode b_Mod_goMinute 62 = .ok (.iload_n 3, 1) := kq_29 byq_r (by decide +kernel)
theorem d_Mod_goMinute_63 : decode b_Mod_goMinute 63 = .ok (.aload_n 1, 1) := kq_43 byq_r (by decide +kernel)
theorem d_Mod_goMinute_64 : decode b_Mod_goMinute 64 = .ok (.iload_n 2, 1) := kq_28 byq_r (by decide +kernel)
theorem d_Mod_goMinute_65 : decode b_Mod_goMinute 65 = .ok (.iaload, 1) := kq_46 byq_r (by decide +kernel)
theorem d_Mod_goMinute_66 : decode b_Mod_goMinute 66 = .ok (.if_icmp .eq 19, 3) := kq_159 byq_r (a := 0) (b := 19) (by decide +kernel)
theorem d_Mod_goMinute_69 : decode b_Mod_goMinute 69 = .ok (.aload_n 1, 1) := kq_43 byq_r (by decide +kernel)
theorem d_Mod_goMinute_70 : decode b_Mod_goMinute 70 = .ok (.iload_n 2, 1) := kq_28 byq_r (by decide +kernel)
theorem d_Mod_goMinute_71 : decode b_Mod_goMinute 71 = .ok (.iload_n 3, 1) := kq_29 byq_r (by decide +kernel)
theorem d_Mod_goMinute_72 : decode b_Mod_goMinute 72 = .ok (.iastore, 1) := kq_79 byq_r (by decide +kernel)
theorem d_Mod_goMinute_73 : decode b_Mod_goMinute 73 = .ok (.aload_n 0, 1) := kq_42 byq_r (by decide +kernel)
theorem d_Mod_goMinute_74 : decode b_Mod_goMinute 74 = .ok (.dup, 1) := kq_89 byq_r (by decide +kernel)
theorem d_Mod_goMinute_75 : decode b_Mod_goMinute 75 = .ok (.getfield 324, 3) := kq_180 byq_r (a := 1) (b := 68) (by decide +kernel)
theorem d_Mod_goMinute_78 : decode b_Mod_goMinute 78 = .ok (.iconst 1, 1) := kq_4 byq_r (by decide +kernel)
theorem d_Mod_goMinute_79 : decode b_Mod_goMinute 79 = .ok (.iload_n 2, 1) := kq_28 byq_r (by decide +kernel)
theorem d_Mod_goMinute_80 : decode b_Mod_goMinute 80 = .ok (.ishl, 1) := kq_120 byq_r (by decide +kernel)
theorem d_Mod_goMinute_81 : decode b_Mod_goMinute 81 = .ok (.ior, 1) := kq_128 byq_r (by decide +kernel)
theorem d_Mod_goMinute_82 : decode b_Mod_goMinute 82 = .ok (.putfield 324, 3) := kq_181 byq_r (a := 1) (b := 68) (by decide +kernel)
theorem d_Mod_goMinute_85 : decode b_Mod_goMinute 85 = .ok (.aload_n 1, 1) := kq_43 byq_r (by decide +kernel)
theorem d_Mod_goMinute_86 : decode b_Mod_goMinute 86 = .ok (.bipush 8, 2) := kq_16 byq_r (b := 8) (by decide +kernel)
theorem d_Mod_goMinute_88 : decode b_Mod_goMinute 88 = .ok (.iload_n 2, 1) := kq_28 byq_r (by decide +kernel)
theorem d_Mod_goMinute_89 : decode b_Mod_goMinute 89 = .ok (.iadd, 1) := kq_96 byq_r (by decide +kernel)
theorem d_Mod_goMinute_90 : decode b_Mod_goMinute 90 = .ok (.aload_n 1, 1) := kq_43 byq_r (by decide +kernel)
theorem d_Mod_goMinute_91 : decode b_Mod_goMinute 91 = .ok (.bipush 8, 2) := kq_16 byq_r (b := 8) (by decide +kernel)
theorem d_Mod_goMinute_93 : decode b_Mod_goMinute 93 = .ok (.iload_n 2, 1) := kq_28 byq_r (by decide +kernel)
theorem d_Mod_goMinute_94 : decode b_Mod_goMinute 94 = .ok (.iadd, 1) := kq_96 byq_r (by decide +kernel)
theorem d_Mod_goMinute_95 : decode b_Mod_goMinute 95 = .ok (.iaload, 1) := kq_46 byq_r (by decide +kernel)
theorem d_Mod_goMinute_96 : decode b_Mod_goMinute 96 = .ok (.iconst 1, 1) := kq_4 byq_r (by decide +kernel)
theorem d_Mod_goMinute_97 : decode b_Mod_goMinute 97 = .ok (.iadd, 1) := kq_96 byq_r (by decide +kernel)
theorem d_Mod_goMinute_98 : decode b_Mod_goMinute 98 = .ok (.aload_n 0, 1) := kq_42 byq_r (by decide +kernel)
theorem d_Mod_goMinute_99 : decode b_Mod_goMinute 99 = .ok (.getfield 26, 3) := kq_180 byq_r (a := 0) (b := 26) (by decide +kernel)
theorem d_Mod_goMinute_102 : decode b_Mod_goMinute 102 = .ok (.iload_n 2, 1) := kq_28 byq_r (by decide +kernel)
theorem d_Mod_goMinute_103 : decode b_Mod_goMinute 103 = .ok (.iaload, 1) := kq_46 byq_r (by decide +kernel)
theorem d_Mod_goMinute_104 : decode b_Mod_goMinute 104 = .ok (.irem, 1) := kq_112 byq_r (by decide +kernel)
theorem d_Mod_goMinute_105 : decode b_Mod_goMinute 105 = .ok (.iastore, 1) := kq_79 byq_r (by decide +kernel)
theorem d_Mod_goMinute_106 : decode b_Mod_goMinute 106 = .ok (.iinc 2 1, 3) := kq_132 byq_r (b := 1) (by decide +kernel)
theorem d_Mod_goMinute_109 : decode b_Mod_goMinute 109 = .ok (.goto (-97), 3) := kq_167 byq_r (a := 255) (b := 159) (by decide +kernel)
theorem d_Mod_goMinute_112 : decode b_Mod_goMinute 112 = .ok (.iconst 0, 1) := kq_3 byq_r (by decide +kernel)
theorem d_Mod_goMinute_113 : decode b_Mod_goMinute 113 = .ok (.istore_n 2, 1) := kq_61 byq_r (by decide +kernel)
theorem d_Mod_goMinute_114 : decode b_Mod_goMinute 114 = .ok (.iload_n 2, 1) := kq_28 byq_r (by decide +kernel)
theorem d_Mod_goMinute_115 : decode b_Mod_goMinute 115 = .ok (.aload_n 0, 1) := kq_42 byq_r (by decide +kernel)
theorem d_Mod_goMinute_116 : decode b_Mod_goMinute 116 = .ok (.getfield 123, 3) := kq_180 byq_r (a := 0) (b := 123) (by decide +kernel)
theorem d_Mod_goMinute_119 : decode b_Mod_goMinute 119 = .ok (.if_icmp .ge 100, 3) := kq_162 byq_r (a := 0) (b := 100) (by decide +kernel)
theorem d_Mod_goMinute_122 : decode b_Mod_goMinute 122 = .ok (.iconst 0, 1) := kq_3 byq_r (by decide +kernel)
theorem d_Mod_goMinute_123 : decode b_Mod_goMinute 123 = .ok (.istore_n 3, 1) := kq_62 byq_r (by decide +kernel)
theorem d_Mod_goMinute_124 : decode b_Mod_goMinute 124 = .ok (.iload_n 3, 1) := kq_29 byq_r (by decide +kernel)
theorem d_Mod_goMinute_125 : decode b_Mod_goMinute 125 = .ok (.aload_n 0, 1) := kq_42 byq_r (by decide +kernel)
theorem d_Mod_goMinute_126 : decode b_Mod_goMinute 126 = .ok (.getfield 123, 3) := kq_180 byq_r (a := 0) (b := 123) (by decide +kernel)
theorem d_Mod_goMinute_129 : decode b_Mod_goMinute 129 = .ok (.if_icmp .ge 84, 3) := kq_162 byq_r (a := 0) (b := 84) (by decide +kernel)
theorem d_Mod_goMinute_132 : decode b_Mod_goMinute 132 = .ok (.aload_n 0, 1) := kq_42 byq_r (by decide +kernel)
theorem d_Mod_goMinute_133 : decode b_Mod_goMinute 133 = .ok (.getfield 130, 3) := kq_180 byq_r (a := 0) (b := 130) (by decide +kernel)
theorem d_Mod_goMinute_136 : decode b_Mod_goMinute 136 = .ok (.iload_n 2, 1) := kq_28 byq_r (by decide +kernel)
theorem d_Mod_goMinute_137 : decode b_Mod_goMinute 137 = .ok (.invokestatic 133, 3) := kq_184 byq_r (a := 0) (b := 133) (by decide +kernel)
theorem d_Mod_goMinute_140 : decode b_Mod_goMinute 140 = .ok (.ifCond .ne 67, 3) := kq_154 byq_r (a := 0) (b := 67) (by decide +kernel)
theorem d_Mod_goMinute_143 : decode b_Mod_goMinute 143 = .ok (.aload_n 0, 1) := kq_42 byq_r (by decide +kernel)
theorem d_Mod_goMinute_144 : decode b_Mod_goMinute 144 = .ok (.getfield 130, 3) := kq_180 byq_r (a := 0) (b := 130) (by decide +kernel)
theorem d_Mod_goMinute_147 : decode b_Mod_goMinute 147 = .ok (.iload_n 3, 1) := kq_29 byq_r (by decide +kernel)
theorem d_Mod_goMinute_148 : decode b_Mod_goMinute 148 = .ok (.invokestatic 133, 3) := kq_184 byq_r (a := 0) (b := 133) (by decide +kernel)
theorem d_Mod_goMinute_151 : decode b_Mod_goMinute 151 = .ok (.ifCond .eq 56, 3) := kq_153 byq_r (a := 0) (b := 56) (by decide +kernel)
theorem d_Mod_goMinute_154 : decode b_Mod_goMinute 154 = .ok (.aload_n 0, 1) := kq_42 byq_r (by decide +kernel)
theorem d_Mod_goMinute_155 : decode b_Mod_goMinute 155 = .ok (.aload_n 1, 1) := kq_43 byq_r (by decide +kernel)
theorem d_Mod_goMinute_156 : decode b_Mod_goMinute 156 = .ok (.iload_n 2, 1) := kq_28 byq_r (by decide +kernel)
theorem d_Mod_goMinute_157 : decode b_Mod_goMinute 157 = .ok (.iload_n 3, 1) := kq_29 byq_r (by decide +kernel)
theorem d_Mod_goMinute_158 : decode b_Mod_goMinute 158 = .ok (.invokevirtual 330, 3) := kq_182 byq_r (a := 1) (b := 74) (by decide +kernel)
theorem d_Mod_goMinute_161 : decode b_Mod_goMinute 161 = .ok (.ifCond .ne 6, 3) := kq_154 byq_r (a := 0) (b := 6) (by decide +kernel)
theorem d_Mod_goMinute_164 : decode b_Mod_goMinute 164 = .ok (.goto 43, 3) := kq_167 byq_r (a := 0) (b := 43) (by decide +kernel)
theorem d_Mod_goMinute_167 : decode b_Mod_goMinute 167 = .ok (.aload_n 1, 1) := kq_43 byq_r (by decide +kernel)
theorem d_Mod_goMinute_168 : decode b_Mod_goMinute 168 = .ok (.bipush 16, 2) := kq_16 byq_r (b := 16) (by decide +kernel)
theorem d_Mod_goMinute_170 : decode b_Mod_goMinute 170 = .ok (.bipush 8, 2) := kq_16 byq_r (b := 8) (by decide +kernel)
theorem d_Mod_goMinute_172 : decode b_Mod_goMinute 172 = .ok (.iload_n 2, 1) := kq_28 byq_r (by decide +kernel)
theorem d_Mod_goMinute_173 : decode b_Mod_goMinute 173 = .ok (.imul, 1) := kq_104 byq_r (by decide +kernel)
theorem d_Mod_goMinute_174 : decode b_Mod_goMinute 174 = .ok (.iadd, 1) := kq_96 byq_r (by decide +kernel)
theorem d_Mod_goMinute_175 : decode b_Mod_goMinute 175 = .ok (.iload_n 3, 1) := kq_29 byq_r (by decide +kernel)
theorem d_Mod_goMinute_176 : decode b_Mod_goMinute 176 = .ok (.iadd, 1) := kq_96 byq_r (by decide +kernel)
theorem d_Mod_goMinute_177 : decode b_Mod_goMinute 177 = .ok (.dup2, 1) := kq_92 byq_r (by decide +kernel)
theorem d_Mod_goMinute_178 : decode b_Mod_goMinute 178 = .ok (.iaload, 1) := kq_46 byq_r (by decide +kernel)
theorem d_Mod_goMinute_179 : decode b_Mod_goMinute 179 = .ok (.iconst 1, 1) := kq_4 byq_r (by decide +kernel)
theorem d_Mod_goMinute_180 : decode b_Mod_goMinute 180 = .ok (.iadd, 1) := kq_96 byq_r (by decide +kernel)
theorem d_Mod_goMinute_181 : decode b_Mod_goMinute 181 = .ok (.iastore, 1) := kq_79 byq_r (by decide +kernel)
theorem d_Mod_goMinute_182 : decode b_Mod_goMinute 182 = .ok (.aload_n 1, 1) := kq_43 byq_r (by decide +kernel)
theorem d_Mod_goMinute_183 : decode b_Mod_goMinute 183 = .ok (.bipush 16, 2) := kq_16 byq_r (b := 16) (by decide +kernel)
theorem d_Mod_goMinute_185 : decode b_Mod_goMinute 185 = .ok (.bipush 8, 2) := kq_16 byq_r (b := 8) (by decide +kernel)
theorem d_Mod_goMinute_187 : decode b_Mod_goMinute 187 = .ok (.iload_n 3, 1) := kq_29 byq_r (by decide +kernel)
theorem d_Mod_goMinute_188 : decode b_Mod_goMinute 188 = .ok (.imul, 1) := kq_104 byq_r (by decide +kernel)
theorem d_Mod_goMinute_189 : decode b_Mod_goMinute 189 = .ok (.iadd, 1) := kq_96 byq_r (by decide +kernel)
theorem d_Mod_goMinute_190 : decode b_Mod_goMinute 190 = .ok (.iload_n 2, 1) := kq_28 byq_r (by decide +kernel)
theorem d_Mod_goMinute_191 : decode b_Mod_goMinute 191 = .ok (.iadd, 1) := kq_96 byq_r (by decide +kernel)
theorem d_Mod_goMinute_192 : decode b_Mod_goMinute 192 = .ok (.dup2, 1) := kq_92 byq_r (by decide +kernel)
theorem d_Mod_goMinute_193 : decode b_Mod_goMinute 193 = .ok (.iaload, 1) := kq_46 byq_r (by decide +kernel)
theorem d_Mod_goMinute_194 : decode b_Mod_goMinute 194 = .ok (.iconst 1, 1) := kq_4 byq_r (by decide +kernel)
theorem d_Mod_goMinute_195 : decode b_Mod_goMinute 195 = .ok (.iadd, 1) := kq_96 byq_r (by decide +kernel)
theorem d_Mod_goMinute_196 : decode b_Mod_goMinute 196 = .ok (.iastore, 1) := kq_79 byq_r (by decide +kernel)
theorem d_Mod_goMinute_197 : decode b_Mod_goMinute 197 = .ok (.aload_n 0, 1) := kq_42 byq_r (by decide +kernel)
theorem d_Mod_goMinute_198 : decode b_Mod_goMinute 198 = .ok (.dup, 1) := kq_89 byq_r (by decide +kernel)
theorem d_Mod_goMinute_199 : decode b_Mod_goMinute 199 = .ok (.getfield 327, 3) := kq_180 byq_r (a := 1) (b := 71) (by decide +kernel)
theorem d_Mod_goMinute_202 : decode b_Mod_goMinute 202 = .ok (.iconst 1, 1) := kq_4 byq_r (by decide +kernel)
theorem d_Mod_goMinute_203 : decode b_Mod_goMinute 203 = .ok (.iadd, 1) := kq_96 byq_r (by decide +kernel)
theorem d_Mod_goMinute_204 : decode b_Mod_goMinute 204 = .ok (.putfield 327, 3) := kq_181 byq_r (a := 1) (b := 71) (by decide +kernel)
theorem d_Mod_goMinute_207 : decode b_Mod_goMinute 207 = .ok (.iinc 3 1, 3) := kq_132 byq_r (b := 1) (by decide +kernel)
theorem d_Mod_goMinute_210 : decode b_Mod_goMinute 210 = .ok (.goto (-86), 3) := kq_167 byq_r (a := 255) (b := 170) (by decide +kernel)
theorem d_Mod_goMinute_213 : decode b_Mod_goMinute 213 = .ok (.iinc 2 1, 3) := kq_132 byq_r (b := 1) (by decide +kernel)
theorem d_Mod_goMinute_216 : decode b_Mod_goMinute 216 = .ok (.goto (-102), 3) := kq_167 byq_r (a := 255) (b := 154) (by decide +kernel)
theorem d_Mod_goMinute_219 : decode b_Mod_goMinute 219 = .ok (.aload_n 1, 1) := kq_43 byq_r (by decide +kernel)
theorem d_Mod_goMinute_220 : decode b_Mod_goMinute 220 = .ok (.bipush 93, 2) := kq_16 byq_r (b := 93) (by decide +kernel)
theorem d_Mod_goMinute_222 : decode b_Mod_goMinute 222 = .ok (.iaload, 1) := kq_46 byq_r (by decide +kernel)
theorem d_Mod_goMinute_223 : decode b_Mod_goMinute 223 = .ok (.istore_n 2, 1) := kq_61 byq_r (by decide +kernel)
theorem d_Mod_goMinute_224 : decode b_Mod_goMinute 224 = .ok (.iconst 0, 1) := kq_3 byq_r (by decide +kernel)
theorem d_Mod_goMinute_225 : decode b_Mod_goMinute 225 = .ok (.istore_n 3, 1) := kq_62 byq_r (by decide +kernel)
theorem d_Mod_goMinute_226 : decode b_Mod_goMinute 226 = .ok (.iload_n 3, 1) := kq_29 byq_r (by decide +kernel)
theorem d_Mod_goMinute_227 : decode b_Mod_goMinute 227 = .ok (.aload_n 0, 1) := kq_42 byq_r (by decide +kernel)
theorem d_Mod_goMinute_228 : decode b_Mod_goMinute 228 = .ok (.getfield 123, 3) := kq_180 byq_r (a := 0) (b := 123) (by decide +kernel)
theorem d_Mod_goMinute_231 : decode b_Mod_goMinute 231 = .ok (.if_icmp .ge 30, 3) := kq_162 byq_r (a := 0) (b := 30) (by decide +kernel)
theorem d_Mod_goMinute_234 : decode b_Mod_goMinute 234 = .ok (.iload_n 2, 1) := kq_28 byq_r (by decide +kernel)
theorem d_Mod_goMinute_235 : decode b_Mod_goMinute 235 = .ok (.iload_n 3, 1) := kq_29 byq_r (by decide +kernel)
theorem d_Mod_goMinute_236 : decode b_Mod_goMinute 236 = .ok (.invokestatic 133, 3) := kq_184 byq_r (a := 0) (b := 133) (by decide +kernel)
theorem d_Mod_goMinute_239 : decode b_Mod_goMinute 239 = .ok (.ifCond .eq 16, 3) := kq_153 byq_r (a := 0) (b := 16) (by decide +kernel)
theorem d_Mod_goMinute_242 : decode b_Mod_goMinute 242 = .ok (.aload_n 1, 1) := kq_43 byq_r (by decide +kernel)
theorem d_Mod_goMinute_243 : decode b_Mod_goMinute 243 = .ok (.bipush 93, 2) := kq_16 byq_r (b := 93) (by decide +kernel)
theorem d_Mod_goMinute_245 : decode b_Mod_goMinute 245 = .ok (.dup2, 1) := kq_92 byq_r (by decide +kernel)
theorem d_Mod_goMinute_246 : decode b_Mod_goMinute 246 = .ok (.iaload, 1) := kq_46 byq_r (by decide +kernel)
theorem d_Mod_goMinute_247 : decode b_Mod_goMinute 247 = .ok (.aload_n 0, 1) := kq_42 byq_r (by decide +kernel)
theorem d_Mod_goMinute_248 : decode b_Mod_goMinute 248 = .ok (.aload_n 1, 1) := kq_43 byq_r (by decide +kernel)
theorem d_Mod_goMinute_249 : decode b_Mod_goMinute 249 = .ok (.iload_n 3, 1) := kq_29 byq_r (by decide +kernel)
theorem d_Mod_goMinute_250 : decode b_Mod_goMinute 250 = .ok (.invokevirtual 333, 3) := kq_182 byq_r (a := 1) (b := 77) (by decide +kernel)
theorem d_Mod_goMinute_253 : decode b_Mod_goMinute 253 = .ok (.ior, 1) := kq_128 byq_r (by decide +kernel)
theorem d_Mod_goMinute_254 : decode b_Mod_goMinute 254 = .ok (.iastore, 1) := kq_79 byq_r (by decide +kernel)
theorem d_Mod_goMinute_255 : decode b_Mod_goMinute 255 = .ok (.iinc 3 1, 3) := kq_132 byq_r (b := 1) (by decide +kernel)
theorem d_Mod_goMinute_258 : decode b_Mod_goMinute 258 = .ok (.goto (-32), 3) := kq_167 byq_r (a := 255) (b := 224) (by decide +kernel)
theorem d_Mod_goMinute_261 : decode b_Mod_goMinute 261 = .ok (.aload_n 0, 1) := kq_42 byq_r (by decide +kernel)
theorem d_Mod_goMinute_262 : decode b_Mod_goMinute 262 = .ok (.aload_n 1, 1) := kq_43 byq_r (by decide +kernel)
theorem d_Mod_goMinute_263 : decode b_Mod_goMinute 263 = .ok (.bipush 93, 2) := kq_16 byq_r (b := 93) (by decide +kernel)
theorem d_Mod_goMinute_265 : decode b_Mod_goMinute 265 = .ok (.iaload, 1) := kq_46 byq_r (by decide +kernel)
theorem d_Mod_goMinute_266 : decode b_Mod_goMinute 266 = .ok (.iload_n 2, 1) := kq_28 byq_r (by decide +kernel)
theorem d_Mod_goMinute_267 : decode b_Mod_goMinute 267 = .ok (.iconst (-1), 1) := kq_2 byq_r (by decide +kernel)
theorem d_Mod_goMinute_268 : decode b_Mod_goMinute 268 = .ok (.ixor, 1) := kq_130 byq_r (by decide +kernel)
theorem d_Mod_goMinute_269 : decode b_Mod_goMinute 269 = .ok (.iand, 1) := kq_126 byq_r (by decide +kernel)
theorem d_Mod_goMinute_270 : decode b_Mod_goMinute 270 = .ok (.putfield 336, 3) := kq_181 byq_r (a := 1) (b := 80) (by decide +kernel)
theorem d_Mod_goMinute_273 : decode b_Mod_goMinute 273 = .ok (.aload_n 1, 1) := kq_43 byq_r (by decide +kernel)
theorem d_Mod_goMinute_274 : decode b_Mod_goMinute 274 = .ok (.bipush 95, 2) := kq_16 byq_r (b := 95) (by decide +kernel)
theorem d_Mod_goMinute_276 : decode b_Mod_goMinute 276 = .ok (.dup2, 1) := kq_92 byq_r (by decide +kernel)
theorem d_Mod_goMinute_277 : decode b_Mod_goMinute 277 = .ok (.iaload, 1) := kq_46 byq_r (by decide +kernel)
theorem d_Mod_goMinute_278 : decode b_Mod_goMinute 278 = .ok (.iconst 1, 1) := kq_4 byq_r (by decide +kernel)
theorem d_Mod_goMinute_279 : decode b_Mod_goMinute 279 = .ok (.iadd, 1) := kq_96 byq_r (by decide +kernel)
theorem d_Mod_goMinute_280 : decode b_Mod_goMinute 280 = .ok (.iastore, 1) := kq_79 byq_r (by decide +kernel)
theorem d_Mod_goMinute_281 : decode b_Mod_goMinute 281 = .ok (.return_, 1) := kq_177 byq_r (by decide +kernel)
theorem d_Mod_minute_0 : decode b_Mod_minute 0 = .ok (.aload_n 0, 1) := kq_42 byq_r (by decide +kernel)
theorem d_Mod_minute_1 : decode b_Mod_minute 1 = .ok (.iconst 0, 1) := kq_3 byq_r (by decide +kernel)
theorem d_Mod_minute_2 : decode b_Mod_minute 2 = .ok (.putfield 109, 3) := kq_181 byq_r (a := 0) (b := 109) (by decide +kernel)
theorem d_Mod_minute_5 : decode b_Mod_minute 5 = .ok (.aload_n 0, 1) := kq_42 byq_r (by decide +kernel)
theorem d_Mod_minute_6 : decode b_Mod_minute 6 = .ok (.aload_n 0, 1) := kq_42 byq_r (by decide +kernel)
theorem d_Mod_minute_7 : decode b_Mod_minute 7 = .ok (.getfield 9, 3) := kq_180 byq_r (a := 0) (b := 9) (by decide +kernel)
theorem d_Mod_minute_10 : decode b_Mod_minute 10 = .ok (.invokevirtual 293, 3) := kq_182 byq_r (a := 1) (b := 37) (by decide +kernel)
theorem d_Mod_minute_13 : decode b_Mod_minute 13 = .ok (.aload_n 0, 1) := kq_42 byq_r (by decide +kernel)
theorem d_Mod_minute_14 : decode b_Mod_minute 14 = .ok (.aload_n 0, 1) := kq_42 byq_r (by decide +kernel)
theorem d_Mod_minute_15 : decode b_Mod_minute 15 = .ok (.getfield 9, 3) := kq_180 byq_r (a := 0) (b := 9) (by decide +kernel)
theorem d_Mod_minute_18 : decode b_Mod_minute 18 = .ok (.invokevirtual 339, 3) := kq_182 byq_r (a := 1) (b := 83) (by decide +kernel)
theorem d_Mod_minute_21 : decode b_Mod_minute 21 = .ok (.aload_n 0, 1) := kq_42 byq_r (by decide +kernel)
theorem d_Mod_minute_22 : decode b_Mod_minute 22 = .ok (.iconst 0, 1) := kq_3 byq_r (by decide +kernel)
theorem d_Mod_minute_23 : decode b_Mod_minute 23 = .ok (.putfield 112, 3) := kq_181 byq_r (a := 0) (b := 112) (by decide +kernel)
theorem d_Mod_minute_26 : decode b_Mod_minute 26 = .ok (.aload_n 0, 1) := kq_42 byq_r (by decide +kernel)
theorem d_Mod_minute_27 : decode b_Mod_minute 27 = .ok (.aload_n 0, 1) := kq_42 byq_r (by decide +kernel)
theorem d_Mod_minute_28 : decode b_Mod_minute 28 = .ok (.getfield 324, 3) := kq_180 byq_r (a := 1) (b := 68) (by decide +kernel)
theorem d_Mod_minute_31 : decode b_Mod_minute 31 = .ok (.invokevirtual 342, 3) := kq_182 byq_r (a := 1) (b := 86) (by decide +kernel)
theorem d_Mod_minute_34 : decode b_Mod_minute 34 = .ok (.aload_n 0, 1) := kq_42 byq_r (by decide +kernel)
theorem d_Mod_minute_35 : decode b_Mod_minute 35 = .ok (.aload_n 0, 1) := kq_42 byq_r (by decide +kernel)
theorem d_Mod_minute_36 : decode b_Mod_minute 36 = .ok (.getfield 336, 3) := kq_180 byq_r (a := 1) (b := 80) (by decide +kernel)
theorem d_Mod_minute_39 : decode b_Mod_minute 39 = .ok (.invokevirtual 342, 3) := kq_182 byq_r (a := 1) (b := 86) (by decide +kernel)
theorem d_Mod_minute_42 : decode b_Mod_minute 42 = .ok (.aload_n 0, 1) := kq_42 byq_r (by decide +kernel)
theorem d_Mod_minute_43 : decode b_Mod_minute 43 = .ok (.getfield 327, 3) := kq_180 byq_r (a := 1) (b := 71) (by decide +kernel)
theorem d_Mod_minute_46 : decode b_Mod_minute 46 = .ok (.ireturn, 1) := kq_172 byq_r (by decide +kernel)
theorem d_Mod_minutes_0 : decode b_Mod_minutes 0 = .ok (.aload_n 0, 1) := kq_42 byq_r (by decide +kernel)
theorem d_Mod_minutes_1 : decode b_Mod_minutes 1 = .ok (.iconst 0, 1) := kq_3 byq_r (by decide +kernel)
theorem d_Mod_minutes_2 : decode b_Mod_minutes 2 = .ok (.putfield 109, 3) := kq_181 byq_r (a := 0) (b := 109) (by decide +kernel)
theorem d_Mod_minutes_5 : decode b_Mod_minutes 5 = .ok (.iload_n 1, 1) := kq_27 byq_r (by decide +kernel)
theorem d_Mod_minutes_6 : decode b_Mod_minutes 6 = .ok (.iconst 0, 1) := kq_3 byq_r (by decide +kernel)
theorem d_Mod_minutes_7 : decode b_Mod_minutes 7 = .ok (.bipush 60, 2) := kq_16 byq_r (b := 60) (by decide +kernel)
theorem d_Mod_minutes_9 : decode b_Mod_minutes 9 = .ok (.invokestatic 119, 3) := kq_184 byq_r (a := 0) (b := 119) (by decide +kernel)
theorem d_Mod_minutes_12 : decode b_Mod_minutes 12 = .ok (.ifCond .ne 5, 3) := kq_154 byq_r (a := 0) (b := 5) (by decide +kernel)
theorem d_Mod_minutes_15 : decode b_Mod_minutes 15 = .ok (.iconst (-1), 1) := kq_2 byq_r (by decide +kernel)
theorem d_Mod_minutes_16 : decode b_Mod_minutes 16 = .ok (.ireturn, 1) := kq_172 byq_r (by decide +kernel)
theorem d_Mod_minutes_17 : decode b_Mod_minutes 17 = .ok (.iload_n 1, 1) := kq_27 byq_r (by decide +kernel)
theorem d_Mod_minutes_18 : decode b_Mod_minutes 18 = .ok (.ifCond .le 11, 3) := kq_158 byq_r (a := 0) (b := 11) (by decide +kernel)
theorem d_Mod_minutes_21 : decode b_Mod_minutes 21 = .ok (.aload_n 0, 1) := kq_42 byq_r (by decide +kernel)
theorem d_Mod_minutes_22 : decode b_Mod_minutes 22 = .ok (.aload_n 0, 1) := kq_42 byq_r (by decide +kernel)
theorem d_Mod_minutes_23 : decode b_Mod_minutes 23 = .ok (.getfield 9, 3) := kq_180 byq_r (a := 0) (b := 9) (by decide +kernel)
theorem d_Mod_minutes_26 : decode b_Mod_minutes 26 = .ok (.invokevirtual 293, 3) := kq_182 byq_r (a := 1) (b := 37) (by decide +kernel)
theorem d_Mod_minutes_29 : decode b_Mod_minutes 29 = .ok (.iconst 0, 1) := kq_3 byq_r (by decide +kernel)
theorem d_Mod_minutes_30 : decode b_Mod_minutes 30 = .ok (.istore_n 2, 1) := kq_61 byq_r (by decide +kernel)
theorem d_Mod_minutes_31 : decode b_Mod_minutes 31 = .ok (.iconst 0, 1) := kq_3 byq_r (by decide +kernel)
theorem d_Mod_minutes_32 : decode b_Mod_minutes 32 = .ok (.istore_n 3, 1) := kq_62 byq_r (by decide +kernel)
theorem d_Mod_minutes_33 : decode b_Mod_minutes 33 = .ok (.iconst 0, 1) := kq_3 byq_r (by decide +kernel)
theorem d_Mod_minutes_34 : decode b_Mod_minutes 34 = .ok (.istore 4, 2) := kq_54 byq_r (by decide +kernel)
theorem d_Mod_minutes_36 : decode b_Mod_minutes 36 = .ok (.iload 4, 2) := kq_21 byq_r (by decide +kernel)
theorem d_Mod_minutes_38 : decode b_Mod_minutes 38 = .ok (.iload_n 1, 1) := kq_27 byq_r (by decide +kernel)
theorem d_Mod_minutes_39 : decode b_Mod_minutes 39 = .ok (.if_icmp .ge 34, 3) := kq_162 byq_r (a := 0) (b := 34) (by decide +kernel)
theorem d_Mod_minutes_42 : decode b_Mod_minutes 42 = .ok (.aload_n 0, 1) := kq_42 byq_r (by decide +kernel)
theorem d_Mod_minutes_43 : decode b_Mod_minutes 43 = .ok (.aload_n 0, 1) := kq_42 byq_r (by decide +kernel)
theorem d_Mod_minutes_44 : decode b_Mod_minutes 44 = .ok (.getfield 9, 3) := kq_180 byq_r (a := 0) (b := 9) (by decide +kernel)
theorem d_Mod_minutes_47 : decode b_Mod_minutes 47 = .ok (.invokevirtual 339, 3) := kq_182 byq_r (a := 1) (b := 83) (by decide +kernel)
theorem d_Mod_minutes_50 : decode b_Mod_minutes 50 = .ok (.iload_n 2, 1) := kq_28 byq_r (by decide +kernel)
theorem d_Mod_minutes_51 : decode b_Mod_minutes 51 = .ok (.aload_n 0, 1) := kq_42 byq_r (by decide +kernel)
theorem d_Mod_minutes_52 : decode b_Mod_minutes 52 = .ok (.getfield 327, 3) := kq_180 byq_r (a := 1) (b := 71) (by decide +kernel)
theorem d_Mod_minutes_55 : decode b_Mod_minutes 55 = .ok (.iadd, 1) := kq_96 byq_r (by decide +kernel)
theorem d_Mod_minutes_56 : decode b_Mod_minutes 56 = .ok (.istore_n 2, 1) := kq_61 byq_r (by decide +kernel)
theorem d_Mod_minutes_57 : decode b_Mod_minutes 57 = .ok (.iload_n 3, 1) := kq_29 byq_r (by decide +kernel)
theorem d_Mod_minutes_58 : decode b_Mod_minutes 58 = .ok (.aload_n 0, 1) := kq_42 byq_r (by decide +kernel)
theorem d_Mod_minutes_59 : decode b_Mod_minutes 59 = .ok (.getfield 324, 3) := kq_180 byq_r (a := 1) (b := 68) (by decide +kernel)
theorem d_Mod_minutes_62 : decode b_Mod_minutes 62 = .ok (.invokestatic 310, 3) := kq_184 byq_r (a := 1) (b := 54) (by decide +kernel)
theorem d_Mod_minutes_65 : decode b_Mod_minutes 65 = .ok (.iadd, 1) := kq_96 byq_r (by decide +kernel)
theorem d_Mod_minutes_66 : decode b_Mod_minutes 66 = .ok (.istore_n 3, 1) := kq_62 byq_r (by decide +kernel)
theorem d_Mod_minutes_67 : decode b_Mod_minutes 67 = .ok (.iinc 4 1, 3) := kq_132 byq_r (b := 1) (by decide +kernel)
theorem d_Mod_minutes_70 : decode b_Mod_minutes 70 = .ok (.goto (-34), 3) := kq_167 byq_r (a := 255) (b := 222) (by decide +kernel)
theorem d_Mod_minutes_73 : decode b_Mod_minutes 73 = .ok (.aload_n 0, 1) := kq_42 byq_r (by decide +kernel)
theorem d_Mod_minutes_74 : decode b_Mod_minutes 74 = .ok (.iconst 0, 1) := kq_3 byq_r (by decide +kernel)
theorem d_Mod_minutes_75 : decode b_Mod_minutes 75 = .ok (.putfield 112, 3) := kq_181 byq_r (a := 0) (b := 112) (by decide +kernel)
theorem d_Mod_minutes_78 : decode b_Mod_minutes 78 = .ok (.aload_n 0, 1) := kq_42 byq_r (by decide +kernel)
theorem d_Mod_minutes_79 : decode b_Mod_minutes 79 = .ok (.iload_n 3, 1) := kq_29 byq_r (by decide +kernel)
theorem d_Mod_minutes_80 : decode b_Mod_minutes 80 = .ok (.invokevirtual 342, 3) := kq_182 byq_r (a := 1) (b := 86) (by decide +kernel)
theorem d_Mod_minutes_83 : decode b_Mod_minutes 83 = .ok (.aload_n 0, 1) := kq_42 byq_r (by decide +kernel)
theorem d_Mod_minutes_84 : decode b_Mod_minutes 84 = .ok (.aload_n 0, 1) := kq_42 byq_r (by decide +kernel)
theorem d_Mod_minutes_85 : decode b_Mod_minutes 85 = .ok (.getfield 9, 3) := kq_180 byq_r (a := 0) (b := 9) (by decide +kernel)
theorem d_Mod_minutes_88 : decode b_Mod_minutes 88 = .ok (.bipush 93, 2) := kq_16 byq_r (b := 93) (by decide +kernel)
theorem d_Mod_minutes_90 : decode b_Mod_minutes 90 = .ok (.iaload, 1) := kq_46 byq_r (by decide +kernel)
theorem d_Mod_minutes_91 : decode b_Mod_minutes 91 = .ok (.invokevirtual 342, 3) := kq_182 byq_r (a := 1) (b := 86) (by decide +kernel)
theorem d_Mod_minutes_94 : decode b_Mod_minutes 94 = .ok (.iload_n 2, 1) := kq_28 byq_r (by decide +kernel)
theorem d_Mod_minutes_95 : decode b_Mod_minutes 95 = .ok (.ireturn, 1) := kq_172 byq_r (by decide +kernel)
theorem d_Mod_readAct_0 : decode b_Mod_readAct 0 = .ok (.aload_n 0, 1) := kq_42 byq_r (by decide +kernel)
theorem d_Mod_readAct_1 : decode b_Mod_readAct 1 = .ok (.invokevirtual 183, 3) := kq_182 byq_r (a := 0) (b := 183) (by decide +kernel)
theorem d_Mod_readAct_4 : decode b_Mod_readAct 4 = .ok (.istore_n 2, 1) := kq_61 byq_r (by decide +kernel)
theorem d_Mod_readAct_5 : decode b_Mod_readAct 5 = .ok (.iload_n 2, 1) := kq_28 byq_r (by decide +kernel)
theorem d_Mod_readAct_6 : decode b_Mod_readAct 6 = .ok (.bipush 109, 2) := kq_16 byq_r (b := 109) (by decide +kernel)
theorem d_Mod_readAct_8 : decode b_Mod_readAct 8 = .ok (.if_icmp .eq 35, 3) := kq_159 byq_r (a := 0) (b := 35) (by decide +kernel)
theorem d_Mod_readAct_11 : decode b_Mod_readAct 11 = .ok (.iload_n 2, 1) := kq_28 byq_r (by decide +kernel)
theorem d_Mod_readAct_12 : decode b_Mod_readAct 12 = .ok (.bipush 110, 2) := kq_16 byq_r (b := 110) (by decide +kernel)
theorem d_Mod_readAct_14 : decode b_Mod_readAct 14 = .ok (.if_icmp .eq 29, 3) := kq_159 byq_r (a := 0) (b := 29) (by decide +kernel)
theorem d_Mod_readAct_17 : decode b_Mod_readAct 17 = .ok (.iload_n 2, 1) := kq_28 byq_r (by decide +kernel)
theorem d_Mod_readAct_18 : decode b_Mod_readAct 18 = .ok (.bipush 112, 2) := kq_16 byq_r (b := 112) (by decide +kernel)
theorem d_Mod_readAct_20 : decode b_Mod_readAct 20 = .ok (.if_icmp .eq 23, 3) := kq_159 byq_r (a := 0) (b := 23) (by decide +kernel)
theorem d_Mod_readAct_23 : decode b_Mod_readAct 23 = .ok (.iload_n 2, 1) := kq_28 byq_r (by decide +kernel)
theorem d_Mod_readAct_24 : decode b_Mod_readAct 24 = .ok (.bipush 120, 2) := kq_16 byq_r (b := 120) (by decide +kernel)
theorem d_Mod_readAct_26 : decode b_Mod_readAct 26 = .ok (.if_icmp .eq 17, 3) := kq_159 byq_r (a := 0) (b := 17) (by decide +kernel)
theorem d_Mod_readAct_29 : decode b_Mod_readAct 29 = .ok (.iload_n 2, 1) := kq_28 byq_r (by decide +kernel)
theorem d_Mod_readAct_30 : decode b_Mod_readAct 30 = .ok (.bipush 102, 2) := kq_16 byq_r (b := 102) (by decide +kernel)
theorem d_Mod_readAct_32 : decode b_Mod_readAct 32 = .ok (.if_icmp .eq 11, 3) := kq_159 byq_r (a := 0) (b := 11) (by decide +kernel)
theorem d_Mod_readAct_35 : decode b_Mod_readAct 35 = .ok (.aload_n 0, 1) := kq_42 byq_r (by decide +kernel)
theorem d_Mod_readAct_36 : decode b_Mod_readAct 36 = .ok (.aload_n 0, 1) := kq_42 byq_r (by decide +kernel)
theorem d_Mod_readAct_37 : decode b_Mod_readAct 37 = .ok (.getfield 173, 3) := kq_180 byq_r (a := 0) (b := 173) (by decide +kernel)
theorem d_Mod_readAct_40 : decode b_Mod_readAct 40 = .ok (.invokevirtual 190, 3) := kq_182 byq_r (a := 0) (b := 190) (by decide +kernel)
theorem d_Mod_readAct_43 : decode b_Mod_readAct 43 = .ok (.aload_n 0, 1) := kq_42 byq_r (by decide +kernel)
theorem d_Mod_readAct_44 : decode b_Mod_readAct 44 = .ok (.dup, 1) := kq_89 byq_r (by decide +kernel)
theorem d_Mod_readAct_45 : decode b_Mod_readAct 45 = .ok (.getfield 173, 3) := kq_180 byq_r (a := 0) (b := 173) (by decide +kernel)
theorem d_Mod_readAct_48 : decode b_Mod_readAct 48 = .ok (.iconst 1, 1) := kq_4 byq_r (by decide +kernel)
theorem d_Mod_readAct_49 : decode b_Mod_readAct 49 = .ok (.iadd, 1) := kq_96 byq_r (by decide +kernel)
theorem d_Mod_readAct_50 : decode b_Mod_readAct 50 = .ok (.putfield 173, 3) := kq_181 byq_r (a := 0) (b := 173) (by decide +kernel)
theorem d_Mod_readAct_53 : decode b_Mod_readAct 53 = .ok (.aload_n 0, 1) := kq_42 byq_r (by decide +kernel)
theorem d_Mod_readAct_54 : decode b_Mod_readAct 54 = .ok (.getfield 57, 3) := kq_180 byq_r (a := 0) (b := 57) (by decide +kernel)
theorem d_Mod_readAct_57 : decode b_Mod_readAct 57 = .ok (.iload_n 1, 1) := kq_27 byq_r (by decide +kernel)
theorem d_Mod_readAct_58 : decode b_Mod_readAct 58 = .ok (.iload_n 2, 1) := kq_28 byq_r (by decide +kernel)
theorem d_Mod_readAct_59 : decode b_Mod_readAct 59 = .ok (.iastore, 1) := kq_79 byq_r (by decide +kernel)
theorem d_Mod_readAct_60 : decode b_Mod_readAct 60 = .ok (.iload_n 2, 1) := kq_28 byq_r (by decide +kernel)
theorem d_Mod_readAct_61 : decode b_Mod_readAct 61 = .ok (.bipush 109, 2) := kq_16 byq_r (b := 109) (by decide +kernel)
theorem d_Mod_readAct_63 : decode b_Mod_readAct 63 = .ok (.if_icmp .eq 9, 3) := kq_159 byq_r (a := 0) (b := 9) (by decide +kernel)
theorem d_Mod_readAct_66 : decode b_Mod_readAct 66 = .ok (.iload_n 2, 1) := kq_28 byq_r (by decide +kernel)
theorem d_Mod_readAct_67 : decode b_Mod_readAct 67 = .ok (.bipush 112, 2) := kq_16 byq_r (b := 112) (by decide +kernel)
theorem d_Mod_readAct_69 : decode b_Mod_readAct 69 = .ok (.if_icmp .ne 16, 3) := kq_160 byq_r (a := 0) (b := 16) (by decide +kernel)
theorem d_Mod_readAct_72 : decode b_Mod_readAct 72 = .ok (.aload_n 0, 1) := kq_42 byq_r (by decide +kernel)
theorem d_Mod_readAct_73 : decode b_Mod_readAct 73 = .ok (.getfield 57, 3) := kq_180 byq_r (a := 0) (b := 57) (by decide +kernel)
theorem d_Mod_readAct_76 : decode b_Mod_readAct 76 = .ok (.iload_n 1, 1) := kq_27 byq_r (by decide +kernel)
theorem d_Mod_readAct_77 : decode b_Mod_readAct 77 = .ok (.iconst 1, 1) := kq_4 byq_r (by decide +kernel)
theorem d_Mod_readAct_78 : decode b_Mod_readAct 78 = .ok (.iadd, 1) := kq_96 byq_r (by decide +kernel)
theorem d_Mod_readAct_79 : decode b_Mod_readAct 79 = .ok (.aload_n 0, 1) := kq_42 byq_r (by decide +kernel)
theorem d_Mod_readAct_80 : decode b_Mod_readAct 80 = .ok (.iconst 2, 1) := kq_5 byq_r (by decide +kernel)
theorem d_Mod_readAct_81 : decode b_Mod_readAct 81 = .ok (.invokevirtual 213, 3) := kq_182 byq_r (a := 0) (b := 213) (by decide +kernel)
theorem d_Mod_readAct_84 : decode b_Mod_readAct 84 = .ok (.iastore, 1) := kq_79 byq_r (by decide +kernel)
theorem d_Mod_readAct_85 : decode b_Mod_readAct 85 = .ok (.iload_n 2, 1) := kq_28 byq_r (by decide +kernel)
theorem d_Mod_readAct_86 : decode b_Mod_readAct 86 = .ok (.bipush 112, 2) := kq_16 byq_r (b := 112) (by decide +kernel)
theorem d_Mod_readAct_88 : decode b_Mod_readAct 88 = .ok (.if_icmp .ne 22, 3) := kq_160 byq_r (a := 0) (b := 22) (by decide +kernel)
theorem d_Mod_readAct_91 : decode b_Mod_readAct 91 = .ok (.aload_n 0, 1) := kq_42 byq_r (by decide +kernel)
theorem d_Mod_readAct_92 : decode b_Mod_readAct 92 = .ok (.bipush 45, 2) := kq_16 byq_r (b := 45) (by decide +kernel)
theorem d_Mod_readAct_94 : decode b_Mod_readAct 94 = .ok (.invokevirtual 216, 3) := kq_182 byq_r (a := 0) (b := 216) (by decide +kernel)
theorem d_Mod_readAct_97 : decode b_Mod_readAct 97 = .ok (.aload_n 0, 1) := kq_42 byq_r (by decide +kernel)
theorem d_Mod_readAct_98 : decode b_Mod_readAct 98 = .ok (.getfield 57, 3) := kq_180 byq_r (a := 0) (b := 57) (by decide +kernel)
theorem d_Mod_readAct_101 : decode b_Mod_readAct 101 = .ok (.iload_n 1, 1) := kq_27 byq_r (by decide +kernel)
theorem d_Mod_readAct_102 : decode b_Mod_readAct 102 = .ok (.iconst 2, 1) := kq_5 byq_r (by decide +kernel)
theorem d_Mod_readAct_103 : decode b_Mod_readAct 103 = .ok (.iadd, 1) := kq_96 byq_r (by decide +kernel)
theorem d_Mod_readAct_104 : decode b_Mod_readAct 104 = .ok (.aload_n 0, 1) := kq_42 byq_r (by decide +kernel)
theorem d_Mod_readAct_105 : decode b_Mod_readAct 105 = .ok (.iconst 2, 1) := kq_5 byq_r (by decide +kernel)
theorem d_Mod_readAct_106 : decode b_Mod_readAct 106 = .ok (.invokevirtual 213, 3) := kq_182 byq_r (a := 0) (b := 213) (by decide +kernel)
theorem d_Mod_readAct_109 : decode b_Mod_readAct 109 = .ok (.iastore, 1) := kq_79 byq_r (by decide +kernel)
theorem d_Mod_readAct_110 : decode b_Mod_readAct 110 = .ok (.iload_n 2, 1) := kq_28 byq_r (by decide +kernel)
theorem d_Mod_readAct_111 : decode b_Mod_readAct 111 = .ok (.bipush 110, 2) := kq_16 byq_r (b := 110) (by decide +kernel)
theorem d_Mod_readAct_113 : decode b_Mod_readAct 113 = .ok (.if_icmp .ne 50, 3) := kq_160 byq_r (a := 0) (b := 50) (by decide +kernel)
theorem d_Mod_readAct_116 : decode b_Mod_readAct 116 = .ok (.aload_n 0, 1) := kq_42 byq_r (by decide +kernel)
theorem d_Mod_readAct_117 : decode b_Mod_readAct 117 = .ok (.getfield 57, 3) := kq_180 byq_r (a := 0) (b := 57) (by decide +kernel)
theorem d_Mod_readAct_120 : decode b_Mod_readAct 120 = .ok (.iload_n 1, 1) := kq_27 byq_r (by decide +kernel)
theorem d_Mod_readAct_121 : decode b_Mod_readAct 121 = .ok (.iconst 1, 1) := kq_4 byq_r (by decide +kernel)
theorem d_Mod_readAct_122 : decode b_Mod_readAct 122 = .ok (.iadd, 1) := kq_96 byq_r (by decide +kernel)
theorem d_Mod_readAct_123 : decode b_Mod_readAct 123 = .ok (.aload_n 0, 1) := kq_42 byq_r (by decide +kernel)
theorem d_Mod_readAct_124 : decode b_Mod_readAct 124 = .ok (.invokevirtual 183, 3) := kq_182 byq_r (a := 0) (b := 183) (by decide +kernel)
theorem d_Mod_readAct_127 : decode b_Mod_readAct 127 = .ok (.bipush 97, 2) := kq_16 byq_r (b := 97) (by decide +kernel)
theorem d_Mod_readAct_129 : decode b_Mod_readAct 129 = .ok (.isub, 1) := kq_100 byq_r (by decide +kernel)
theorem d_Mod_readAct_130 : decode b_Mod_readAct 130 = .ok (.iastore, 1) := kq_79 byq_r (by decide +kernel)
theorem d_Mod_readAct_131 : decode b_Mod_readAct 131 = .ok (.aload_n 0, 1) := kq_42 byq_r (by decide +kernel)
theorem d_Mod_readAct_132 : decode b_Mod_readAct 132 = .ok (.invokevirtual 183, 3) := kq_182 byq_r (a := 0) (b := 183) (by decide +kernel)
theorem d_Mod_readAct_135 : decode b_Mod_readAct 135 = .ok (.bipush 97, 2) := kq_16 byq_r (b := 97) (by decide +kernel)
theorem d_Mod_readAct_137 : decode b_Mod_readAct 137 = .ok (.bipush 104, 2) := kq_16 byq_r (b := 104) (by decide +kernel)
theorem d_Mod_readAct_139 : decode b_Mod_readAct 139 = .ok (.invokestatic 119, 3) := kq_184 byq_r (a := 0) (b := 119) (by decide +kernel)
theorem d_Mod_readAct_142 : decode b_Mod_readAct 142 = .ok (.ifCond .ne 11, 3) := kq_154 byq_r (a := 0) (b := 11) (by decide +kernel)
theorem d_Mod_readAct_145 : decode b_Mod_readAct 145 = .ok (.aload_n 0, 1) := kq_42 byq_r (by decide +kernel)
theorem d_Mod_readAct_146 : decode b_Mod_readAct 146 = .ok (.aload_n 0, 1) := kq_42 byq_r (by decide +kernel)
theorem d_Mod_readAct_147 : decode b_Mod_readAct 147 = .ok (.getfield 173, 3) := kq_180 byq_r (a := 0) (b := 173) (by decide +kernel)
theorem d_Mod_readAct_150 : decode b_Mod_readAct 150 = .ok (.invokevirtual 190, 3) := kq_182 byq_r (a := 0) (b := 190) (by decide +kernel)
theorem d_Mod_readAct_153 : decode b_Mod_readAct 153 = .ok (.aload_n 0, 1) := kq_42 byq_r (by decide +kernel)
theorem d_Mod_readAct_154 : decode b_Mod_readAct 154 = .ok (.dup, 1) := kq_89 byq_r (by decide +kernel)
theorem d_Mod_readAct_155 : decode b_Mod_readAct 155 = .ok (.getfield 173, 3) := kq_180 byq_r (a := 0) (b := 173) (by decide +kernel)
theorem d_Mod_readAct_158 : decode b_Mod_readAct 158 = .ok (.iconst 1, 1) := kq_4 byq_r (by decide +kernel)
theorem d_Mod_readAct_159 : decode b_Mod_readAct 159 = .ok (.iadd, 1) := kq_96 byq_r (by decide +kernel)
theorem d_Mod_readAct_160 : decode b_Mod_readAct 160 = .ok (.putfield 173, 3) := kq_181 byq_r (a := 0) (b := 173) (by decide +kernel)
theorem d_Mod_readAct_163 : decode b_Mod_readAct 163 = .ok (.return_, 1) := kq_177 byq_r (by decide +kernel)
theorem d_Mod_act_0 : decode b_Mod_act 0 = .ok (.aload_n 0, 1) := kq_42 byq_r (by decide +kernel)
theorem d_Mod_act_1 : decode b_Mod_act 1 = .ok (.getfield 57, 3) := kq_180 byq_r (a := 0) (b := 57) (by decide +kernel)
theorem d_Mod_act_4 : decode b_Mod_act 4 = .ok (.iload_n 1, 1) := kq_27 byq_r (by decide +kernel)
theorem d_Mod_act_5 : decode b_Mod_act 5 = .ok (.iconst 1, 1) := kq_4 byq_r (by decide +kernel)
theorem d_Mod_act_6 : decode b_Mod_act 6 = .ok (.iadd, 1) := kq_96 byq_r (by decide +kernel)
theorem d_Mod_act_7 : decode b_Mod_act 7 = .ok (.iaload, 1) := kq_46 byq_r (by decide +kernel)
theorem d_Mod_act_8 : decode b_Mod_act 8 = .ok (.istore_n 2, 1) := kq_61 byq_r (by decide +kernel)
theorem d_Mod_act_9 : decode b_Mod_act 9 = .ok (.aload_n 0, 1) := kq_42 byq_r (by decide +kernel)
theorem d_Mod_act_10 : decode b_Mod_act 10 = .ok (.getfield 57, 3) := kq_180 byq_r (a := 0) (b := 57) (by decide +kernel)
theorem d_Mod_act_13 : decode b_Mod_act 13 = .ok (.iload_n 1, 1) := kq_27 byq_r (by decide +kernel)
theorem d_Mod_act_14 : decode b_Mod_act 14 = .ok (.iaload, 1) := kq_46 byq_r (by decide +kernel)
theorem d_Mod_act_15 : decode b_Mod_act 15 = .ok (.lookupswitch 168 #[(109, 41), (110, 85), (112, 110), (120, 143)], 41) := by decide +kernel
theorem d_Mod_act_56 : decode b_Mod_act 56 = .ok (.iload_n 2, 1) := kq_28 byq_r (by decide +kernel)
theorem d_Mod_act_57 : decode b_Mod_act 57 = .ok (.bipush 60, 2) := kq_16 byq_r (b := 60) (by decide +kernel)
theorem d_Mod_act_59 : decode b_Mod_act 59 = .ok (.if_icmp .le 5, 3) := kq_164 byq_r (a := 0) (b := 5) (by decide +kernel)
theorem d_Mod_act_62 : decode b_Mod_act 62 = .ok (.iconst 0, 1) := kq_3 byq_r (by decide +kernel)
theorem d_Mod_act_63 : decode b_Mod_act 63 = .ok (.ireturn, 1) := kq_172 byq_r (by decide +kernel)
theorem d_Mod_act_64 : decode b_Mod_act 64 = .ok (.iconst 0, 1) := kq_3 byq_r (by decide +kernel)
theorem d_Mod_act_65 : decode b_Mod_act 65 = .ok (.istore_n 3, 1) := kq_62 byq_r (by decide +kernel)
theorem d_Mod_act_66 : decode b_Mod_act 66 = .ok (.iload_n 3, 1) := kq_29 byq_r (by decide +kernel)
theorem d_Mod_act_67 : decode b_Mod_act 67 = .ok (.iload_n 2, 1) := kq_28 byq_r (by decide +kernel)
theorem d_Mod_act_68 : decode b_Mod_act 68 = .ok (.if_icmp .ge 30, 3) := kq_162 byq_r (a := 0) (b := 30) (by decide +kernel)
theorem d_Mod_act_71 : decode b_Mod_act 71 = .ok (.aload_n 0, 1) := kq_42 byq_r (by decide +kernel)
theorem d_Mod_act_72 : decode b_Mod_act 72 = .ok (.aload_n 0, 1) := kq_42 byq_r (by decide +kernel)
theorem d_Mod_act_73 : decode b_Mod_act 73 = .ok (.getfield 9, 3) := kq_180 byq_r (a := 0) (b := 9) (by decide +kernel)
theorem d_Mod_act_76 : decode b_Mod_act 76 = .ok (.invokevirtual 339, 3) := kq_182 byq_r (a := 1) (b := 83) (by decide +kernel)
theorem d_Mod_act_79 : decode b_Mod_act 79 = .ok (.aload_n 0, 1) := kq_42 byq_r (by decide +kernel)
theorem d_Mod_act_80 : decode b_Mod_act 80 = .ok (.dup, 1) := kq_89 byq_r (by decide +kernel)
theorem d_Mod_act_81 : decode b_Mod_act 81 = .ok (.getfield 348, 3) := kq_180 byq_r (a := 1) (b := 92) (by decide +kernel)
theorem d_Mod_act_84 : decode b_Mod_act 84 = .ok (.aload_n 0, 1) := kq_42 byq_r (by decide +kernel)
theorem d_Mod_act_85 : decode b_Mod_act 85 = .ok (.getfield 327, 3) := kq_180 byq_r (a := 1) (b := 71) (by decide +kernel)
theorem d_Mod_act_88 : decode b_Mod_act 88 = .ok (.iadd, 1) := kq_96 byq_r (by decide +kernel)
theorem d_Mod_act_89 : decode b_Mod_act 89 = .ok (.putfield 348, 3) := kq_181 byq_r (a := 1) (b := 92) (by decide +kernel)
theorem d_Mod_act_92 : decode b_Mod_act 92 = .ok (.iinc 3 1, 3) := kq_132 byq_r (b := 1) (by decide +kernel)
theorem d_Mod_act_95 : decode b_Mod_act 95 = .ok (.goto (-29), 3) := kq_167 byq_r (a := 255) (b := 227) (by decide +kernel)
theorem d_Mod_act_98 : decode b_Mod_act 98 = .ok (.iconst 1, 1) := kq_4 byq_r (by decide +kernel)
theorem d_Mod_act_99 : decode b_Mod_act 99 = .ok (.ireturn, 1) := kq_172 byq_r (by decide +kernel)
theorem d_Mod_act_100 : decode b_Mod_act 100 = .ok (.aload_n 0, 1) := kq_42 byq_r (by decide +kernel)
theorem d_Mod_act_101 : decode b_Mod_act 101 = .ok (.iload_n 2, 1) := kq_28 byq_r (by decide +kernel)
theorem d_Mod_act_102 : decode b_Mod_act 102 = .ok (.invokevirtual 307, 3) := kq_182 byq_r (a := 1) (b := 51) (by decide +kernel)
theorem d_Mod_act_105 : decode b_Mod_act 105 = .ok (.ifCond .ne 5, 3) := kq_154 byq_r (a := 0) (b := 5) (by decide +kernel)
theorem d_Mod_act_108 : decode b_Mod_act 108 = .ok (.iconst 0, 1) := kq_3 byq_r (by decide +kernel)
theorem d_Mod_act_109 : decode b_Mod_act 109 = .ok (.ireturn, 1) := kq_172 byq_r (by decide +kernel)
theorem d_Mod_act_110 : decode b_Mod_act 110 = .ok (.aload_n 0, 1) := kq_42 byq_r (by decide +kernel)
theorem d_Mod_act_111 : decode b_Mod_act 111 = .ok (.getfield 9, 3) := kq_180 byq_r (a := 0) (b := 9) (by decide +kernel)
theorem d_Mod_act_114 : decode b_Mod_act 114 = .ok (.bipush 93, 2) := kq_16 byq_r (b := 93) (by decide +kernel)
theorem d_Mod_act_116 : decode b_Mod_act 116 = .ok (.dup2, 1) := kq_92 byq_r (by decide +kernel)
theorem d_Mod_act_117 : decode b_Mod_act 117 = .ok (.iaload, 1) := kq_46 byq_r (by decide +kernel)
theorem d_Mod_act_118 : decode b_Mod_act 118 = .ok (.iconst 1, 1) := kq_4 byq_r (by decide +kernel)
theorem d_Mod_act_119 : decode b_Mod_act 119 = .ok (.iload_n 2, 1) := kq_28 byq_r (by decide +kernel)
theorem d_Mod_act_120 : decode b_Mod_act 120 = .ok (.ishl, 1) := kq_120 byq_r (by decide +kernel)
theorem d_Mod_act_121 : decode b_Mod_act 121 = .ok (.ior, 1) := kq_128 byq_r (by decide +kernel)
theorem d_Mod_act_122 : decode b_Mod_act 122 = .ok (.iastore, 1) := kq_79 byq_r (by decide +kernel)
theorem d_Mod_act_123 : decode b_Mod_act 123 = .ok (.iconst 1, 1) := kq_4 byq_r (by decide +kernel)
theorem d_Mod_act_124 : decode b_Mod_act 124 = .ok (.ireturn, 1) := kq_172 byq_r (by decide +kernel)
theorem d_Mod_act_125 : decode b_Mod_act 125 = .ok (.aload_n 0, 1) := kq_42 byq_r (by decide +kernel)
theorem d_Mod_act_126 : decode b_Mod_act 126 = .ok (.iload_n 2, 1) := kq_28 byq_r (by decide +kernel)
theorem d_Mod_act_127 : decode b_Mod_act 127 = .ok (.aload_n 0, 1) := kq_42 byq_r (by decide +kernel)
theorem d_Mod_act_128 : decode b_Mod_act 128 = .ok (.getfield 57, 3) := kq_180 byq_r (a := 0) (b := 57) (by decide +kernel)
theorem d_Mod_act_131 : decode b_Mod_act 131 = .ok (.iload_n 1, 1) := kq_27 byq_r (by decide +kernel)
theorem d_Mod_act_132 : decode b_Mod_act 132 = .ok (.iconst 2, 1) := kq_5 byq_r (by decide +kernel)
theorem d_Mod_act_133 : decode b_Mod_act 133 = .ok (.iadd, 1) := kq_96 byq_r (by decide +kernel)
theorem d_Mod_act_134 : decode b_Mod_act 134 = .ok (.iaload, 1) := kq_46 byq_r (by decide +kernel)
theorem d_Mod_act_135 : decode b_Mod_act 135 = .ok (.invokevirtual 290, 3) := kq_182 byq_r (a := 1) (b := 34) (by decide +kernel)
theorem d_Mod_act_138 : decode b_Mod_act 138 = .ok (.ifCond .ge 5, 3) := kq_156 byq_r (a := 0) (b := 5) (by decide +kernel)
theorem d_Mod_act_141 : decode b_Mod_act 141 = .ok (.iconst 0, 1) := kq_3 byq_r (by decide +kernel)
theorem d_Mod_act_142 : decode b_Mod_act 142 = .ok (.ireturn, 1) := kq_172 byq_r (by decide +kernel)
theorem d_Mod_act_143 : decode b_Mod_act 143 = .ok (.aload_n 0, 1) := kq_42 byq_r (by decide +kernel)
theorem d_Mod_act_144 : decode b_Mod_act 144 = .ok (.iload_n 2, 1) := kq_28 byq_r (by decide +kernel)
theorem d_Mod_act_145 : decode b_Mod_act 145 = .ok (.aload_n 0, 1) := kq_42 byq_r (by decide +kernel)
theorem d_Mod_act_146 : decode b_Mod_act 146 = .ok (.getfield 57, 3) := kq_180 byq_r (a := 0) (b := 57) (by decide +kernel)
theorem d_Mod_act_149 : decode b_Mod_act 149 = .ok (.iload_n 1, 1) := kq_27 byq_r (by decide +kernel)
theorem d_Mod_act_150 : decode b_Mod_act 150 = .ok (.iconst 2, 1) := kq_5 byq_r (by decide +kernel)
theorem d_Mod_act_151 : decode b_Mod_act 151 = .ok (.iadd, 1) := kq_96 byq_r (by decide +kernel)
theorem d_Mod_act_152 : decode b_Mod_act 152 = .ok (.iaload, 1) := kq_46 byq_r (by decide +kernel)
theorem d_Mod_act_153 : decode b_Mod_act 153 = .ok (.invokevirtual 297, 3) := kq_182 byq_r (a := 1) (b := 41) (by decide +kernel)
theorem d_Mod_act_156 : decode b_Mod_act 156 = .ok (.iconst 1, 1) := kq_4 byq_r (by decide +kernel)
theorem d_Mod_act_157 : decode b_Mod_act 157 = .ok (.ireturn, 1) := kq_172 byq_r (by decide +kernel)
theorem d_Mod_act_158 : decode b_Mod_act 158 = .ok (.aload_n 0, 1) := kq_42 byq_r (by decide +kernel)
theorem d_Mod_act_159 : decode b_Mod_act 159 = .ok (.getfield 9, 3) := kq_180 byq_r (a := 0) (b := 9) (by decide +kernel)
theorem d_Mod_act_162 : decode b_Mod_act 162 = .ok (.bipush 92, 2) := kq_16 byq_r (b := 92) (by decide +kernel)
theorem d_Mod_act_164 : decode b_Mod_act 164 = .ok (.iaload, 1) := kq_46 byq_r (by decide +kernel)
theorem d_Mod_act_165 : decode b_Mod_act 165 = .ok (.ifCond .ne 5, 3) := kq_154 byq_r (a := 0) (b := 5) (by decide +kernel)
theorem d_Mod_act_168 : decode b_Mod_act 168 = .ok (.iconst 0, 1) := kq_3 byq_r (by decide +kernel)
theorem d_Mod_act_169 : decode b_Mod_act 169 = .ok (.ireturn, 1) := kq_172 byq_r (by decide +kernel)
theorem d_Mod_act_170 : decode b_Mod_act 170 = .ok (.aload_n 0, 1) := kq_42 byq_r (by decide +kernel)
theorem d_Mod_act_171 : decode b_Mod_act 171 = .ok (.getfield 9, 3) := kq_180 byq_r (a := 0) (b := 9) (by decide +kernel)
theorem d_Mod_act_174 : decode b_Mod_act 174 = .ok (.bipush 92, 2) := kq_16 byq_r (b := 92) (by decide +kernel)
theorem d_Mod_act_176 : decode b_Mod_act 176 = .ok (.dup2, 1) := kq_92 byq_r (by decide +kernel)
theorem d_Mod_act_177 : decode b_Mod_act 177 = .ok (.iaload, 1) := kq_46 byq_r (by decide +kernel)
theorem d_Mod_act_178 : decode b_Mod_act 178 = .ok (.iconst 1, 1) := kq_4 byq_r (by decide +kernel)
theorem d_Mod_act_179 : decode b_Mod_act 179 = .ok (.isub, 1) := kq_100 byq_r (by decide +kernel)
theorem d_Mod_act_180 : decode b_Mod_act 180 = .ok (.iastore, 1) := kq_79 byq_r (by decide +kernel)
theorem d_Mod_act_181 : decode b_Mod_act 181 = .ok (.iconst 1, 1) := kq_4 byq_r (by decide +kernel)
theorem d_Mod_act_182 : decode b_Mod_act 182 = .ok (.ireturn, 1) := kq_172 byq_r (by decide +kernel)
theorem d_Mod_act_183 : decode b_Mod_act 183 = .ok (.aload_n 0, 1) := kq_42 byq_r (by decide +kernel)
theorem d_Mod_act_184 : decode b_Mod_act 184 = .ok (.iconst 1, 1) := kq_4 byq_r (by decide +kernel)
theorem d_Mod_act_185 : decode b_Mod_act 185 = .ok (.aload_n 0, 1) := kq_42 byq_r (by decide +kernel)
theorem d_Mod_act_186 : decode b_Mod_act 186 = .ok (.getfield 9, 3) := kq_180 byq_r (a := 0) (b := 9) (by decide +kernel)
theorem d_Mod_act_189 : decode b_Mod_act 189 = .ok (.bipush 94, 2) := kq_16 byq_r (b := 94) (by decide +kernel)
theorem d_Mod_act_191 : decode b_Mod_act 191 = .ok (.iaload, 1) := kq_46 byq_r (by decide +kernel)
theorem d_Mod_act_192 : decode b_Mod_act 192 = .ok (.isub, 1) := kq_100 byq_r (by decide +kernel)
theorem d_Mod_act_193 : decode b_Mod_act 193 = .ok (.invokevirtual 315, 3) := kq_182 byq_r (a := 1) (b := 59) (by decide +kernel)
theorem d_Mod_act_196 : decode b_Mod_act 196 = .ok (.ifCond .ne 5, 3) := kq_154 byq_r (a := 0) (b := 5) (by decide +kernel)
theorem d_Mod_act_199 : decode b_Mod_act 199 = .ok (.iconst 0, 1) := kq_3 byq_r (by decide +kernel)
theorem d_Mod_act_200 : decode b_Mod_act 200 = .ok (.ireturn, 1) := kq_172 byq_r (by decide +kernel)
theorem d_Mod_act_201 : decode b_Mod_act 201 = .ok (.aload_n 0, 1) := kq_42 byq_r (by decide +kernel)
theorem d_Mod_act_202 : decode b_Mod_act 202 = .ok (.iconst 1, 1) := kq_4 byq_r (by decide +kernel)
theorem d_Mod_act_203 : decode b_Mod_act 203 = .ok (.aload_n 0, 1) := kq_42 byq_r (by decide +kernel)
theorem d_Mod_act_204 : decode b_Mod_act 204 = .ok (.getfield 9, 3) := kq_180 byq_r (a := 0) (b := 9) (by decide +kernel)
theorem d_Mod_act_207 : decode b_Mod_act 207 = .ok (.bipush 94, 2) := kq_16 byq_r (b := 94) (by decide +kernel)
theorem d_Mod_act_209 : decode b_Mod_act 209 = .ok (.iaload, 1) := kq_46 byq_r (by decide +kernel)
theorem d_Mod_act_210 : decode b_Mod_act 210 = .ok (.isub, 1) := kq_100 byq_r (by decide +kernel)
theorem d_Mod_act_211 : decode b_Mod_act 211 = .ok (.invokevirtual 318, 3) := kq_182 byq_r (a := 1) (b := 62) (by decide +kernel)
theorem d_Mod_act_214 : decode b_Mod_act 214 = .ok (.iconst 1, 1) := kq_4 byq_r (by decide +kernel)
theorem d_Mod_act_215 : decode b_Mod_act 215 = .ok (.ireturn, 1) := kq_172 byq_r (by decide +kernel)
theorem d_Mod_evening_0 : decode b_Mod_evening 0 = .ok (.aload_n 0, 1) := kq_42 byq_r (by decide +kernel)
theorem d_Mod_evening_1 : decode b_Mod_evening 1 = .ok (.iconst 0, 1) := kq_3 byq_r (by decide +kernel)
theorem d_Mod_evening_2 : decode b_Mod_evening 2 = .ok (.putfield 109, 3) := kq_181 byq_r (a := 0) (b := 109) (by decide +kernel)
theorem d_Mod_evening_5 : decode b_Mod_evening 5 = .ok (.aload_n 0, 1) := kq_42 byq_r (by decide +kernel)
theorem d_Mod_evening_6 : decode b_Mod_evening 6 = .ok (.aload_n 0, 1) := kq_42 byq_r (by decide +kernel)
theorem d_Mod_evening_7 : decode b_Mod_evening 7 = .ok (.getfield 32, 3) := kq_180 byq_r (a := 0) (b := 32) (by decide +kernel)
theorem d_Mod_evening_10 : decode b_Mod_evening 10 = .ok (.aload_n 0, 1) := kq_42 byq_r (by decide +kernel)
theorem d_Mod_evening_11 : decode b_Mod_evening 11 = .ok (.getfield 161, 3) := kq_180 byq_r (a := 0) (b := 161) (by decide +kernel)
theorem d_Mod_evening_14 : decode b_Mod_evening 14 = .ok (.bipush 60, 2) := kq_16 byq_r (b := 60) (by decide +kernel)
theorem d_Mod_evening_16 : decode b_Mod_evening 16 = .ok (.invokevirtual 194, 3) := kq_182 byq_r (a := 0) (b := 194) (by decide +kernel)
theorem d_Mod_evening_19 : decode b_Mod_evening 19 = .ok (.aload_n 0, 1) := kq_42 byq_r (by decide +kernel)
theorem d_Mod_evening_20 : decode b_Mod_evening 20 = .ok (.iconst 0, 1) := kq_3 byq_r (by decide +kernel)
theorem d_Mod_evening_21 : decode b_Mod_evening 21 = .ok (.putfield 161, 3) := kq_181 byq_r (a := 0) (b := 161) (by decide +kernel)
theorem d_Mod_evening_24 : decode b_Mod_evening 24 = .ok (.iconst 0, 1) := kq_3 byq_r (by decide +kernel)
theorem d_Mod_evening_25 : decode b_Mod_evening 25 = .ok (.istore_n 1, 1) := kq_60 byq_r (by decide +kernel)
theorem d_Mod_evening_26 : decode b_Mod_evening 26 = .ok (.aload_n 0, 1) := kq_42 byq_r (by decide +kernel)
theorem d_Mod_evening_27 : decode b_Mod_evening 27 = .ok (.getfield 167, 3) := kq_180 byq_r (a := 0) (b := 167) (by decide +kernel)
theorem d_Mod_evening_30 : decode b_Mod_evening 30 = .ok (.ifCond .le 7, 3) := kq_158 byq_r (a := 0) (b := 7) (by decide +kernel)
theorem d_Mod_evening_33 : decode b_Mod_evening 33 = .ok (.iconst 1, 1) := kq_4 byq_r (by decide +kernel)
theorem d_Mod_evening_34 : decode b_Mod_evening 34 = .ok (.goto 4, 3) := kq_167 byq_r (a := 0) (b := 4) (by decide +kernel)
theorem d_Mod_evening_37 : decode b_Mod_evening 37 = .ok (.iconst 0, 1) := kq_3 byq_r (by decide +kernel)
theorem d_Mod_evening_38 : decode b_Mod_evening 38 = .ok (.istore_n 2, 1) := kq_61 byq_r (by decide +kernel)
theorem d_Mod_evening_39 : decode b_Mod_evening 39 = .ok (.iload_n 2, 1) := kq_28 byq_r (by decide +kernel)
theorem d_Mod_evening_40 : decode b_Mod_evening 40 = .ok (.ifCond .eq 30, 3) := kq_153 byq_r (a := 0) (b := 30) (by decide +kernel)
theorem d_Mod_evening_43 : decode b_Mod_evening 43 = .ok (.aload_n 0, 1) := kq_42 byq_r (by decide +kernel)
theorem d_Mod_evening_44 : decode b_Mod_evening 44 = .ok (.invokevirtual 179, 3) := kq_182 byq_r (a := 0) (b := 179) (by decide +kernel)
theorem d_Mod_evening_47 : decode b_Mod_evening 47 = .ok (.ifCond .eq 23, 3) := kq_153 byq_r (a := 0) (b := 23) (by decide +kernel)
theorem d_Mod_evening_50 : decode b_Mod_evening 50 = .ok (.aload_n 0, 1) := kq_42 byq_r (by decide +kernel)
theorem d_Mod_evening_51 : decode b_Mod_evening 51 = .ok (.iconst 3, 1) := kq_6 byq_r (by decide +kernel)
theorem d_Mod_evening_52 : decode b_Mod_evening 52 = .ok (.iload_n 1, 1) := kq_27 byq_r (by decide +kernel)
theorem d_Mod_evening_53 : decode b_Mod_evening 53 = .ok (.imul, 1) := kq_104 byq_r (by decide +kernel)
theorem d_Mod_evening_54 : decode b_Mod_evening 54 = .ok (.invokevirtual 345, 3) := kq_182 byq_r (a := 1) (b := 89) (by decide +kernel)
theorem d_Mod_evening_57 : decode b_Mod_evening 57 = .ok (.iinc 1 1, 3) := kq_132 byq_r (b := 1) (by decide +kernel)
theorem d_Mod_evening_60 : decode b_Mod_evening 60 = .ok (.aload_n 0, 1) := kq_42 byq_r (by decide +kernel)
theorem d_Mod_evening_61 : decode b_Mod_evening 61 = .ok (.bipush 59, 2) := kq_16 byq_r (b := 59) (by decide +kernel)
theorem d_Mod_evening_63 : decode b_Mod_evening 63 = .ok (.invokevirtual 186, 3) := kq_182 byq_r (a := 0) (b := 186) (by decide +kernel)
theorem d_Mod_evening_66 : decode b_Mod_evening 66 = .ok (.istore_n 2, 1) := kq_61 byq_r (by decide +kernel)
theorem d_Mod_evening_67 : decode b_Mod_evening 67 = .ok (.goto (-28), 3) := kq_167 byq_r (a := 255) (b := 228) (by decide +kernel)
theorem d_Mod_evening_70 : decode b_Mod_evening 70 = .ok (.aload_n 0, 1) := kq_42 byq_r (by decide +kernel)
theorem d_Mod_evening_71 : decode b_Mod_evening 71 = .ok (.getfield 173, 3) := kq_180 byq_r (a := 0) (b := 173) (by decide +kernel)
theorem d_Mod_evening_74 : decode b_Mod_evening 74 = .ok (.aload_n 0, 1) := kq_42 byq_r (by decide +kernel)
theorem d_Mod_evening_75 : decode b_Mod_evening 75 = .ok (.getfield 167, 3) := kq_180 byq_r (a := 0) (b := 167) (by decide +kernel)
theorem d_Mod_evening_78 : decode b_Mod_evening 78 = .ok (.if_icmp .ge 11, 3) := kq_162 byq_r (a := 0) (b := 11) (by decide +kernel)
theorem d_Mod_evening_81 : decode b_Mod_evening 81 = .ok (.aload_n 0, 1) := kq_42 byq_r (by decide +kernel)
theorem d_Mod_evening_82 : decode b_Mod_evening 82 = .ok (.aload_n 0, 1) := kq_42 byq_r (by decide +kernel)
theorem d_Mod_evening_83 : decode b_Mod_evening 83 = .ok (.getfield 173, 3) := kq_180 byq_r (a := 0) (b := 173) (by decide +kernel)
theorem d_Mod_evening_86 : decode b_Mod_evening 86 = .ok (.invokevirtual 190, 3) := kq_182 byq_r (a := 0) (b := 190) (by decide +kernel)
theorem d_Mod_evening_89 : decode b_Mod_evening 89 = .ok (.aload_n 0, 1) := kq_42 byq_r (by decide +kernel)
theorem d_Mod_evening_90 : decode b_Mod_evening 90 = .ok (.invokevirtual 179, 3) := kq_182 byq_r (a := 0) (b := 179) (by decide +kernel)
theorem d_Mod_evening_93 : decode b_Mod_evening 93 = .ok (.ifCond .ne 10, 3) := kq_154 byq_r (a := 0) (b := 10) (by decide +kernel)
theorem d_Mod_evening_96 : decode b_Mod_evening 96 = .ok (.iconst (-1), 1) := kq_2 byq_r (by decide +kernel)
theorem d_Mod_evening_97 : decode b_Mod_evening 97 = .ok (.aload_n 0, 1) := kq_42 byq_r (by decide +kernel)
theorem d_Mod_evening_98 : decode b_Mod_evening 98 = .ok (.getfield 176, 3) := kq_180 byq_r (a := 0) (b := 176) (by decide +kernel)
theorem d_Mod_evening_101 : decode b_Mod_evening 101 = .ok (.isub, 1) := kq_100 byq_r (by decide +kernel)
theorem d_Mod_evening_102 : decode b_Mod_evening 102 = .ok (.ireturn, 1) := kq_172 byq_r (by decide +kernel)
theorem d_Mod_evening_103 : decode b_Mod_evening 103 = .ok (.aload_n 0, 1) := kq_42 byq_r (by decide +kernel)
theorem d_Mod_evening_104 : decode b_Mod_evening 104 = .ok (.getfield 9, 3) := kq_180 byq_r (a := 0) (b := 9) (by decide +kernel)
theorem d_Mod_evening_107 : decode b_Mod_evening 107 = .ok (.aload_n 0, 1) := kq_42 byq_r (by decide +kernel)
theorem d_Mod_evening_108 : decode b_Mod_evening 108 = .ok (.getfield 54, 3) := kq_180 byq_r (a := 0) (b := 54) (by decide +kernel)
theorem d_Mod_evening_111 : decode b_Mod_evening 111 = .ok (.iconst 0, 1) := kq_3 byq_r (by decide +kernel)
theorem d_Mod_evening_112 : decode b_Mod_evening 112 = .ok (.invokestatic 286, 3) := kq_184 byq_r (a := 1) (b := 30) (by decide +kernel)
theorem d_Mod_evening_115 : decode b_Mod_evening 115 = .ok (.aload_n 0, 1) := kq_42 byq_r (by decide +kernel)
theorem d_Mod_evening_116 : decode b_Mod_evening 116 = .ok (.iconst 0, 1) := kq_3 byq_r (by decide +kernel)
theorem d_Mod_evening_117 : decode b_Mod_evening 117 = .ok (.putfield 348, 3) := kq_181 byq_r (a := 1) (b := 92) (by decide +kernel)
theorem d_Mod_evening_120 : decode b_Mod_evening 120 = .ok (.iconst 0, 1) := kq_3 byq_r (by decide +kernel)
theorem d_Mod_evening_121 : decode b_Mod_evening 121 = .ok (.istore_n 3, 1) := kq_62 byq_r (by decide +kernel)
theorem d_Mod_evening_122 : decode b_Mod_evening 122 = .ok (.iload_n 3, 1) := kq_29 byq_r (by decide +kernel)
theorem d_Mod_evening_123 : decode b_Mod_evening 123 = .ok (.iload_n 1, 1) := kq_27 byq_r (by decide +kernel)
theorem d_Mod_evening_124 : decode b_Mod_evening 124 = .ok (.if_icmp .ge 19, 3) := kq_162 byq_r (a := 0) (b := 19) (by decide +kernel)
theorem d_Mod_evening_127 : decode b_Mod_evening 127 = .ok (.aload_n 0, 1) := kq_42 byq_r (by decide +kernel)
theorem d_Mod_evening_128 : decode b_Mod_evening 128 = .ok (.iconst 3, 1) := kq_6 byq_r (by decide +kernel)
theorem d_Mod_evening_129 : decode b_Mod_evening 129 = .ok (.iload_n 3, 1) := kq_29 byq_r (by decide +kernel)
theorem d_Mod_evening_130 : decode b_Mod_evening 130 = .ok (.imul, 1) := kq_104 byq_r (by decide +kernel)
theorem d_Mod_evening_131 : decode b_Mod_evening 131 = .ok (.invokevirtual 351, 3) := kq_182 byq_r (a := 1) (b := 95) (by decide +kernel)
theorem d_Mod_evening_134 : decode b_Mod_evening 134 = .ok (.ifCond .eq 9, 3) := kq_153 byq_r (a := 0) (b := 9) (by decide +kernel)
theorem d_Mod_evening_137 : decode b_Mod_evening 137 = .ok (.iinc 3 1, 3) := kq_132 byq_r (b := 1) (by decide +kernel)
theorem d_Mod_evening_140 : decode b_Mod_evening 140 = .ok (.goto (-18), 3) := kq_167 byq_r (a := 255) (b := 238) (by decide +kernel)
theorem d_Mod_evening_143 : decode b_Mod_evening 143 = .ok (.iload_n 3, 1) := kq_29 byq_r (by decide +kernel)
theorem d_Mod_evening_144 : decode b_Mod_evening 144 = .ok (.ifCond .le 11, 3) := kq_158 byq_r (a := 0) (b := 11) (by decide +kernel)
theorem d_Mod_evening_147 : decode b_Mod_evening 147 = .ok (.aload_n 0, 1) := kq_42 byq_r (by decide +kernel)
theorem d_Mod_evening_148 : decode b_Mod_evening 148 = .ok (.aload_n 0, 1) := kq_42 byq_r (by decide +kernel)
theorem d_Mod_evening_149 : decode b_Mod_evening 149 = .ok (.getfield 54, 3) := kq_180 byq_r (a := 0) (b := 54) (by decide +kernel)
theorem d_Mod_evening_152 : decode b_Mod_evening 152 = .ok (.invokevirtual 293, 3) := kq_182 byq_r (a := 1) (b := 37) (by decide +kernel)
theorem d_Mod_evening_155 : decode b_Mod_evening 155 = .ok (.aload_n 0, 1) := kq_42 byq_r (by decide +kernel)
theorem d_Mod_evening_156 : decode b_Mod_evening 156 = .ok (.iconst 0, 1) := kq_3 byq_r (by decide +kernel)
theorem d_Mod_evening_157 : decode b_Mod_evening 157 = .ok (.putfield 112, 3) := kq_181 byq_r (a := 0) (b := 112) (by decide +kernel)
theorem d_Mod_evening_160 : decode b_Mod_evening 160 = .ok (.aload_n 0, 1) := kq_42 byq_r (by decide +kernel)
theorem d_Mod_evening_161 : decode b_Mod_evening 161 = .ok (.iload_n 3, 1) := kq_29 byq_r (by decide +kernel)
theorem d_Mod_evening_162 : decode b_Mod_evening 162 = .ok (.iload_n 1, 1) := kq_27 byq_r (by decide +kernel)
theorem d_Mod_evening_163 : decode b_Mod_evening 163 = .ok (.if_icmp .ge 7, 3) := kq_162 byq_r (a := 0) (b := 7) (by decide +kernel)
theorem d_Mod_evening_166 : decode b_Mod_evening 166 = .ok (.iconst 1, 1) := kq_4 byq_r (by decide +kernel)
theorem d_Mod_evening_167 : decode b_Mod_evening 167 = .ok (.goto 4, 3) := kq_167 byq_r (a := 0) (b := 4) (by decide +kernel)
theorem d_Mod_evening_170 : decode b_Mod_evening 170 = .ok (.iconst 0, 1) := kq_3 byq_r (by decide +kernel)
theorem d_Mod_evening_171 : decode b_Mod_evening 171 = .ok (.invokevirtual 342, 3) := kq_182 byq_r (a := 1) (b := 86) (by decide +kernel)
theorem d_Mod_evening_174 : decode b_Mod_evening 174 = .ok (.aload_n 0, 1) := kq_42 byq_r (by decide +kernel)
theorem d_Mod_evening_175 : decode b_Mod_evening 175 = .ok (.aload_n 0, 1) := kq_42 byq_r (by decide +kernel)
theorem d_Mod_evening_176 : decode b_Mod_evening 176 = .ok (.getfield 348, 3) := kq_180 byq_r (a := 1) (b := 92) (by decide +kernel)
theorem d_Mod_evening_179 : decode b_Mod_evening 179 = .ok (.invokevirtual 342, 3) := kq_182 byq_r (a := 1) (b := 86) (by decide +kernel)
theorem d_Mod_evening_182 : decode b_Mod_evening 182 = .ok (.iload_n 3, 1) := kq_29 byq_r (by decide +kernel)
theorem d_Mod_evening_183 : decode b_Mod_evening 183 = .ok (.ireturn, 1) := kq_172 byq_r (by decide +kernel)
theorem d_Mod_undo_0 : decode b_Mod_undo 0 = .ok (.aload_n 0, 1) := kq_42 byq_r (by decide +kernel)
theorem d_Mod_undo_1 : decode b_Mod_undo 1 = .ok (.iconst 0, 1) := kq_3 byq_r (by decide +kernel)
theorem d_Mod_undo_2 : decode b_Mod_undo 2 = .ok (.putfield 109, 3) := kq_181 byq_r (a := 0) (b := 109) (by decide +kernel)
theorem d_Mod_undo_5 : decode b_Mod_undo 5 = .ok (.aload_n 0, 1) := kq_42 byq_r (by decide +kernel)
theorem d_Mod_undo_6 : decode b_Mod_undo 6 = .ok (.getfield 201, 3) := kq_180 byq_r (a := 0) (b := 201) (by decide +kernel)
theorem d_Mod_undo_9 : decode b_Mod_undo 9 = .ok (.ifCond .ne 5, 3) := kq_154 byq_r (a := 0) (b := 5) (by decide +kernel)
theorem d_Mod_undo_12 : decode b_Mod_undo 12 = .ok (.iconst (-1), 1) := kq_2 byq_r (by decide +kernel)
theorem d_Mod_undo_13 : decode b_Mod_undo 13 = .ok (.ireturn, 1) := kq_172 byq_r (by decide +kernel)
theorem d_Mod_undo_14 : decode b_Mod_undo 14 = .ok (.aload_n 0, 1) := kq_42 byq_r (by decide +kernel)
theorem d_Mod_undo_15 : decode b_Mod_undo 15 = .ok (.dup, 1) := kq_89 byq_r (by decide +kernel)
theorem d_Mod_undo_16 : decode b_Mod_undo 16 = .ok (.getfield 201, 3) := kq_180 byq_r (a := 0) (b := 201) (by decide +kernel)
theorem d_Mod_undo_19 : decode b_Mod_undo 19 = .ok (.iconst 1, 1) := kq_4 byq_r (by decide +kernel)
theorem d_Mod_undo_20 : decode b_Mod_undo 20 = .ok (.isub, 1) := kq_100 byq_r (by decide +kernel)
theorem d_Mod_undo_21 : decode b_Mod_undo 21 = .ok (.putfield 201, 3) := kq_181 byq_r (a := 0) (b := 201) (by decide +kernel)
theorem d_Mod_undo_24 : decode b_Mod_undo 24 = .ok (.iconst 0, 1) := kq_3 byq_r (by decide +kernel)
theorem d_Mod_undo_25 : decode b_Mod_undo 25 = .ok (.istore_n 1, 1) := kq_60 byq_r (by decide +kernel)
theorem d_Mod_undo_26 : decode b_Mod_undo 26 = .ok (.iload_n 1, 1) := kq_27 byq_r (by decide +kernel)
theorem d_Mod_undo_27 : decode b_Mod_undo 27 = .ok (.bipush 96, 2) := kq_16 byq_r (b := 96) (by decide +kernel)
theorem d_Mod_undo_29 : decode b_Mod_undo 29 = .ok (.if_icmp .ge 29, 3) := kq_162 byq_r (a := 0) (b := 29) (by decide +kernel)
theorem d_Mod_undo_32 : decode b_Mod_undo 32 = .ok (.aload_n 0, 1) := kq_42 byq_r (by decide +kernel)
theorem d_Mod_undo_33 : decode b_Mod_undo 33 = .ok (.getfield 9, 3) := kq_180 byq_r (a := 0) (b := 9) (by decide +kernel)
theorem d_Mod_undo_36 : decode b_Mod_undo 36 = .ok (.iload_n 1, 1) := kq_27 byq_r (by decide +kernel)
theorem d_Mod_undo_37 : decode b_Mod_undo 37 = .ok (.aload_n 0, 1) := kq_42 byq_r (by decide +kernel)
theorem d_Mod_undo_38 : decode b_Mod_undo 38 = .ok (.getfield 51, 3) := kq_180 byq_r (a := 0) (b := 51) (by decide +kernel)
theorem d_Mod_undo_41 : decode b_Mod_undo 41 = .ok (.bipush 96, 2) := kq_16 byq_r (b := 96) (by decide +kernel)
theorem d_Mod_undo_43 : decode b_Mod_undo 43 = .ok (.aload_n 0, 1) := kq_42 byq_r (by decide +kernel)
theorem d_Mod_undo_44 : decode b_Mod_undo 44 = .ok (.getfield 201, 3) := kq_180 byq_r (a := 0) (b := 201) (by decide +kernel)
theorem d_Mod_undo_47 : decode b_Mod_undo 47 = .ok (.imul, 1) := kq_104 byq_r (by decide +kernel)
theorem d_Mod_undo_48 : decode b_Mod_undo 48 = .ok (.iload_n 1, 1) := kq_27 byq_r (by decide +kernel)
theorem d_Mod_undo_49 : decode b_Mod_undo 49 = .ok (.iadd, 1) := kq_96 byq_r (by decide +kernel)
theorem d_Mod_undo_50 : decode b_Mod_undo 50 = .ok (.iaload, 1) := kq_46 byq_r (by decide +kernel)
theorem d_Mod_undo_51 : decode b_Mod_undo 51 = .ok (.iastore, 1) := kq_79 byq_r (by decide +kernel)
theorem d_Mod_undo_52 : decode b_Mod_undo 52 = .ok (.iinc 1 1, 3) := kq_132 byq_r (b := 1) (by decide +kernel)
theorem d_Mod_undo_55 : decode b_Mod_undo 55 = .ok (.goto (-29), 3) := kq_167 byq_r (a := 255) (b := 227) (by decide +kernel)
theorem d_Mod_undo_58 : decode b_Mod_undo 58 = .ok (.aload_n 0, 1) := kq_42 byq_r (by decide +kernel)
theorem d_Mod_undo_59 : decode b_Mod_undo 59 = .ok (.getfield 201, 3) := kq_180 byq_r (a := 0) (b := 201) (by decide +kernel)
theorem d_Mod_undo_62 : decode b_Mod_undo 62 = .ok (.ireturn, 1) := kq_172 byq_r (by decide +kernel)
theorem d_Mod_met_0 : decode b_Mod_met 0 = .ok (.aload_n 0, 1) := kq_42 byq_r (by decide +kernel)
theorem d_Mod_met_1 : decode b_Mod_met 1 = .ok (.iconst 0, 1) := kq_3 byq_r (by decide +kernel)
theorem d_Mod_met_2 : decode b_Mod_met 2 = .ok (.putfield 109, 3) := kq_181 byq_r (a := 0) (b := 109) (by decide +kernel)
theorem d_Mod_met_5 : decode b_Mod_met 5 = .ok (.aload_n 0, 1) := kq_42 byq_r (by decide +kernel)
theorem d_Mod_met_6 : decode b_Mod_met 6 = .ok (.iload_n 1, 1) := kq_27 byq_r (by decide +kernel)
theorem d_Mod_met_7 : decode b_Mod_met 7 = .ok (.iload_n 2, 1) := kq_28 byq_r (by decide +kernel)
theorem d_Mod_met_8 : decode b_Mod_met 8 = .ok (.invokevirtual 354, 3) := kq_182 byq_r (a := 1) (b := 98) (by decide +kernel)
theorem d_Mod_met_11 : decode b_Mod_met 11 = .ok (.ifCond .eq 20, 3) := kq_153 byq_r (a := 0) (b := 20) (by decide +kernel)
theorem d_Mod_met_14 : decode b_Mod_met 14 = .ok (.aload_n 0, 1) := kq_42 byq_r (by decide +kernel)
theorem d_Mod_met_15 : decode b_Mod_met 15 = .ok (.getfield 9, 3) := kq_180 byq_r (a := 0) (b := 9) (by decide +kernel)
theorem d_Mod_met_18 : decode b_Mod_met 18 = .ok (.bipush 16, 2) := kq_16 byq_r (b := 16) (by decide +kernel)
theorem d_Mod_met_20 : decode b_Mod_met 20 = .ok (.bipush 8, 2) := kq_16 byq_r (b := 8) (by decide +kernel)
theorem d_Mod_met_22 : decode b_Mod_met 22 = .ok (.iload_n 1, 1) := kq_27 byq_r (by decide +kernel)
theorem d_Mod_met_23 : decode b_Mod_met 23 = .ok (.imul, 1) := kq_104 byq_r (by decide +kernel)
theorem d_Mod_met_24 : decode b_Mod_met 24 = .ok (.iadd, 1) := kq_96 byq_r (by decide +kernel)
theorem d_Mod_met_25 : decode b_Mod_met 25 = .ok (.iload_n 2, 1) := kq_28 byq_r (by decide +kernel)
theorem d_Mod_met_26 : decode b_Mod_met 26 = .ok (.iadd, 1) := kq_96 byq_r (by decide +kernel)
theorem d_Mod_met_27 : decode b_Mod_met 27 = .ok (.iaload, 1) := kq_46 byq_r (by decide +kernel)
theorem d_Mod_met_28 : decode b_Mod_met 28 = .ok (.goto 4, 3) := kq_167 byq_r (a := 0) (b := 4) (by decide +kernel)
theorem d_Mod_met_31 : decode b_Mod_met 31 = .ok (.iconst (-1), 1) := kq_2 byq_r (by decide +kernel)
theorem d_Mod_met_32 : decode b_Mod_met 32 = .ok (.ireturn, 1) := kq_172 byq_r (by decide +kernel)
theorem d_Mod_ahead_0 : decode b_Mod_ahead 0 = .ok (.aload_n 0, 1) := kq_42 byq_r (by decide +kernel)
theorem d_Mod_ahead_1 : decode b_Mod_ahead 1 = .ok (.iconst 0, 1) := kq_3 byq_r (by decide +kernel)
theorem d_Mod_ahead_2 : decode b_Mod_ahead 2 = .ok (.putfield 109, 3) := kq_181 byq_r (a := 0) (b := 109) (by decide +kernel)
theorem d_Mod_ahead_5 : decode b_Mod_ahead 5 = .ok (.iload_n 1, 1) := kq_27 byq_r (by decide +kernel)
theorem d_Mod_ahead_6 : decode b_Mod_ahead 6 = .ok (.iconst 0, 1) := kq_3 byq_r (by decide +kernel)
theorem d_Mod_ahead_7 : decode b_Mod_ahead 7 = .ok (.bipush 60, 2) := kq_16 byq_r (b := 60) (by decide +kernel)
theorem d_Mod_ahead_9 : decode b_Mod_ahead 9 = .ok (.invokestatic 119, 3) := kq_184 byq_r (a := 0) (b := 119) (by decide +kernel)
theorem d_Mod_ahead_12 : decode b_Mod_ahead 12 = .ok (.ifCond .ne 5, 3) := kq_154 byq_r (a := 0) (b := 5) (by decide +kernel)
theorem d_Mod_ahead_15 : decode b_Mod_ahead 15 = .ok (.iconst (-1), 1) := kq_2 byq_r (by decide +kernel)
theorem d_Mod_ahead_16 : decode b_Mod_ahead 16 = .ok (.ireturn, 1) := kq_172 byq_r (by decide +kernel)
theorem d_Mod_ahead_17 : decode b_Mod_ahead 17 = .ok (.aload_n 0, 1) := kq_42 byq_r (by decide +kernel)
theorem d_Mod_ahead_18 : decode b_Mod_ahead 18 = .ok (.getfield 9, 3) := kq_180 byq_r (a := 0) (b := 9) (by decide +kernel)
theorem d_Mod_ahead_21 : decode b_Mod_ahead 21 = .ok (.aload_n 0, 1) := kq_42 byq_r (by decide +kernel)
theorem d_Mod_ahead_22 : decode b_Mod_ahead 22 = .ok (.getfield 60, 3) := kq_180 byq_r (a := 0) (b := 60) (by decide +kernel)
theorem d_Mod_ahead_25 : decode b_Mod_ahead 25 = .ok (.iconst 0, 1) := kq_3 byq_r (by decide +kernel)
theorem d_Mod_ahead_26 : decode b_Mod_ahead 26 = .ok (.invokestatic 286, 3) := kq_184 byq_r (a := 1) (b := 30) (by decide +kernel)
theorem d_Mod_ahead_29 : decode b_Mod_ahead 29 = .ok (.iconst 0, 1) := kq_3 byq_r (by decide +kernel)
theorem d_Mod_ahead_30 : decode b_Mod_ahead 30 = .ok (.istore_n 2, 1) := kq_61 byq_r (by decide +kernel)
theorem d_Mod_ahead_31 : decode b_Mod_ahead 31 = .ok (.iconst 0, 1) := kq_3 byq_r (by decide +kernel)
theorem d_Mod_ahead_32 : decode b_Mod_ahead 32 = .ok (.istore_n 3, 1) := kq_62 byq_r (by decide +kernel)
theorem d_Mod_ahead_33 : decode b_Mod_ahead 33 = .ok (.iload_n 3, 1) := kq_29 byq_r (by decide +kernel)
theorem d_Mod_ahead_34 : decode b_Mod_ahead 34 = .ok (.iload_n 1, 1) := kq_27 byq_r (by decide +kernel)
theorem d_Mod_ahead_35 : decode b_Mod_ahead 35 = .ok (.if_icmp .ge 24, 3) := kq_162 byq_r (a := 0) (b := 24) (by decide +kernel)
theorem d_Mod_ahead_38 : decode b_Mod_ahead 38 = .ok (.aload_n 0, 1) := kq_42 byq_r (by decide +kernel)
theorem d_Mod_ahead_39 : decode b_Mod_ahead 39 = .ok (.aload_n 0, 1) := kq_42 byq_r (by decide +kernel)
theorem d_Mod_ahead_40 : decode b_Mod_ahead 40 = .ok (.getfield 60, 3) := kq_180 byq_r (a := 0) (b := 60) (by decide +kernel)
theorem d_Mod_ahead_43 : decode b_Mod_ahead 43 = .ok (.invokevirtual 339, 3) := kq_182 byq_r (a := 1) (b := 83) (by decide +kernel)
theorem d_Mod_ahead_46 : decode b_Mod_ahead 46 = .ok (.iload_n 2, 1) := kq_28 byq_r (by decide +kernel)
theorem d_Mod_ahead_47 : decode b_Mod_ahead 47 = .ok (.aload_n 0, 1) := kq_42 byq_r (by decide +kernel)
theorem d_Mod_ahead_48 : decode b_Mod_ahead 48 = .ok (.getfield 327, 3) := kq_180 byq_r (a := 1) (b := 71) (by decide +kernel)
theorem d_Mod_ahead_51 : decode b_Mod_ahead 51 = .ok (.iadd, 1) := kq_96 byq_r (by decide +kernel)
theorem d_Mod_ahead_52 : decode b_Mod_ahead 52 = .ok (.istore_n 2, 1) := kq_61 byq_r (by decide +kernel)
theorem d_Mod_ahead_53 : decode b_Mod_ahead 53 = .ok (.iinc 3 1, 3) := kq_132 byq_r (b := 1) (by decide +kernel)
theorem d_Mod_ahead_56 : decode b_Mod_ahead 56 = .ok (.goto (-23), 3) := kq_167 byq_r (a := 255) (b := 233) (by decide +kernel)
theorem d_Mod_ahead_59 : decode b_Mod_ahead 59 = .ok (.aload_n 0, 1) := kq_42 byq_r (by decide +kernel)
theorem d_Mod_ahead_60 : decode b_Mod_ahead 60 = .ok (.iconst 0, 1) := kq_3 byq_r (by decide +kernel)
theorem d_Mod_ahead_61 : decode b_Mod_ahead 61 = .ok (.putfield 112, 3) := kq_181 byq_r (a := 0) (b := 112) (by decide +kernel)
theorem d_Mod_ahead_64 : decode b_Mod_ahead 64 = .ok (.iconst 0, 1) := kq_3 byq_r (by decide +kernel)
theorem d_Mod_ahead_65 : decode b_Mod_ahead 65 = .ok (.istore_n 3, 1) := kq_62 byq_r (by decide +kernel)
theorem d_Mod_ahead_66 : decode b_Mod_ahead 66 = .ok (.iload_n 3, 1) := kq_29 byq_r (by decide +kernel)
theorem d_Mod_ahead_67 : decode b_Mod_ahead 67 = .ok (.aload_n 0, 1) := kq_42 byq_r (by decide +kernel)
theorem d_Mod_ahead_68 : decode b_Mod_ahead 68 = .ok (.getfield 123, 3) := kq_180 byq_r (a := 0) (b := 123) (by decide +kernel)
theorem d_Mod_ahead_71 : decode b_Mod_ahead 71 = .ok (.if_icmp .ge 22, 3) := kq_162 byq_r (a := 0) (b := 22) (by decide +kernel)
theorem d_Mod_ahead_74 : decode b_Mod_ahead 74 = .ok (.aload_n 0, 1) := kq_42 byq_r (by decide +kernel)
theorem d_Mod_ahead_75 : decode b_Mod_ahead 75 = .ok (.aload_n 0, 1) := kq_42 byq_r (by decide +kernel)
theorem d_Mod_ahead_76 : decode b_Mod_ahead 76 = .ok (.getfield 60, 3) := kq_180 byq_r (a := 0) (b := 60) (by decide +kernel)
theorem d_Mod_ahead_79 : decode b_Mod_ahead 79 = .ok (.iload_n 3, 1) := kq_29 byq_r (by decide +kernel)
theorem d_Mod_ahead_80 : decode b_Mod_ahead 80 = .ok (.iaload, 1) := kq_46 byq_r (by decide +kernel)
theorem d_Mod_ahead_81 : decode b_Mod_ahead 81 = .ok (.invokestatic 147, 3) := kq_184 byq_r (a := 0) (b := 147) (by decide +kernel)
theorem d_Mod_ahead_84 : decode b_Mod_ahead 84 = .ok (.invokevirtual 342, 3) := kq_182 byq_r (a := 1) (b := 86) (by decide +kernel)
theorem d_Mod_ahead_87 : decode b_Mod_ahead 87 = .ok (.iinc 3 1, 3) := kq_132 byq_r (b := 1) (by decide +kernel)
theorem d_Mod_ahead_90 : decode b_Mod_ahead 90 = .ok (.goto (-24), 3) := kq_167 byq_r (a := 255) (b := 232) (by decide +kernel)
theorem d_Mod_ahead_93 : decode b_Mod_ahead 93 = .ok (.iload_n 2, 1) := kq_28 byq_r (by decide +kernel)
theorem d_Mod_ahead_94 : decode b_Mod_ahead 94 = .ok (.ireturn, 1) := kq_172 byq_r (by decide +kernel)
theorem d_Mod_meet_0 : decode b_Mod_meet 0 = .ok (.aload_n 0, 1) := kq_42 byq_r (by decide +kernel)
theorem d_Mod_meet_1 : decode b_Mod_meet 1 = .ok (.iconst 0, 1) := kq_3 byq_r (by decide +kernel)
theorem d_Mod_meet_2 : decode b_Mod_meet 2 = .ok (.putfield 109, 3) := kq_181 byq_r (a := 0) (b := 109) (by decide +kernel)
theorem d_Mod_meet_5 : decode b_Mod_meet 5 = .ok (.aload_n 0, 1) := kq_42 byq_r (by decide +kernel)
theorem d_Mod_meet_6 : decode b_Mod_meet 6 = .ok (.iload_n 1, 1) := kq_27 byq_r (by decide +kernel)
theorem d_Mod_meet_7 : decode b_Mod_meet 7 = .ok (.iload_n 2, 1) := kq_28 byq_r (by decide +kernel)
theorem d_Mod_meet_8 : decode b_Mod_meet 8 = .ok (.invokevirtual 354, 3) := kq_182 byq_r (a := 1) (b := 98) (by decide +kernel)
theorem d_Mod_meet_11 : decode b_Mod_meet 11 = .ok (.ifCond .ne 5, 3) := kq_154 byq_r (a := 0) (b := 5) (by decide +kernel)
theorem d_Mod_meet_14 : decode b_Mod_meet 14 = .ok (.iconst (-1), 1) := kq_2 byq_r (by decide +kernel)
theorem d_Mod_meet_15 : decode b_Mod_meet 15 = .ok (.ireturn, 1) := kq_172 byq_r (by decide +kernel)
theorem d_Mod_meet_16 : decode b_Mod_meet 16 = .ok (.aload_n 0, 1) := kq_42 byq_r (by decide +kernel)
theorem d_Mod_meet_17 : decode b_Mod_meet 17 = .ok (.getfield 9, 3) := kq_180 byq_r (a := 0) (b := 9) (by decide +kernel)
theorem d_Mod_meet_20 : decode b_Mod_meet 20 = .ok (.aload_n 0, 1) := kq_42 byq_r (by decide +kernel)
theorem d_Mod_meet_21 : decode b_Mod_meet 21 = .ok (.getfield 60, 3) := kq_180 byq_r (a := 0) (b := 60) (by decide +kernel)
theorem d_Mod_meet_24 : decode b_Mod_meet 24 = .ok (.iconst 0, 1) := kq_3 byq_r (by decide +kernel)
theorem d_Mod_meet_25 : decode b_Mod_meet 25 = .ok (.invokestatic 286, 3) := kq_184 byq_r (a := 1) (b := 30) (by decide +kernel)
theorem d_Mod_meet_28 : decode b_Mod_meet 28 = .ok (.iconst 1, 1) := kq_4 byq_r (by decide +kernel)
theorem d_Mod_meet_29 : decode b_Mod_meet 29 = .ok (.istore_n 3, 1) := kq_62 byq_r (by decide +kernel)
theorem d_Mod_meet_30 : decode b_Mod_meet 30 = .ok (.iload_n 3, 1) := kq_29 byq_r (by decide +kernel)
theorem d_Mod_meet_31 : decode b_Mod_meet 31 = .ok (.bipush 60, 2) := kq_16 byq_r (b := 60) (by decide +kernel)
theorem d_Mod_meet_33 : decode b_Mod_meet 33 = .ok (.if_icmp .gt 72, 3) := kq_163 byq_r (a := 0) (b := 72) (by decide +kernel)
theorem d_Mod_meet_36 : decode b_Mod_meet 36 = .ok (.aload_n 0, 1) := kq_42 byq_r (by decide +kernel)
theorem d_Mod_meet_37 : decode b_Mod_meet 37 = .ok (.aload_n 0, 1) := kq_42 byq_r (by decide +kernel)
theorem d_Mod_meet_38 : decode b_Mod_meet 38 = .ok (.getfield 60, 3) := kq_180 byq_r (a := 0) (b := 60) (by decide +kernel)
theorem d_Mod_meet_41 : decode b_Mod_meet 41 = .ok (.invokevirtual 339, 3) := kq_182 byq_r (a := 1) (b := 83) (by decide +kernel)
theorem d_Mod_meet_44 : decode b_Mod_meet 44 = .ok (.aload_n 0, 1) := kq_42 byq_r (by decide +kernel)
theorem d_Mod_meet_45 : decode b_Mod_meet 45 = .ok (.getfield 130, 3) := kq_180 byq_r (a := 0) (b := 130) (by decide +kernel)
theorem d_Mod_meet_48 : decode b_Mod_meet 48 = .ok (.iload_n 1, 1) := kq_27 byq_r (by decide +kernel)
theorem d_Mod_meet_49 : decode b_Mod_meet 49 = .ok (.invokestatic 133, 3) := kq_184 byq_r (a := 0) (b := 133) (by decide +kernel)
theorem d_Mod_meet_52 : decode b_Mod_meet 52 = .ok (.aload_n 0, 1) := kq_42 byq_r (by decide +kernel)
theorem d_Mod_meet_53 : decode b_Mod_meet 53 = .ok (.getfield 130, 3) := kq_180 byq_r (a := 0) (b := 130) (by decide +kernel)
theorem d_Mod_meet_56 : decode b_Mod_meet 56 = .ok (.iload_n 2, 1) := kq_28 byq_r (by decide +kernel)
theorem d_Mod_meet_57 : decode b_Mod_meet 57 = .ok (.invokestatic 133, 3) := kq_184 byq_r (a := 0) (b := 133) (by decide +kernel)
theorem d_Mod_meet_60 : decode b_Mod_meet 60 = .ok (.if_icmp .eq 39, 3) := kq_159 byq_r (a := 0) (b := 39) (by decide +kernel)
theorem d_Mod_meet_63 : decode b_Mod_meet 63 = .ok (.aload_n 0, 1) := kq_42 byq_r (by decide +kernel)
theorem d_Mod_meet_64 : decode b_Mod_meet 64 = .ok (.aload_n 0, 1) := kq_42 byq_r (by decide +kernel)
theorem d_Mod_meet_65 : decode b_Mod_meet 65 = .ok (.getfield 60, 3) := kq_180 byq_r (a := 0) (b := 60) (by decide +kernel)
theorem d_Mod_meet_68 : decode b_Mod_meet 68 = .ok (.iload_n 1, 1) := kq_27 byq_r (by decide +kernel)
theorem d_Mod_meet_69 : decode b_Mod_meet 69 = .ok (.iload_n 2, 1) := kq_28 byq_r (by decide +kernel)
theorem d_Mod_meet_70 : decode b_Mod_meet 70 = .ok (.invokevirtual 330, 3) := kq_182 byq_r (a := 1) (b := 74) (by decide +kernel)
theorem d_Mod_meet_73 : decode b_Mod_meet 73 = .ok (.ifCond .ne 6, 3) := kq_154 byq_r (a := 0) (b := 6) (by decide +kernel)
theorem d_Mod_meet_76 : decode b_Mod_meet 76 = .ok (.goto 23, 3) := kq_167 byq_r (a := 0) (b := 23) (by decide +kernel)
theorem d_Mod_meet_79 : decode b_Mod_meet 79 = .ok (.aload_n 0, 1) := kq_42 byq_r (by decide +kernel)
theorem d_Mod_meet_80 : decode b_Mod_meet 80 = .ok (.iconst 0, 1) := kq_3 byq_r (by decide +kernel)
theorem d_Mod_meet_81 : decode b_Mod_meet 81 = .ok (.putfield 112, 3) := kq_181 byq_r (a := 0) (b := 112) (by decide +kernel)
theorem d_Mod_meet_84 : decode b_Mod_meet 84 = .ok (.aload_n 0, 1) := kq_42 byq_r (by decide +kernel)
theorem d_Mod_meet_85 : decode b_Mod_meet 85 = .ok (.aload_n 0, 1) := kq_42 byq_r (by decide +kernel)
theorem d_Mod_meet_86 : decode b_Mod_meet 86 = .ok (.getfield 60, 3) := kq_180 byq_r (a := 0) (b := 60) (by decide +kernel)
theorem d_Mod_meet_89 : decode b_Mod_meet 89 = .ok (.iload_n 1, 1) := kq_27 byq_r (by decide +kernel)
theorem d_Mod_meet_90 : decode b_Mod_meet 90 = .ok (.iaload, 1) := kq_46 byq_r (by decide +kernel)
theorem d_Mod_meet_91 : decode b_Mod_meet 91 = .ok (.invokestatic 147, 3) := kq_184 byq_r (a := 0) (b := 147) (by decide +kernel)
theorem d_Mod_meet_94 : decode b_Mod_meet 94 = .ok (.invokevirtual 342, 3) := kq_182 byq_r (a := 1) (b := 86) (by decide +kernel)
theorem d_Mod_meet_97 : decode b_Mod_meet 97 = .ok (.iload_n 3, 1) := kq_29 byq_r (by decide +kernel)
theorem d_Mod_meet_98 : decode b_Mod_meet 98 = .ok (.ireturn, 1) := kq_172 byq_r (by decide +kernel)
theorem d_Mod_meet_99 : decode b_Mod_meet 99 = .ok (.iinc 3 1, 3) := kq_132 byq_r (b := 1) (by decide +kernel)
theorem d_Mod_meet_102 : decode b_Mod_meet 102 = .ok (.goto (-72), 3) := kq_167 byq_r (a := 255) (b := 184) (by decide +kernel)
theorem d_Mod_meet_105 : decode b_Mod_meet 105 = .ok (.bipush (-2), 2) := kq_16 byq_r (b := 254) (by decide +kernel)
theorem d_Mod_meet_107 : decode b_Mod_meet 107 = .ok (.ireturn, 1) := kq_172 byq_r (by decide +kernel)
def j_Mod_goMinute_85_12 (v1 : Nat) (v2 : Int32) (M : Mem) : Option ((Int32 × Mem) ⊕ ((Mem))) :=
  if inb ((8 : Int32) + v2) (ln v1) = true then
  if inb v2 8 = true then
  if (M.1 166 v2.toNatClampNeg) = 0 then none else
  if inb ((8 : Int32) + v2) (ln v1) = true then
  mem_ (s_i M v1 ((8 : Int32) + v2).toNatClampNeg (((M.1 v1 ((8 : Int32) + v2).toNatClampNeg) + (1 : Int32)) - ((M.1 v1 ((8 : Int32) + v2).toNatClampNeg) + (1 : Int32)) / (M.1 166 v2.toNatClampNeg) * (M.1 166 v2.toNatClampNeg))) fun M5 =>
  some (.inl ((v2 + (1 : Int32)), M5))
  else none
  else none
  else none
theorem j_Mod_goMinute_85_12_ok {E : Ev} {G : Gw} {d : Nat} {post : Mem → Prop} (X : Cx E G b_Mod_goMinute "WomenByTheRoofsModel" 4 d none) (hD : 402 ≤ d)  (v1 : Nat) (v2 : Int32) (hk_v1 : kd v1 = 1)  (M : Mem)  (o : (Int32 × Mem) ⊕ ((Mem))) (h : j_Mod_goMinute_85_12 v1 v2 M = some o) (kc : ∀ s9 : Int32 × Mem, o = .inl s9 → V E (0, 0) G 4 (QV E G post) s9.2 12 [(0, .ref (G.2.2 + 162)), (1, .ref (G.2.2 + v1)), (2, .int s9.1)] []) (kx0 : ∀ x9 : Mem, o = .inr x9 → V E (0, 0) G 4 (QV E G post) x9 112 [(0, .ref (G.2.2 + 162)), (1, .ref (G.2.2 + v1))] []) : V E (0, 0) G 4 (QV E G post) M 85 [(0, .ref (G.2.2 + 162)), (1, .ref (G.2.2 + v1)), (2, .int v2)] [] := by
  unfold j_Mod_goMinute_85_12 at h
  refine V_aload_n (n := 1) X d_Mod_goMinute_85 rfl rfl rfl ?_
  refine V_bipush (v := 8) X d_Mod_goMinute_86 (by decide) rfl ?_
  refine V_iload_n (n := 2) X d_Mod_goMinute_88 rfl rfl rfl ?_
  refine V_iadd X d_Mod_goMinute_89 rfl ?_
  refine V_aload_n (n := 1) X d_Mod_goMinute_90 rfl rfl rfl ?_
  refine V_bipush (v := 8) X d_Mod_goMinute_91 (by decide) rfl ?_
  refine V_iload_n (n := 2) X d_Mod_goMinute_93 rfl rfl rfl ?_
  refine V_iadd X d_Mod_goMinute_94 rfl ?_
  obtain ⟨hb, h⟩ := ifn h
  refine V_iald X hk_v1 (inb_in rfl hb) d_Mod_goMinute_95 rfl ?_
  refine V_iconst (v := 1) X d_Mod_goMinute_96 (by decide) rfl ?_
  refine V_iadd X d_Mod_goMinute_97 rfl ?_
  refine V_aload_n (n := 0) X d_Mod_goMinute_98 rfl rfl rfl ?_
  refine V_getr (k2 := 166) X fo_Mod_26 kd_162 rfl rf_162_7 d_Mod_goMinute_99 rfl ?_
  refine V_iload_n (n := 2) X d_Mod_goMinute_102 rfl rfl rfl ?_
  obtain ⟨hb, h⟩ := ifn h
  refine V_iald X kd_166 (inb_in ln_166 hb) d_Mod_goMinute_103 rfl ?_
  obtain ⟨hq, h⟩ := ifz h
  refine V_irem X d_Mod_goMinute_104 hq rfl ?_
  obtain ⟨hb, h⟩ := ifn h
  obtain ⟨M5, eM5, h⟩ := memS h
  refine V_iast X hk_v1 (inb_in rfl hb) d_Mod_goMinute_105 rfl ?_
  rw [← eM5]
  refine V_iinc (n := 2) (v := (v2 + (1 : Int32))) (lv' := [(2, .int (v2 + (1 : Int32))), (0, .ref (G.2.2 + 162)), (1, .ref (G.2.2 + v1))]) X d_Mod_goMinute_106 rfl rfl (by decide) rfl rfl ?_
  refine V_goto (pc' := 12) X d_Mod_goMinute_109 (by decide) ?_
  refine V_sub (lv' := [(0, .ref (G.2.2 + 162)), (1, .ref (G.2.2 + v1)), (2, .int (v2 + (1 : Int32)))]) [1, 2, 0] rfl ?_
  exact kc ((v2 + (1 : Int32)), M5) (Option.some.inj h).symm
def lb_Mod_goMinute_12 (v1 : Nat) (s : Int32 × Mem) : Option ((Int32 × Mem) ⊕ ((Mem))) :=
  if (s.2.1 162 4) ≤ s.1 then
  some (.inr s.2)
  else
  Option.bind (f_Mod_goes v1 s.1 s.2) fun x3 =>
  if x3.1 = 0 then
  some (.inl ((s.1 + (1 : Int32)), x3.2))
  else
  if inb s.1 (ln v1) = true then
  if inb ((8 : Int32) + s.1) (ln v1) = true then
  if inb (((9 : Int32) * s.1) + (x3.2.1 v1 ((8 : Int32) + s.1).toNatClampNeg)) 72 = true then
  Option.bind (f_Mod_go v1 (x3.2.1 v1 s.1.toNatClampNeg) (x3.2.1 165 (((9 : Int32) * s.1) + (x3.2.1 v1 ((8 : Int32) + s.1).toNatClampNeg)).toNatClampNeg) x3.2) fun x4 =>
  if x4 = (-1 : Int32) then
  j_Mod_goMinute_85_12 v1 s.1 x3.2
  else
  if inb s.1 (ln v1) = true then
  if x4 = (x3.2.1 v1 s.1.toNatClampNeg) then
  j_Mod_goMinute_85_12 v1 s.1 x3.2
  else
  if inb s.1 (ln v1) = true then
  mem_ (s_i x3.2 v1 s.1.toNatClampNeg x4) fun M6 =>
  mem_ (s_i M6 162 29 ((M6.1 162 29) ||| ((1 : Int32) <<< (s.1 &&& 31)))) fun M7 =>
  j_Mod_goMinute_85_12 v1 s.1 M7
  else none
  else none
  else none
  else none
  else none
theorem lb_Mod_goMinute_12_ok {E : Ev} {G : Gw} {d : Nat} {post : Mem → Prop} (X : Cx E G b_Mod_goMinute "WomenByTheRoofsModel" 4 d none) (hD : 402 ≤ d)  (v1 : Nat) (hk_v1 : kd v1 = 1)  (s : Int32 × Mem) (o : (Int32 × Mem) ⊕ ((Mem))) (h : lb_Mod_goMinute_12 v1 s = some o) (kc : ∀ s9 : Int32 × Mem, o = .inl s9 → V E (0, 0) G 4 (QV E G post) s9.2 12 [(0, .ref (G.2.2 + 162)), (1, .ref (G.2.2 + v1)), (2, .int s9.1)] []) (kx0 : ∀ x9 : Mem, o = .inr x9 → V E (0, 0) G 4 (QV E G post) x9 112 [(0, .ref (G.2.2 + 162)), (1, .ref (G.2.2 + v1))] []) : V E (0, 0) G 4 (QV E G post) s.2 12 [(0, .ref (G.2.2 + 162)), (1, .ref (G.2.2 + v1)), (2, .int s.1)] [] := by
  unfold lb_Mod_goMinute_12 at h
  refine V_iload_n (n := 2) X d_Mod_goMinute_12 rfl rfl rfl ?_
  refine V_aload_n (n := 0) X d_Mod_goMinute_13 rfl rfl rfl ?_
  refine V_geti X fo_Mod_123 kd_162 rfl d_Mod_goMinute_14 rfl ?_
  refine V_icmp_ge (tgt := 112) X d_Mod_goMinute_17 (by decide) rfl (fun c11 => ?_) (fun c11 => ?_)
  · rw [if_pos c11] at h
    refine V_sub (lv' := [(0, .ref (G.2.2 + 162)), (1, .ref (G.2.2 + v1))]) [0, 1] rfl ?_
    exact kx0 s.2 (Option.some.inj h).symm
  · rw [if_neg c11] at h
    refine V_aload_n (n := 0) X d_Mod_goMinute_20 rfl rfl rfl ?_
    refine V_aload_n (n := 1) X d_Mod_goMinute_21 rfl rfl rfl ?_
    refine V_iload_n (n := 2) X d_Mod_goMinute_22 rfl rfl rfl ?_
    obtain ⟨x3, hx3, h⟩ := ob_s h
    refine V_ci (As := [.ref (G.2.2 + v1), .int s.1]) X (Z0 E) ml_Mod_268 yq_Mod_goes (c_Mod_goes E.2.1 G v1 s.1 s.2 x3 hx3 _ (Nat.le_refl _)) kd_162 rfl rfl (by omega) rfl (Nat.le_of_ble_eq_true rfl) d_Mod_goMinute_23 rfl (fun r9 M9 hq => ?_)
    rw [hq.1, hq.2]
    refine V_if_ne (tgt := 32) X d_Mod_goMinute_26 (by decide) rfl (fun c10 => ?_) (fun c10 => ?_)
    · rw [if_neg c10] at h
      refine V_aload_n (n := 0) X d_Mod_goMinute_32 rfl rfl rfl ?_
      refine V_aload_n (n := 1) X d_Mod_goMinute_33 rfl rfl rfl ?_
      refine V_aload_n (n := 1) X d_Mod_goMinute_34 rfl rfl rfl ?_
      refine V_iload_n (n := 2) X d_Mod_goMinute_35 rfl rfl rfl ?_
      obtain ⟨hb, h⟩ := ifn h
      refine V_iald X hk_v1 (inb_in rfl hb) d_Mod_goMinute_36 rfl ?_
      refine V_aload_n (n := 0) X d_Mod_goMinute_37 rfl rfl rfl ?_
      refine V_getr (k2 := 165) X fo_Mod_23 kd_162 rfl rf_162_6 d_Mod_goMinute_38 rfl ?_
      refine V_bipush (v := 9) X d_Mod_goMinute_41 (by decide) rfl ?_
      refine V_iload_n (n := 2) X d_Mod_goMinute_43 rfl rfl rfl ?_
      refine V_imul X d_Mod_goMinute_44 rfl ?_
      refine V_aload_n (n := 1) X d_Mod_goMinute_45 rfl rfl rfl ?_
      refine V_bipush (v := 8) X d_Mod_goMinute_46 (by decide) rfl ?_
      refine V_iload_n (n := 2) X d_Mod_goMinute_48 rfl rfl rfl ?_
      refine V_iadd X d_Mod_goMinute_49 rfl ?_
      obtain ⟨hb, h⟩ := ifn h
      refine V_iald X hk_v1 (inb_in rfl hb) d_Mod_goMinute_50 rfl ?_
      refine V_iadd X d_Mod_goMinute_51 rfl ?_
      obtain ⟨hb, h⟩ := ifn h
      refine V_iald X kd_165 (inb_in ln_165 hb) d_Mod_goMinute_52 rfl ?_
      obtain ⟨x4, hx4, h⟩ := ob_s h
      refine V_ci (As := [.ref (G.2.2 + v1), .int (x3.2.1 v1 s.1.toNatClampNeg), .int (x3.2.1 165 (((9 : Int32) * s.1) + (x3.2.1 v1 ((8 : Int32) + s.1).toNatClampNeg)).toNatClampNeg)]) X (Z0 E) ml_Mod_252 yq_Mod_go (c_Mod_go E.2.1 G v1 (x3.2.1 v1 s.1.toNatClampNeg) (x3.2.1 165 (((9 : Int32) * s.1) + (x3.2.1 v1 ((8 : Int32) + s.1).toNatClampNeg)).toNatClampNeg) x3.2 x4 hx4 _ (Nat.le_refl _)) kd_162 rfl rfl (by omega) rfl (Nat.le_of_ble_eq_true rfl) d_Mod_goMinute_53 rfl (fun r9 M9 hq => ?_)
      rw [hq.1, hq.2]
      refine V_istore_n (lv' := [(3, .int x4), (0, .ref (G.2.2 + 162)), (1, .ref (G.2.2 + v1)), (2, .int s.1)]) X d_Mod_goMinute_56 rfl (by decide) rfl rfl ?_
      refine V_iload_n (n := 0) X d_Mod_goMinute_57 rfl rfl rfl ?_
      refine V_iconst (v := -1) X d_Mod_goMinute_58 (by decide) rfl ?_
      refine V_icmp_eq (tgt := 85) X d_Mod_goMinute_59 (by decide) rfl (fun c9 => ?_) (fun c9 => ?_)
      · rw [if_pos c9] at h
        refine V_sub (lv' := [(0, .ref (G.2.2 + 162)), (1, .ref (G.2.2 + v1)), (2, .int s.1)]) [1, 2, 3] rfl ?_
        exact j_Mod_goMinute_85_12_ok X hD v1 s.1 hk_v1 x3.2 _ h kc kx0
      · rw [if_neg c9] at h
        refine V_iload_n (n := 0) X d_Mod_goMinute_62 rfl rfl rfl ?_
        refine V_aload_n (n := 2) X d_Mod_goMinute_63 rfl rfl rfl ?_
        refine V_iload_n (n := 3) X d_Mod_goMinute_64 rfl rfl rfl ?_
        obtain ⟨hb, h⟩ := ifn h
        refine V_iald X hk_v1 (inb_in rfl hb) d_Mod_goMinute_65 rfl ?_
        refine V_icmp_eq (tgt := 85) X d_Mod_goMinute_66 (by decide) rfl (fun c8 => ?_) (fun c8 => ?_)
        · rw [if_pos c8] at h
          refine V_sub (lv' := [(0, .ref (G.2.2 + 162)), (1, .ref (G.2.2 + v1)), (2, .int s.1)]) [1, 2, 3] rfl ?_
          exact j_Mod_goMinute_85_12_ok X hD v1 s.1 hk_v1 x3.2 _ h kc kx0
        · rw [if_neg c8] at h
          refine V_aload_n (n := 2) X d_Mod_goMinute_69 rfl rfl rfl ?_
          refine V_iload_n (n := 3) X d_Mod_goMinute_70 rfl rfl rfl ?_
          refine V_iload_n (n := 0) X d_Mod_goMinute_71 rfl rfl rfl ?_
          obtain ⟨hb, h⟩ := ifn h
          obtain ⟨M6, eM6, h⟩ := memS h
          refine V_iast X hk_v1 (inb_in rfl hb) d_Mod_goMinute_72 rfl ?_
          rw [← eM6]
          refine V_aload_n (n := 1) X d_Mod_goMinute_73 rfl rfl rfl ?_
          refine V_dup X d_Mod_goMinute_74 rfl rfl ?_
          refine V_geti X fo_Mod_324 kd_162 rfl d_Mod_goMinute_75 rfl ?_
          refine V_iconst (v := 1) X d_Mod_goMinute_78 (by decide) rfl ?_
          refine V_iload_n (n := 3) X d_Mod_goMinute_79 rfl rfl rfl ?_
          refine V_ishl X d_Mod_goMinute_80 rfl ?_
          refine V_ior X d_Mod_goMinute_81 rfl ?_
          obtain ⟨M7, eM7, h⟩ := memS h
          refine V_putI X fp_Mod_324 kd_162 rfl d_Mod_goMinute_82 rfl ?_
          rw [← eM7]
          refine V_sub (lv' := [(0, .ref (G.2.2 + 162)), (1, .ref (G.2.2 + v1)), (2, .int s.1)]) [1, 2, 3] rfl ?_
          exact j_Mod_goMinute_85_12_ok X hD v1 s.1 hk_v1 M7 _ h kc kx0
    · rw [if_pos c10] at h
      refine V_goto (pc' := 106) X d_Mod_goMinute_29 (by decide) ?_
      refine V_iinc (n := 2) (v := (s.1 + (1 : Int32))) (lv' := [(2, .int (s.1 + (1 : Int32))), (0, .ref (G.2.2 + 162)), (1, .ref (G.2.2 + v1))]) X d_Mod_goMinute_106 rfl rfl (by decide) rfl rfl ?_
      refine V_goto (pc' := 12) X d_Mod_goMinute_109 (by decide) ?_
      refine V_sub (lv' := [(0, .ref (G.2.2 + 162)), (1, .ref (G.2.2 + v1)), (2, .int (s.1 + (1 : Int32)))]) [1, 2, 0] rfl ?_
      exact kc ((s.1 + (1 : Int32)), x3.2) (Option.some.inj h).symm
theorem lp_Mod_goMinute_12_ok {E : Ev} {G : Gw} {d : Nat} {post : Mem → Prop} (X : Cx E G b_Mod_goMinute "WomenByTheRoofsModel" 4 d none) (hD : 402 ≤ d)  (v1 : Nat) (hk_v1 : kd v1 = 1)  (n9 : Nat) (s : Int32 × Mem) (x : (Mem)) (h : iter (lb_Mod_goMinute_12 v1) n9 s = some x) (kx0 : ∀ x9 : Mem, x = x9 → V E (0, 0) G 4 (QV E G post) x9 112 [(0, .ref (G.2.2 + 162)), (1, .ref (G.2.2 + v1))] []) : V E (0, 0) G 4 (QV E G post) s.2 12 [(0, .ref (G.2.2 + 162)), (1, .ref (G.2.2 + v1)), (2, .int s.1)] [] :=
  iter_P (P := fun s : Int32 × Mem => V E (0, 0) G 4 (QV E G post) s.2 12 [(0, .ref (G.2.2 + 162)), (1, .ref (G.2.2 + v1)), (2, .int s.1)] []) (fun s o hb kc ky => lb_Mod_goMinute_12_ok X hD v1 hk_v1 s o hb kc (fun x9 e9 => kx0 x9 (ky _ e9).symm)) n9 s h
def lb_Mod_goMinute_124 (v1 : Nat) (v2 : Int32) (s : Int32 × Mem) : Option ((Int32 × Mem) ⊕ ((Mem))) :=
  if (s.2.1 162 4) ≤ s.1 then
  some (.inr s.2)
  else
  Option.bind (f_Mod_has (s.2.1 162 5) v2) fun x13 =>
  if x13 = 0 then
  Option.bind (f_Mod_has (s.2.1 162 5) s.1) fun x14 =>
  if x14 = 0 then
  some (.inl ((s.1 + (1 : Int32)), s.2))
  else
  Option.bind (f_Mod_areMeeting v1 v2 s.1 s.2) fun x15 =>
  if x15 = 0 then
  some (.inl ((s.1 + (1 : Int32)), s.2))
  else
  if inb (((16 : Int32) + ((8 : Int32) * v2)) + s.1) (ln v1) = true then
  if inb (((16 : Int32) + ((8 : Int32) * v2)) + s.1) (ln v1) = true then
  mem_ (s_i s.2 v1 (((16 : Int32) + ((8 : Int32) * v2)) + s.1).toNatClampNeg ((s.2.1 v1 (((16 : Int32) + ((8 : Int32) * v2)) + s.1).toNatClampNeg) + (1 : Int32))) fun M16 =>
  if inb (((16 : Int32) + ((8 : Int32) * s.1)) + v2) (ln v1) = true then
  if inb (((16 : Int32) + ((8 : Int32) * s.1)) + v2) (ln v1) = true then
  mem_ (s_i M16 v1 (((16 : Int32) + ((8 : Int32) * s.1)) + v2).toNatClampNeg ((M16.1 v1 (((16 : Int32) + ((8 : Int32) * s.1)) + v2).toNatClampNeg) + (1 : Int32))) fun M17 =>
  mem_ (s_i M17 162 31 ((M17.1 162 31) + (1 : Int32))) fun M18 =>
  some (.inl ((s.1 + (1 : Int32)), M18))
  else none
  else none
  else none
  else none
  else
  some (.inl ((s.1 + (1 : Int32)), s.2))
theorem lb_Mod_goMinute_124_ok {E : Ev} {G : Gw} {d : Nat} {post : Mem → Prop} (X : Cx E G b_Mod_goMinute "WomenByTheRoofsModel" 4 d none) (hD : 402 ≤ d)  (v1 : Nat) (v2 : Int32) (hk_v1 : kd v1 = 1)  (s : Int32 × Mem) (o : (Int32 × Mem) ⊕ ((Mem))) (h : lb_Mod_goMinute_124 v1 v2 s = some o) (kc : ∀ s9 : Int32 × Mem, o = .inl s9 → V E (0, 0) G 4 (QV E G post) s9.2 124 [(0, .ref (G.2.2 + 162)), (1, .ref (G.2.2 + v1)), (2, .int v2), (3, .int s9.1)] []) (kx0 : ∀ x9 : Mem, o = .inr x9 → V E (0, 0) G 4 (QV E G post) x9 213 [(0, .ref (G.2.2 + 162)), (1, .ref (G.2.2 + v1)), (2, .int v2)] []) : V E (0, 0) G 4 (QV E G post) s.2 124 [(0, .ref (G.2.2 + 162)), (1, .ref (G.2.2 + v1)), (2, .int v2), (3, .int s.1)] [] := by
  unfold lb_Mod_goMinute_124 at h
  refine V_iload_n (n := 3) X d_Mod_goMinute_124 rfl rfl rfl ?_
  refine V_aload_n (n := 0) X d_Mod_goMinute_125 rfl rfl rfl ?_
  refine V_geti X fo_Mod_123 kd_162 rfl d_Mod_goMinute_126 rfl ?_
  refine V_icmp_ge (tgt := 213) X d_Mod_goMinute_129 (by decide) rfl (fun c22 => ?_) (fun c22 => ?_)
  · rw [if_pos c22] at h
    refine V_sub (lv' := [(0, .ref (G.2.2 + 162)), (1, .ref (G.2.2 + v1)), (2, .int v2)]) [0, 1, 2] rfl ?_
    exact kx0 s.2 (Option.some.inj h).symm
  · rw [if_neg c22] at h
    refine V_aload_n (n := 0) X d_Mod_goMinute_132 rfl rfl rfl ?_
    refine V_geti X fo_Mod_130 kd_162 rfl d_Mod_goMinute_133 rfl ?_
    refine V_iload_n (n := 2) X d_Mod_goMinute_136 rfl rfl rfl ?_
    obtain ⟨x13, hx13, h⟩ := ob_s h
    refine V_si (As := [.int (s.2.1 162 5), .int v2]) X (Z0 E) ml_Mod_133 yq_Mod_has (c_Mod_has E.2.1 G (s.2.1 162 5) v2 s.2 x13 hx13 _ (Nat.le_refl _)) rfl (by omega) rfl (Nat.le_of_ble_eq_true rfl) d_Mod_goMinute_137 rfl (fun r9 M9 hq => ?_)
    rw [hq.1, hq.2]
    refine V_if_ne (tgt := 207) X d_Mod_goMinute_140 (by decide) rfl (fun c21 => ?_) (fun c21 => ?_)
    · rw [if_neg c21] at h
      refine V_iinc (n := 3) (v := (s.1 + (1 : Int32))) (lv' := [(3, .int (s.1 + (1 : Int32))), (0, .ref (G.2.2 + 162)), (1, .ref (G.2.2 + v1)), (2, .int v2)]) X d_Mod_goMinute_207 rfl rfl (by decide) rfl rfl ?_
      refine V_goto (pc' := 124) X d_Mod_goMinute_210 (by decide) ?_
      refine V_sub (lv' := [(0, .ref (G.2.2 + 162)), (1, .ref (G.2.2 + v1)), (2, .int v2), (3, .int (s.1 + (1 : Int32)))]) [1, 2, 3, 0] rfl ?_
      exact kc ((s.1 + (1 : Int32)), s.2) (Option.some.inj h).symm
    · rw [if_pos c21] at h
      refine V_aload_n (n := 0) X d_Mod_goMinute_143 rfl rfl rfl ?_
      refine V_geti X fo_Mod_130 kd_162 rfl d_Mod_goMinute_144 rfl ?_
      refine V_iload_n (n := 3) X d_Mod_goMinute_147 rfl rfl rfl ?_
      obtain ⟨x14, hx14, h⟩ := ob_s h
      refine V_si (As := [.int (s.2.1 162 5), .int s.1]) X (Z0 E) ml_Mod_133 yq_Mod_has (c_Mod_has E.2.1 G (s.2.1 162 5) s.1 s.2 x14 hx14 _ (Nat.le_refl _)) rfl (by omega) rfl (Nat.le_of_ble_eq_true rfl) d_Mod_goMinute_148 rfl (fun r9 M9 hq => ?_)
      rw [hq.1, hq.2]
      refine V_if_eq (tgt := 207) X d_Mod_goMinute_151 (by decide) rfl (fun c20 => ?_) (fun c20 => ?_)
      · rw [if_pos c20] at h
        refine V_iinc (n := 3) (v := (s.1 + (1 : Int32))) (lv' := [(3, .int (s.1 + (1 : Int32))), (0, .ref (G.2.2 + 162)), (1, .ref (G.2.2 + v1)), (2, .int v2)]) X d_Mod_goMinute_207 rfl rfl (by decide) rfl rfl ?_
        refine V_goto (pc' := 124) X d_Mod_goMinute_210 (by decide) ?_
        refine V_sub (lv' := [(0, .ref (G.2.2 + 162)), (1, .ref (G.2.2 + v1)), (2, .int v2), (3, .int (s.1 + (1 : Int32)))]) [1, 2, 3, 0] rfl ?_
        exact kc ((s.1 + (1 : Int32)), s.2) (Option.some.inj h).symm
      · rw [if_neg c20] at h
        refine V_aload_n (n := 0) X d_Mod_goMinute_154 rfl rfl rfl ?_
        refine V_aload_n (n := 1) X d_Mod_goMinute_155 rfl rfl rfl ?_
        refine V_iload_n (n := 2) X d_Mod_goMinute_156 rfl rfl rfl ?_
        refine V_iload_n (n := 3) X d_Mod_goMinute_157 rfl rfl rfl ?_
        obtain ⟨x15, hx15, h⟩ := ob_s h
        refine V_ci (As := [.ref (G.2.2 + v1), .int v2, .int s.1]) X (Z0 E) ml_Mod_330 yq_Mod_areMeeting (c_Mod_areMeeting E.2.1 G v1 v2 s.1 s.2 x15 hx15 _ (Nat.le_refl _)) kd_162 rfl rfl (by omega) rfl (Nat.le_of_ble_eq_true rfl) d_Mod_goMinute_158 rfl (fun r9 M9 hq => ?_)
        rw [hq.1, hq.2]
        refine V_if_ne (tgt := 167) X d_Mod_goMinute_161 (by decide) rfl (fun c19 => ?_) (fun c19 => ?_)
        · rw [if_neg c19] at h
          refine V_aload_n (n := 1) X d_Mod_goMinute_167 rfl rfl rfl ?_
          refine V_bipush (v := 16) X d_Mod_goMinute_168 (by decide) rfl ?_
          refine V_bipush (v := 8) X d_Mod_goMinute_170 (by decide) rfl ?_
          refine V_iload_n (n := 2) X d_Mod_goMinute_172 rfl rfl rfl ?_
          refine V_imul X d_Mod_goMinute_173 rfl ?_
          refine V_iadd X d_Mod_goMinute_174 rfl ?_
          refine V_iload_n (n := 3) X d_Mod_goMinute_175 rfl rfl rfl ?_
          refine V_iadd X d_Mod_goMinute_176 rfl ?_
          refine V_dup2 X d_Mod_goMinute_177 rfl rfl rfl ?_
          obtain ⟨hb, h⟩ := ifn h
          refine V_iald X hk_v1 (inb_in rfl hb) d_Mod_goMinute_178 rfl ?_
          refine V_iconst (v := 1) X d_Mod_goMinute_179 (by decide) rfl ?_
          refine V_iadd X d_Mod_goMinute_180 rfl ?_
          obtain ⟨hb, h⟩ := ifn h
          obtain ⟨M16, eM16, h⟩ := memS h
          refine V_iast X hk_v1 (inb_in rfl hb) d_Mod_goMinute_181 rfl ?_
          rw [← eM16]
          refine V_aload_n (n := 1) X d_Mod_goMinute_182 rfl rfl rfl ?_
          refine V_bipush (v := 16) X d_Mod_goMinute_183 (by decide) rfl ?_
          refine V_bipush (v := 8) X d_Mod_goMinute_185 (by decide) rfl ?_
          refine V_iload_n (n := 3) X d_Mod_goMinute_187 rfl rfl rfl ?_
          refine V_imul X d_Mod_goMinute_188 rfl ?_
          refine V_iadd X d_Mod_goMinute_189 rfl ?_
          refine V_iload_n (n := 2) X d_Mod_goMinute_190 rfl rfl rfl ?_
          refine V_iadd X d_Mod_goMinute_191 rfl ?_
          refine V_dup2 X d_Mod_goMinute_192 rfl rfl rfl ?_
          obtain ⟨hb, h⟩ := ifn h
          refine V_iald X hk_v1 (inb_in rfl hb) d_Mod_goMinute_193 rfl ?_
          refine V_iconst (v := 1) X d_Mod_goMinute_194 (by decide) rfl ?_
          refine V_iadd X d_Mod_goMinute_195 rfl ?_
          obtain ⟨hb, h⟩ := ifn h
          obtain ⟨M17, eM17, h⟩ := memS h
          refine V_iast X hk_v1 (inb_in rfl hb) d_Mod_goMinute_196 rfl ?_
          rw [← eM17]
          refine V_aload_n (n := 0) X d_Mod_goMinute_197 rfl rfl rfl ?_
          refine V_dup X d_Mod_goMinute_198 rfl rfl ?_
          refine V_geti X fo_Mod_327 kd_162 rfl d_Mod_goMinute_199 rfl ?_
          refine V_iconst (v := 1) X d_Mod_goMinute_202 (by decide) rfl ?_
          refine V_iadd X d_Mod_goMinute_203 rfl ?_
          obtain ⟨M18, eM18, h⟩ := memS h
          refine V_putI X fp_Mod_327 kd_162 rfl d_Mod_goMinute_204 rfl ?_
          rw [← eM18]
          refine V_iinc (n := 3) (v := (s.1 + (1 : Int32))) (lv' := [(3, .int (s.1 + (1 : Int32))), (0, .ref (G.2.2 + 162)), (1, .ref (G.2.2 + v1)), (2, .int v2)]) X d_Mod_goMinute_207 rfl rfl (by decide) rfl rfl ?_
          refine V_goto (pc' := 124) X d_Mod_goMinute_210 (by decide) ?_
          refine V_sub (lv' := [(0, .ref (G.2.2 + 162)), (1, .ref (G.2.2 + v1)), (2, .int v2), (3, .int (s.1 + (1 : Int32)))]) [1, 2, 3, 0] rfl ?_
          exact kc ((s.1 + (1 : Int32)), M18) (Option.some.inj h).symm
        · rw [if_pos c19] at h
          refine V_goto (pc' := 207) X d_Mod_goMinute_164 (by decide) ?_
          refine V_iinc (n := 3) (v := (s.1 + (1 : Int32))) (lv' := [(3, .int (s.1 + (1 : Int32))), (0, .ref (G.2.2 + 162)), (1, .ref (G.2.2 + v1)), (2, .int v2)]) X d_Mod_goMinute_207 rfl rfl (by decide) rfl rfl ?_
          refine V_goto (pc' := 124) X d_Mod_goMinute_210 (by decide) ?_
          refine V_sub (lv' := [(0, .ref (G.2.2 + 162)), (1, .ref (G.2.2 + v1)), (2, .int v2), (3, .int (s.1 + (1 : Int32)))]) [1, 2, 3, 0] rfl ?_
          exact kc ((s.1 + (1 : Int32)), s.2) (Option.some.inj h).symm
theorem lp_Mod_goMinute_124_ok {E : Ev} {G : Gw} {d : Nat} {post : Mem → Prop} (X : Cx E G b_Mod_goMinute "WomenByTheRoofsModel" 4 d none) (hD : 402 ≤ d)  (v1 : Nat) (v2 : Int32) (hk_v1 : kd v1 = 1)  (n9 : Nat) (s : Int32 × Mem) (x : (Mem)) (h : iter (lb_Mod_goMinute_124 v1 v2) n9 s = some x) (kx0 : ∀ x9 : Mem, x = x9 → V E (0, 0) G 4 (QV E G post) x9 213 [(0, .ref (G.2.2 + 162)), (1, .ref (G.2.2 + v1)), (2, .int v2)] []) : V E (0, 0) G 4 (QV E G post) s.2 124 [(0, .ref (G.2.2 + 162)), (1, .ref (G.2.2 + v1)), (2, .int v2), (3, .int s.1)] [] :=
  iter_P (P := fun s : Int32 × Mem => V E (0, 0) G 4 (QV E G post) s.2 124 [(0, .ref (G.2.2 + 162)), (1, .ref (G.2.2 + v1)), (2, .int v2), (3, .int s.1)] []) (fun s o hb kc ky => lb_Mod_goMinute_124_ok X hD v1 v2 hk_v1 s o hb kc (fun x9 e9 => kx0 x9 (ky _ e9).symm)) n9 s h
def lb_Mod_goMinute_114 (v1 : Nat) (s : Int32 × Mem) : Option ((Int32 × Mem) ⊕ ((Mem))) :=
  if (s.2.1 162 4) ≤ s.1 then
  some (.inr s.2)
  else
  Option.bind (iter (lb_Mod_goMinute_124 v1 s.1) FU ((0 : Int32), s.2)) fun x23 =>
  some (.inl ((s.1 + (1 : Int32)), x23))
theorem lb_Mod_goMinute_114_ok {E : Ev} {G : Gw} {d : Nat} {post : Mem → Prop} (X : Cx E G b_Mod_goMinute "WomenByTheRoofsModel" 4 d none) (hD : 402 ≤ d)  (v1 : Nat) (hk_v1 : kd v1 = 1)  (s : Int32 × Mem) (o : (Int32 × Mem) ⊕ ((Mem))) (h : lb_Mod_goMinute_114 v1 s = some o) (kc : ∀ s9 : Int32 × Mem, o = .inl s9 → V E (0, 0) G 4 (QV E G post) s9.2 114 [(0, .ref (G.2.2 + 162)), (1, .ref (G.2.2 + v1)), (2, .int s9.1)] []) (kx0 : ∀ x9 : Mem, o = .inr x9 → V E (0, 0) G 4 (QV E G post) x9 219 [(0, .ref (G.2.2 + 162)), (1, .ref (G.2.2 + v1))] []) : V E (0, 0) G 4 (QV E G post) s.2 114 [(0, .ref (G.2.2 + 162)), (1, .ref (G.2.2 + v1)), (2, .int s.1)] [] := by
  unfold lb_Mod_goMinute_114 at h
  refine V_iload_n (n := 2) X d_Mod_goMinute_114 rfl rfl rfl ?_
  refine V_aload_n (n := 0) X d_Mod_goMinute_115 rfl rfl rfl ?_
  refine V_geti X fo_Mod_123 kd_162 rfl d_Mod_goMinute_116 rfl ?_
  refine V_icmp_ge (tgt := 219) X d_Mod_goMinute_119 (by decide) rfl (fun c24 => ?_) (fun c24 => ?_)
  · rw [if_pos c24] at h
    refine V_sub (lv' := [(0, .ref (G.2.2 + 162)), (1, .ref (G.2.2 + v1))]) [0, 1] rfl ?_
    exact kx0 s.2 (Option.some.inj h).symm
  · rw [if_neg c24] at h
    refine V_iconst (v := 0) X d_Mod_goMinute_122 (by decide) rfl ?_
    refine V_istore_n (lv' := [(3, .int (0 : Int32)), (0, .ref (G.2.2 + 162)), (1, .ref (G.2.2 + v1)), (2, .int s.1)]) X d_Mod_goMinute_123 rfl (by decide) rfl rfl ?_
    refine V_sub (lv' := [(0, .ref (G.2.2 + 162)), (1, .ref (G.2.2 + v1)), (2, .int s.1), (3, .int (0 : Int32))]) [1, 2, 3, 0] rfl ?_
    obtain ⟨x23, hx23, h⟩ := ob_s h
    refine lp_Mod_goMinute_124_ok X hD v1 s.1 hk_v1 _ _ _ hx23 (fun x9 e9 => ?_)
    subst e9
    refine V_iinc (n := 2) (v := (s.1 + (1 : Int32))) (lv' := [(2, .int (s.1 + (1 : Int32))), (0, .ref (G.2.2 + 162)), (1, .ref (G.2.2 + v1))]) X d_Mod_goMinute_213 rfl rfl (by decide) rfl rfl ?_
    refine V_goto (pc' := 114) X d_Mod_goMinute_216 (by decide) ?_
    refine V_sub (lv' := [(0, .ref (G.2.2 + 162)), (1, .ref (G.2.2 + v1)), (2, .int (s.1 + (1 : Int32)))]) [1, 2, 0] rfl ?_
    exact kc ((s.1 + (1 : Int32)), x23) (Option.some.inj h).symm
theorem lp_Mod_goMinute_114_ok {E : Ev} {G : Gw} {d : Nat} {post : Mem → Prop} (X : Cx E G b_Mod_goMinute "WomenByTheRoofsModel" 4 d none) (hD : 402 ≤ d)  (v1 : Nat) (hk_v1 : kd v1 = 1)  (n9 : Nat) (s : Int32 × Mem) (x : (Mem)) (h : iter (lb_Mod_goMinute_114 v1) n9 s = some x) (kx0 : ∀ x9 : Mem, x = x9 → V E (0, 0) G 4 (QV E G post) x9 219 [(0, .ref (G.2.2 + 162)), (1, .ref (G.2.2 + v1))] []) : V E (0, 0) G 4 (QV E G post) s.2 114 [(0, .ref (G.2.2 + 162)), (1, .ref (G.2.2 + v1)), (2, .int s.1)] [] :=
  iter_P (P := fun s : Int32 × Mem => V E (0, 0) G 4 (QV E G post) s.2 114 [(0, .ref (G.2.2 + 162)), (1, .ref (G.2.2 + v1)), (2, .int s.1)] []) (fun s o hb kc ky => lb_Mod_goMinute_114_ok X hD v1 hk_v1 s o hb kc (fun x9 e9 => kx0 x9 (ky _ e9).symm)) n9 s h
def lb_Mod_goMinute_226 (v1 : Nat) (v2 : Int32) (s : Int32 × Mem) : Option ((Int32 × Mem) ⊕ ((Mem))) :=
  if (s.2.1 162 4) ≤ s.1 then
  some (.inr s.2)
  else
  Option.bind (f_Mod_has v2 s.1) fun x26 =>
  if x26 = 0 then
  some (.inl ((s.1 + (1 : Int32)), s.2))
  else
  if inb (93 : Int32) (ln v1) = true then
  Option.bind (f_Mod_hears v1 s.1 s.2) fun x27 =>
  if inb (93 : Int32) (ln v1) = true then
  mem_ (s_i s.2 v1 (93 : Int32).toNatClampNeg ((s.2.1 v1 (93 : Int32).toNatClampNeg) ||| x27)) fun M28 =>
  some (.inl ((s.1 + (1 : Int32)), M28))
  else none
  else none
theorem lb_Mod_goMinute_226_ok {E : Ev} {G : Gw} {d : Nat} {post : Mem → Prop} (X : Cx E G b_Mod_goMinute "WomenByTheRoofsModel" 4 d none) (hD : 402 ≤ d)  (v1 : Nat) (v2 : Int32) (hk_v1 : kd v1 = 1)  (s : Int32 × Mem) (o : (Int32 × Mem) ⊕ ((Mem))) (h : lb_Mod_goMinute_226 v1 v2 s = some o) (kc : ∀ s9 : Int32 × Mem, o = .inl s9 → V E (0, 0) G 4 (QV E G post) s9.2 226 [(0, .ref (G.2.2 + 162)), (1, .ref (G.2.2 + v1)), (2, .int v2), (3, .int s9.1)] []) (kx0 : ∀ x9 : Mem, o = .inr x9 → V E (0, 0) G 4 (QV E G post) x9 261 [(0, .ref (G.2.2 + 162)), (1, .ref (G.2.2 + v1)), (2, .int v2)] []) : V E (0, 0) G 4 (QV E G post) s.2 226 [(0, .ref (G.2.2 + 162)), (1, .ref (G.2.2 + v1)), (2, .int v2), (3, .int s.1)] [] := by
  unfold lb_Mod_goMinute_226 at h
  refine V_iload_n (n := 3) X d_Mod_goMinute_226 rfl rfl rfl ?_
  refine V_aload_n (n := 0) X d_Mod_goMinute_227 rfl rfl rfl ?_
  refine V_geti X fo_Mod_123 kd_162 rfl d_Mod_goMinute_228 rfl ?_
  refine V_icmp_ge (tgt := 261) X d_Mod_goMinute_231 (by decide) rfl (fun c30 => ?_) (fun c30 => ?_)
  · rw [if_pos c30] at h
    refine V_sub (lv' := [(0, .ref (G.2.2 + 162)), (1, .ref (G.2.2 + v1)), (2, .int v2)]) [0, 1, 2] rfl ?_
    exact kx0 s.2 (Option.some.inj h).symm
  · rw [if_neg c30] at h
    refine V_iload_n (n := 2) X d_Mod_goMinute_234 rfl rfl rfl ?_
    refine V_iload_n (n := 3) X d_Mod_goMinute_235 rfl rfl rfl ?_
    obtain ⟨x26, hx26, h⟩ := ob_s h
    refine V_si (As := [.int v2, .int s.1]) X (Z0 E) ml_Mod_133 yq_Mod_has (c_Mod_has E.2.1 G v2 s.1 s.2 x26 hx26 _ (Nat.le_refl _)) rfl (by omega) rfl (Nat.le_of_ble_eq_true rfl) d_Mod_goMinute_236 rfl (fun r9 M9 hq => ?_)
    rw [hq.1, hq.2]
    refine V_if_eq (tgt := 255) X d_Mod_goMinute_239 (by decide) rfl (fun c29 => ?_) (fun c29 => ?_)
    · rw [if_pos c29] at h
      refine V_iinc (n := 3) (v := (s.1 + (1 : Int32))) (lv' := [(3, .int (s.1 + (1 : Int32))), (0, .ref (G.2.2 + 162)), (1, .ref (G.2.2 + v1)), (2, .int v2)]) X d_Mod_goMinute_255 rfl rfl (by decide) rfl rfl ?_
      refine V_goto (pc' := 226) X d_Mod_goMinute_258 (by decide) ?_
      refine V_sub (lv' := [(0, .ref (G.2.2 + 162)), (1, .ref (G.2.2 + v1)), (2, .int v2), (3, .int (s.1 + (1 : Int32)))]) [1, 2, 3, 0] rfl ?_
      exact kc ((s.1 + (1 : Int32)), s.2) (Option.some.inj h).symm
    · rw [if_neg c29] at h
      refine V_aload_n (n := 1) X d_Mod_goMinute_242 rfl rfl rfl ?_
      refine V_bipush (v := 93) X d_Mod_goMinute_243 (by decide) rfl ?_
      refine V_dup2 X d_Mod_goMinute_245 rfl rfl rfl ?_
      obtain ⟨hb, h⟩ := ifn h
      refine V_iald X hk_v1 (inb_in rfl hb) d_Mod_goMinute_246 rfl ?_
      refine V_aload_n (n := 0) X d_Mod_goMinute_247 rfl rfl rfl ?_
      refine V_aload_n (n := 1) X d_Mod_goMinute_248 rfl rfl rfl ?_
      refine V_iload_n (n := 3) X d_Mod_goMinute_249 rfl rfl rfl ?_
      obtain ⟨x27, hx27, h⟩ := ob_s h
      refine V_ci (As := [.ref (G.2.2 + v1), .int s.1]) X (Z0 E) ml_Mod_333 yq_Mod_hears (c_Mod_hears E.2.1 G v1 s.1 s.2 x27 hx27 _ (Nat.le_refl _)) kd_162 rfl rfl (by omega) rfl (Nat.le_of_ble_eq_true rfl) d_Mod_goMinute_250 rfl (fun r9 M9 hq => ?_)
      rw [hq.1, hq.2]
      refine V_ior X d_Mod_goMinute_253 rfl ?_
      obtain ⟨hb, h⟩ := ifn h
      obtain ⟨M28, eM28, h⟩ := memS h
      refine V_iast X hk_v1 (inb_in rfl hb) d_Mod_goMinute_254 rfl ?_
      rw [← eM28]
      refine V_iinc (n := 3) (v := (s.1 + (1 : Int32))) (lv' := [(3, .int (s.1 + (1 : Int32))), (0, .ref (G.2.2 + 162)), (1, .ref (G.2.2 + v1)), (2, .int v2)]) X d_Mod_goMinute_255 rfl rfl (by decide) rfl rfl ?_
      refine V_goto (pc' := 226) X d_Mod_goMinute_258 (by decide) ?_
      refine V_sub (lv' := [(0, .ref (G.2.2 + 162)), (1, .ref (G.2.2 + v1)), (2, .int v2), (3, .int (s.1 + (1 : Int32)))]) [1, 2, 3, 0] rfl ?_
      exact kc ((s.1 + (1 : Int32)), M28) (Option.some.inj h).symm
theorem lp_Mod_goMinute_226_ok {E : Ev} {G : Gw} {d : Nat} {post : Mem → Prop} (X : Cx E G b_Mod_goMinute "WomenByTheRoofsModel" 4 d none) (hD : 402 ≤ d)  (v1 : Nat) (v2 : Int32) (hk_v1 : kd v1 = 1)  (n9 : Nat) (s : Int32 × Mem) (x : (Mem)) (h : iter (lb_Mod_goMinute_226 v1 v2) n9 s = some x) (kx0 : ∀ x9 : Mem, x = x9 → V E (0, 0) G 4 (QV E G post) x9 261 [(0, .ref (G.2.2 + 162)), (1, .ref (G.2.2 + v1)), (2, .int v2)] []) : V E (0, 0) G 4 (QV E G post) s.2 226 [(0, .ref (G.2.2 + 162)), (1, .ref (G.2.2 + v1)), (2, .int v2), (3, .int s.1)] [] :=
  iter_P (P := fun s : Int32 × Mem => V E (0, 0) G 4 (QV E G post) s.2 226 [(0, .ref (G.2.2 + 162)), (1, .ref (G.2.2 + v1)), (2, .int v2), (3, .int s.1)] []) (fun s o hb kc ky => lb_Mod_goMinute_226_ok X hD v1 v2 hk_v1 s o hb kc (fun x9 e9 => kx0 x9 (ky _ e9).symm)) n9 s h
def f_Mod_goMinute (v1 : Nat) (M : Mem) : Option (Mem) :=
  if kd v1 = 1 then
  mem_ (s_i M 162 29 (0 : Int32)) fun M1 =>
  mem_ (s_i M1 162 31 (0 : Int32)) fun M2 =>
  Option.bind (iter (lb_Mod_goMinute_12 v1) FU ((0 : Int32), M2)) fun x12 =>
  Option.bind (iter (lb_Mod_goMinute_114 v1) FU ((0 : Int32), x12)) fun x25 =>
  if inb (93 : Int32) (ln v1) = true then
  Option.bind (iter (lb_Mod_goMinute_226 v1 (x25.1 v1 (93 : Int32).toNatClampNeg)) FU ((0 : Int32), x25)) fun x31 =>
  if inb (93 : Int32) (ln v1) = true then
  mem_ (s_i x31 162 30 ((x31.1 v1 (93 : Int32).toNatClampNeg) &&& ((x25.1 v1 (93 : Int32).toNatClampNeg) ^^^ (-1 : Int32)))) fun M32 =>
  if inb (95 : Int32) (ln v1) = true then
  if inb (95 : Int32) (ln v1) = true then
  mem_ (s_i M32 v1 (95 : Int32).toNatClampNeg ((M32.1 v1 (95 : Int32).toNatClampNeg) + (1 : Int32))) fun M33 =>
  some M33
  else none
  else none
  else none
  else none
  else none
theorem c_Mod_goMinute (l : Launch) (G : Gw)  (v1 : Nat) (M : Mem) (x : Mem) (h : f_Mod_goMinute v1 M = some x) (d : Nat) (hD : 402 ≤ d) : Cv l G y_Mod_goMinute b_Mod_goMinute 4 none d [.ref (G.2.2 + 162), .ref (G.2.2 + v1)] M (fun M9 => M9 = x) := by
  refine Cv_of (by decide) (Nat.le_of_ble_eq_true rfl) (fun E hE X => ?_)
  subst hE
  have kr : ∀ x9 : Mem, x = x9 → (fun M9 => M9 = x) x9 := fun x9 e9 => by subst e9; exact rfl
  unfold f_Mod_goMinute at h
  obtain ⟨hk_v1, h⟩ := ifn h
  refine V_aload_n (n := 0) X d_Mod_goMinute_0 rfl rfl rfl ?_
  refine V_iconst (v := 0) X d_Mod_goMinute_1 (by decide) rfl ?_
  obtain ⟨M1, eM1, h⟩ := memS h
  refine V_putI X fp_Mod_324 kd_162 rfl d_Mod_goMinute_2 rfl ?_
  rw [← eM1]
  refine V_aload_n (n := 0) X d_Mod_goMinute_5 rfl rfl rfl ?_
  refine V_iconst (v := 0) X d_Mod_goMinute_6 (by decide) rfl ?_
  obtain ⟨M2, eM2, h⟩ := memS h
  refine V_putI X fp_Mod_327 kd_162 rfl d_Mod_goMinute_7 rfl ?_
  rw [← eM2]
  refine V_iconst (v := 0) X d_Mod_goMinute_10 (by decide) rfl ?_
  refine V_istore_n (lv' := [(2, .int (0 : Int32)), (0, .ref (G.2.2 + 162)), (1, .ref (G.2.2 + v1))]) X d_Mod_goMinute_11 rfl (by decide) rfl rfl ?_
  refine V_sub (lv' := [(0, .ref (G.2.2 + 162)), (1, .ref (G.2.2 + v1)), (2, .int (0 : Int32))]) [1, 2, 0] rfl ?_
  obtain ⟨x12, hx12, h⟩ := ob_s h
  refine lp_Mod_goMinute_12_ok X hD v1 hk_v1 _ _ _ hx12 (fun x9 e9 => ?_)
  subst e9
  refine V_iconst (v := 0) X d_Mod_goMinute_112 (by decide) rfl ?_
  refine V_istore_n (lv' := [(2, .int (0 : Int32)), (0, .ref (G.2.2 + 162)), (1, .ref (G.2.2 + v1))]) X d_Mod_goMinute_113 rfl (by decide) rfl rfl ?_
  refine V_sub (lv' := [(0, .ref (G.2.2 + 162)), (1, .ref (G.2.2 + v1)), (2, .int (0 : Int32))]) [1, 2, 0] rfl ?_
  obtain ⟨x25, hx25, h⟩ := ob_s h
  refine lp_Mod_goMinute_114_ok X hD v1 hk_v1 _ _ _ hx25 (fun x9 e9 => ?_)
  subst e9
  refine V_aload_n (n := 1) X d_Mod_goMinute_219 rfl rfl rfl ?_
  refine V_bipush (v := 93) X d_Mod_goMinute_220 (by decide) rfl ?_
  obtain ⟨hb, h⟩ := ifn h
  refine V_iald X hk_v1 (inb_in rfl hb) d_Mod_goMinute_222 rfl ?_
  refine V_istore_n (lv' := [(2, .int (x25.1 v1 (93 : Int32).toNatClampNeg)), (0, .ref (G.2.2 + 162)), (1, .ref (G.2.2 + v1))]) X d_Mod_goMinute_223 rfl (by decide) rfl rfl ?_
  refine V_iconst (v := 0) X d_Mod_goMinute_224 (by decide) rfl ?_
  refine V_istore_n (lv' := [(3, .int (0 : Int32)), (2, .int (x25.1 v1 (93 : Int32).toNatClampNeg)), (0, .ref (G.2.2 + 162)), (1, .ref (G.2.2 + v1))]) X d_Mod_goMinute_225 rfl (by decide) rfl rfl ?_
  refine V_sub (lv' := [(0, .ref (G.2.2 + 162)), (1, .ref (G.2.2 + v1)), (2, .int (x25.1 v1 (93 : Int32).toNatClampNeg)), (3, .int (0 : Int32))]) [2, 3, 1, 0] rfl ?_
  obtain ⟨x31, hx31, h⟩ := ob_s h
  refine lp_Mod_goMinute_226_ok X hD v1 (x25.1 v1 (93 : Int32).toNatClampNeg) hk_v1 _ _ _ hx31 (fun x9 e9 => ?_)
  subst e9
  refine V_aload_n (n := 0) X d_Mod_goMinute_261 rfl rfl rfl ?_
  refine V_aload_n (n := 1) X d_Mod_goMinute_262 rfl rfl rfl ?_
  refine V_bipush (v := 93) X d_Mod_goMinute_263 (by decide) rfl ?_
  obtain ⟨hb, h⟩ := ifn h
  refine V_iald X hk_v1 (inb_in rfl hb) d_Mod_goMinute_265 rfl ?_
  refine V_iload_n (n := 2) X d_Mod_goMinute_266 rfl rfl rfl ?_
  refine V_iconst (v := -1) X d_Mod_goMinute_267 (by decide) rfl ?_
  refine V_ixor X d_Mod_goMinute_268 rfl ?_
  refine V_iand X d_Mod_goMinute_269 rfl ?_
  obtain ⟨M32, eM32, h⟩ := memS h
  refine V_putI X fp_Mod_336 kd_162 rfl d_Mod_goMinute_270 rfl ?_
  rw [← eM32]
  refine V_aload_n (n := 1) X d_Mod_goMinute_273 rfl rfl rfl ?_
  refine V_bipush (v := 95) X d_Mod_goMinute_274 (by decide) rfl ?_
  refine V_dup2 X d_Mod_goMinute_276 rfl rfl rfl ?_
  obtain ⟨hb, h⟩ := ifn h
  refine V_iald X hk_v1 (inb_in rfl hb) d_Mod_goMinute_277 rfl ?_
  refine V_iconst (v := 1) X d_Mod_goMinute_278 (by decide) rfl ?_
  refine V_iadd X d_Mod_goMinute_279 rfl ?_
  obtain ⟨hb, h⟩ := ifn h
  obtain ⟨M33, eM33, h⟩ := memS h
  refine V_iast X hk_v1 (inb_in rfl hb) d_Mod_goMinute_280 rfl ?_
  rw [← eM33]
  exact V_vret X (kr M33 (Option.some.inj h).symm) d_Mod_goMinute_281
def f_Mod_minute (M : Mem) : Option (Int32 × Mem) :=
  mem_ (s_i M 162 13 (0 : Int32)) fun M1 =>
  Option.bind (f_Mod_remember 163 M1) fun x2 =>
  Option.bind (f_Mod_goMinute 163 x2) fun x3 =>
  mem_ (s_i x3 162 12 (0 : Int32)) fun M4 =>
  Option.bind (f_Mod_put (M4.1 162 29) M4) fun x5 =>
  Option.bind (f_Mod_put (x5.1 162 30) x5) fun x6 =>
  some ((x6.1 162 31), x6)
theorem c_Mod_minute (l : Launch) (G : Gw)   (M : Mem) (x : Int32 × Mem) (h : f_Mod_minute M = some x) (d : Nat) (hD : 403 ≤ d) : Ci l G y_Mod_minute b_Mod_minute 1 (some .int) d [.ref (G.2.2 + 162)] M (fun r9 M9 => r9 = x.1 ∧ M9 = x.2) := by
  refine Ci_of (by decide) (Nat.le_of_ble_eq_true rfl) (fun E hE X => ?_)
  subst hE
  have kr : ∀ x9 : Int32 × Mem, x = x9 → (fun r9 M9 => r9 = x.1 ∧ M9 = x.2) x9.1 x9.2 := fun x9 e9 => by subst e9; exact ⟨rfl, rfl⟩
  unfold f_Mod_minute at h
  refine V_aload_n (n := 0) X d_Mod_minute_0 rfl rfl rfl ?_
  refine V_iconst (v := 0) X d_Mod_minute_1 (by decide) rfl ?_
  obtain ⟨M1, eM1, h⟩ := memS h
  refine V_putI X fp_Mod_109 kd_162 rfl d_Mod_minute_2 rfl ?_
  rw [← eM1]
  refine V_aload_n (n := 0) X d_Mod_minute_5 rfl rfl rfl ?_
  refine V_aload_n (n := 0) X d_Mod_minute_6 rfl rfl rfl ?_
  refine V_getr (k2 := 163) X fo_Mod_9 kd_162 rfl rf_162_0 d_Mod_minute_7 rfl ?_
  obtain ⟨x2, hx2, h⟩ := ob_s h
  refine V_cv (As := [.ref (G.2.2 + 163)]) X (Z0 E) ml_Mod_293 yq_Mod_remember (c_Mod_remember E.2.1 G 163 M1 x2 hx2 _ (Nat.le_refl _)) kd_162 rfl rfl (by omega) rfl (Nat.le_of_ble_eq_true rfl) d_Mod_minute_10 rfl (fun M9 hq => ?_)
  rw [hq]
  refine V_aload_n (n := 0) X d_Mod_minute_13 rfl rfl rfl ?_
  refine V_aload_n (n := 0) X d_Mod_minute_14 rfl rfl rfl ?_
  refine V_getr (k2 := 163) X fo_Mod_9 kd_162 rfl rf_162_0 d_Mod_minute_15 rfl ?_
  obtain ⟨x3, hx3, h⟩ := ob_s h
  refine V_cv (As := [.ref (G.2.2 + 163)]) X (Z0 E) ml_Mod_339 yq_Mod_goMinute (c_Mod_goMinute E.2.1 G 163 x2 x3 hx3 _ (Nat.le_refl _)) kd_162 rfl rfl (by omega) rfl (Nat.le_of_ble_eq_true rfl) d_Mod_minute_18 rfl (fun M9 hq => ?_)
  rw [hq]
  refine V_aload_n (n := 0) X d_Mod_minute_21 rfl rfl rfl ?_
  refine V_iconst (v := 0) X d_Mod_minute_22 (by decide) rfl ?_
  obtain ⟨M4, eM4, h⟩ := memS h
  refine V_putI X fp_Mod_112 kd_162 rfl d_Mod_minute_23 rfl ?_
  rw [← eM4]
  refine V_aload_n (n := 0) X d_Mod_minute_26 rfl rfl rfl ?_
  refine V_aload_n (n := 0) X d_Mod_minute_27 rfl rfl rfl ?_
  refine V_geti X fo_Mod_324 kd_162 rfl d_Mod_minute_28 rfl ?_
  obtain ⟨x5, hx5, h⟩ := ob_s h
  refine V_cv (As := [.int (M4.1 162 29)]) X (Z0 E) ml_Mod_342 yq_Mod_put (c_Mod_put E.2.1 G (M4.1 162 29) M4 x5 hx5 _ (Nat.le_refl _)) kd_162 rfl rfl (by omega) rfl (Nat.le_of_ble_eq_true rfl) d_Mod_minute_31 rfl (fun M9 hq => ?_)
  rw [hq]
  refine V_aload_n (n := 0) X d_Mod_minute_34 rfl rfl rfl ?_
  refine V_aload_n (n := 0) X d_Mod_minute_35 rfl rfl rfl ?_
  refine V_geti X fo_Mod_336 kd_162 rfl d_Mod_minute_36 rfl ?_
  obtain ⟨x6, hx6, h⟩ := ob_s h
  refine V_cv (As := [.int (x5.1 162 30)]) X (Z0 E) ml_Mod_342 yq_Mod_put (c_Mod_put E.2.1 G (x5.1 162 30) x5 x6 hx6 _ (Nat.le_refl _)) kd_162 rfl rfl (by omega) rfl (Nat.le_of_ble_eq_true rfl) d_Mod_minute_39 rfl (fun M9 hq => ?_)
  rw [hq]
  refine V_aload_n (n := 0) X d_Mod_minute_42 rfl rfl rfl ?_
  refine V_geti X fo_Mod_327 kd_162 rfl d_Mod_minute_43 rfl ?_
  exact V_iret X (kr ((x6.1 162 31), x6) (Option.some.inj h).symm) d_Mod_minute_46
def lb_Mod_minutes_36 (v1 : Int32) (s : Int32 × Int32 × Int32 × Mem) : Option ((Int32 × Int32 × Int32 × Mem) ⊕ ((Int32 × Int32 × Mem))) :=
  if v1 ≤ s.2.2.1 then
  some (.inr (s.1, s.2.1, s.2.2.2))
  else
  Option.bind (f_Mod_goMinute 163 s.2.2.2) fun x3 =>
  Option.bind (f_JInteger_bitCount (x3.1 162 29)) fun x4 =>
  some (.inl ((s.1 + (x3.1 162 31)), (s.2.1 + x4), (s.2.2.1 + (1 : Int32)), x3))
theorem lb_Mod_minutes_36_ok {E : Ev} {G : Gw} {d : Nat} {post : Int32 → Mem → Prop} (X : Cx E G b_Mod_minutes "WomenByTheRoofsModel" 5 d (some .int)) (hD : 403 ≤ d)  (v1 : Int32)   (s : Int32 × Int32 × Int32 × Mem) (o : (Int32 × Int32 × Int32 × Mem) ⊕ ((Int32 × Int32 × Mem))) (h : lb_Mod_minutes_36 v1 s = some o) (kc : ∀ s9 : Int32 × Int32 × Int32 × Mem, o = .inl s9 → V E (0, 0) G 5 (QI E G post) s9.2.2.2 36 [(0, .ref (G.2.2 + 162)), (1, .int v1), (2, .int s9.1), (3, .int s9.2.1), (4, .int s9.2.2.1)] []) (kx0 : ∀ x9 : Int32 × Int32 × Mem, o = .inr x9 → V E (0, 0) G 5 (QI E G post) x9.2.2 73 [(0, .ref (G.2.2 + 162)), (2, .int x9.1), (3, .int x9.2.1)] []) : V E (0, 0) G 5 (QI E G post) s.2.2.2 36 [(0, .ref (G.2.2 + 162)), (1, .int v1), (2, .int s.1), (3, .int s.2.1), (4, .int s.2.2.1)] [] := by
  unfold lb_Mod_minutes_36 at h
  refine V_iload (n := 4) X d_Mod_minutes_36 rfl rfl ?_
  refine V_iload_n (n := 1) X d_Mod_minutes_38 rfl rfl rfl ?_
  refine V_icmp_ge (tgt := 73) X d_Mod_minutes_39 (by decide) rfl (fun c5 => ?_) (fun c5 => ?_)
  · rw [if_pos c5] at h
    refine V_sub (lv' := [(0, .ref (G.2.2 + 162)), (2, .int s.1), (3, .int s.2.1)]) [0, 2, 3] rfl ?_
    exact kx0 (s.1, s.2.1, s.2.2.2) (Option.some.inj h).symm
  · rw [if_neg c5] at h
    refine V_aload_n (n := 0) X d_Mod_minutes_42 rfl rfl rfl ?_
    refine V_aload_n (n := 0) X d_Mod_minutes_43 rfl rfl rfl ?_
    refine V_getr (k2 := 163) X fo_Mod_9 kd_162 rfl rf_162_0 d_Mod_minutes_44 rfl ?_
    obtain ⟨x3, hx3, h⟩ := ob_s h
    refine V_cv (As := [.ref (G.2.2 + 163)]) X (Z0 E) ml_Mod_339 yq_Mod_goMinute (c_Mod_goMinute E.2.1 G 163 s.2.2.2 x3 hx3 _ (Nat.le_refl _)) kd_162 rfl rfl (by omega) rfl (Nat.le_of_ble_eq_true rfl) d_Mod_minutes_47 rfl (fun M9 hq => ?_)
    rw [hq]
    refine V_iload_n (n := 2) X d_Mod_minutes_50 rfl rfl rfl ?_
    refine V_aload_n (n := 0) X d_Mod_minutes_51 rfl rfl rfl ?_
    refine V_geti X fo_Mod_327 kd_162 rfl d_Mod_minutes_52 rfl ?_
    refine V_iadd X d_Mod_minutes_55 rfl ?_
    refine V_istore_n (lv' := [(2, .int (s.1 + (x3.1 162 31))), (0, .ref (G.2.2 + 162)), (1, .int v1), (3, .int s.2.1), (4, .int s.2.2.1)]) X d_Mod_minutes_56 rfl (by decide) rfl rfl ?_
    refine V_iload_n (n := 3) X d_Mod_minutes_57 rfl rfl rfl ?_
    refine V_aload_n (n := 1) X d_Mod_minutes_58 rfl rfl rfl ?_
    refine V_geti X fo_Mod_324 kd_162 rfl d_Mod_minutes_59 rfl ?_
    obtain ⟨x4, hx4, h⟩ := ob_s h
    refine V_si (As := [.int (x3.1 162 29)]) X (Z0 E) ml_Mod_310 yq_JInteger_bitCount (c_JInteger_bitCount E.2.1 G (x3.1 162 29) x3 x4 hx4 _ (Nat.le_refl _)) rfl (by omega) rfl (Nat.le_of_ble_eq_true rfl) d_Mod_minutes_62 rfl (fun r9 M9 hq => ?_)
    rw [hq.1, hq.2]
    refine V_iadd X d_Mod_minutes_65 rfl ?_
    refine V_istore_n (lv' := [(3, .int (s.2.1 + x4)), (2, .int (s.1 + (x3.1 162 31))), (0, .ref (G.2.2 + 162)), (1, .int v1), (4, .int s.2.2.1)]) X d_Mod_minutes_66 rfl (by decide) rfl rfl ?_
    refine V_iinc (n := 4) (v := (s.2.2.1 + (1 : Int32))) (lv' := [(4, .int (s.2.2.1 + (1 : Int32))), (3, .int (s.2.1 + x4)), (2, .int (s.1 + (x3.1 162 31))), (0, .ref (G.2.2 + 162)), (1, .int v1)]) X d_Mod_minutes_67 rfl rfl (by decide) rfl rfl ?_
    refine V_goto (pc' := 36) X d_Mod_minutes_70 (by decide) ?_
    refine V_sub (lv' := [(0, .ref (G.2.2 + 162)), (1, .int v1), (2, .int (s.1 + (x3.1 162 31))), (3, .int (s.2.1 + x4)), (4, .int (s.2.2.1 + (1 : Int32)))]) [3, 4, 2, 1, 0] rfl ?_
    exact kc ((s.1 + (x3.1 162 31)), (s.2.1 + x4), (s.2.2.1 + (1 : Int32)), x3) (Option.some.inj h).symm
theorem lp_Mod_minutes_36_ok {E : Ev} {G : Gw} {d : Nat} {post : Int32 → Mem → Prop} (X : Cx E G b_Mod_minutes "WomenByTheRoofsModel" 5 d (some .int)) (hD : 403 ≤ d)  (v1 : Int32)   (n9 : Nat) (s : Int32 × Int32 × Int32 × Mem) (x : (Int32 × Int32 × Mem)) (h : iter (lb_Mod_minutes_36 v1) n9 s = some x) (kx0 : ∀ x9 : Int32 × Int32 × Mem, x = x9 → V E (0, 0) G 5 (QI E G post) x9.2.2 73 [(0, .ref (G.2.2 + 162)), (2, .int x9.1), (3, .int x9.2.1)] []) : V E (0, 0) G 5 (QI E G post) s.2.2.2 36 [(0, .ref (G.2.2 + 162)), (1, .int v1), (2, .int s.1), (3, .int s.2.1), (4, .int s.2.2.1)] [] :=
  iter_P (P := fun s : Int32 × Int32 × Int32 × Mem => V E (0, 0) G 5 (QI E G post) s.2.2.2 36 [(0, .ref (G.2.2 + 162)), (1, .int v1), (2, .int s.1), (3, .int s.2.1), (4, .int s.2.2.1)] []) (fun s o hb kc ky => lb_Mod_minutes_36_ok X hD v1 s o hb kc (fun x9 e9 => kx0 x9 (ky _ e9).symm)) n9 s h
def f_Mod_minutes (v1 : Int32) (M : Mem) : Option (Int32 × Mem) :=
  mem_ (s_i M 162 13 (0 : Int32)) fun M1 =>
  Option.bind (f_Mod_in v1 (0 : Int32) (60 : Int32)) fun x2 =>
  if x2 = 0 then
  some ((-1 : Int32), M1)
  else
  if v1 ≤ 0 then
  Option.bind (iter (lb_Mod_minutes_36 v1) FU ((0 : Int32), (0 : Int32), (0 : Int32), M1)) fun x6 =>
  mem_ (s_i x6.2.2 162 12 (0 : Int32)) fun M7 =>
  Option.bind (f_Mod_put x6.2.1 M7) fun x8 =>
  Option.bind (f_Mod_put (x8.1 163 (93 : Int32).toNatClampNeg) x8) fun x9 =>
  some (x6.1, x9)
  else
  Option.bind (f_Mod_remember 163 M1) fun x10 =>
  Option.bind (iter (lb_Mod_minutes_36 v1) FU ((0 : Int32), (0 : Int32), (0 : Int32), x10)) fun x11 =>
  mem_ (s_i x11.2.2 162 12 (0 : Int32)) fun M12 =>
  Option.bind (f_Mod_put x11.2.1 M12) fun x13 =>
  Option.bind (f_Mod_put (x13.1 163 (93 : Int32).toNatClampNeg) x13) fun x14 =>
  some (x11.1, x14)
theorem c_Mod_minutes (l : Launch) (G : Gw)  (v1 : Int32) (M : Mem) (x : Int32 × Mem) (h : f_Mod_minutes v1 M = some x) (d : Nat) (hD : 403 ≤ d) : Ci l G y_Mod_minutes b_Mod_minutes 5 (some .int) d [.ref (G.2.2 + 162), .int v1] M (fun r9 M9 => r9 = x.1 ∧ M9 = x.2) := by
  refine Ci_of (by decide) (Nat.le_of_ble_eq_true rfl) (fun E hE X => ?_)
  subst hE
  have kr : ∀ x9 : Int32 × Mem, x = x9 → (fun r9 M9 => r9 = x.1 ∧ M9 = x.2) x9.1 x9.2 := fun x9 e9 => by subst e9; exact ⟨rfl, rfl⟩
  unfold f_Mod_minutes at h
  refine V_aload_n (n := 0) X d_Mod_minutes_0 rfl rfl rfl ?_
  refine V_iconst (v := 0) X d_Mod_minutes_1 (by decide) rfl ?_
  obtain ⟨M1, eM1, h⟩ := memS h
  refine V_putI X fp_Mod_109 kd_162 rfl d_Mod_minutes_2 rfl ?_
  rw [← eM1]
  refine V_iload_n (n := 1) X d_Mod_minutes_5 rfl rfl rfl ?_
  refine V_iconst (v := 0) X d_Mod_minutes_6 (by decide) rfl ?_
  refine V_bipush (v := 60) X d_Mod_minutes_7 (by decide) rfl ?_
  obtain ⟨x2, hx2, h⟩ := ob_s h
  refine V_si (As := [.int v1, .int (0 : Int32), .int (60 : Int32)]) X (Z0 E) ml_Mod_119 yq_Mod_in (c_Mod_in E.2.1 G v1 (0 : Int32) (60 : Int32) M1 x2 hx2 _ (Nat.le_refl _)) rfl (by omega) rfl (Nat.le_of_ble_eq_true rfl) d_Mod_minutes_9 rfl (fun r9 M9 hq => ?_)
  rw [hq.1, hq.2]
  refine V_if_ne (tgt := 17) X d_Mod_minutes_12 (by decide) rfl (fun c16 => ?_) (fun c16 => ?_)
  · rw [if_neg c16] at h
    refine V_iload_n (n := 1) X d_Mod_minutes_17 rfl rfl rfl ?_
    refine V_if_le (tgt := 29) X d_Mod_minutes_18 (by decide) rfl (fun c15 => ?_) (fun c15 => ?_)
    · rw [if_pos c15] at h
      refine V_iconst (v := 0) X d_Mod_minutes_29 (by decide) rfl ?_
      refine V_istore_n (lv' := [(2, .int (0 : Int32)), (0, .ref (G.2.2 + 162)), (1, .int v1)]) X d_Mod_minutes_30 rfl (by decide) rfl rfl ?_
      refine V_iconst (v := 0) X d_Mod_minutes_31 (by decide) rfl ?_
      refine V_istore_n (lv' := [(3, .int (0 : Int32)), (2, .int (0 : Int32)), (0, .ref (G.2.2 + 162)), (1, .int v1)]) X d_Mod_minutes_32 rfl (by decide) rfl rfl ?_
      refine V_iconst (v := 0) X d_Mod_minutes_33 (by decide) rfl ?_
      refine V_istore (lv' := [(4, .int (0 : Int32)), (3, .int (0 : Int32)), (2, .int (0 : Int32)), (0, .ref (G.2.2 + 162)), (1, .int v1)]) X d_Mod_minutes_34 (by decide) rfl rfl ?_
      refine V_sub (lv' := [(0, .ref (G.2.2 + 162)), (1, .int v1), (2, .int (0 : Int32)), (3, .int (0 : Int32)), (4, .int (0 : Int32))]) [3, 4, 2, 1, 0] rfl ?_
      obtain ⟨x6, hx6, h⟩ := ob_s h
      refine lp_Mod_minutes_36_ok X hD v1 _ _ _ hx6 (fun x9 e9 => ?_)
      subst e9
      refine V_aload_n (n := 0) X d_Mod_minutes_73 rfl rfl rfl ?_
      refine V_iconst (v := 0) X d_Mod_minutes_74 (by decide) rfl ?_
      obtain ⟨M7, eM7, h⟩ := memS h
      refine V_putI X fp_Mod_112 kd_162 rfl d_Mod_minutes_75 rfl ?_
      rw [← eM7]
      refine V_aload_n (n := 0) X d_Mod_minutes_78 rfl rfl rfl ?_
      refine V_iload_n (n := 2) X d_Mod_minutes_79 rfl rfl rfl ?_
      obtain ⟨x8, hx8, h⟩ := ob_s h
      refine V_cv (As := [.int x6.2.1]) X (Z0 E) ml_Mod_342 yq_Mod_put (c_Mod_put E.2.1 G x6.2.1 M7 x8 hx8 _ (Nat.le_refl _)) kd_162 rfl rfl (by omega) rfl (Nat.le_of_ble_eq_true rfl) d_Mod_minutes_80 rfl (fun M9 hq => ?_)
      rw [hq]
      refine V_aload_n (n := 0) X d_Mod_minutes_83 rfl rfl rfl ?_
      refine V_aload_n (n := 0) X d_Mod_minutes_84 rfl rfl rfl ?_
      refine V_getr (k2 := 163) X fo_Mod_9 kd_162 rfl rf_162_0 d_Mod_minutes_85 rfl ?_
      refine V_bipush (v := 93) X d_Mod_minutes_88 (by decide) rfl ?_
      refine V_iald X kd_163 (inb_in ln_163 (by decide)) d_Mod_minutes_90 rfl ?_
      obtain ⟨x9, hx9, h⟩ := ob_s h
      refine V_cv (As := [.int (x8.1 163 (93 : Int32).toNatClampNeg)]) X (Z0 E) ml_Mod_342 yq_Mod_put (c_Mod_put E.2.1 G (x8.1 163 (93 : Int32).toNatClampNeg) x8 x9 hx9 _ (Nat.le_refl _)) kd_162 rfl rfl (by omega) rfl (Nat.le_of_ble_eq_true rfl) d_Mod_minutes_91 rfl (fun M9 hq => ?_)
      rw [hq]
      refine V_iload_n (n := 1) X d_Mod_minutes_94 rfl rfl rfl ?_
      exact V_iret X (kr (x6.1, x9) (Option.some.inj h).symm) d_Mod_minutes_95
    · rw [if_neg c15] at h
      refine V_aload_n (n := 0) X d_Mod_minutes_21 rfl rfl rfl ?_
      refine V_aload_n (n := 0) X d_Mod_minutes_22 rfl rfl rfl ?_
      refine V_getr (k2 := 163) X fo_Mod_9 kd_162 rfl rf_162_0 d_Mod_minutes_23 rfl ?_
      obtain ⟨x10, hx10, h⟩ := ob_s h
      refine V_cv (As := [.ref (G.2.2 + 163)]) X (Z0 E) ml_Mod_293 yq_Mod_remember (c_Mod_remember E.2.1 G 163 M1 x10 hx10 _ (Nat.le_refl _)) kd_162 rfl rfl (by omega) rfl (Nat.le_of_ble_eq_true rfl) d_Mod_minutes_26 rfl (fun M9 hq => ?_)
      rw [hq]
      refine V_iconst (v := 0) X d_Mod_minutes_29 (by decide) rfl ?_
      refine V_istore_n (lv' := [(2, .int (0 : Int32)), (0, .ref (G.2.2 + 162)), (1, .int v1)]) X d_Mod_minutes_30 rfl (by decide) rfl rfl ?_
      refine V_iconst (v := 0) X d_Mod_minutes_31 (by decide) rfl ?_
      refine V_istore_n (lv' := [(3, .int (0 : Int32)), (2, .int (0 : Int32)), (0, .ref (G.2.2 + 162)), (1, .int v1)]) X d_Mod_minutes_32 rfl (by decide) rfl rfl ?_
      refine V_iconst (v := 0) X d_Mod_minutes_33 (by decide) rfl ?_
      refine V_istore (lv' := [(4, .int (0 : Int32)), (3, .int (0 : Int32)), (2, .int (0 : Int32)), (0, .ref (G.2.2 + 162)), (1, .int v1)]) X d_Mod_minutes_34 (by decide) rfl rfl ?_
      refine V_sub (lv' := [(0, .ref (G.2.2 + 162)), (1, .int v1), (2, .int (0 : Int32)), (3, .int (0 : Int32)), (4, .int (0 : Int32))]) [3, 4, 2, 1, 0] rfl ?_
      obtain ⟨x11, hx11, h⟩ := ob_s h
      refine lp_Mod_minutes_36_ok X hD v1 _ _ _ hx11 (fun x9 e9 => ?_)
      subst e9
      refine V_aload_n (n := 0) X d_Mod_minutes_73 rfl rfl rfl ?_
      refine V_iconst (v := 0) X d_Mod_minutes_74 (by decide) rfl ?_
      obtain ⟨M12, eM12, h⟩ := memS h
      refine V_putI X fp_Mod_112 kd_162 rfl d_Mod_minutes_75 rfl ?_
      rw [← eM12]
      refine V_aload_n (n := 0) X d_Mod_minutes_78 rfl rfl rfl ?_
      refine V_iload_n (n := 2) X d_Mod_minutes_79 rfl rfl rfl ?_
      obtain ⟨x13, hx13, h⟩ := ob_s h
      refine V_cv (As := [.int x11.2.1]) X (Z0 E) ml_Mod_342 yq_Mod_put (c_Mod_put E.2.1 G x11.2.1 M12 x13 hx13 _ (Nat.le_refl _)) kd_162 rfl rfl (by omega) rfl (Nat.le_of_ble_eq_true rfl) d_Mod_minutes_80 rfl (fun M9 hq => ?_)
      rw [hq]
      refine V_aload_n (n := 0) X d_Mod_minutes_83 rfl rfl rfl ?_
      refine V_aload_n (n := 0) X d_Mod_minutes_84 rfl rfl rfl ?_
      refine V_getr (k2 := 163) X fo_Mod_9 kd_162 rfl rf_162_0 d_Mod_minutes_85 rfl ?_
      refine V_bipush (v := 93) X d_Mod_minutes_88 (by decide) rfl ?_
      refine V_iald X kd_163 (inb_in ln_163 (by decide)) d_Mod_minutes_90 rfl ?_
      obtain ⟨x14, hx14, h⟩ := ob_s h
      refine V_cv (As := [.int (x13.1 163 (93 : Int32).toNatClampNeg)]) X (Z0 E) ml_Mod_342 yq_Mod_put (c_Mod_put E.2.1 G (x13.1 163 (93 : Int32).toNatClampNeg) x13 x14 hx14 _ (Nat.le_refl _)) kd_162 rfl rfl (by omega) rfl (Nat.le_of_ble_eq_true rfl) d_Mod_minutes_91 rfl (fun M9 hq => ?_)
      rw [hq]
      refine V_iload_n (n := 1) X d_Mod_minutes_94 rfl rfl rfl ?_
      exact V_iret X (kr (x11.1, x14) (Option.some.inj h).symm) d_Mod_minutes_95
  · rw [if_pos c16] at h
    refine V_iconst (v := -1) X d_Mod_minutes_15 (by decide) rfl ?_
    exact V_iret X (kr ((-1 : Int32), M1) (Option.some.inj h).symm) d_Mod_minutes_16
def j_Mod_readAct_110 (v1 : Int32) (v2 : Int32) (M : Mem) : Option (Mem) :=
  if v2 = (110 : Int32) then
  Option.bind (f_Mod_here M) fun x6 =>
  if inb (v1 + (1 : Int32)) 240 = true then
  mem_ (s_i M 175 (v1 + (1 : Int32)).toNatClampNeg (x6 - (97 : Int32))) fun M7 =>
  Option.bind (f_Mod_here M7) fun x8 =>
  Option.bind (f_Mod_in x8 (97 : Int32) (104 : Int32)) fun x9 =>
  if x9 = 0 then
  Option.bind (f_Mod_fault (M7.1 162 17) M7) fun x11 =>
  mem_ (s_i x11 162 17 ((x11.1 162 17) + (1 : Int32))) fun M12 =>
  some M12
  else
  mem_ (s_i M7 162 17 ((M7.1 162 17) + (1 : Int32))) fun M10 =>
  some M10
  else none
  else
  some M
theorem j_Mod_readAct_110_ok {E : Ev} {G : Gw} {d : Nat} {post : Mem → Prop} (X : Cx E G b_Mod_readAct "WomenByTheRoofsModel" 3 d none) (hD : 4 ≤ d)  (v1 : Int32) (v2 : Int32)  (M : Mem)  (o : Mem) (h : j_Mod_readAct_110 v1 v2 M = some o) (kr : ∀ x9 : Mem, o = x9 → post x9) : V E (0, 0) G 3 (QV E G post) M 110 [(0, .ref (G.2.2 + 162)), (1, .int v1), (2, .int v2)] [] := by
  unfold j_Mod_readAct_110 at h
  refine V_iload_n (n := 2) X d_Mod_readAct_110 rfl rfl rfl ?_
  refine V_bipush (v := 110) X d_Mod_readAct_111 (by decide) rfl ?_
  refine V_icmp_ne (tgt := 163) X d_Mod_readAct_113 (by decide) rfl (fun c14 => ?_) (fun c14 => ?_)
  · rw [if_neg c14] at h
    exact V_vret X (kr M (Option.some.inj h).symm) d_Mod_readAct_163
  · rw [if_pos c14] at h
    refine V_aload_n (n := 0) X d_Mod_readAct_116 rfl rfl rfl ?_
    refine V_getr (k2 := 175) X fo_Mod_57 kd_162 rfl rf_162_32 d_Mod_readAct_117 rfl ?_
    refine V_iload_n (n := 1) X d_Mod_readAct_120 rfl rfl rfl ?_
    refine V_iconst (v := 1) X d_Mod_readAct_121 (by decide) rfl ?_
    refine V_iadd X d_Mod_readAct_122 rfl ?_
    refine V_aload_n (n := 0) X d_Mod_readAct_123 rfl rfl rfl ?_
    obtain ⟨x6, hx6, h⟩ := ob_s h
    refine V_ci (As := []) X (Z0 E) ml_Mod_183 yq_Mod_here (c_Mod_here E.2.1 G  M x6 hx6 _ (Nat.le_refl _)) kd_162 rfl rfl (by omega) rfl (Nat.le_of_ble_eq_true rfl) d_Mod_readAct_124 rfl (fun r9 M9 hq => ?_)
    rw [hq.1, hq.2]
    refine V_bipush (v := 97) X d_Mod_readAct_127 (by decide) rfl ?_
    refine V_isub X d_Mod_readAct_129 rfl ?_
    obtain ⟨hb, h⟩ := ifn h
    obtain ⟨M7, eM7, h⟩ := memS h
    refine V_iast X kd_175 (inb_in ln_175 hb) d_Mod_readAct_130 rfl ?_
    rw [← eM7]
    refine V_aload_n (n := 0) X d_Mod_readAct_131 rfl rfl rfl ?_
    obtain ⟨x8, hx8, h⟩ := ob_s h
    refine V_ci (As := []) X (Z0 E) ml_Mod_183 yq_Mod_here (c_Mod_here E.2.1 G  M7 x8 hx8 _ (Nat.le_refl _)) kd_162 rfl rfl (by omega) rfl (Nat.le_of_ble_eq_true rfl) d_Mod_readAct_132 rfl (fun r9 M9 hq => ?_)
    rw [hq.1, hq.2]
    refine V_bipush (v := 97) X d_Mod_readAct_135 (by decide) rfl ?_
    refine V_bipush (v := 104) X d_Mod_readAct_137 (by decide) rfl ?_
    obtain ⟨x9, hx9, h⟩ := ob_s h
    refine V_si (As := [.int x8, .int (97 : Int32), .int (104 : Int32)]) X (Z0 E) ml_Mod_119 yq_Mod_in (c_Mod_in E.2.1 G x8 (97 : Int32) (104 : Int32) M7 x9 hx9 _ (Nat.le_refl _)) rfl (by omega) rfl (Nat.le_of_ble_eq_true rfl) d_Mod_readAct_139 rfl (fun r9 M9 hq => ?_)
    rw [hq.1, hq.2]
    refine V_if_ne (tgt := 153) X d_Mod_readAct_142 (by decide) rfl (fun c13 => ?_) (fun c13 => ?_)
    · rw [if_neg c13] at h
      refine V_aload_n (n := 0) X d_Mod_readAct_153 rfl rfl rfl ?_
      refine V_dup X d_Mod_readAct_154 rfl rfl ?_
      refine V_geti X fo_Mod_173 kd_162 rfl d_Mod_readAct_155 rfl ?_
      refine V_iconst (v := 1) X d_Mod_readAct_158 (by decide) rfl ?_
      refine V_iadd X d_Mod_readAct_159 rfl ?_
      obtain ⟨M10, eM10, h⟩ := memS h
      refine V_putI X fp_Mod_173 kd_162 rfl d_Mod_readAct_160 rfl ?_
      rw [← eM10]
      exact V_vret X (kr M10 (Option.some.inj h).symm) d_Mod_readAct_163
    · rw [if_pos c13] at h
      refine V_aload_n (n := 0) X d_Mod_readAct_145 rfl rfl rfl ?_
      refine V_aload_n (n := 0) X d_Mod_readAct_146 rfl rfl rfl ?_
      refine V_geti X fo_Mod_173 kd_162 rfl d_Mod_readAct_147 rfl ?_
      obtain ⟨x11, hx11, h⟩ := ob_s h
      refine V_cv (As := [.int (M7.1 162 17)]) X (Z0 E) ml_Mod_190 yq_Mod_fault (c_Mod_fault E.2.1 G (M7.1 162 17) M7 x11 hx11 _ (Nat.le_refl _)) kd_162 rfl rfl (by omega) rfl (Nat.le_of_ble_eq_true rfl) d_Mod_readAct_150 rfl (fun M9 hq => ?_)
      rw [hq]
      refine V_aload_n (n := 0) X d_Mod_readAct_153 rfl rfl rfl ?_
      refine V_dup X d_Mod_readAct_154 rfl rfl ?_
      refine V_geti X fo_Mod_173 kd_162 rfl d_Mod_readAct_155 rfl ?_
      refine V_iconst (v := 1) X d_Mod_readAct_158 (by decide) rfl ?_
      refine V_iadd X d_Mod_readAct_159 rfl ?_
      obtain ⟨M12, eM12, h⟩ := memS h
      refine V_putI X fp_Mod_173 kd_162 rfl d_Mod_readAct_160 rfl ?_
      rw [← eM12]
      exact V_vret X (kr M12 (Option.some.inj h).symm) d_Mod_readAct_163
def j_Mod_readAct_85 (v1 : Int32) (v2 : Int32) (M : Mem) : Option (Mem) :=
  if v2 = (112 : Int32) then
  Option.bind (f_Mod_need (45 : Int32) M) fun x15 =>
  Option.bind (f_Mod_number (2 : Int32) x15) fun x16 =>
  if inb (v1 + (2 : Int32)) 240 = true then
  mem_ (s_i x16.2 175 (v1 + (2 : Int32)).toNatClampNeg x16.1) fun M17 =>
  j_Mod_readAct_110 v1 v2 M17
  else none
  else
  j_Mod_readAct_110 v1 v2 M
theorem j_Mod_readAct_85_ok {E : Ev} {G : Gw} {d : Nat} {post : Mem → Prop} (X : Cx E G b_Mod_readAct "WomenByTheRoofsModel" 3 d none) (hD : 4 ≤ d)  (v1 : Int32) (v2 : Int32)  (M : Mem)  (o : Mem) (h : j_Mod_readAct_85 v1 v2 M = some o) (kr : ∀ x9 : Mem, o = x9 → post x9) : V E (0, 0) G 3 (QV E G post) M 85 [(0, .ref (G.2.2 + 162)), (1, .int v1), (2, .int v2)] [] := by
  unfold j_Mod_readAct_85 at h
  refine V_iload_n (n := 2) X d_Mod_readAct_85 rfl rfl rfl ?_
  refine V_bipush (v := 112) X d_Mod_readAct_86 (by decide) rfl ?_
  refine V_icmp_ne (tgt := 110) X d_Mod_readAct_88 (by decide) rfl (fun c18 => ?_) (fun c18 => ?_)
  · rw [if_neg c18] at h
    exact j_Mod_readAct_110_ok X hD v1 v2 M _ h kr
  · rw [if_pos c18] at h
    refine V_aload_n (n := 0) X d_Mod_readAct_91 rfl rfl rfl ?_
    refine V_bipush (v := 45) X d_Mod_readAct_92 (by decide) rfl ?_
    obtain ⟨x15, hx15, h⟩ := ob_s h
    refine V_cv (As := [.int (45 : Int32)]) X (Z0 E) ml_Mod_216 yq_Mod_need (c_Mod_need E.2.1 G (45 : Int32) M x15 hx15 _ (Nat.le_refl _)) kd_162 rfl rfl (by omega) rfl (Nat.le_of_ble_eq_true rfl) d_Mod_readAct_94 rfl (fun M9 hq => ?_)
    rw [hq]
    refine V_aload_n (n := 0) X d_Mod_readAct_97 rfl rfl rfl ?_
    refine V_getr (k2 := 175) X fo_Mod_57 kd_162 rfl rf_162_32 d_Mod_readAct_98 rfl ?_
    refine V_iload_n (n := 1) X d_Mod_readAct_101 rfl rfl rfl ?_
    refine V_iconst (v := 2) X d_Mod_readAct_102 (by decide) rfl ?_
    refine V_iadd X d_Mod_readAct_103 rfl ?_
    refine V_aload_n (n := 0) X d_Mod_readAct_104 rfl rfl rfl ?_
    refine V_iconst (v := 2) X d_Mod_readAct_105 (by decide) rfl ?_
    obtain ⟨x16, hx16, h⟩ := ob_s h
    refine V_ci (As := [.int (2 : Int32)]) X (Z0 E) ml_Mod_213 yq_Mod_number (c_Mod_number E.2.1 G (2 : Int32) x15 x16 hx16 _ (Nat.le_refl _)) kd_162 rfl rfl (by omega) rfl (Nat.le_of_ble_eq_true rfl) d_Mod_readAct_106 rfl (fun r9 M9 hq => ?_)
    rw [hq.1, hq.2]
    obtain ⟨hb, h⟩ := ifn h
    obtain ⟨M17, eM17, h⟩ := memS h
    refine V_iast X kd_175 (inb_in ln_175 hb) d_Mod_readAct_109 rfl ?_
    rw [← eM17]
    exact j_Mod_readAct_110_ok X hD v1 v2 M17 _ h kr
def j_Mod_readAct_72 (v1 : Int32) (v2 : Int32) (M : Mem) : Option (Mem) :=
  Option.bind (f_Mod_number (2 : Int32) M) fun x4 =>
  if inb (v1 + (1 : Int32)) 240 = true then
  mem_ (s_i x4.2 175 (v1 + (1 : Int32)).toNatClampNeg x4.1) fun M5 =>
  j_Mod_readAct_85 v1 v2 M5
  else none
theorem j_Mod_readAct_72_ok {E : Ev} {G : Gw} {d : Nat} {post : Mem → Prop} (X : Cx E G b_Mod_readAct "WomenByTheRoofsModel" 3 d none) (hD : 4 ≤ d)  (v1 : Int32) (v2 : Int32)  (M : Mem)  (o : Mem) (h : j_Mod_readAct_72 v1 v2 M = some o) (kr : ∀ x9 : Mem, o = x9 → post x9) : V E (0, 0) G 3 (QV E G post) M 72 [(0, .ref (G.2.2 + 162)), (1, .int v1), (2, .int v2)] [] := by
  unfold j_Mod_readAct_72 at h
  refine V_aload_n (n := 0) X d_Mod_readAct_72 rfl rfl rfl ?_
  refine V_getr (k2 := 175) X fo_Mod_57 kd_162 rfl rf_162_32 d_Mod_readAct_73 rfl ?_
  refine V_iload_n (n := 1) X d_Mod_readAct_76 rfl rfl rfl ?_
  refine V_iconst (v := 1) X d_Mod_readAct_77 (by decide) rfl ?_
  refine V_iadd X d_Mod_readAct_78 rfl ?_
  refine V_aload_n (n := 0) X d_Mod_readAct_79 rfl rfl rfl ?_
  refine V_iconst (v := 2) X d_Mod_readAct_80 (by decide) rfl ?_
  obtain ⟨x4, hx4, h⟩ := ob_s h
  refine V_ci (As := [.int (2 : Int32)]) X (Z0 E) ml_Mod_213 yq_Mod_number (c_Mod_number E.2.1 G (2 : Int32) M x4 hx4 _ (Nat.le_refl _)) kd_162 rfl rfl (by omega) rfl (Nat.le_of_ble_eq_true rfl) d_Mod_readAct_81 rfl (fun r9 M9 hq => ?_)
  rw [hq.1, hq.2]
  obtain ⟨hb, h⟩ := ifn h
  obtain ⟨M5, eM5, h⟩ := memS h
  refine V_iast X kd_175 (inb_in ln_175 hb) d_Mod_readAct_84 rfl ?_
  rw [← eM5]
  exact j_Mod_readAct_85_ok X hD v1 v2 M5 _ h kr
def j_Mod_readAct_43 (v1 : Int32) (v2 : Int32) (M : Mem) : Option (Mem) :=
  mem_ (s_i M 162 17 ((M.1 162 17) + (1 : Int32))) fun M2 =>
  if inb v1 240 = true then
  mem_ (s_i M2 175 v1.toNatClampNeg v2) fun M3 =>
  if v2 = (109 : Int32) then
  j_Mod_readAct_72 v1 v2 M3
  else
  if v2 = (112 : Int32) then
  j_Mod_readAct_72 v1 v2 M3
  else
  j_Mod_readAct_85 v1 v2 M3
  else none
theorem j_Mod_readAct_43_ok {E : Ev} {G : Gw} {d : Nat} {post : Mem → Prop} (X : Cx E G b_Mod_readAct "WomenByTheRoofsModel" 3 d none) (hD : 4 ≤ d)  (v1 : Int32) (v2 : Int32)  (M : Mem)  (o : Mem) (h : j_Mod_readAct_43 v1 v2 M = some o) (kr : ∀ x9 : Mem, o = x9 → post x9) : V E (0, 0) G 3 (QV E G post) M 43 [(0, .ref (G.2.2 + 162)), (1, .int v1), (2, .int v2)] [] := by
  unfold j_Mod_readAct_43 at h
  refine V_aload_n (n := 0) X d_Mod_readAct_43 rfl rfl rfl ?_
  refine V_dup X d_Mod_readAct_44 rfl rfl ?_
  refine V_geti X fo_Mod_173 kd_162 rfl d_Mod_readAct_45 rfl ?_
  refine V_iconst (v := 1) X d_Mod_readAct_48 (by decide) rfl ?_
  refine V_iadd X d_Mod_readAct_49 rfl ?_
  obtain ⟨M2, eM2, h⟩ := memS h
  refine V_putI X fp_Mod_173 kd_162 rfl d_Mod_readAct_50 rfl ?_
  rw [← eM2]
  refine V_aload_n (n := 0) X d_Mod_readAct_53 rfl rfl rfl ?_
  refine V_getr (k2 := 175) X fo_Mod_57 kd_162 rfl rf_162_32 d_Mod_readAct_54 rfl ?_
  refine V_iload_n (n := 1) X d_Mod_readAct_57 rfl rfl rfl ?_
  refine V_iload_n (n := 2) X d_Mod_readAct_58 rfl rfl rfl ?_
  obtain ⟨hb, h⟩ := ifn h
  obtain ⟨M3, eM3, h⟩ := memS h
  refine V_iast X kd_175 (inb_in ln_175 hb) d_Mod_readAct_59 rfl ?_
  rw [← eM3]
  refine V_iload_n (n := 2) X d_Mod_readAct_60 rfl rfl rfl ?_
  refine V_bipush (v := 109) X d_Mod_readAct_61 (by decide) rfl ?_
  refine V_icmp_eq (tgt := 72) X d_Mod_readAct_63 (by decide) rfl (fun c20 => ?_) (fun c20 => ?_)
  · rw [if_pos c20] at h
    exact j_Mod_readAct_72_ok X hD v1 v2 M3 _ h kr
  · rw [if_neg c20] at h
    refine V_iload_n (n := 2) X d_Mod_readAct_66 rfl rfl rfl ?_
    refine V_bipush (v := 112) X d_Mod_readAct_67 (by decide) rfl ?_
    refine V_icmp_ne (tgt := 85) X d_Mod_readAct_69 (by decide) rfl (fun c19 => ?_) (fun c19 => ?_)
    · rw [if_neg c19] at h
      exact j_Mod_readAct_85_ok X hD v1 v2 M3 _ h kr
    · rw [if_pos c19] at h
      exact j_Mod_readAct_72_ok X hD v1 v2 M3 _ h kr
def f_Mod_readAct (v1 : Int32) (M : Mem) : Option (Mem) :=
  Option.bind (f_Mod_here M) fun x1 =>
  if x1 = (109 : Int32) then
  j_Mod_readAct_43 v1 x1 M
  else
  if x1 = (110 : Int32) then
  j_Mod_readAct_43 v1 x1 M
  else
  if x1 = (112 : Int32) then
  j_Mod_readAct_43 v1 x1 M
  else
  if x1 = (120 : Int32) then
  j_Mod_readAct_43 v1 x1 M
  else
  if x1 = (102 : Int32) then
  j_Mod_readAct_43 v1 x1 M
  else
  Option.bind (f_Mod_fault (M.1 162 17) M) fun x21 =>
  j_Mod_readAct_43 v1 x1 x21
theorem c_Mod_readAct (l : Launch) (G : Gw)  (v1 : Int32) (M : Mem) (x : Mem) (h : f_Mod_readAct v1 M = some x) (d : Nat) (hD : 4 ≤ d) : Cv l G y_Mod_readAct b_Mod_readAct 3 none d [.ref (G.2.2 + 162), .int v1] M (fun M9 => M9 = x) := by
  refine Cv_of (by decide) (Nat.le_of_ble_eq_true rfl) (fun E hE X => ?_)
  subst hE
  have kr : ∀ x9 : Mem, x = x9 → (fun M9 => M9 = x) x9 := fun x9 e9 => by subst e9; exact rfl
  unfold f_Mod_readAct at h
  refine V_aload_n (n := 0) X d_Mod_readAct_0 rfl rfl rfl ?_
  obtain ⟨x1, hx1, h⟩ := ob_s h
  refine V_ci (As := []) X (Z0 E) ml_Mod_183 yq_Mod_here (c_Mod_here E.2.1 G  M x1 hx1 _ (Nat.le_refl _)) kd_162 rfl rfl (by omega) rfl (Nat.le_of_ble_eq_true rfl) d_Mod_readAct_1 rfl (fun r9 M9 hq => ?_)
  rw [hq.1, hq.2]
  refine V_istore_n (lv' := [(2, .int x1), (0, .ref (G.2.2 + 162)), (1, .int v1)]) X d_Mod_readAct_4 rfl (by decide) rfl rfl ?_
  refine V_iload_n (n := 0) X d_Mod_readAct_5 rfl rfl rfl ?_
  refine V_bipush (v := 109) X d_Mod_readAct_6 (by decide) rfl ?_
  refine V_icmp_eq (tgt := 43) X d_Mod_readAct_8 (by decide) rfl (fun c26 => ?_) (fun c26 => ?_)
  · rw [if_pos c26] at h
    refine V_sub (lv' := [(0, .ref (G.2.2 + 162)), (1, .int v1), (2, .int x1)]) [1, 2, 0] rfl ?_
    exact j_Mod_readAct_43_ok X hD v1 x1 M _ h kr
  · rw [if_neg c26] at h
    refine V_iload_n (n := 0) X d_Mod_readAct_11 rfl rfl rfl ?_
    refine V_bipush (v := 110) X d_Mod_readAct_12 (by decide) rfl ?_
    refine V_icmp_eq (tgt := 43) X d_Mod_readAct_14 (by decide) rfl (fun c25 => ?_) (fun c25 => ?_)
    · rw [if_pos c25] at h
      refine V_sub (lv' := [(0, .ref (G.2.2 + 162)), (1, .int v1), (2, .int x1)]) [1, 2, 0] rfl ?_
      exact j_Mod_readAct_43_ok X hD v1 x1 M _ h kr
    · rw [if_neg c25] at h
      refine V_iload_n (n := 0) X d_Mod_readAct_17 rfl rfl rfl ?_
      refine V_bipush (v := 112) X d_Mod_readAct_18 (by decide) rfl ?_
      refine V_icmp_eq (tgt := 43) X d_Mod_readAct_20 (by decide) rfl (fun c24 => ?_) (fun c24 => ?_)
      · rw [if_pos c24] at h
        refine V_sub (lv' := [(0, .ref (G.2.2 + 162)), (1, .int v1), (2, .int x1)]) [1, 2, 0] rfl ?_
        exact j_Mod_readAct_43_ok X hD v1 x1 M _ h kr
      · rw [if_neg c24] at h
        refine V_iload_n (n := 0) X d_Mod_readAct_23 rfl rfl rfl ?_
        refine V_bipush (v := 120) X d_Mod_readAct_24 (by decide) rfl ?_
        refine V_icmp_eq (tgt := 43) X d_Mod_readAct_26 (by decide) rfl (fun c23 => ?_) (fun c23 => ?_)
        · rw [if_pos c23] at h
          refine V_sub (lv' := [(0, .ref (G.2.2 + 162)), (1, .int v1), (2, .int x1)]) [1, 2, 0] rfl ?_
          exact j_Mod_readAct_43_ok X hD v1 x1 M _ h kr
        · rw [if_neg c23] at h
          refine V_iload_n (n := 0) X d_Mod_readAct_29 rfl rfl rfl ?_
          refine V_bipush (v := 102) X d_Mod_readAct_30 (by decide) rfl ?_
          refine V_icmp_eq (tgt := 43) X d_Mod_readAct_32 (by decide) rfl (fun c22 => ?_) (fun c22 => ?_)
          · rw [if_pos c22] at h
            refine V_sub (lv' := [(0, .ref (G.2.2 + 162)), (1, .int v1), (2, .int x1)]) [1, 2, 0] rfl ?_
            exact j_Mod_readAct_43_ok X hD v1 x1 M _ h kr
          · rw [if_neg c22] at h
            refine V_aload_n (n := 1) X d_Mod_readAct_35 rfl rfl rfl ?_
            refine V_aload_n (n := 1) X d_Mod_readAct_36 rfl rfl rfl ?_
            refine V_geti X fo_Mod_173 kd_162 rfl d_Mod_readAct_37 rfl ?_
            obtain ⟨x21, hx21, h⟩ := ob_s h
            refine V_cv (As := [.int (M.1 162 17)]) X (Z0 E) ml_Mod_190 yq_Mod_fault (c_Mod_fault E.2.1 G (M.1 162 17) M x21 hx21 _ (Nat.le_refl _)) kd_162 rfl rfl (by omega) rfl (Nat.le_of_ble_eq_true rfl) d_Mod_readAct_40 rfl (fun M9 hq => ?_)
            rw [hq]
            refine V_sub (lv' := [(0, .ref (G.2.2 + 162)), (1, .int v1), (2, .int x1)]) [1, 2, 0] rfl ?_
            exact j_Mod_readAct_43_ok X hD v1 x1 x21 _ h kr
def lb_Mod_act_66 (v2 : Int32) (s : Int32 × Mem) : Option ((Int32 × Mem) ⊕ ((Mem))) :=
  if v2 ≤ s.1 then
  some (.inr s.2)
  else
  Option.bind (f_Mod_goMinute 163 s.2) fun x4 =>
  mem_ (s_i x4 162 33 ((x4.1 162 33) + (x4.1 162 31))) fun M5 =>
  some (.inl ((s.1 + (1 : Int32)), M5))
theorem lb_Mod_act_66_ok {E : Ev} {G : Gw} {d : Nat} {post : Int32 → Mem → Prop} (X : Cx E G b_Mod_act "WomenByTheRoofsModel" 4 d (some .boolean)) (hD : 403 ≤ d)  (v2 : Int32)   (s : Int32 × Mem) (o : (Int32 × Mem) ⊕ ((Mem))) (h : lb_Mod_act_66 v2 s = some o) (kc : ∀ s9 : Int32 × Mem, o = .inl s9 → V E (0, 0) G 4 (QI E G post) s9.2 66 [(0, .ref (G.2.2 + 162)), (2, .int v2), (3, .int s9.1)] []) (kx0 : ∀ x9 : Mem, o = .inr x9 → V E (0, 0) G 4 (QI E G post) x9 98 [] []) : V E (0, 0) G 4 (QI E G post) s.2 66 [(0, .ref (G.2.2 + 162)), (2, .int v2), (3, .int s.1)] [] := by
  unfold lb_Mod_act_66 at h
  refine V_iload_n (n := 2) X d_Mod_act_66 rfl rfl rfl ?_
  refine V_iload_n (n := 1) X d_Mod_act_67 rfl rfl rfl ?_
  refine V_icmp_ge (tgt := 98) X d_Mod_act_68 (by decide) rfl (fun c6 => ?_) (fun c6 => ?_)
  · rw [if_pos c6] at h
    refine V_sub (lv' := []) [] rfl ?_
    exact kx0 s.2 (Option.some.inj h).symm
  · rw [if_neg c6] at h
    refine V_aload_n (n := 0) X d_Mod_act_71 rfl rfl rfl ?_
    refine V_aload_n (n := 0) X d_Mod_act_72 rfl rfl rfl ?_
    refine V_getr (k2 := 163) X fo_Mod_9 kd_162 rfl rf_162_0 d_Mod_act_73 rfl ?_
    obtain ⟨x4, hx4, h⟩ := ob_s h
    refine V_cv (As := [.ref (G.2.2 + 163)]) X (Z0 E) ml_Mod_339 yq_Mod_goMinute (c_Mod_goMinute E.2.1 G 163 s.2 x4 hx4 _ (Nat.le_refl _)) kd_162 rfl rfl (by omega) rfl (Nat.le_of_ble_eq_true rfl) d_Mod_act_76 rfl (fun M9 hq => ?_)
    rw [hq]
    refine V_aload_n (n := 0) X d_Mod_act_79 rfl rfl rfl ?_
    refine V_dup X d_Mod_act_80 rfl rfl ?_
    refine V_geti X fo_Mod_348 kd_162 rfl d_Mod_act_81 rfl ?_
    refine V_aload_n (n := 0) X d_Mod_act_84 rfl rfl rfl ?_
    refine V_geti X fo_Mod_327 kd_162 rfl d_Mod_act_85 rfl ?_
    refine V_iadd X d_Mod_act_88 rfl ?_
    obtain ⟨M5, eM5, h⟩ := memS h
    refine V_putI X fp_Mod_348 kd_162 rfl d_Mod_act_89 rfl ?_
    rw [← eM5]
    refine V_iinc (n := 2) (v := (s.1 + (1 : Int32))) (lv' := [(3, .int (s.1 + (1 : Int32))), (0, .ref (G.2.2 + 162)), (2, .int v2)]) X d_Mod_act_92 rfl rfl (by decide) rfl rfl ?_
    refine V_goto (pc' := 66) X d_Mod_act_95 (by decide) ?_
    refine V_sub (lv' := [(0, .ref (G.2.2 + 162)), (2, .int v2), (3, .int (s.1 + (1 : Int32)))]) [1, 2, 0] rfl ?_
    exact kc ((s.1 + (1 : Int32)), M5) (Option.some.inj h).symm
theorem lp_Mod_act_66_ok {E : Ev} {G : Gw} {d : Nat} {post : Int32 → Mem → Prop} (X : Cx E G b_Mod_act "WomenByTheRoofsModel" 4 d (some .boolean)) (hD : 403 ≤ d)  (v2 : Int32)   (n9 : Nat) (s : Int32 × Mem) (x : (Mem)) (h : iter (lb_Mod_act_66 v2) n9 s = some x) (kx0 : ∀ x9 : Mem, x = x9 → V E (0, 0) G 4 (QI E G post) x9 98 [] []) : V E (0, 0) G 4 (QI E G post) s.2 66 [(0, .ref (G.2.2 + 162)), (2, .int v2), (3, .int s.1)] [] :=
  iter_P (P := fun s : Int32 × Mem => V E (0, 0) G 4 (QI E G post) s.2 66 [(0, .ref (G.2.2 + 162)), (2, .int v2), (3, .int s.1)] []) (fun s o hb kc ky => lb_Mod_act_66_ok X hD v2 s o hb kc (fun x9 e9 => kx0 x9 (ky _ e9).symm)) n9 s h
def f_Mod_act (v1 : Int32) (M : Mem) : Option (Int32 × Mem) :=
  if inb (v1 + (1 : Int32)) 240 = true then
  if inb v1 240 = true then
  if (M.1 175 v1.toNatClampNeg) = (109 : Int32) then
  if (M.1 175 (v1 + (1 : Int32)).toNatClampNeg) ≤ (60 : Int32) then
  Option.bind (iter (lb_Mod_act_66 (M.1 175 (v1 + (1 : Int32)).toNatClampNeg)) FU ((0 : Int32), M)) fun x7 =>
  some ((1 : Int32), x7)
  else
  some ((0 : Int32), M)
  else if (M.1 175 v1.toNatClampNeg) = (110 : Int32) then
  Option.bind (f_Mod_canTell (M.1 175 (v1 + (1 : Int32)).toNatClampNeg) M) fun x10 =>
  if x10 = 0 then
  some ((0 : Int32), M)
  else
  mem_ (s_i M 163 (93 : Int32).toNatClampNeg ((M.1 163 (93 : Int32).toNatClampNeg) ||| ((1 : Int32) <<< ((M.1 175 (v1 + (1 : Int32)).toNatClampNeg) &&& 31)))) fun M11 =>
  some ((1 : Int32), M11)
  else if (M.1 175 v1.toNatClampNeg) = (112 : Int32) then
  if inb (v1 + (2 : Int32)) 240 = true then
  Option.bind (f_Mod_plankRefusal (M.1 175 (v1 + (1 : Int32)).toNatClampNeg) (M.1 175 (v1 + (2 : Int32)).toNatClampNeg) M) fun x14 =>
  if 0 ≤ x14 then
  if inb (v1 + (2 : Int32)) 240 = true then
  Option.bind (f_Mod_layPlank (M.1 175 (v1 + (1 : Int32)).toNatClampNeg) (M.1 175 (v1 + (2 : Int32)).toNatClampNeg) M) fun x15 =>
  some ((1 : Int32), x15)
  else none
  else
  some ((0 : Int32), M)
  else none
  else if (M.1 175 v1.toNatClampNeg) = (120 : Int32) then
  if (M.1 163 (92 : Int32).toNatClampNeg) = 0 then
  some ((0 : Int32), M)
  else
  mem_ (s_i M 163 (92 : Int32).toNatClampNeg ((M.1 163 (92 : Int32).toNatClampNeg) - (1 : Int32))) fun M18 =>
  some ((1 : Int32), M18)
  else Option.bind (f_Mod_canFeast ((1 : Int32) - (M.1 163 (94 : Int32).toNatClampNeg)) M) fun x1 =>
  if x1 = 0 then
  some ((0 : Int32), M)
  else
  Option.bind (f_Mod_goFeast ((1 : Int32) - (M.1 163 (94 : Int32).toNatClampNeg)) M) fun x2 =>
  some ((1 : Int32), x2)
  else none
  else none
theorem c_Mod_act (l : Launch) (G : Gw)  (v1 : Int32) (M : Mem) (x : Int32 × Mem) (h : f_Mod_act v1 M = some x) (d : Nat) (hD : 403 ≤ d) : Ci l G y_Mod_act b_Mod_act 4 (some .boolean) d [.ref (G.2.2 + 162), .int v1] M (fun r9 M9 => r9 = x.1 ∧ M9 = x.2) := by
  refine Ci_of (by decide) (Nat.le_of_ble_eq_true rfl) (fun E hE X => ?_)
  subst hE
  have kr : ∀ x9 : Int32 × Mem, x = x9 → (fun r9 M9 => r9 = x.1 ∧ M9 = x.2) x9.1 x9.2 := fun x9 e9 => by subst e9; exact ⟨rfl, rfl⟩
  unfold f_Mod_act at h
  refine V_aload_n (n := 0) X d_Mod_act_0 rfl rfl rfl ?_
  refine V_getr (k2 := 175) X fo_Mod_57 kd_162 rfl rf_162_32 d_Mod_act_1 rfl ?_
  refine V_iload_n (n := 1) X d_Mod_act_4 rfl rfl rfl ?_
  refine V_iconst (v := 1) X d_Mod_act_5 (by decide) rfl ?_
  refine V_iadd X d_Mod_act_6 rfl ?_
  obtain ⟨hb, h⟩ := ifn h
  refine V_iald X kd_175 (inb_in ln_175 hb) d_Mod_act_7 rfl ?_
  refine V_istore_n (lv' := [(2, .int (M.1 175 (v1 + (1 : Int32)).toNatClampNeg)), (0, .ref (G.2.2 + 162)), (1, .int v1)]) X d_Mod_act_8 rfl (by decide) rfl rfl ?_
  refine V_aload_n (n := 1) X d_Mod_act_9 rfl rfl rfl ?_
  refine V_getr (k2 := 175) X fo_Mod_57 kd_162 rfl rf_162_32 d_Mod_act_10 rfl ?_
  refine V_iload_n (n := 2) X d_Mod_act_13 rfl rfl rfl ?_
  obtain ⟨hb, h⟩ := ifn h
  refine V_iald X kd_175 (inb_in ln_175 hb) d_Mod_act_14 rfl ?_
  by_cases c9 : (M.1 175 v1.toNatClampNeg) = (109 : Int32)
  · rw [if_pos c9] at h
    refine V_lku (v := 109) (pc' := 56) (off := 41) X d_Mod_act_15 c9 (by decide) (by decide +kernel) (by decide) ?_
    refine V_iload_n (n := 0) X d_Mod_act_56 rfl rfl rfl ?_
    refine V_bipush (v := 60) X d_Mod_act_57 (by decide) rfl ?_
    refine V_icmp_le (tgt := 64) X d_Mod_act_59 (by decide) rfl (fun c8 => ?_) (fun c8 => ?_)
    · rw [if_pos c8] at h
      refine V_iconst (v := 0) X d_Mod_act_64 (by decide) rfl ?_
      refine V_istore_n (lv' := [(3, .int (0 : Int32)), (2, .int (M.1 175 (v1 + (1 : Int32)).toNatClampNeg)), (0, .ref (G.2.2 + 162)), (1, .int v1)]) X d_Mod_act_65 rfl (by decide) rfl rfl ?_
      refine V_sub (lv' := [(0, .ref (G.2.2 + 162)), (2, .int (M.1 175 (v1 + (1 : Int32)).toNatClampNeg)), (3, .int (0 : Int32))]) [2, 1, 0] rfl ?_
      obtain ⟨x7, hx7, h⟩ := ob_s h
      refine lp_Mod_act_66_ok X hD (M.1 175 (v1 + (1 : Int32)).toNatClampNeg) _ _ _ hx7 (fun x9 e9 => ?_)
      subst e9
      refine V_iconst (v := 1) X d_Mod_act_98 (by decide) rfl ?_
      exact V_zret X (kr ((1 : Int32), x7) (Option.some.inj h).symm) (by decide) d_Mod_act_99
    · rw [if_neg c8] at h
      refine V_iconst (v := 0) X d_Mod_act_62 (by decide) rfl ?_
      exact V_zret X (kr ((0 : Int32), M) (Option.some.inj h).symm) (by decide) d_Mod_act_63
  · rw [if_neg c9] at h
    by_cases c13 : (M.1 175 v1.toNatClampNeg) = (110 : Int32)
    · rw [if_pos c13] at h
      refine V_lku (v := 110) (pc' := 100) (off := 85) X d_Mod_act_15 c13 (by decide) (by decide +kernel) (by decide) ?_
      refine V_aload_n (n := 1) X d_Mod_act_100 rfl rfl rfl ?_
      refine V_iload_n (n := 0) X d_Mod_act_101 rfl rfl rfl ?_
      obtain ⟨x10, hx10, h⟩ := ob_s h
      refine V_ci (As := [.int (M.1 175 (v1 + (1 : Int32)).toNatClampNeg)]) X (Z0 E) ml_Mod_307 yq_Mod_canTell (c_Mod_canTell E.2.1 G (M.1 175 (v1 + (1 : Int32)).toNatClampNeg) M x10 hx10 _ (Nat.le_refl _)) kd_162 rfl rfl (by omega) rfl (Nat.le_of_ble_eq_true rfl) d_Mod_act_102 rfl (fun r9 M9 hq => ?_)
      rw [hq.1, hq.2]
      refine V_if_ne (tgt := 110) X d_Mod_act_105 (by decide) rfl (fun c12 => ?_) (fun c12 => ?_)
      · rw [if_neg c12] at h
        refine V_aload_n (n := 1) X d_Mod_act_110 rfl rfl rfl ?_
        refine V_getr (k2 := 163) X fo_Mod_9 kd_162 rfl rf_162_0 d_Mod_act_111 rfl ?_
        refine V_bipush (v := 93) X d_Mod_act_114 (by decide) rfl ?_
        refine V_dup2 X d_Mod_act_116 rfl rfl rfl ?_
        refine V_iald X kd_163 (inb_in ln_163 (by decide)) d_Mod_act_117 rfl ?_
        refine V_iconst (v := 1) X d_Mod_act_118 (by decide) rfl ?_
        refine V_iload_n (n := 0) X d_Mod_act_119 rfl rfl rfl ?_
        refine V_ishl X d_Mod_act_120 rfl ?_
        refine V_ior X d_Mod_act_121 rfl ?_
        obtain ⟨M11, eM11, h⟩ := memS h
        refine V_iast X kd_163 (inb_in ln_163 (by decide)) d_Mod_act_122 rfl ?_
        rw [← eM11]
        refine V_iconst (v := 1) X d_Mod_act_123 (by decide) rfl ?_
        exact V_zret X (kr ((1 : Int32), M11) (Option.some.inj h).symm) (by decide) d_Mod_act_124
      · rw [if_pos c12] at h
        refine V_iconst (v := 0) X d_Mod_act_108 (by decide) rfl ?_
        exact V_zret X (kr ((0 : Int32), M) (Option.some.inj h).symm) (by decide) d_Mod_act_109
    · rw [if_neg c13] at h
      by_cases c17 : (M.1 175 v1.toNatClampNeg) = (112 : Int32)
      · rw [if_pos c17] at h
        refine V_lku (v := 112) (pc' := 125) (off := 110) X d_Mod_act_15 c17 (by decide) (by decide +kernel) (by decide) ?_
        refine V_aload_n (n := 1) X d_Mod_act_125 rfl rfl rfl ?_
        refine V_iload_n (n := 0) X d_Mod_act_126 rfl rfl rfl ?_
        refine V_aload_n (n := 1) X d_Mod_act_127 rfl rfl rfl ?_
        refine V_getr (k2 := 175) X fo_Mod_57 kd_162 rfl rf_162_32 d_Mod_act_128 rfl ?_
        refine V_iload_n (n := 2) X d_Mod_act_131 rfl rfl rfl ?_
        refine V_iconst (v := 2) X d_Mod_act_132 (by decide) rfl ?_
        refine V_iadd X d_Mod_act_133 rfl ?_
        obtain ⟨hb, h⟩ := ifn h
        refine V_iald X kd_175 (inb_in ln_175 hb) d_Mod_act_134 rfl ?_
        obtain ⟨x14, hx14, h⟩ := ob_s h
        refine V_ci (As := [.int (M.1 175 (v1 + (1 : Int32)).toNatClampNeg), .int (M.1 175 (v1 + (2 : Int32)).toNatClampNeg)]) X (Z0 E) ml_Mod_290 yq_Mod_plankRefusal (c_Mod_plankRefusal E.2.1 G (M.1 175 (v1 + (1 : Int32)).toNatClampNeg) (M.1 175 (v1 + (2 : Int32)).toNatClampNeg) M x14 hx14 _ (Nat.le_refl _)) kd_162 rfl rfl (by omega) rfl (Nat.le_of_ble_eq_true rfl) d_Mod_act_135 rfl (fun r9 M9 hq => ?_)
        rw [hq.1, hq.2]
        refine V_if_ge (tgt := 143) X d_Mod_act_138 (by decide) rfl (fun c16 => ?_) (fun c16 => ?_)
        · rw [if_pos c16] at h
          refine V_aload_n (n := 1) X d_Mod_act_143 rfl rfl rfl ?_
          refine V_iload_n (n := 0) X d_Mod_act_144 rfl rfl rfl ?_
          refine V_aload_n (n := 1) X d_Mod_act_145 rfl rfl rfl ?_
          refine V_getr (k2 := 175) X fo_Mod_57 kd_162 rfl rf_162_32 d_Mod_act_146 rfl ?_
          refine V_iload_n (n := 2) X d_Mod_act_149 rfl rfl rfl ?_
          refine V_iconst (v := 2) X d_Mod_act_150 (by decide) rfl ?_
          refine V_iadd X d_Mod_act_151 rfl ?_
          obtain ⟨hb, h⟩ := ifn h
          refine V_iald X kd_175 (inb_in ln_175 hb) d_Mod_act_152 rfl ?_
          obtain ⟨x15, hx15, h⟩ := ob_s h
          refine V_cv (As := [.int (M.1 175 (v1 + (1 : Int32)).toNatClampNeg), .int (M.1 175 (v1 + (2 : Int32)).toNatClampNeg)]) X (Z0 E) ml_Mod_297 yq_Mod_layPlank (c_Mod_layPlank E.2.1 G (M.1 175 (v1 + (1 : Int32)).toNatClampNeg) (M.1 175 (v1 + (2 : Int32)).toNatClampNeg) M x15 hx15 _ (Nat.le_refl _)) kd_162 rfl rfl (by omega) rfl (Nat.le_of_ble_eq_true rfl) d_Mod_act_153 rfl (fun M9 hq => ?_)
          rw [hq]
          refine V_iconst (v := 1) X d_Mod_act_156 (by decide) rfl ?_
          exact V_zret X (kr ((1 : Int32), x15) (Option.some.inj h).symm) (by decide) d_Mod_act_157
        · rw [if_neg c16] at h
          refine V_iconst (v := 0) X d_Mod_act_141 (by decide) rfl ?_
          exact V_zret X (kr ((0 : Int32), M) (Option.some.inj h).symm) (by decide) d_Mod_act_142
      · rw [if_neg c17] at h
        by_cases c20 : (M.1 175 v1.toNatClampNeg) = (120 : Int32)
        · rw [if_pos c20] at h
          refine V_lku (v := 120) (pc' := 158) (off := 143) X d_Mod_act_15 c20 (by decide) (by decide +kernel) (by decide) ?_
          refine V_aload_n (n := 1) X d_Mod_act_158 rfl rfl rfl ?_
          refine V_getr (k2 := 163) X fo_Mod_9 kd_162 rfl rf_162_0 d_Mod_act_159 rfl ?_
          refine V_bipush (v := 92) X d_Mod_act_162 (by decide) rfl ?_
          refine V_iald X kd_163 (inb_in ln_163 (by decide)) d_Mod_act_164 rfl ?_
          refine V_if_ne (tgt := 170) X d_Mod_act_165 (by decide) rfl (fun c19 => ?_) (fun c19 => ?_)
          · rw [if_neg c19] at h
            refine V_aload_n (n := 1) X d_Mod_act_170 rfl rfl rfl ?_
            refine V_getr (k2 := 163) X fo_Mod_9 kd_162 rfl rf_162_0 d_Mod_act_171 rfl ?_
            refine V_bipush (v := 92) X d_Mod_act_174 (by decide) rfl ?_
            refine V_dup2 X d_Mod_act_176 rfl rfl rfl ?_
            refine V_iald X kd_163 (inb_in ln_163 (by decide)) d_Mod_act_177 rfl ?_
            refine V_iconst (v := 1) X d_Mod_act_178 (by decide) rfl ?_
            refine V_isub X d_Mod_act_179 rfl ?_
            obtain ⟨M18, eM18, h⟩ := memS h
            refine V_iast X kd_163 (inb_in ln_163 (by decide)) d_Mod_act_180 rfl ?_
            rw [← eM18]
            refine V_iconst (v := 1) X d_Mod_act_181 (by decide) rfl ?_
            exact V_zret X (kr ((1 : Int32), M18) (Option.some.inj h).symm) (by decide) d_Mod_act_182
          · rw [if_pos c19] at h
            refine V_iconst (v := 0) X d_Mod_act_168 (by decide) rfl ?_
            exact V_zret X (kr ((0 : Int32), M) (Option.some.inj h).symm) (by decide) d_Mod_act_169
        · rw [if_neg c20] at h
          refine V_lookup (pc' := 183) X d_Mod_act_15 (by decide) (off := 168) (by simp [Op.lookupswitch.offset, (neT c9 (z := 109) (by decide)).symm, (neT c13 (z := 110) (by decide)).symm, (neT c17 (z := 112) (by decide)).symm, (neT c20 (z := 120) (by decide)).symm]) (by decide) ?_
          refine V_aload_n (n := 1) X d_Mod_act_183 rfl rfl rfl ?_
          refine V_iconst (v := 1) X d_Mod_act_184 (by decide) rfl ?_
          refine V_aload_n (n := 1) X d_Mod_act_185 rfl rfl rfl ?_
          refine V_getr (k2 := 163) X fo_Mod_9 kd_162 rfl rf_162_0 d_Mod_act_186 rfl ?_
          refine V_bipush (v := 94) X d_Mod_act_189 (by decide) rfl ?_
          refine V_iald X kd_163 (inb_in ln_163 (by decide)) d_Mod_act_191 rfl ?_
          refine V_isub X d_Mod_act_192 rfl ?_
          obtain ⟨x1, hx1, h⟩ := ob_s h
          refine V_ci (As := [.int ((1 : Int32) - (M.1 163 (94 : Int32).toNatClampNeg))]) X (Z0 E) ml_Mod_315 yq_Mod_canFeast (c_Mod_canFeast E.2.1 G ((1 : Int32) - (M.1 163 (94 : Int32).toNatClampNeg)) M x1 hx1 _ (Nat.le_refl _)) kd_162 rfl rfl (by omega) rfl (Nat.le_of_ble_eq_true rfl) d_Mod_act_193 rfl (fun r9 M9 hq => ?_)
          rw [hq.1, hq.2]
          refine V_if_ne (tgt := 201) X d_Mod_act_196 (by decide) rfl (fun c3 => ?_) (fun c3 => ?_)
          · rw [if_neg c3] at h
            refine V_aload_n (n := 1) X d_Mod_act_201 rfl rfl rfl ?_
            refine V_iconst (v := 1) X d_Mod_act_202 (by decide) rfl ?_
            refine V_aload_n (n := 1) X d_Mod_act_203 rfl rfl rfl ?_
            refine V_getr (k2 := 163) X fo_Mod_9 kd_162 rfl rf_162_0 d_Mod_act_204 rfl ?_
            refine V_bipush (v := 94) X d_Mod_act_207 (by decide) rfl ?_
            refine V_iald X kd_163 (inb_in ln_163 (by decide)) d_Mod_act_209 rfl ?_
            refine V_isub X d_Mod_act_210 rfl ?_
            obtain ⟨x2, hx2, h⟩ := ob_s h
            refine V_cv (As := [.int ((1 : Int32) - (M.1 163 (94 : Int32).toNatClampNeg))]) X (Z0 E) ml_Mod_318 yq_Mod_goFeast (c_Mod_goFeast E.2.1 G ((1 : Int32) - (M.1 163 (94 : Int32).toNatClampNeg)) M x2 hx2 _ (Nat.le_refl _)) kd_162 rfl rfl (by omega) rfl (Nat.le_of_ble_eq_true rfl) d_Mod_act_211 rfl (fun M9 hq => ?_)
            rw [hq]
            refine V_iconst (v := 1) X d_Mod_act_214 (by decide) rfl ?_
            exact V_zret X (kr ((1 : Int32), x2) (Option.some.inj h).symm) (by decide) d_Mod_act_215
          · rw [if_pos c3] at h
            refine V_iconst (v := 0) X d_Mod_act_199 (by decide) rfl ?_
            exact V_zret X (kr ((0 : Int32), M) (Option.some.inj h).symm) (by decide) d_Mod_act_200
def lb_Mod_evening_39  (s : Int32 × Int32 × Mem) : Option ((Int32 × Int32 × Mem) ⊕ ((Int32 × Mem))) :=
  if s.2.1 = 0 then
  some (.inr (s.1, s.2.2))
  else
  Option.bind (f_Mod_fine s.2.2) fun x4 =>
  if x4 = 0 then
  some (.inr (s.1, s.2.2))
  else
  Option.bind (f_Mod_readAct ((3 : Int32) * s.1) s.2.2) fun x5 =>
  Option.bind (f_Mod_passes (59 : Int32) x5) fun x6 =>
  some (.inl ((s.1 + (1 : Int32)), x6.1, x6.2))
theorem lb_Mod_evening_39_ok {E : Ev} {G : Gw} {d : Nat} {post : Int32 → Mem → Prop} (X : Cx E G b_Mod_evening "WomenByTheRoofsModel" 4 d (some .int)) (hD : 404 ≤ d)     (s : Int32 × Int32 × Mem) (o : (Int32 × Int32 × Mem) ⊕ ((Int32 × Mem))) (h : lb_Mod_evening_39 s = some o) (kc : ∀ s9 : Int32 × Int32 × Mem, o = .inl s9 → V E (0, 0) G 4 (QI E G post) s9.2.2 39 [(0, .ref (G.2.2 + 162)), (1, .int s9.1), (2, .int s9.2.1)] []) (kx0 : ∀ x9 : Int32 × Mem, o = .inr x9 → V E (0, 0) G 4 (QI E G post) x9.2 70 [(0, .ref (G.2.2 + 162)), (1, .int x9.1)] []) : V E (0, 0) G 4 (QI E G post) s.2.2 39 [(0, .ref (G.2.2 + 162)), (1, .int s.1), (2, .int s.2.1)] [] := by
  unfold lb_Mod_evening_39 at h
  refine V_iload_n (n := 2) X d_Mod_evening_39 rfl rfl rfl ?_
  refine V_if_eq (tgt := 70) X d_Mod_evening_40 (by decide) rfl (fun c8 => ?_) (fun c8 => ?_)
  · rw [if_pos c8] at h
    refine V_sub (lv' := [(0, .ref (G.2.2 + 162)), (1, .int s.1)]) [0, 1] rfl ?_
    exact kx0 (s.1, s.2.2) (Option.some.inj h).symm
  · rw [if_neg c8] at h
    refine V_aload_n (n := 0) X d_Mod_evening_43 rfl rfl rfl ?_
    obtain ⟨x4, hx4, h⟩ := ob_s h
    refine V_ci (As := []) X (Z0 E) ml_Mod_179 yq_Mod_fine (c_Mod_fine E.2.1 G  s.2.2 x4 hx4 _ (Nat.le_refl _)) kd_162 rfl rfl (by omega) rfl (Nat.le_of_ble_eq_true rfl) d_Mod_evening_44 rfl (fun r9 M9 hq => ?_)
    rw [hq.1, hq.2]
    refine V_if_eq (tgt := 70) X d_Mod_evening_47 (by decide) rfl (fun c7 => ?_) (fun c7 => ?_)
    · rw [if_pos c7] at h
      refine V_sub (lv' := [(0, .ref (G.2.2 + 162)), (1, .int s.1)]) [0, 1] rfl ?_
      exact kx0 (s.1, s.2.2) (Option.some.inj h).symm
    · rw [if_neg c7] at h
      refine V_aload_n (n := 0) X d_Mod_evening_50 rfl rfl rfl ?_
      refine V_iconst (v := 3) X d_Mod_evening_51 (by decide) rfl ?_
      refine V_iload_n (n := 1) X d_Mod_evening_52 rfl rfl rfl ?_
      refine V_imul X d_Mod_evening_53 rfl ?_
      obtain ⟨x5, hx5, h⟩ := ob_s h
      refine V_cv (As := [.int ((3 : Int32) * s.1)]) X (Z0 E) ml_Mod_345 yq_Mod_readAct (c_Mod_readAct E.2.1 G ((3 : Int32) * s.1) s.2.2 x5 hx5 _ (Nat.le_refl _)) kd_162 rfl rfl (by omega) rfl (Nat.le_of_ble_eq_true rfl) d_Mod_evening_54 rfl (fun M9 hq => ?_)
      rw [hq]
      refine V_iinc (n := 1) (v := (s.1 + (1 : Int32))) (lv' := [(1, .int (s.1 + (1 : Int32))), (0, .ref (G.2.2 + 162)), (2, .int s.2.1)]) X d_Mod_evening_57 rfl rfl (by decide) rfl rfl ?_
      refine V_aload_n (n := 1) X d_Mod_evening_60 rfl rfl rfl ?_
      refine V_bipush (v := 59) X d_Mod_evening_61 (by decide) rfl ?_
      obtain ⟨x6, hx6, h⟩ := ob_s h
      refine V_ci (As := [.int (59 : Int32)]) X (Z0 E) ml_Mod_186 yq_Mod_passes (c_Mod_passes E.2.1 G (59 : Int32) x5 x6 hx6 _ (Nat.le_refl _)) kd_162 rfl rfl (by omega) rfl (Nat.le_of_ble_eq_true rfl) d_Mod_evening_63 rfl (fun r9 M9 hq => ?_)
      rw [hq.1, hq.2]
      refine V_istore_n (lv' := [(2, .int x6.1), (1, .int (s.1 + (1 : Int32))), (0, .ref (G.2.2 + 162))]) X d_Mod_evening_66 rfl (by decide) rfl rfl ?_
      refine V_goto (pc' := 39) X d_Mod_evening_67 (by decide) ?_
      refine V_sub (lv' := [(0, .ref (G.2.2 + 162)), (1, .int (s.1 + (1 : Int32))), (2, .int x6.1)]) [2, 1, 0] rfl ?_
      exact kc ((s.1 + (1 : Int32)), x6.1, x6.2) (Option.some.inj h).symm
theorem lp_Mod_evening_39_ok {E : Ev} {G : Gw} {d : Nat} {post : Int32 → Mem → Prop} (X : Cx E G b_Mod_evening "WomenByTheRoofsModel" 4 d (some .int)) (hD : 404 ≤ d)     (n9 : Nat) (s : Int32 × Int32 × Mem) (x : (Int32 × Mem)) (h : iter (lb_Mod_evening_39) n9 s = some x) (kx0 : ∀ x9 : Int32 × Mem, x = x9 → V E (0, 0) G 4 (QI E G post) x9.2 70 [(0, .ref (G.2.2 + 162)), (1, .int x9.1)] []) : V E (0, 0) G 4 (QI E G post) s.2.2 39 [(0, .ref (G.2.2 + 162)), (1, .int s.1), (2, .int s.2.1)] [] :=
  iter_P (P := fun s : Int32 × Int32 × Mem => V E (0, 0) G 4 (QI E G post) s.2.2 39 [(0, .ref (G.2.2 + 162)), (1, .int s.1), (2, .int s.2.1)] []) (fun s o hb kc ky => lb_Mod_evening_39_ok X hD  s o hb kc (fun x9 e9 => kx0 x9 (ky _ e9).symm)) n9 s h
def lb_Mod_evening_122 (v1 : Int32) (s : Int32 × Mem) : Option ((Int32 × Mem) ⊕ ((Int32 × Mem))) :=
  if v1 ≤ s.1 then
  some (.inr (s.1, s.2))
  else
  Option.bind (f_Mod_act ((3 : Int32) * s.1) s.2) fun x13 =>
  if x13.1 = 0 then
  some (.inr (s.1, x13.2))
  else
  some (.inl ((s.1 + (1 : Int32)), x13.2))
theorem lb_Mod_evening_122_ok {E : Ev} {G : Gw} {d : Nat} {post : Int32 → Mem → Prop} (X : Cx E G b_Mod_evening "WomenByTheRoofsModel" 4 d (some .int)) (hD : 404 ≤ d)  (v1 : Int32)   (s : Int32 × Mem) (o : (Int32 × Mem) ⊕ ((Int32 × Mem))) (h : lb_Mod_evening_122 v1 s = some o) (kc : ∀ s9 : Int32 × Mem, o = .inl s9 → V E (0, 0) G 4 (QI E G post) s9.2 122 [(0, .ref (G.2.2 + 162)), (1, .int v1), (3, .int s9.1)] []) (kx0 : ∀ x9 : Int32 × Mem, o = .inr x9 → V E (0, 0) G 4 (QI E G post) x9.2 143 [(0, .ref (G.2.2 + 162)), (1, .int v1), (3, .int x9.1)] []) : V E (0, 0) G 4 (QI E G post) s.2 122 [(0, .ref (G.2.2 + 162)), (1, .int v1), (3, .int s.1)] [] := by
  unfold lb_Mod_evening_122 at h
  refine V_iload_n (n := 2) X d_Mod_evening_122 rfl rfl rfl ?_
  refine V_iload_n (n := 1) X d_Mod_evening_123 rfl rfl rfl ?_
  refine V_icmp_ge (tgt := 143) X d_Mod_evening_124 (by decide) rfl (fun c15 => ?_) (fun c15 => ?_)
  · rw [if_pos c15] at h
    exact kx0 (s.1, s.2) (Option.some.inj h).symm
  · rw [if_neg c15] at h
    refine V_aload_n (n := 0) X d_Mod_evening_127 rfl rfl rfl ?_
    refine V_iconst (v := 3) X d_Mod_evening_128 (by decide) rfl ?_
    refine V_iload_n (n := 2) X d_Mod_evening_129 rfl rfl rfl ?_
    refine V_imul X d_Mod_evening_130 rfl ?_
    obtain ⟨x13, hx13, h⟩ := ob_s h
    refine V_ci (As := [.int ((3 : Int32) * s.1)]) X (Z0 E) ml_Mod_351 yq_Mod_act (c_Mod_act E.2.1 G ((3 : Int32) * s.1) s.2 x13 hx13 _ (Nat.le_refl _)) kd_162 rfl rfl (by omega) rfl (Nat.le_of_ble_eq_true rfl) d_Mod_evening_131 rfl (fun r9 M9 hq => ?_)
    rw [hq.1, hq.2]
    refine V_if_eq (tgt := 143) X d_Mod_evening_134 (by decide) rfl (fun c14 => ?_) (fun c14 => ?_)
    · rw [if_pos c14] at h
      exact kx0 (s.1, x13.2) (Option.some.inj h).symm
    · rw [if_neg c14] at h
      refine V_iinc (n := 2) (v := (s.1 + (1 : Int32))) (lv' := [(3, .int (s.1 + (1 : Int32))), (0, .ref (G.2.2 + 162)), (1, .int v1)]) X d_Mod_evening_137 rfl rfl (by decide) rfl rfl ?_
      refine V_goto (pc' := 122) X d_Mod_evening_140 (by decide) ?_
      refine V_sub (lv' := [(0, .ref (G.2.2 + 162)), (1, .int v1), (3, .int (s.1 + (1 : Int32)))]) [1, 2, 0] rfl ?_
      exact kc ((s.1 + (1 : Int32)), x13.2) (Option.some.inj h).symm
theorem lp_Mod_evening_122_ok {E : Ev} {G : Gw} {d : Nat} {post : Int32 → Mem → Prop} (X : Cx E G b_Mod_evening "WomenByTheRoofsModel" 4 d (some .int)) (hD : 404 ≤ d)  (v1 : Int32)   (n9 : Nat) (s : Int32 × Mem) (x : (Int32 × Mem)) (h : iter (lb_Mod_evening_122 v1) n9 s = some x) (kx0 : ∀ x9 : Int32 × Mem, x = x9 → V E (0, 0) G 4 (QI E G post) x9.2 143 [(0, .ref (G.2.2 + 162)), (1, .int v1), (3, .int x9.1)] []) : V E (0, 0) G 4 (QI E G post) s.2 122 [(0, .ref (G.2.2 + 162)), (1, .int v1), (3, .int s.1)] [] :=
  iter_P (P := fun s : Int32 × Mem => V E (0, 0) G 4 (QI E G post) s.2 122 [(0, .ref (G.2.2 + 162)), (1, .int v1), (3, .int s.1)] []) (fun s o hb kc ky => lb_Mod_evening_122_ok X hD v1 s o hb kc (fun x9 e9 => kx0 x9 (ky _ e9).symm)) n9 s h
def j_Mod_evening_171 (v3 : Int32) (w0 : Int32) (M : Mem) : Option (Int32 × Mem) :=
  Option.bind (f_Mod_put w0 M) fun x18 =>
  Option.bind (f_Mod_put (x18.1 162 33) x18) fun x19 =>
  some (v3, x19)
theorem j_Mod_evening_171_ok {E : Ev} {G : Gw} {d : Nat} {post : Int32 → Mem → Prop} (X : Cx E G b_Mod_evening "WomenByTheRoofsModel" 4 d (some .int)) (hD : 404 ≤ d)  (v3 : Int32) (w0 : Int32)  (M : Mem)  (o : Int32 × Mem) (h : j_Mod_evening_171 v3 w0 M = some o) (kr : ∀ x9 : Int32 × Mem, o = x9 → post x9.1 x9.2) : V E (0, 0) G 4 (QI E G post) M 171 [(0, .ref (G.2.2 + 162)), (3, .int v3)] [.int w0, .ref (G.2.2 + 162)] := by
  unfold j_Mod_evening_171 at h
  obtain ⟨x18, hx18, h⟩ := ob_s h
  refine V_cv (As := [.int w0]) X (Z0 E) ml_Mod_342 yq_Mod_put (c_Mod_put E.2.1 G w0 M x18 hx18 _ (Nat.le_refl _)) kd_162 rfl rfl (by omega) rfl (Nat.le_of_ble_eq_true rfl) d_Mod_evening_171 rfl (fun M9 hq => ?_)
  rw [hq]
  refine V_aload_n (n := 0) X d_Mod_evening_174 rfl rfl rfl ?_
  refine V_aload_n (n := 0) X d_Mod_evening_175 rfl rfl rfl ?_
  refine V_geti X fo_Mod_348 kd_162 rfl d_Mod_evening_176 rfl ?_
  obtain ⟨x19, hx19, h⟩ := ob_s h
  refine V_cv (As := [.int (x18.1 162 33)]) X (Z0 E) ml_Mod_342 yq_Mod_put (c_Mod_put E.2.1 G (x18.1 162 33) x18 x19 hx19 _ (Nat.le_refl _)) kd_162 rfl rfl (by omega) rfl (Nat.le_of_ble_eq_true rfl) d_Mod_evening_179 rfl (fun M9 hq => ?_)
  rw [hq]
  refine V_iload_n (n := 1) X d_Mod_evening_182 rfl rfl rfl ?_
  exact V_iret X (kr (v3, x19) (Option.some.inj h).symm) d_Mod_evening_183
def j_Mod_evening_155 (v1 : Int32) (v3 : Int32) (M : Mem) : Option (Int32 × Mem) :=
  mem_ (s_i M 162 12 (0 : Int32)) fun M17 =>
  if v1 ≤ v3 then
  j_Mod_evening_171 v3 (0 : Int32) M17
  else
  j_Mod_evening_171 v3 (1 : Int32) M17
theorem j_Mod_evening_155_ok {E : Ev} {G : Gw} {d : Nat} {post : Int32 → Mem → Prop} (X : Cx E G b_Mod_evening "WomenByTheRoofsModel" 4 d (some .int)) (hD : 404 ≤ d)  (v1 : Int32) (v3 : Int32)  (M : Mem)  (o : Int32 × Mem) (h : j_Mod_evening_155 v1 v3 M = some o) (kr : ∀ x9 : Int32 × Mem, o = x9 → post x9.1 x9.2) : V E (0, 0) G 4 (QI E G post) M 155 [(0, .ref (G.2.2 + 162)), (1, .int v1), (3, .int v3)] [] := by
  unfold j_Mod_evening_155 at h
  refine V_aload_n (n := 0) X d_Mod_evening_155 rfl rfl rfl ?_
  refine V_iconst (v := 0) X d_Mod_evening_156 (by decide) rfl ?_
  obtain ⟨M17, eM17, h⟩ := memS h
  refine V_putI X fp_Mod_112 kd_162 rfl d_Mod_evening_157 rfl ?_
  rw [← eM17]
  refine V_aload_n (n := 0) X d_Mod_evening_160 rfl rfl rfl ?_
  refine V_iload_n (n := 2) X d_Mod_evening_161 rfl rfl rfl ?_
  refine V_iload_n (n := 1) X d_Mod_evening_162 rfl rfl rfl ?_
  refine V_icmp_ge (tgt := 170) X d_Mod_evening_163 (by decide) rfl (fun c20 => ?_) (fun c20 => ?_)
  · rw [if_pos c20] at h
    refine V_iconst (v := 0) X d_Mod_evening_170 (by decide) rfl ?_
    refine V_sub (lv' := [(0, .ref (G.2.2 + 162)), (3, .int v3)]) [0, 2] rfl ?_
    exact j_Mod_evening_171_ok X hD v3 (0 : Int32) M17 _ h kr
  · rw [if_neg c20] at h
    refine V_iconst (v := 1) X d_Mod_evening_166 (by decide) rfl ?_
    refine V_goto (pc' := 171) X d_Mod_evening_167 (by decide) ?_
    refine V_sub (lv' := [(0, .ref (G.2.2 + 162)), (3, .int v3)]) [0, 2] rfl ?_
    exact j_Mod_evening_171_ok X hD v3 (1 : Int32) M17 _ h kr
def j_Mod_evening_143 (v1 : Int32) (v3 : Int32) (M : Mem) : Option (Int32 × Mem) :=
  if v3 ≤ 0 then
  j_Mod_evening_155 v1 v3 M
  else
  Option.bind (f_Mod_remember 174 M) fun x21 =>
  j_Mod_evening_155 v1 v3 x21
theorem j_Mod_evening_143_ok {E : Ev} {G : Gw} {d : Nat} {post : Int32 → Mem → Prop} (X : Cx E G b_Mod_evening "WomenByTheRoofsModel" 4 d (some .int)) (hD : 404 ≤ d)  (v1 : Int32) (v3 : Int32)  (M : Mem)  (o : Int32 × Mem) (h : j_Mod_evening_143 v1 v3 M = some o) (kr : ∀ x9 : Int32 × Mem, o = x9 → post x9.1 x9.2) : V E (0, 0) G 4 (QI E G post) M 143 [(0, .ref (G.2.2 + 162)), (1, .int v1), (3, .int v3)] [] := by
  unfold j_Mod_evening_143 at h
  refine V_iload_n (n := 2) X d_Mod_evening_143 rfl rfl rfl ?_
  refine V_if_le (tgt := 155) X d_Mod_evening_144 (by decide) rfl (fun c22 => ?_) (fun c22 => ?_)
  · rw [if_pos c22] at h
    exact j_Mod_evening_155_ok X hD v1 v3 M _ h kr
  · rw [if_neg c22] at h
    refine V_aload_n (n := 0) X d_Mod_evening_147 rfl rfl rfl ?_
    refine V_aload_n (n := 0) X d_Mod_evening_148 rfl rfl rfl ?_
    refine V_getr (k2 := 174) X fo_Mod_54 kd_162 rfl rf_162_28 d_Mod_evening_149 rfl ?_
    obtain ⟨x21, hx21, h⟩ := ob_s h
    refine V_cv (As := [.ref (G.2.2 + 174)]) X (Z0 E) ml_Mod_293 yq_Mod_remember (c_Mod_remember E.2.1 G 174 M x21 hx21 _ (Nat.le_refl _)) kd_162 rfl rfl (by omega) rfl (Nat.le_of_ble_eq_true rfl) d_Mod_evening_152 rfl (fun M9 hq => ?_)
    rw [hq]
    exact j_Mod_evening_155_ok X hD v1 v3 x21 _ h kr
def j_Mod_evening_89 (v1 : Int32) (M : Mem) : Option (Int32 × Mem) :=
  Option.bind (f_Mod_fine M) fun x10 =>
  if x10 = 0 then
  some (((-1 : Int32) - (M.1 162 18)), M)
  else
  Option.bind (f_Mod_lay 163 174 (0 : Int32) M) fun x11 =>
  mem_ (s_i x11 162 33 (0 : Int32)) fun M12 =>
  Option.bind (iter (lb_Mod_evening_122 v1) FU ((0 : Int32), M12)) fun x16 =>
  j_Mod_evening_143 v1 x16.1 x16.2
theorem j_Mod_evening_89_ok {E : Ev} {G : Gw} {d : Nat} {post : Int32 → Mem → Prop} (X : Cx E G b_Mod_evening "WomenByTheRoofsModel" 4 d (some .int)) (hD : 404 ≤ d)  (v1 : Int32)  (M : Mem)  (o : Int32 × Mem) (h : j_Mod_evening_89 v1 M = some o) (kr : ∀ x9 : Int32 × Mem, o = x9 → post x9.1 x9.2) : V E (0, 0) G 4 (QI E G post) M 89 [(0, .ref (G.2.2 + 162)), (1, .int v1)] [] := by
  unfold j_Mod_evening_89 at h
  refine V_aload_n (n := 0) X d_Mod_evening_89 rfl rfl rfl ?_
  obtain ⟨x10, hx10, h⟩ := ob_s h
  refine V_ci (As := []) X (Z0 E) ml_Mod_179 yq_Mod_fine (c_Mod_fine E.2.1 G  M x10 hx10 _ (Nat.le_refl _)) kd_162 rfl rfl (by omega) rfl (Nat.le_of_ble_eq_true rfl) d_Mod_evening_90 rfl (fun r9 M9 hq => ?_)
  rw [hq.1, hq.2]
  refine V_if_ne (tgt := 103) X d_Mod_evening_93 (by decide) rfl (fun c23 => ?_) (fun c23 => ?_)
  · rw [if_neg c23] at h
    refine V_aload_n (n := 0) X d_Mod_evening_103 rfl rfl rfl ?_
    refine V_getr (k2 := 163) X fo_Mod_9 kd_162 rfl rf_162_0 d_Mod_evening_104 rfl ?_
    refine V_aload_n (n := 0) X d_Mod_evening_107 rfl rfl rfl ?_
    refine V_getr (k2 := 174) X fo_Mod_54 kd_162 rfl rf_162_28 d_Mod_evening_108 rfl ?_
    refine V_iconst (v := 0) X d_Mod_evening_111 (by decide) rfl ?_
    obtain ⟨x11, hx11, h⟩ := ob_s h
    refine V_sv (As := [.ref (G.2.2 + 163), .ref (G.2.2 + 174), .int (0 : Int32)]) X (Z0 E) ml_Mod_286 yq_Mod_lay (c_Mod_lay E.2.1 G 163 174 (0 : Int32) M x11 hx11 _ (Nat.le_refl _)) rfl (by omega) rfl (Nat.le_of_ble_eq_true rfl) d_Mod_evening_112 rfl (fun M9 hq => ?_)
    rw [hq]
    refine V_aload_n (n := 0) X d_Mod_evening_115 rfl rfl rfl ?_
    refine V_iconst (v := 0) X d_Mod_evening_116 (by decide) rfl ?_
    obtain ⟨M12, eM12, h⟩ := memS h
    refine V_putI X fp_Mod_348 kd_162 rfl d_Mod_evening_117 rfl ?_
    rw [← eM12]
    refine V_iconst (v := 0) X d_Mod_evening_120 (by decide) rfl ?_
    refine V_istore_n (lv' := [(3, .int (0 : Int32)), (0, .ref (G.2.2 + 162)), (1, .int v1)]) X d_Mod_evening_121 rfl (by decide) rfl rfl ?_
    refine V_sub (lv' := [(0, .ref (G.2.2 + 162)), (1, .int v1), (3, .int (0 : Int32))]) [1, 2, 0] rfl ?_
    obtain ⟨x16, hx16, h⟩ := ob_s h
    refine lp_Mod_evening_122_ok X hD v1 _ _ _ hx16 (fun x9 e9 => ?_)
    subst e9
    exact j_Mod_evening_143_ok X hD v1 x16.1 x16.2 _ h kr
  · rw [if_pos c23] at h
    refine V_iconst (v := -1) X d_Mod_evening_96 (by decide) rfl ?_
    refine V_aload_n (n := 0) X d_Mod_evening_97 rfl rfl rfl ?_
    refine V_geti X fo_Mod_176 kd_162 rfl d_Mod_evening_98 rfl ?_
    refine V_isub X d_Mod_evening_101 rfl ?_
    exact V_iret X (kr (((-1 : Int32) - (M.1 162 18)), M) (Option.some.inj h).symm) d_Mod_evening_102
def j_Mod_evening_70 (v1 : Int32) (M : Mem) : Option (Int32 × Mem) :=
  if (M.1 162 15) ≤ (M.1 162 17) then
  j_Mod_evening_89 v1 M
  else
  Option.bind (f_Mod_fault (M.1 162 17) M) fun x24 =>
  j_Mod_evening_89 v1 x24
theorem j_Mod_evening_70_ok {E : Ev} {G : Gw} {d : Nat} {post : Int32 → Mem → Prop} (X : Cx E G b_Mod_evening "WomenByTheRoofsModel" 4 d (some .int)) (hD : 404 ≤ d)  (v1 : Int32)  (M : Mem)  (o : Int32 × Mem) (h : j_Mod_evening_70 v1 M = some o) (kr : ∀ x9 : Int32 × Mem, o = x9 → post x9.1 x9.2) : V E (0, 0) G 4 (QI E G post) M 70 [(0, .ref (G.2.2 + 162)), (1, .int v1)] [] := by
  unfold j_Mod_evening_70 at h
  refine V_aload_n (n := 0) X d_Mod_evening_70 rfl rfl rfl ?_
  refine V_geti X fo_Mod_173 kd_162 rfl d_Mod_evening_71 rfl ?_
  refine V_aload_n (n := 0) X d_Mod_evening_74 rfl rfl rfl ?_
  refine V_geti X fo_Mod_167 kd_162 rfl d_Mod_evening_75 rfl ?_
  refine V_icmp_ge (tgt := 89) X d_Mod_evening_78 (by decide) rfl (fun c25 => ?_) (fun c25 => ?_)
  · rw [if_pos c25] at h
    exact j_Mod_evening_89_ok X hD v1 M _ h kr
  · rw [if_neg c25] at h
    refine V_aload_n (n := 0) X d_Mod_evening_81 rfl rfl rfl ?_
    refine V_aload_n (n := 0) X d_Mod_evening_82 rfl rfl rfl ?_
    refine V_geti X fo_Mod_173 kd_162 rfl d_Mod_evening_83 rfl ?_
    obtain ⟨x24, hx24, h⟩ := ob_s h
    refine V_cv (As := [.int (M.1 162 17)]) X (Z0 E) ml_Mod_190 yq_Mod_fault (c_Mod_fault E.2.1 G (M.1 162 17) M x24 hx24 _ (Nat.le_refl _)) kd_162 rfl rfl (by omega) rfl (Nat.le_of_ble_eq_true rfl) d_Mod_evening_86 rfl (fun M9 hq => ?_)
    rw [hq]
    exact j_Mod_evening_89_ok X hD v1 x24 _ h kr
def f_Mod_evening (M : Mem) : Option (Int32 × Mem) :=
  mem_ (s_i M 162 13 (0 : Int32)) fun M1 =>
  Option.bind (f_Mod_begin 167 (M1.1 162 10) (60 : Int32) M1) fun x2 =>
  mem_ (s_i x2 162 10 (0 : Int32)) fun M3 =>
  if (M3.1 162 15) ≤ 0 then
  Option.bind (iter (lb_Mod_evening_39) FU ((0 : Int32), (0 : Int32), M3)) fun x9 =>
  j_Mod_evening_70 x9.1 x9.2
  else
  Option.bind (iter (lb_Mod_evening_39) FU ((0 : Int32), (1 : Int32), M3)) fun x26 =>
  j_Mod_evening_70 x26.1 x26.2
theorem c_Mod_evening (l : Launch) (G : Gw)   (M : Mem) (x : Int32 × Mem) (h : f_Mod_evening M = some x) (d : Nat) (hD : 404 ≤ d) : Ci l G y_Mod_evening b_Mod_evening 4 (some .int) d [.ref (G.2.2 + 162)] M (fun r9 M9 => r9 = x.1 ∧ M9 = x.2) := by
  refine Ci_of (by decide) (Nat.le_of_ble_eq_true rfl) (fun E hE X => ?_)
  subst hE
  have kr : ∀ x9 : Int32 × Mem, x = x9 → (fun r9 M9 => r9 = x.1 ∧ M9 = x.2) x9.1 x9.2 := fun x9 e9 => by subst e9; exact ⟨rfl, rfl⟩
  unfold f_Mod_evening at h
  refine V_aload_n (n := 0) X d_Mod_evening_0 rfl rfl rfl ?_
  refine V_iconst (v := 0) X d_Mod_evening_1 (by decide) rfl ?_
  obtain ⟨M1, eM1, h⟩ := memS h
  refine V_putI X fp_Mod_109 kd_162 rfl d_Mod_evening_2 rfl ?_
  rw [← eM1]
  refine V_aload_n (n := 0) X d_Mod_evening_5 rfl rfl rfl ?_
  refine V_aload_n (n := 0) X d_Mod_evening_6 rfl rfl rfl ?_
  refine V_getr (k2 := 167) X fo_Mod_32 kd_162 rfl rf_162_9 d_Mod_evening_7 rfl ?_
  refine V_aload_n (n := 0) X d_Mod_evening_10 rfl rfl rfl ?_
  refine V_geti X fo_Mod_161 kd_162 rfl d_Mod_evening_11 rfl ?_
  refine V_bipush (v := 60) X d_Mod_evening_14 (by decide) rfl ?_
  obtain ⟨x2, hx2, h⟩ := ob_s h
  refine V_cv (As := [.ref (G.2.2 + 167), .int (M1.1 162 10), .int (60 : Int32)]) X (Z0 E) ml_Mod_194 yq_Mod_begin (c_Mod_begin E.2.1 G 167 (M1.1 162 10) (60 : Int32) M1 x2 hx2 _ (Nat.le_refl _)) kd_162 rfl rfl (by omega) rfl (Nat.le_of_ble_eq_true rfl) d_Mod_evening_16 rfl (fun M9 hq => ?_)
  rw [hq]
  refine V_aload_n (n := 0) X d_Mod_evening_19 rfl rfl rfl ?_
  refine V_iconst (v := 0) X d_Mod_evening_20 (by decide) rfl ?_
  obtain ⟨M3, eM3, h⟩ := memS h
  refine V_putI X fp_Mod_161 kd_162 rfl d_Mod_evening_21 rfl ?_
  rw [← eM3]
  refine V_iconst (v := 0) X d_Mod_evening_24 (by decide) rfl ?_
  refine V_istore_n (lv' := [(1, .int (0 : Int32)), (0, .ref (G.2.2 + 162))]) X d_Mod_evening_25 rfl (by decide) rfl rfl ?_
  refine V_aload_n (n := 1) X d_Mod_evening_26 rfl rfl rfl ?_
  refine V_geti X fo_Mod_167 kd_162 rfl d_Mod_evening_27 rfl ?_
  refine V_if_le (tgt := 37) X d_Mod_evening_30 (by decide) rfl (fun c27 => ?_) (fun c27 => ?_)
  · rw [if_pos c27] at h
    refine V_iconst (v := 0) X d_Mod_evening_37 (by decide) rfl ?_
    refine V_istore_n (lv' := [(2, .int (0 : Int32)), (1, .int (0 : Int32)), (0, .ref (G.2.2 + 162))]) X d_Mod_evening_38 rfl (by decide) rfl rfl ?_
    refine V_sub (lv' := [(0, .ref (G.2.2 + 162)), (1, .int (0 : Int32)), (2, .int (0 : Int32))]) [2, 1, 0] rfl ?_
    obtain ⟨x9, hx9, h⟩ := ob_s h
    refine lp_Mod_evening_39_ok X hD  _ _ _ hx9 (fun x9 e9 => ?_)
    subst e9
    exact j_Mod_evening_70_ok X hD x9.1 x9.2 _ h kr
  · rw [if_neg c27] at h
    refine V_iconst (v := 1) X d_Mod_evening_33 (by decide) rfl ?_
    refine V_goto (pc' := 38) X d_Mod_evening_34 (by decide) ?_
    refine V_istore_n (lv' := [(2, .int (1 : Int32)), (1, .int (0 : Int32)), (0, .ref (G.2.2 + 162))]) X d_Mod_evening_38 rfl (by decide) rfl rfl ?_
    refine V_sub (lv' := [(0, .ref (G.2.2 + 162)), (1, .int (0 : Int32)), (2, .int (1 : Int32))]) [2, 1, 0] rfl ?_
    obtain ⟨x26, hx26, h⟩ := ob_s h
    refine lp_Mod_evening_39_ok X hD  _ _ _ hx26 (fun x9 e9 => ?_)
    subst e9
    exact j_Mod_evening_70_ok X hD x26.1 x26.2 _ h kr
def lb_Mod_undo_26  (s : Int32 × Mem) : Option ((Int32 × Mem) ⊕ ((Mem))) :=
  if (96 : Int32) ≤ s.1 then
  some (.inr s.2)
  else
  if inb (((96 : Int32) * (s.2.1 162 27)) + s.1) 1152 = true then
  if inb s.1 96 = true then
  mem_ (s_i s.2 163 s.1.toNatClampNeg (s.2.1 173 (((96 : Int32) * (s.2.1 162 27)) + s.1).toNatClampNeg)) fun M3 =>
  some (.inl ((s.1 + (1 : Int32)), M3))
  else none
  else none
theorem lb_Mod_undo_26_ok {E : Ev} {G : Gw} {d : Nat} {post : Int32 → Mem → Prop} (X : Cx E G b_Mod_undo "WomenByTheRoofsModel" 2 d (some .int)) (hD : 1 ≤ d)     (s : Int32 × Mem) (o : (Int32 × Mem) ⊕ ((Mem))) (h : lb_Mod_undo_26 s = some o) (kc : ∀ s9 : Int32 × Mem, o = .inl s9 → V E (0, 0) G 2 (QI E G post) s9.2 26 [(0, .ref (G.2.2 + 162)), (1, .int s9.1)] []) (kx0 : ∀ x9 : Mem, o = .inr x9 → V E (0, 0) G 2 (QI E G post) x9 58 [(0, .ref (G.2.2 + 162))] []) : V E (0, 0) G 2 (QI E G post) s.2 26 [(0, .ref (G.2.2 + 162)), (1, .int s.1)] [] := by
  unfold lb_Mod_undo_26 at h
  refine V_iload_n (n := 1) X d_Mod_undo_26 rfl rfl rfl ?_
  refine V_bipush (v := 96) X d_Mod_undo_27 (by decide) rfl ?_
  refine V_icmp_ge (tgt := 58) X d_Mod_undo_29 (by decide) rfl (fun c4 => ?_) (fun c4 => ?_)
  · rw [if_pos c4] at h
    refine V_sub (lv' := [(0, .ref (G.2.2 + 162))]) [0] rfl ?_
    exact kx0 s.2 (Option.some.inj h).symm
  · rw [if_neg c4] at h
    refine V_aload_n (n := 0) X d_Mod_undo_32 rfl rfl rfl ?_
    refine V_getr (k2 := 163) X fo_Mod_9 kd_162 rfl rf_162_0 d_Mod_undo_33 rfl ?_
    refine V_iload_n (n := 1) X d_Mod_undo_36 rfl rfl rfl ?_
    refine V_aload_n (n := 0) X d_Mod_undo_37 rfl rfl rfl ?_
    refine V_getr (k2 := 173) X fo_Mod_51 kd_162 rfl rf_162_26 d_Mod_undo_38 rfl ?_
    refine V_bipush (v := 96) X d_Mod_undo_41 (by decide) rfl ?_
    refine V_aload_n (n := 0) X d_Mod_undo_43 rfl rfl rfl ?_
    refine V_geti X fo_Mod_201 kd_162 rfl d_Mod_undo_44 rfl ?_
    refine V_imul X d_Mod_undo_47 rfl ?_
    refine V_iload_n (n := 1) X d_Mod_undo_48 rfl rfl rfl ?_
    refine V_iadd X d_Mod_undo_49 rfl ?_
    obtain ⟨hb, h⟩ := ifn h
    refine V_iald X kd_173 (inb_in ln_173 hb) d_Mod_undo_50 rfl ?_
    obtain ⟨hb, h⟩ := ifn h
    obtain ⟨M3, eM3, h⟩ := memS h
    refine V_iast X kd_163 (inb_in ln_163 hb) d_Mod_undo_51 rfl ?_
    rw [← eM3]
    refine V_iinc (n := 1) (v := (s.1 + (1 : Int32))) (lv' := [(1, .int (s.1 + (1 : Int32))), (0, .ref (G.2.2 + 162))]) X d_Mod_undo_52 rfl rfl (by decide) rfl rfl ?_
    refine V_goto (pc' := 26) X d_Mod_undo_55 (by decide) ?_
    refine V_sub (lv' := [(0, .ref (G.2.2 + 162)), (1, .int (s.1 + (1 : Int32)))]) [1, 0] rfl ?_
    exact kc ((s.1 + (1 : Int32)), M3) (Option.some.inj h).symm
theorem lp_Mod_undo_26_ok {E : Ev} {G : Gw} {d : Nat} {post : Int32 → Mem → Prop} (X : Cx E G b_Mod_undo "WomenByTheRoofsModel" 2 d (some .int)) (hD : 1 ≤ d)     (n9 : Nat) (s : Int32 × Mem) (x : (Mem)) (h : iter (lb_Mod_undo_26) n9 s = some x) (kx0 : ∀ x9 : Mem, x = x9 → V E (0, 0) G 2 (QI E G post) x9 58 [(0, .ref (G.2.2 + 162))] []) : V E (0, 0) G 2 (QI E G post) s.2 26 [(0, .ref (G.2.2 + 162)), (1, .int s.1)] [] :=
  iter_P (P := fun s : Int32 × Mem => V E (0, 0) G 2 (QI E G post) s.2 26 [(0, .ref (G.2.2 + 162)), (1, .int s.1)] []) (fun s o hb kc ky => lb_Mod_undo_26_ok X hD  s o hb kc (fun x9 e9 => kx0 x9 (ky _ e9).symm)) n9 s h
def f_Mod_undo (M : Mem) : Option (Int32 × Mem) :=
  mem_ (s_i M 162 13 (0 : Int32)) fun M1 =>
  if (M1.1 162 27) = 0 then
  some ((-1 : Int32), M1)
  else
  mem_ (s_i M1 162 27 ((M1.1 162 27) - (1 : Int32))) fun M2 =>
  Option.bind (iter (lb_Mod_undo_26) FU ((0 : Int32), M2)) fun x5 =>
  some ((x5.1 162 27), x5)
theorem c_Mod_undo (l : Launch) (G : Gw)   (M : Mem) (x : Int32 × Mem) (h : f_Mod_undo M = some x) (d : Nat) (hD : 1 ≤ d) : Ci l G y_Mod_undo b_Mod_undo 2 (some .int) d [.ref (G.2.2 + 162)] M (fun r9 M9 => r9 = x.1 ∧ M9 = x.2) := by
  refine Ci_of (by decide) (Nat.le_of_ble_eq_true rfl) (fun E hE X => ?_)
  subst hE
  have kr : ∀ x9 : Int32 × Mem, x = x9 → (fun r9 M9 => r9 = x.1 ∧ M9 = x.2) x9.1 x9.2 := fun x9 e9 => by subst e9; exact ⟨rfl, rfl⟩
  unfold f_Mod_undo at h
  refine V_aload_n (n := 0) X d_Mod_undo_0 rfl rfl rfl ?_
  refine V_iconst (v := 0) X d_Mod_undo_1 (by decide) rfl ?_
  obtain ⟨M1, eM1, h⟩ := memS h
  refine V_putI X fp_Mod_109 kd_162 rfl d_Mod_undo_2 rfl ?_
  rw [← eM1]
  refine V_aload_n (n := 0) X d_Mod_undo_5 rfl rfl rfl ?_
  refine V_geti X fo_Mod_201 kd_162 rfl d_Mod_undo_6 rfl ?_
  refine V_if_ne (tgt := 14) X d_Mod_undo_9 (by decide) rfl (fun c6 => ?_) (fun c6 => ?_)
  · rw [if_neg c6] at h
    refine V_aload_n (n := 0) X d_Mod_undo_14 rfl rfl rfl ?_
    refine V_dup X d_Mod_undo_15 rfl rfl ?_
    refine V_geti X fo_Mod_201 kd_162 rfl d_Mod_undo_16 rfl ?_
    refine V_iconst (v := 1) X d_Mod_undo_19 (by decide) rfl ?_
    refine V_isub X d_Mod_undo_20 rfl ?_
    obtain ⟨M2, eM2, h⟩ := memS h
    refine V_putI X fp_Mod_201 kd_162 rfl d_Mod_undo_21 rfl ?_
    rw [← eM2]
    refine V_iconst (v := 0) X d_Mod_undo_24 (by decide) rfl ?_
    refine V_istore_n (lv' := [(1, .int (0 : Int32)), (0, .ref (G.2.2 + 162))]) X d_Mod_undo_25 rfl (by decide) rfl rfl ?_
    refine V_sub (lv' := [(0, .ref (G.2.2 + 162)), (1, .int (0 : Int32))]) [1, 0] rfl ?_
    obtain ⟨x5, hx5, h⟩ := ob_s h
    refine lp_Mod_undo_26_ok X hD  _ _ _ hx5 (fun x9 e9 => ?_)
    subst e9
    refine V_aload_n (n := 0) X d_Mod_undo_58 rfl rfl rfl ?_
    refine V_geti X fo_Mod_201 kd_162 rfl d_Mod_undo_59 rfl ?_
    exact V_iret X (kr ((x5.1 162 27), x5) (Option.some.inj h).symm) d_Mod_undo_62
  · rw [if_pos c6] at h
    refine V_iconst (v := -1) X d_Mod_undo_12 (by decide) rfl ?_
    exact V_iret X (kr ((-1 : Int32), M1) (Option.some.inj h).symm) d_Mod_undo_13
def f_Mod_met (v1 : Int32) (v2 : Int32) (M : Mem) : Option (Int32 × Mem) :=
  mem_ (s_i M 162 13 (0 : Int32)) fun M1 =>
  Option.bind (f_Mod_areTwo v1 v2 M1) fun x2 =>
  if x2 = 0 then
  some ((-1 : Int32), M1)
  else
  if inb (((16 : Int32) + ((8 : Int32) * v1)) + v2) 96 = true then
  some ((M1.1 163 (((16 : Int32) + ((8 : Int32) * v1)) + v2).toNatClampNeg), M1)
  else none
theorem c_Mod_met (l : Launch) (G : Gw)  (v1 : Int32) (v2 : Int32) (M : Mem) (x : Int32 × Mem) (h : f_Mod_met v1 v2 M = some x) (d : Nat) (hD : 4 ≤ d) : Ci l G y_Mod_met b_Mod_met 3 (some .int) d [.ref (G.2.2 + 162), .int v1, .int v2] M (fun r9 M9 => r9 = x.1 ∧ M9 = x.2) := by
  refine Ci_of (by decide) (Nat.le_of_ble_eq_true rfl) (fun E hE X => ?_)
  subst hE
  have kr : ∀ x9 : Int32 × Mem, x = x9 → (fun r9 M9 => r9 = x.1 ∧ M9 = x.2) x9.1 x9.2 := fun x9 e9 => by subst e9; exact ⟨rfl, rfl⟩
  unfold f_Mod_met at h
  refine V_aload_n (n := 0) X d_Mod_met_0 rfl rfl rfl ?_
  refine V_iconst (v := 0) X d_Mod_met_1 (by decide) rfl ?_
  obtain ⟨M1, eM1, h⟩ := memS h
  refine V_putI X fp_Mod_109 kd_162 rfl d_Mod_met_2 rfl ?_
  rw [← eM1]
  refine V_aload_n (n := 0) X d_Mod_met_5 rfl rfl rfl ?_
  refine V_iload_n (n := 1) X d_Mod_met_6 rfl rfl rfl ?_
  refine V_iload_n (n := 2) X d_Mod_met_7 rfl rfl rfl ?_
  obtain ⟨x2, hx2, h⟩ := ob_s h
  refine V_ci (As := [.int v1, .int v2]) X (Z0 E) ml_Mod_354 yq_Mod_areTwo (c_Mod_areTwo E.2.1 G v1 v2 M1 x2 hx2 _ (Nat.le_refl _)) kd_162 rfl rfl (by omega) rfl (Nat.le_of_ble_eq_true rfl) d_Mod_met_8 rfl (fun r9 M9 hq => ?_)
  rw [hq.1, hq.2]
  refine V_if_eq (tgt := 31) X d_Mod_met_11 (by decide) rfl (fun c3 => ?_) (fun c3 => ?_)
  · rw [if_pos c3] at h
    refine V_iconst (v := -1) X d_Mod_met_31 (by decide) rfl ?_
    exact V_iret X (kr ((-1 : Int32), M1) (Option.some.inj h).symm) d_Mod_met_32
  · rw [if_neg c3] at h
    refine V_aload_n (n := 0) X d_Mod_met_14 rfl rfl rfl ?_
    refine V_getr (k2 := 163) X fo_Mod_9 kd_162 rfl rf_162_0 d_Mod_met_15 rfl ?_
    refine V_bipush (v := 16) X d_Mod_met_18 (by decide) rfl ?_
    refine V_bipush (v := 8) X d_Mod_met_20 (by decide) rfl ?_
    refine V_iload_n (n := 1) X d_Mod_met_22 rfl rfl rfl ?_
    refine V_imul X d_Mod_met_23 rfl ?_
    refine V_iadd X d_Mod_met_24 rfl ?_
    refine V_iload_n (n := 2) X d_Mod_met_25 rfl rfl rfl ?_
    refine V_iadd X d_Mod_met_26 rfl ?_
    obtain ⟨hb, h⟩ := ifn h
    refine V_iald X kd_163 (inb_in ln_163 hb) d_Mod_met_27 rfl ?_
    refine V_goto (pc' := 32) X d_Mod_met_28 (by decide) ?_
    exact V_iret X (kr ((M1.1 163 (((16 : Int32) + ((8 : Int32) * v1)) + v2).toNatClampNeg), M1) (Option.some.inj h).symm) d_Mod_met_32
def lb_Mod_ahead_33 (v1 : Int32) (s : Int32 × Int32 × Mem) : Option ((Int32 × Int32 × Mem) ⊕ ((Int32 × Mem))) :=
  if v1 ≤ s.2.1 then
  some (.inr (s.1, s.2.2))
  else
  Option.bind (f_Mod_goMinute 176 s.2.2) fun x4 =>
  some (.inl ((s.1 + (x4.1 162 31)), (s.2.1 + (1 : Int32)), x4))
theorem lb_Mod_ahead_33_ok {E : Ev} {G : Gw} {d : Nat} {post : Int32 → Mem → Prop} (X : Cx E G b_Mod_ahead "WomenByTheRoofsModel" 4 d (some .int)) (hD : 403 ≤ d)  (v1 : Int32)   (s : Int32 × Int32 × Mem) (o : (Int32 × Int32 × Mem) ⊕ ((Int32 × Mem))) (h : lb_Mod_ahead_33 v1 s = some o) (kc : ∀ s9 : Int32 × Int32 × Mem, o = .inl s9 → V E (0, 0) G 4 (QI E G post) s9.2.2 33 [(0, .ref (G.2.2 + 162)), (1, .int v1), (2, .int s9.1), (3, .int s9.2.1)] []) (kx0 : ∀ x9 : Int32 × Mem, o = .inr x9 → V E (0, 0) G 4 (QI E G post) x9.2 59 [(0, .ref (G.2.2 + 162)), (2, .int x9.1)] []) : V E (0, 0) G 4 (QI E G post) s.2.2 33 [(0, .ref (G.2.2 + 162)), (1, .int v1), (2, .int s.1), (3, .int s.2.1)] [] := by
  unfold lb_Mod_ahead_33 at h
  refine V_iload_n (n := 3) X d_Mod_ahead_33 rfl rfl rfl ?_
  refine V_iload_n (n := 1) X d_Mod_ahead_34 rfl rfl rfl ?_
  refine V_icmp_ge (tgt := 59) X d_Mod_ahead_35 (by decide) rfl (fun c5 => ?_) (fun c5 => ?_)
  · rw [if_pos c5] at h
    refine V_sub (lv' := [(0, .ref (G.2.2 + 162)), (2, .int s.1)]) [0, 2] rfl ?_
    exact kx0 (s.1, s.2.2) (Option.some.inj h).symm
  · rw [if_neg c5] at h
    refine V_aload_n (n := 0) X d_Mod_ahead_38 rfl rfl rfl ?_
    refine V_aload_n (n := 0) X d_Mod_ahead_39 rfl rfl rfl ?_
    refine V_getr (k2 := 176) X fo_Mod_60 kd_162 rfl rf_162_34 d_Mod_ahead_40 rfl ?_
    obtain ⟨x4, hx4, h⟩ := ob_s h
    refine V_cv (As := [.ref (G.2.2 + 176)]) X (Z0 E) ml_Mod_339 yq_Mod_goMinute (c_Mod_goMinute E.2.1 G 176 s.2.2 x4 hx4 _ (Nat.le_refl _)) kd_162 rfl rfl (by omega) rfl (Nat.le_of_ble_eq_true rfl) d_Mod_ahead_43 rfl (fun M9 hq => ?_)
    rw [hq]
    refine V_iload_n (n := 2) X d_Mod_ahead_46 rfl rfl rfl ?_
    refine V_aload_n (n := 0) X d_Mod_ahead_47 rfl rfl rfl ?_
    refine V_geti X fo_Mod_327 kd_162 rfl d_Mod_ahead_48 rfl ?_
    refine V_iadd X d_Mod_ahead_51 rfl ?_
    refine V_istore_n (lv' := [(2, .int (s.1 + (x4.1 162 31))), (0, .ref (G.2.2 + 162)), (1, .int v1), (3, .int s.2.1)]) X d_Mod_ahead_52 rfl (by decide) rfl rfl ?_
    refine V_iinc (n := 3) (v := (s.2.1 + (1 : Int32))) (lv' := [(3, .int (s.2.1 + (1 : Int32))), (2, .int (s.1 + (x4.1 162 31))), (0, .ref (G.2.2 + 162)), (1, .int v1)]) X d_Mod_ahead_53 rfl rfl (by decide) rfl rfl ?_
    refine V_goto (pc' := 33) X d_Mod_ahead_56 (by decide) ?_
    refine V_sub (lv' := [(0, .ref (G.2.2 + 162)), (1, .int v1), (2, .int (s.1 + (x4.1 162 31))), (3, .int (s.2.1 + (1 : Int32)))]) [2, 3, 1, 0] rfl ?_
    exact kc ((s.1 + (x4.1 162 31)), (s.2.1 + (1 : Int32)), x4) (Option.some.inj h).symm
theorem lp_Mod_ahead_33_ok {E : Ev} {G : Gw} {d : Nat} {post : Int32 → Mem → Prop} (X : Cx E G b_Mod_ahead "WomenByTheRoofsModel" 4 d (some .int)) (hD : 403 ≤ d)  (v1 : Int32)   (n9 : Nat) (s : Int32 × Int32 × Mem) (x : (Int32 × Mem)) (h : iter (lb_Mod_ahead_33 v1) n9 s = some x) (kx0 : ∀ x9 : Int32 × Mem, x = x9 → V E (0, 0) G 4 (QI E G post) x9.2 59 [(0, .ref (G.2.2 + 162)), (2, .int x9.1)] []) : V E (0, 0) G 4 (QI E G post) s.2.2 33 [(0, .ref (G.2.2 + 162)), (1, .int v1), (2, .int s.1), (3, .int s.2.1)] [] :=
  iter_P (P := fun s : Int32 × Int32 × Mem => V E (0, 0) G 4 (QI E G post) s.2.2 33 [(0, .ref (G.2.2 + 162)), (1, .int v1), (2, .int s.1), (3, .int s.2.1)] []) (fun s o hb kc ky => lb_Mod_ahead_33_ok X hD v1 s o hb kc (fun x9 e9 => kx0 x9 (ky _ e9).symm)) n9 s h
def lb_Mod_ahead_66 (v2 : Int32) (s : Int32 × Mem) : Option ((Int32 × Mem) ⊕ ((Mem))) :=
  if (s.2.1 162 4) ≤ s.1 then
  some (.inr s.2)
  else
  if inb s.1 96 = true then
  Option.bind (f_Mod_cellOf (s.2.1 176 s.1.toNatClampNeg)) fun x8 =>
  Option.bind (f_Mod_put x8 s.2) fun x9 =>
  some (.inl ((s.1 + (1 : Int32)), x9))
  else none
theorem lb_Mod_ahead_66_ok {E : Ev} {G : Gw} {d : Nat} {post : Int32 → Mem → Prop} (X : Cx E G b_Mod_ahead "WomenByTheRoofsModel" 4 d (some .int)) (hD : 403 ≤ d)  (v2 : Int32)   (s : Int32 × Mem) (o : (Int32 × Mem) ⊕ ((Mem))) (h : lb_Mod_ahead_66 v2 s = some o) (kc : ∀ s9 : Int32 × Mem, o = .inl s9 → V E (0, 0) G 4 (QI E G post) s9.2 66 [(0, .ref (G.2.2 + 162)), (2, .int v2), (3, .int s9.1)] []) (kx0 : ∀ x9 : Mem, o = .inr x9 → V E (0, 0) G 4 (QI E G post) x9 93 [(2, .int v2)] []) : V E (0, 0) G 4 (QI E G post) s.2 66 [(0, .ref (G.2.2 + 162)), (2, .int v2), (3, .int s.1)] [] := by
  unfold lb_Mod_ahead_66 at h
  refine V_iload_n (n := 2) X d_Mod_ahead_66 rfl rfl rfl ?_
  refine V_aload_n (n := 0) X d_Mod_ahead_67 rfl rfl rfl ?_
  refine V_geti X fo_Mod_123 kd_162 rfl d_Mod_ahead_68 rfl ?_
  refine V_icmp_ge (tgt := 93) X d_Mod_ahead_71 (by decide) rfl (fun c10 => ?_) (fun c10 => ?_)
  · rw [if_pos c10] at h
    refine V_sub (lv' := [(2, .int v2)]) [1] rfl ?_
    exact kx0 s.2 (Option.some.inj h).symm
  · rw [if_neg c10] at h
    refine V_aload_n (n := 0) X d_Mod_ahead_74 rfl rfl rfl ?_
    refine V_aload_n (n := 0) X d_Mod_ahead_75 rfl rfl rfl ?_
    refine V_getr (k2 := 176) X fo_Mod_60 kd_162 rfl rf_162_34 d_Mod_ahead_76 rfl ?_
    refine V_iload_n (n := 2) X d_Mod_ahead_79 rfl rfl rfl ?_
    obtain ⟨hb, h⟩ := ifn h
    refine V_iald X kd_176 (inb_in ln_176 hb) d_Mod_ahead_80 rfl ?_
    obtain ⟨x8, hx8, h⟩ := ob_s h
    refine V_si (As := [.int (s.2.1 176 s.1.toNatClampNeg)]) X (Z0 E) ml_Mod_147 yq_Mod_cellOf (c_Mod_cellOf E.2.1 G (s.2.1 176 s.1.toNatClampNeg) s.2 x8 hx8 _ (Nat.le_refl _)) rfl (by omega) rfl (Nat.le_of_ble_eq_true rfl) d_Mod_ahead_81 rfl (fun r9 M9 hq => ?_)
    rw [hq.1, hq.2]
    obtain ⟨x9, hx9, h⟩ := ob_s h
    refine V_cv (As := [.int x8]) X (Z0 E) ml_Mod_342 yq_Mod_put (c_Mod_put E.2.1 G x8 s.2 x9 hx9 _ (Nat.le_refl _)) kd_162 rfl rfl (by omega) rfl (Nat.le_of_ble_eq_true rfl) d_Mod_ahead_84 rfl (fun M9 hq => ?_)
    rw [hq]
    refine V_iinc (n := 2) (v := (s.1 + (1 : Int32))) (lv' := [(3, .int (s.1 + (1 : Int32))), (0, .ref (G.2.2 + 162)), (2, .int v2)]) X d_Mod_ahead_87 rfl rfl (by decide) rfl rfl ?_
    refine V_goto (pc' := 66) X d_Mod_ahead_90 (by decide) ?_
    refine V_sub (lv' := [(0, .ref (G.2.2 + 162)), (2, .int v2), (3, .int (s.1 + (1 : Int32)))]) [1, 2, 0] rfl ?_
    exact kc ((s.1 + (1 : Int32)), x9) (Option.some.inj h).symm
theorem lp_Mod_ahead_66_ok {E : Ev} {G : Gw} {d : Nat} {post : Int32 → Mem → Prop} (X : Cx E G b_Mod_ahead "WomenByTheRoofsModel" 4 d (some .int)) (hD : 403 ≤ d)  (v2 : Int32)   (n9 : Nat) (s : Int32 × Mem) (x : (Mem)) (h : iter (lb_Mod_ahead_66 v2) n9 s = some x) (kx0 : ∀ x9 : Mem, x = x9 → V E (0, 0) G 4 (QI E G post) x9 93 [(2, .int v2)] []) : V E (0, 0) G 4 (QI E G post) s.2 66 [(0, .ref (G.2.2 + 162)), (2, .int v2), (3, .int s.1)] [] :=
  iter_P (P := fun s : Int32 × Mem => V E (0, 0) G 4 (QI E G post) s.2 66 [(0, .ref (G.2.2 + 162)), (2, .int v2), (3, .int s.1)] []) (fun s o hb kc ky => lb_Mod_ahead_66_ok X hD v2 s o hb kc (fun x9 e9 => kx0 x9 (ky _ e9).symm)) n9 s h
def f_Mod_ahead (v1 : Int32) (M : Mem) : Option (Int32 × Mem) :=
  mem_ (s_i M 162 13 (0 : Int32)) fun M1 =>
  Option.bind (f_Mod_in v1 (0 : Int32) (60 : Int32)) fun x2 =>
  if x2 = 0 then
  some ((-1 : Int32), M1)
  else
  Option.bind (f_Mod_lay 163 176 (0 : Int32) M1) fun x3 =>
  Option.bind (iter (lb_Mod_ahead_33 v1) FU ((0 : Int32), (0 : Int32), x3)) fun x6 =>
  mem_ (s_i x6.2 162 12 (0 : Int32)) fun M7 =>
  Option.bind (iter (lb_Mod_ahead_66 x6.1) FU ((0 : Int32), M7)) fun x11 =>
  some (x6.1, x11)
theorem c_Mod_ahead (l : Launch) (G : Gw)  (v1 : Int32) (M : Mem) (x : Int32 × Mem) (h : f_Mod_ahead v1 M = some x) (d : Nat) (hD : 403 ≤ d) : Ci l G y_Mod_ahead b_Mod_ahead 4 (some .int) d [.ref (G.2.2 + 162), .int v1] M (fun r9 M9 => r9 = x.1 ∧ M9 = x.2) := by
  refine Ci_of (by decide) (Nat.le_of_ble_eq_true rfl) (fun E hE X => ?_)
  subst hE
  have kr : ∀ x9 : Int32 × Mem, x = x9 → (fun r9 M9 => r9 = x.1 ∧ M9 = x.2) x9.1 x9.2 := fun x9 e9 => by subst e9; exact ⟨rfl, rfl⟩
  unfold f_Mod_ahead at h
  refine V_aload_n (n := 0) X d_Mod_ahead_0 rfl rfl rfl ?_
  refine V_iconst (v := 0) X d_Mod_ahead_1 (by decide) rfl ?_
  obtain ⟨M1, eM1, h⟩ := memS h
  refine V_putI X fp_Mod_109 kd_162 rfl d_Mod_ahead_2 rfl ?_
  rw [← eM1]
  refine V_iload_n (n := 1) X d_Mod_ahead_5 rfl rfl rfl ?_
  refine V_iconst (v := 0) X d_Mod_ahead_6 (by decide) rfl ?_
  refine V_bipush (v := 60) X d_Mod_ahead_7 (by decide) rfl ?_
  obtain ⟨x2, hx2, h⟩ := ob_s h
  refine V_si (As := [.int v1, .int (0 : Int32), .int (60 : Int32)]) X (Z0 E) ml_Mod_119 yq_Mod_in (c_Mod_in E.2.1 G v1 (0 : Int32) (60 : Int32) M1 x2 hx2 _ (Nat.le_refl _)) rfl (by omega) rfl (Nat.le_of_ble_eq_true rfl) d_Mod_ahead_9 rfl (fun r9 M9 hq => ?_)
  rw [hq.1, hq.2]
  refine V_if_ne (tgt := 17) X d_Mod_ahead_12 (by decide) rfl (fun c12 => ?_) (fun c12 => ?_)
  · rw [if_neg c12] at h
    refine V_aload_n (n := 0) X d_Mod_ahead_17 rfl rfl rfl ?_
    refine V_getr (k2 := 163) X fo_Mod_9 kd_162 rfl rf_162_0 d_Mod_ahead_18 rfl ?_
    refine V_aload_n (n := 0) X d_Mod_ahead_21 rfl rfl rfl ?_
    refine V_getr (k2 := 176) X fo_Mod_60 kd_162 rfl rf_162_34 d_Mod_ahead_22 rfl ?_
    refine V_iconst (v := 0) X d_Mod_ahead_25 (by decide) rfl ?_
    obtain ⟨x3, hx3, h⟩ := ob_s h
    refine V_sv (As := [.ref (G.2.2 + 163), .ref (G.2.2 + 176), .int (0 : Int32)]) X (Z0 E) ml_Mod_286 yq_Mod_lay (c_Mod_lay E.2.1 G 163 176 (0 : Int32) M1 x3 hx3 _ (Nat.le_refl _)) rfl (by omega) rfl (Nat.le_of_ble_eq_true rfl) d_Mod_ahead_26 rfl (fun M9 hq => ?_)
    rw [hq]
    refine V_iconst (v := 0) X d_Mod_ahead_29 (by decide) rfl ?_
    refine V_istore_n (lv' := [(2, .int (0 : Int32)), (0, .ref (G.2.2 + 162)), (1, .int v1)]) X d_Mod_ahead_30 rfl (by decide) rfl rfl ?_
    refine V_iconst (v := 0) X d_Mod_ahead_31 (by decide) rfl ?_
    refine V_istore_n (lv' := [(3, .int (0 : Int32)), (2, .int (0 : Int32)), (0, .ref (G.2.2 + 162)), (1, .int v1)]) X d_Mod_ahead_32 rfl (by decide) rfl rfl ?_
    refine V_sub (lv' := [(0, .ref (G.2.2 + 162)), (1, .int v1), (2, .int (0 : Int32)), (3, .int (0 : Int32))]) [2, 3, 1, 0] rfl ?_
    obtain ⟨x6, hx6, h⟩ := ob_s h
    refine lp_Mod_ahead_33_ok X hD v1 _ _ _ hx6 (fun x9 e9 => ?_)
    subst e9
    refine V_aload_n (n := 0) X d_Mod_ahead_59 rfl rfl rfl ?_
    refine V_iconst (v := 0) X d_Mod_ahead_60 (by decide) rfl ?_
    obtain ⟨M7, eM7, h⟩ := memS h
    refine V_putI X fp_Mod_112 kd_162 rfl d_Mod_ahead_61 rfl ?_
    rw [← eM7]
    refine V_iconst (v := 0) X d_Mod_ahead_64 (by decide) rfl ?_
    refine V_istore_n (lv' := [(3, .int (0 : Int32)), (0, .ref (G.2.2 + 162)), (2, .int x6.1)]) X d_Mod_ahead_65 rfl (by decide) rfl rfl ?_
    refine V_sub (lv' := [(0, .ref (G.2.2 + 162)), (2, .int x6.1), (3, .int (0 : Int32))]) [1, 2, 0] rfl ?_
    obtain ⟨x11, hx11, h⟩ := ob_s h
    refine lp_Mod_ahead_66_ok X hD x6.1 _ _ _ hx11 (fun x9 e9 => ?_)
    subst e9
    refine V_iload_n (n := 0) X d_Mod_ahead_93 rfl rfl rfl ?_
    exact V_iret X (kr (x6.1, x11) (Option.some.inj h).symm) d_Mod_ahead_94
  · rw [if_pos c12] at h
    refine V_iconst (v := -1) X d_Mod_ahead_15 (by decide) rfl ?_
    exact V_iret X (kr ((-1 : Int32), M1) (Option.some.inj h).symm) d_Mod_ahead_16
def lb_Mod_meet_30 (v1 : Int32) (v2 : Int32) (s : Int32 × Mem) : Option ((Int32 × Mem) ⊕ ((Mem) ⊕ (Int32 × Mem))) :=
  if (60 : Int32) < s.1 then
  some (.inr (Sum.inl s.2))
  else
  Option.bind (f_Mod_goMinute 176 s.2) fun x4 =>
  Option.bind (f_Mod_has (x4.1 162 5) v1) fun x5 =>
  Option.bind (f_Mod_has (x4.1 162 5) v2) fun x6 =>
  if x5 = x6 then
  some (.inl ((s.1 + (1 : Int32)), x4))
  else
  Option.bind (f_Mod_areMeeting 176 v1 v2 x4) fun x7 =>
  if x7 = 0 then
  some (.inl ((s.1 + (1 : Int32)), x4))
  else
  some (.inr (Sum.inr (s.1, x4)))
theorem lb_Mod_meet_30_ok {E : Ev} {G : Gw} {d : Nat} {post : Int32 → Mem → Prop} (X : Cx E G b_Mod_meet "WomenByTheRoofsModel" 4 d (some .int)) (hD : 403 ≤ d)  (v1 : Int32) (v2 : Int32)   (s : Int32 × Mem) (o : (Int32 × Mem) ⊕ ((Mem) ⊕ (Int32 × Mem))) (h : lb_Mod_meet_30 v1 v2 s = some o) (kc : ∀ s9 : Int32 × Mem, o = .inl s9 → V E (0, 0) G 4 (QI E G post) s9.2 30 [(0, .ref (G.2.2 + 162)), (1, .int v1), (2, .int v2), (3, .int s9.1)] []) (kx0 : ∀ x9 : Mem, o = .inr (Sum.inl x9) → V E (0, 0) G 4 (QI E G post) x9 105 [] []) (kx1 : ∀ x9 : Int32 × Mem, o = .inr (Sum.inr x9) → V E (0, 0) G 4 (QI E G post) x9.2 79 [(0, .ref (G.2.2 + 162)), (1, .int v1), (3, .int x9.1)] []) : V E (0, 0) G 4 (QI E G post) s.2 30 [(0, .ref (G.2.2 + 162)), (1, .int v1), (2, .int v2), (3, .int s.1)] [] := by
  unfold lb_Mod_meet_30 at h
  refine V_iload_n (n := 3) X d_Mod_meet_30 rfl rfl rfl ?_
  refine V_bipush (v := 60) X d_Mod_meet_31 (by decide) rfl ?_
  refine V_icmp_gt (tgt := 105) X d_Mod_meet_33 (by decide) rfl (fun c10 => ?_) (fun c10 => ?_)
  · rw [if_pos c10] at h
    refine V_sub (lv' := []) [] rfl ?_
    exact kx0 s.2 (Option.some.inj h).symm
  · rw [if_neg c10] at h
    refine V_aload_n (n := 0) X d_Mod_meet_36 rfl rfl rfl ?_
    refine V_aload_n (n := 0) X d_Mod_meet_37 rfl rfl rfl ?_
    refine V_getr (k2 := 176) X fo_Mod_60 kd_162 rfl rf_162_34 d_Mod_meet_38 rfl ?_
    obtain ⟨x4, hx4, h⟩ := ob_s h
    refine V_cv (As := [.ref (G.2.2 + 176)]) X (Z0 E) ml_Mod_339 yq_Mod_goMinute (c_Mod_goMinute E.2.1 G 176 s.2 x4 hx4 _ (Nat.le_refl _)) kd_162 rfl rfl (by omega) rfl (Nat.le_of_ble_eq_true rfl) d_Mod_meet_41 rfl (fun M9 hq => ?_)
    rw [hq]
    refine V_aload_n (n := 0) X d_Mod_meet_44 rfl rfl rfl ?_
    refine V_geti X fo_Mod_130 kd_162 rfl d_Mod_meet_45 rfl ?_
    refine V_iload_n (n := 1) X d_Mod_meet_48 rfl rfl rfl ?_
    obtain ⟨x5, hx5, h⟩ := ob_s h
    refine V_si (As := [.int (x4.1 162 5), .int v1]) X (Z0 E) ml_Mod_133 yq_Mod_has (c_Mod_has E.2.1 G (x4.1 162 5) v1 x4 x5 hx5 _ (Nat.le_refl _)) rfl (by omega) rfl (Nat.le_of_ble_eq_true rfl) d_Mod_meet_49 rfl (fun r9 M9 hq => ?_)
    rw [hq.1, hq.2]
    refine V_aload_n (n := 0) X d_Mod_meet_52 rfl rfl rfl ?_
    refine V_geti X fo_Mod_130 kd_162 rfl d_Mod_meet_53 rfl ?_
    refine V_iload_n (n := 2) X d_Mod_meet_56 rfl rfl rfl ?_
    obtain ⟨x6, hx6, h⟩ := ob_s h
    refine V_si (As := [.int (x4.1 162 5), .int v2]) X (Z0 E) ml_Mod_133 yq_Mod_has (c_Mod_has E.2.1 G (x4.1 162 5) v2 x4 x6 hx6 _ (Nat.le_refl _)) rfl (by omega) rfl (Nat.le_of_ble_eq_true rfl) d_Mod_meet_57 rfl (fun r9 M9 hq => ?_)
    rw [hq.1, hq.2]
    refine V_icmp_eq (tgt := 99) X d_Mod_meet_60 (by decide) rfl (fun c9 => ?_) (fun c9 => ?_)
    · rw [if_pos c9] at h
      refine V_iinc (n := 3) (v := (s.1 + (1 : Int32))) (lv' := [(3, .int (s.1 + (1 : Int32))), (0, .ref (G.2.2 + 162)), (1, .int v1), (2, .int v2)]) X d_Mod_meet_99 rfl rfl (by decide) rfl rfl ?_
      refine V_goto (pc' := 30) X d_Mod_meet_102 (by decide) ?_
      refine V_sub (lv' := [(0, .ref (G.2.2 + 162)), (1, .int v1), (2, .int v2), (3, .int (s.1 + (1 : Int32)))]) [1, 2, 3, 0] rfl ?_
      exact kc ((s.1 + (1 : Int32)), x4) (Option.some.inj h).symm
    · rw [if_neg c9] at h
      refine V_aload_n (n := 0) X d_Mod_meet_63 rfl rfl rfl ?_
      refine V_aload_n (n := 0) X d_Mod_meet_64 rfl rfl rfl ?_
      refine V_getr (k2 := 176) X fo_Mod_60 kd_162 rfl rf_162_34 d_Mod_meet_65 rfl ?_
      refine V_iload_n (n := 1) X d_Mod_meet_68 rfl rfl rfl ?_
      refine V_iload_n (n := 2) X d_Mod_meet_69 rfl rfl rfl ?_
      obtain ⟨x7, hx7, h⟩ := ob_s h
      refine V_ci (As := [.ref (G.2.2 + 176), .int v1, .int v2]) X (Z0 E) ml_Mod_330 yq_Mod_areMeeting (c_Mod_areMeeting E.2.1 G 176 v1 v2 x4 x7 hx7 _ (Nat.le_refl _)) kd_162 rfl rfl (by omega) rfl (Nat.le_of_ble_eq_true rfl) d_Mod_meet_70 rfl (fun r9 M9 hq => ?_)
      rw [hq.1, hq.2]
      refine V_if_ne (tgt := 79) X d_Mod_meet_73 (by decide) rfl (fun c8 => ?_) (fun c8 => ?_)
      · rw [if_neg c8] at h
        refine V_sub (lv' := [(0, .ref (G.2.2 + 162)), (1, .int v1), (3, .int s.1)]) [0, 1, 3] rfl ?_
        exact kx1 (s.1, x4) (Option.some.inj h).symm
      · rw [if_pos c8] at h
        refine V_goto (pc' := 99) X d_Mod_meet_76 (by decide) ?_
        refine V_iinc (n := 3) (v := (s.1 + (1 : Int32))) (lv' := [(3, .int (s.1 + (1 : Int32))), (0, .ref (G.2.2 + 162)), (1, .int v1), (2, .int v2)]) X d_Mod_meet_99 rfl rfl (by decide) rfl rfl ?_
        refine V_goto (pc' := 30) X d_Mod_meet_102 (by decide) ?_
        refine V_sub (lv' := [(0, .ref (G.2.2 + 162)), (1, .int v1), (2, .int v2), (3, .int (s.1 + (1 : Int32)))]) [1, 2, 3, 0] rfl ?_
        exact kc ((s.1 + (1 : Int32)), x4) (Option.some.inj h).symm
theorem lp_Mod_meet_30_ok {E : Ev} {G : Gw} {d : Nat} {post : Int32 → Mem → Prop} (X : Cx E G b_Mod_meet "WomenByTheRoofsModel" 4 d (some .int)) (hD : 403 ≤ d)  (v1 : Int32) (v2 : Int32)   (n9 : Nat) (s : Int32 × Mem) (x : (Mem) ⊕ (Int32 × Mem)) (h : iter (lb_Mod_meet_30 v1 v2) n9 s = some x) (kx0 : ∀ x9 : Mem, x = (Sum.inl x9) → V E (0, 0) G 4 (QI E G post) x9 105 [] []) (kx1 : ∀ x9 : Int32 × Mem, x = (Sum.inr x9) → V E (0, 0) G 4 (QI E G post) x9.2 79 [(0, .ref (G.2.2 + 162)), (1, .int v1), (3, .int x9.1)] []) : V E (0, 0) G 4 (QI E G post) s.2 30 [(0, .ref (G.2.2 + 162)), (1, .int v1), (2, .int v2), (3, .int s.1)] [] :=
  iter_P (P := fun s : Int32 × Mem => V E (0, 0) G 4 (QI E G post) s.2 30 [(0, .ref (G.2.2 + 162)), (1, .int v1), (2, .int v2), (3, .int s.1)] []) (fun s o hb kc ky => lb_Mod_meet_30_ok X hD v1 v2 s o hb kc (fun x9 e9 => kx0 x9 (ky _ e9).symm) (fun x9 e9 => kx1 x9 (ky _ e9).symm)) n9 s h
def f_Mod_meet (v1 : Int32) (v2 : Int32) (M : Mem) : Option (Int32 × Mem) :=
  mem_ (s_i M 162 13 (0 : Int32)) fun M1 =>
  Option.bind (f_Mod_areTwo v1 v2 M1) fun x2 =>
  if x2 = 0 then
  some ((-1 : Int32), M1)
  else
  Option.bind (f_Mod_lay 163 176 (0 : Int32) M1) fun x3 =>
  Option.bind (iter (lb_Mod_meet_30 v1 v2) FU ((1 : Int32), x3)) (Sum.elim (fun y12 => some ((-2 : Int32), y12)) (fun y13 => mem_ (s_i y13.2 162 12 (0 : Int32)) fun M14 =>
  if inb v1 96 = true then
  Option.bind (f_Mod_cellOf (M14.1 176 v1.toNatClampNeg)) fun x15 =>
  Option.bind (f_Mod_put x15 M14) fun x16 =>
  some (y13.1, x16)
  else none))
theorem c_Mod_meet (l : Launch) (G : Gw)  (v1 : Int32) (v2 : Int32) (M : Mem) (x : Int32 × Mem) (h : f_Mod_meet v1 v2 M = some x) (d : Nat) (hD : 403 ≤ d) : Ci l G y_Mod_meet b_Mod_meet 4 (some .int) d [.ref (G.2.2 + 162), .int v1, .int v2] M (fun r9 M9 => r9 = x.1 ∧ M9 = x.2) := by
  refine Ci_of (by decide) (Nat.le_of_ble_eq_true rfl) (fun E hE X => ?_)
  subst hE
  have kr : ∀ x9 : Int32 × Mem, x = x9 → (fun r9 M9 => r9 = x.1 ∧ M9 = x.2) x9.1 x9.2 := fun x9 e9 => by subst e9; exact ⟨rfl, rfl⟩
  unfold f_Mod_meet at h
  refine V_aload_n (n := 0) X d_Mod_meet_0 rfl rfl rfl ?_
  refine V_iconst (v := 0) X d_Mod_meet_1 (by decide) rfl ?_
  obtain ⟨M1, eM1, h⟩ := memS h
  refine V_putI X fp_Mod_109 kd_162 rfl d_Mod_meet_2 rfl ?_
  rw [← eM1]
  refine V_aload_n (n := 0) X d_Mod_meet_5 rfl rfl rfl ?_
  refine V_iload_n (n := 1) X d_Mod_meet_6 rfl rfl rfl ?_
  refine V_iload_n (n := 2) X d_Mod_meet_7 rfl rfl rfl ?_
  obtain ⟨x2, hx2, h⟩ := ob_s h
  refine V_ci (As := [.int v1, .int v2]) X (Z0 E) ml_Mod_354 yq_Mod_areTwo (c_Mod_areTwo E.2.1 G v1 v2 M1 x2 hx2 _ (Nat.le_refl _)) kd_162 rfl rfl (by omega) rfl (Nat.le_of_ble_eq_true rfl) d_Mod_meet_8 rfl (fun r9 M9 hq => ?_)
  rw [hq.1, hq.2]
  refine V_if_ne (tgt := 16) X d_Mod_meet_11 (by decide) rfl (fun c17 => ?_) (fun c17 => ?_)
  · rw [if_neg c17] at h
    refine V_aload_n (n := 0) X d_Mod_meet_16 rfl rfl rfl ?_
    refine V_getr (k2 := 163) X fo_Mod_9 kd_162 rfl rf_162_0 d_Mod_meet_17 rfl ?_
    refine V_aload_n (n := 0) X d_Mod_meet_20 rfl rfl rfl ?_
    refine V_getr (k2 := 176) X fo_Mod_60 kd_162 rfl rf_162_34 d_Mod_meet_21 rfl ?_
    refine V_iconst (v := 0) X d_Mod_meet_24 (by decide) rfl ?_
    obtain ⟨x3, hx3, h⟩ := ob_s h
    refine V_sv (As := [.ref (G.2.2 + 163), .ref (G.2.2 + 176), .int (0 : Int32)]) X (Z0 E) ml_Mod_286 yq_Mod_lay (c_Mod_lay E.2.1 G 163 176 (0 : Int32) M1 x3 hx3 _ (Nat.le_refl _)) rfl (by omega) rfl (Nat.le_of_ble_eq_true rfl) d_Mod_meet_25 rfl (fun M9 hq => ?_)
    rw [hq]
    refine V_iconst (v := 1) X d_Mod_meet_28 (by decide) rfl ?_
    refine V_istore_n (lv' := [(3, .int (1 : Int32)), (0, .ref (G.2.2 + 162)), (1, .int v1), (2, .int v2)]) X d_Mod_meet_29 rfl (by decide) rfl rfl ?_
    refine V_sub (lv' := [(0, .ref (G.2.2 + 162)), (1, .int v1), (2, .int v2), (3, .int (1 : Int32))]) [1, 2, 3, 0] rfl ?_
    obtain ⟨x11, hx11, h⟩ := ob_s h
    rcases x11 with y12 | y13
    · simp only [Sum.elim_inl, Sum.elim_inr] at h
      refine lp_Mod_meet_30_ok X hD v1 v2 _ _ _ hx11 (fun x9 e9 => ?_) (fun x9 e9 => by cases e9)
      cases e9
      refine V_bipush (v := -2) X d_Mod_meet_105 (by decide) rfl ?_
      exact V_iret X (kr ((-2 : Int32), y12) (Option.some.inj h).symm) d_Mod_meet_107
    · simp only [Sum.elim_inl, Sum.elim_inr] at h
      refine lp_Mod_meet_30_ok X hD v1 v2 _ _ _ hx11 (fun x9 e9 => by cases e9) (fun x9 e9 => ?_)
      cases e9
      refine V_aload_n (n := 0) X d_Mod_meet_79 rfl rfl rfl ?_
      refine V_iconst (v := 0) X d_Mod_meet_80 (by decide) rfl ?_
      obtain ⟨M14, eM14, h⟩ := memS h
      refine V_putI X fp_Mod_112 kd_162 rfl d_Mod_meet_81 rfl ?_
      rw [← eM14]
      refine V_aload_n (n := 0) X d_Mod_meet_84 rfl rfl rfl ?_
      refine V_aload_n (n := 0) X d_Mod_meet_85 rfl rfl rfl ?_
      refine V_getr (k2 := 176) X fo_Mod_60 kd_162 rfl rf_162_34 d_Mod_meet_86 rfl ?_
      refine V_iload_n (n := 1) X d_Mod_meet_89 rfl rfl rfl ?_
      obtain ⟨hb, h⟩ := ifn h
      refine V_iald X kd_176 (inb_in ln_176 hb) d_Mod_meet_90 rfl ?_
      obtain ⟨x15, hx15, h⟩ := ob_s h
      refine V_si (As := [.int (M14.1 176 v1.toNatClampNeg)]) X (Z0 E) ml_Mod_147 yq_Mod_cellOf (c_Mod_cellOf E.2.1 G (M14.1 176 v1.toNatClampNeg) M14 x15 hx15 _ (Nat.le_refl _)) rfl (by omega) rfl (Nat.le_of_ble_eq_true rfl) d_Mod_meet_91 rfl (fun r9 M9 hq => ?_)
      rw [hq.1, hq.2]
      obtain ⟨x16, hx16, h⟩ := ob_s h
      refine V_cv (As := [.int x15]) X (Z0 E) ml_Mod_342 yq_Mod_put (c_Mod_put E.2.1 G x15 M14 x16 hx16 _ (Nat.le_refl _)) kd_162 rfl rfl (by omega) rfl (Nat.le_of_ble_eq_true rfl) d_Mod_meet_94 rfl (fun M9 hq => ?_)
      rw [hq]
      refine V_iload_n (n := 2) X d_Mod_meet_97 rfl rfl rfl ?_
      exact V_iret X (kr (y13.1, x16) (Option.some.inj h).symm) d_Mod_meet_98
  · rw [if_pos c17] at h
    refine V_iconst (v := -1) X d_Mod_meet_14 (by decide) rfl ?_
    exact V_iret X (kr ((-1 : Int32), M1) (Option.some.inj h).symm) d_Mod_meet_15
