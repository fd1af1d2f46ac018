theorem d_Mod_pieces_0 : decode b_Mod_pieces 0 = .ok (.aload_n 0, 1) := kq_42 byq_r (by decide +kernel)
theorem d_Mod_pieces_1 : decode b_Mod_pieces 1 = .ok (.iconst 0, 1) := kq_3 byq_r (by decide +kernel)
theorem d_Mod_pieces_2 : decode b_Mod_pieces 2 = .ok (.putfield 109, 3) := kq_181 byq_r (a := 0) (b := 109) (by decide +kernel)
theorem d_Mod_pieces_5 : decode b_Mod_pieces 5 = .ok (.iload_n 1, 1) := kq_27 byq_r (by decide +kernel)
theorem d_Mod_pieces_6 : decode b_Mod_pieces 6 = .ok (.iconst 0, 1) := kq_3 byq_r (by decide +kernel)
theorem d_Mod_pieces_7 : decode b_Mod_pieces 7 = .ok (.iconst 1, 1) := kq_4 byq_r (by decide +kernel)
theorem d_Mod_pieces_8 : decode b_Mod_pieces 8 = .ok (.invokestatic 119, 3) := kq_184 byq_r (a := 0) (b := 119) (by decide +kernel)
theorem d_Mod_pieces_11 : decode b_Mod_pieces 11 = .ok (.ifCond .ne 5, 3) := kq_154 byq_r (a := 0) (b := 5) (by decide +kernel)
theorem d_Mod_pieces_14 : decode b_Mod_pieces 14 = .ok (.iconst (-1), 1) := kq_2 byq_r (by decide +kernel)
theorem d_Mod_pieces_15 : decode b_Mod_pieces 15 = .ok (.ireturn, 1) := kq_172 byq_r (by decide +kernel)
theorem d_Mod_pieces_16 : decode b_Mod_pieces 16 = .ok (.iconst 0, 1) := kq_3 byq_r (by decide +kernel)
theorem d_Mod_pieces_17 : decode b_Mod_pieces 17 = .ok (.istore_n 2, 1) := kq_61 byq_r (by decide +kernel)
theorem d_Mod_pieces_18 : decode b_Mod_pieces 18 = .ok (.iconst 0, 1) := kq_3 byq_r (by decide +kernel)
theorem d_Mod_pieces_19 : decode b_Mod_pieces 19 = .ok (.istore_n 3, 1) := kq_62 byq_r (by decide +kernel)
theorem d_Mod_pieces_20 : decode b_Mod_pieces 20 = .ok (.iconst (-1), 1) := kq_2 byq_r (by decide +kernel)
theorem d_Mod_pieces_21 : decode b_Mod_pieces 21 = .ok (.istore 4, 2) := kq_54 byq_r (by decide +kernel)
theorem d_Mod_pieces_23 : decode b_Mod_pieces 23 = .ok (.iconst 0, 1) := kq_3 byq_r (by decide +kernel)
theorem d_Mod_pieces_24 : decode b_Mod_pieces 24 = .ok (.istore 5, 2) := kq_54 byq_r (by decide +kernel)
theorem d_Mod_pieces_26 : decode b_Mod_pieces 26 = .ok (.iload 5, 2) := kq_21 byq_r (by decide +kernel)
theorem d_Mod_pieces_28 : decode b_Mod_pieces 28 = .ok (.bipush 36, 2) := kq_16 byq_r (b := 36) (by decide +kernel)
theorem d_Mod_pieces_30 : decode b_Mod_pieces 30 = .ok (.if_icmp .ge 17, 3) := kq_162 byq_r (a := 0) (b := 17) (by decide +kernel)
theorem d_Mod_pieces_33 : decode b_Mod_pieces 33 = .ok (.aload_n 0, 1) := kq_42 byq_r (by decide +kernel)
theorem d_Mod_pieces_34 : decode b_Mod_pieces 34 = .ok (.getfield 69, 3) := kq_180 byq_r (a := 0) (b := 69) (by decide +kernel)
theorem d_Mod_pieces_37 : decode b_Mod_pieces 37 = .ok (.iload 5, 2) := kq_21 byq_r (by decide +kernel)
theorem d_Mod_pieces_39 : decode b_Mod_pieces 39 = .ok (.iconst 0, 1) := kq_3 byq_r (by decide +kernel)
theorem d_Mod_pieces_40 : decode b_Mod_pieces 40 = .ok (.bastore, 1) := kq_84 byq_r (by decide +kernel)
theorem d_Mod_pieces_41 : decode b_Mod_pieces 41 = .ok (.iinc 5 1, 3) := kq_132 byq_r (b := 1) (by decide +kernel)
theorem d_Mod_pieces_44 : decode b_Mod_pieces 44 = .ok (.goto (-18), 3) := kq_167 byq_r (a := 255) (b := 238) (by decide +kernel)
theorem d_Mod_pieces_47 : decode b_Mod_pieces 47 = .ok (.iconst 0, 1) := kq_3 byq_r (by decide +kernel)
theorem d_Mod_pieces_48 : decode b_Mod_pieces 48 = .ok (.istore 5, 2) := kq_54 byq_r (by decide +kernel)
theorem d_Mod_pieces_50 : decode b_Mod_pieces 50 = .ok (.iload 5, 2) := kq_21 byq_r (by decide +kernel)
theorem d_Mod_pieces_52 : decode b_Mod_pieces 52 = .ok (.aload_n 0, 1) := kq_42 byq_r (by decide +kernel)
theorem d_Mod_pieces_53 : decode b_Mod_pieces 53 = .ok (.invokevirtual 115, 3) := kq_182 byq_r (a := 0) (b := 115) (by decide +kernel)
theorem d_Mod_pieces_56 : decode b_Mod_pieces 56 = .ok (.if_icmp .ge 115, 3) := kq_162 byq_r (a := 0) (b := 115) (by decide +kernel)
theorem d_Mod_pieces_59 : decode b_Mod_pieces 59 = .ok (.aload_n 0, 1) := kq_42 byq_r (by decide +kernel)
theorem d_Mod_pieces_60 : decode b_Mod_pieces 60 = .ok (.iload_n 1, 1) := kq_27 byq_r (by decide +kernel)
theorem d_Mod_pieces_61 : decode b_Mod_pieces 61 = .ok (.iload 5, 2) := kq_21 byq_r (by decide +kernel)
theorem d_Mod_pieces_63 : decode b_Mod_pieces 63 = .ok (.invokevirtual 140, 3) := kq_182 byq_r (a := 0) (b := 140) (by decide +kernel)
theorem d_Mod_pieces_66 : decode b_Mod_pieces 66 = .ok (.ifCond .eq 99, 3) := kq_153 byq_r (a := 0) (b := 99) (by decide +kernel)
theorem d_Mod_pieces_69 : decode b_Mod_pieces 69 = .ok (.aload_n 0, 1) := kq_42 byq_r (by decide +kernel)
theorem d_Mod_pieces_70 : decode b_Mod_pieces 70 = .ok (.getfield 69, 3) := kq_180 byq_r (a := 0) (b := 69) (by decide +kernel)
theorem d_Mod_pieces_73 : decode b_Mod_pieces 73 = .ok (.iload 5, 2) := kq_21 byq_r (by decide +kernel)
theorem d_Mod_pieces_75 : decode b_Mod_pieces 75 = .ok (.baload, 1) := kq_51 byq_r (by decide +kernel)
theorem d_Mod_pieces_76 : decode b_Mod_pieces 76 = .ok (.ifCond .eq 6, 3) := kq_153 byq_r (a := 0) (b := 6) (by decide +kernel)
theorem d_Mod_pieces_79 : decode b_Mod_pieces 79 = .ok (.goto 86, 3) := kq_167 byq_r (a := 0) (b := 86) (by decide +kernel)
theorem d_Mod_pieces_82 : decode b_Mod_pieces 82 = .ok (.aload_n 0, 1) := kq_42 byq_r (by decide +kernel)
theorem d_Mod_pieces_83 : decode b_Mod_pieces 83 = .ok (.iload_n 1, 1) := kq_27 byq_r (by decide +kernel)
theorem d_Mod_pieces_84 : decode b_Mod_pieces 84 = .ok (.iload 5, 2) := kq_21 byq_r (by decide +kernel)
theorem d_Mod_pieces_86 : decode b_Mod_pieces 86 = .ok (.invokestatic 154, 3) := kq_184 byq_r (a := 0) (b := 154) (by decide +kernel)
theorem d_Mod_pieces_89 : decode b_Mod_pieces 89 = .ok (.invokevirtual 365, 3) := kq_182 byq_r (a := 1) (b := 109) (by decide +kernel)
theorem d_Mod_pieces_92 : decode b_Mod_pieces 92 = .ok (.iinc 2 1, 3) := kq_132 byq_r (b := 1) (by decide +kernel)
theorem d_Mod_pieces_95 : decode b_Mod_pieces 95 = .ok (.iconst 0, 1) := kq_3 byq_r (by decide +kernel)
theorem d_Mod_pieces_96 : decode b_Mod_pieces 96 = .ok (.istore 6, 2) := kq_54 byq_r (by decide +kernel)
theorem d_Mod_pieces_98 : decode b_Mod_pieces 98 = .ok (.iload 6, 2) := kq_21 byq_r (by decide +kernel)
theorem d_Mod_pieces_100 : decode b_Mod_pieces 100 = .ok (.bipush 36, 2) := kq_16 byq_r (b := 36) (by decide +kernel)
theorem d_Mod_pieces_102 : decode b_Mod_pieces 102 = .ok (.if_icmp .ge 41, 3) := kq_162 byq_r (a := 0) (b := 41) (by decide +kernel)
theorem d_Mod_pieces_105 : decode b_Mod_pieces 105 = .ok (.aload_n 0, 1) := kq_42 byq_r (by decide +kernel)
theorem d_Mod_pieces_106 : decode b_Mod_pieces 106 = .ok (.getfield 69, 3) := kq_180 byq_r (a := 0) (b := 69) (by decide +kernel)
theorem d_Mod_pieces_109 : decode b_Mod_pieces 109 = .ok (.iload 6, 2) := kq_21 byq_r (by decide +kernel)
theorem d_Mod_pieces_111 : decode b_Mod_pieces 111 = .ok (.dup2, 1) := kq_92 byq_r (by decide +kernel)
theorem d_Mod_pieces_112 : decode b_Mod_pieces 112 = .ok (.baload, 1) := kq_51 byq_r (by decide +kernel)
theorem d_Mod_pieces_113 : decode b_Mod_pieces 113 = .ok (.aload_n 0, 1) := kq_42 byq_r (by decide +kernel)
theorem d_Mod_pieces_114 : decode b_Mod_pieces 114 = .ok (.getfield 63, 3) := kq_180 byq_r (a := 0) (b := 63) (by decide +kernel)
theorem d_Mod_pieces_117 : decode b_Mod_pieces 117 = .ok (.iload_n 1, 1) := kq_27 byq_r (by decide +kernel)
theorem d_Mod_pieces_118 : decode b_Mod_pieces 118 = .ok (.iload 6, 2) := kq_21 byq_r (by decide +kernel)
theorem d_Mod_pieces_120 : decode b_Mod_pieces 120 = .ok (.invokestatic 154, 3) := kq_184 byq_r (a := 0) (b := 154) (by decide +kernel)
theorem d_Mod_pieces_123 : decode b_Mod_pieces 123 = .ok (.iaload, 1) := kq_46 byq_r (by decide +kernel)
theorem d_Mod_pieces_124 : decode b_Mod_pieces 124 = .ok (.ldc_w 357, 3) := kq_19 byq_r (a := 1) (b := 101) (by decide +kernel)
theorem d_Mod_pieces_127 : decode b_Mod_pieces 127 = .ok (.if_icmp .ge 7, 3) := kq_162 byq_r (a := 0) (b := 7) (by decide +kernel)
theorem d_Mod_pieces_130 : decode b_Mod_pieces 130 = .ok (.iconst 1, 1) := kq_4 byq_r (by decide +kernel)
theorem d_Mod_pieces_131 : decode b_Mod_pieces 131 = .ok (.goto 4, 3) := kq_167 byq_r (a := 0) (b := 4) (by decide +kernel)
theorem d_Mod_pieces_134 : decode b_Mod_pieces 134 = .ok (.iconst 0, 1) := kq_3 byq_r (by decide +kernel)
theorem d_Mod_pieces_135 : decode b_Mod_pieces 135 = .ok (.ior, 1) := kq_128 byq_r (by decide +kernel)
theorem d_Mod_pieces_136 : decode b_Mod_pieces 136 = .ok (.bastore, 1) := kq_84 byq_r (by decide +kernel)
theorem d_Mod_pieces_137 : decode b_Mod_pieces 137 = .ok (.iinc 6 1, 3) := kq_132 byq_r (b := 1) (by decide +kernel)
theorem d_Mod_pieces_140 : decode b_Mod_pieces 140 = .ok (.goto (-42), 3) := kq_167 byq_r (a := 255) (b := 214) (by decide +kernel)
theorem d_Mod_pieces_143 : decode b_Mod_pieces 143 = .ok (.aload_n 0, 1) := kq_42 byq_r (by decide +kernel)
theorem d_Mod_pieces_144 : decode b_Mod_pieces 144 = .ok (.iload_n 1, 1) := kq_27 byq_r (by decide +kernel)
theorem d_Mod_pieces_145 : decode b_Mod_pieces 145 = .ok (.invokevirtual 368, 3) := kq_182 byq_r (a := 1) (b := 112) (by decide +kernel)
theorem d_Mod_pieces_148 : decode b_Mod_pieces 148 = .ok (.iload_n 3, 1) := kq_29 byq_r (by decide +kernel)
theorem d_Mod_pieces_149 : decode b_Mod_pieces 149 = .ok (.if_icmp .gt 6, 3) := kq_163 byq_r (a := 0) (b := 6) (by decide +kernel)
theorem d_Mod_pieces_152 : decode b_Mod_pieces 152 = .ok (.goto 13, 3) := kq_167 byq_r (a := 0) (b := 13) (by decide +kernel)
theorem d_Mod_pieces_155 : decode b_Mod_pieces 155 = .ok (.aload_n 0, 1) := kq_42 byq_r (by decide +kernel)
theorem d_Mod_pieces_156 : decode b_Mod_pieces 156 = .ok (.iload_n 1, 1) := kq_27 byq_r (by decide +kernel)
theorem d_Mod_pieces_157 : decode b_Mod_pieces 157 = .ok (.invokevirtual 368, 3) := kq_182 byq_r (a := 1) (b := 112) (by decide +kernel)
theorem d_Mod_pieces_160 : decode b_Mod_pieces 160 = .ok (.istore_n 3, 1) := kq_62 byq_r (by decide +kernel)
theorem d_Mod_pieces_161 : decode b_Mod_pieces 161 = .ok (.iload 5, 2) := kq_21 byq_r (by decide +kernel)
theorem d_Mod_pieces_163 : decode b_Mod_pieces 163 = .ok (.istore 4, 2) := kq_54 byq_r (by decide +kernel)
theorem d_Mod_pieces_165 : decode b_Mod_pieces 165 = .ok (.iinc 5 1, 3) := kq_132 byq_r (b := 1) (by decide +kernel)
theorem d_Mod_pieces_168 : decode b_Mod_pieces 168 = .ok (.goto (-118), 3) := kq_167 byq_r (a := 255) (b := 138) (by decide +kernel)
theorem d_Mod_pieces_171 : decode b_Mod_pieces 171 = .ok (.aload_n 0, 1) := kq_42 byq_r (by decide +kernel)
theorem d_Mod_pieces_172 : decode b_Mod_pieces 172 = .ok (.iconst 0, 1) := kq_3 byq_r (by decide +kernel)
theorem d_Mod_pieces_173 : decode b_Mod_pieces 173 = .ok (.putfield 112, 3) := kq_181 byq_r (a := 0) (b := 112) (by decide +kernel)
theorem d_Mod_pieces_176 : decode b_Mod_pieces 176 = .ok (.aload_n 0, 1) := kq_42 byq_r (by decide +kernel)
theorem d_Mod_pieces_177 : decode b_Mod_pieces 177 = .ok (.iload_n 3, 1) := kq_29 byq_r (by decide +kernel)
theorem d_Mod_pieces_178 : decode b_Mod_pieces 178 = .ok (.invokevirtual 342, 3) := kq_182 byq_r (a := 1) (b := 86) (by decide +kernel)
theorem d_Mod_pieces_181 : decode b_Mod_pieces 181 = .ok (.aload_n 0, 1) := kq_42 byq_r (by decide +kernel)
theorem d_Mod_pieces_182 : decode b_Mod_pieces 182 = .ok (.iload 4, 2) := kq_21 byq_r (by decide +kernel)
theorem d_Mod_pieces_184 : decode b_Mod_pieces 184 = .ok (.invokevirtual 342, 3) := kq_182 byq_r (a := 1) (b := 86) (by decide +kernel)
theorem d_Mod_pieces_187 : decode b_Mod_pieces 187 = .ok (.iload_n 2, 1) := kq_28 byq_r (by decide +kernel)
theorem d_Mod_pieces_188 : decode b_Mod_pieces 188 = .ok (.ireturn, 1) := kq_172 byq_r (by decide +kernel)
theorem d_Mod_reach_0 : decode b_Mod_reach 0 = .ok (.aload_n 0, 1) := kq_42 byq_r (by decide +kernel)
theorem d_Mod_reach_1 : decode b_Mod_reach 1 = .ok (.iconst 0, 1) := kq_3 byq_r (by decide +kernel)
theorem d_Mod_reach_2 : decode b_Mod_reach 2 = .ok (.putfield 109, 3) := kq_181 byq_r (a := 0) (b := 109) (by decide +kernel)
theorem d_Mod_reach_5 : decode b_Mod_reach 5 = .ok (.iload_n 1, 1) := kq_27 byq_r (by decide +kernel)
theorem d_Mod_reach_6 : decode b_Mod_reach 6 = .ok (.iconst 0, 1) := kq_3 byq_r (by decide +kernel)
theorem d_Mod_reach_7 : decode b_Mod_reach 7 = .ok (.iconst 1, 1) := kq_4 byq_r (by decide +kernel)
theorem d_Mod_reach_8 : decode b_Mod_reach 8 = .ok (.invokestatic 119, 3) := kq_184 byq_r (a := 0) (b := 119) (by decide +kernel)
theorem d_Mod_reach_11 : decode b_Mod_reach 11 = .ok (.ifCond .eq 11, 3) := kq_153 byq_r (a := 0) (b := 11) (by decide +kernel)
theorem d_Mod_reach_14 : decode b_Mod_reach 14 = .ok (.aload_n 0, 1) := kq_42 byq_r (by decide +kernel)
theorem d_Mod_reach_15 : decode b_Mod_reach 15 = .ok (.iload_n 2, 1) := kq_28 byq_r (by decide +kernel)
theorem d_Mod_reach_16 : decode b_Mod_reach 16 = .ok (.invokevirtual 137, 3) := kq_182 byq_r (a := 0) (b := 137) (by decide +kernel)
theorem d_Mod_reach_19 : decode b_Mod_reach 19 = .ok (.ifCond .ne 5, 3) := kq_154 byq_r (a := 0) (b := 5) (by decide +kernel)
theorem d_Mod_reach_22 : decode b_Mod_reach 22 = .ok (.iconst (-1), 1) := kq_2 byq_r (by decide +kernel)
theorem d_Mod_reach_23 : decode b_Mod_reach 23 = .ok (.ireturn, 1) := kq_172 byq_r (by decide +kernel)
theorem d_Mod_reach_24 : decode b_Mod_reach 24 = .ok (.aload_n 0, 1) := kq_42 byq_r (by decide +kernel)
theorem d_Mod_reach_25 : decode b_Mod_reach 25 = .ok (.iload_n 1, 1) := kq_27 byq_r (by decide +kernel)
theorem d_Mod_reach_26 : decode b_Mod_reach 26 = .ok (.iload_n 2, 1) := kq_28 byq_r (by decide +kernel)
theorem d_Mod_reach_27 : decode b_Mod_reach 27 = .ok (.invokevirtual 140, 3) := kq_182 byq_r (a := 0) (b := 140) (by decide +kernel)
theorem d_Mod_reach_30 : decode b_Mod_reach 30 = .ok (.ifCond .ne 6, 3) := kq_154 byq_r (a := 0) (b := 6) (by decide +kernel)
theorem d_Mod_reach_33 : decode b_Mod_reach 33 = .ok (.bipush (-2), 2) := kq_16 byq_r (b := 254) (by decide +kernel)
theorem d_Mod_reach_35 : decode b_Mod_reach 35 = .ok (.ireturn, 1) := kq_172 byq_r (by decide +kernel)
theorem d_Mod_reach_36 : decode b_Mod_reach 36 = .ok (.aload_n 0, 1) := kq_42 byq_r (by decide +kernel)
theorem d_Mod_reach_37 : decode b_Mod_reach 37 = .ok (.iload_n 1, 1) := kq_27 byq_r (by decide +kernel)
theorem d_Mod_reach_38 : decode b_Mod_reach 38 = .ok (.iload_n 2, 1) := kq_28 byq_r (by decide +kernel)
theorem d_Mod_reach_39 : decode b_Mod_reach 39 = .ok (.invokestatic 154, 3) := kq_184 byq_r (a := 0) (b := 154) (by decide +kernel)
theorem d_Mod_reach_42 : decode b_Mod_reach 42 = .ok (.invokevirtual 365, 3) := kq_182 byq_r (a := 1) (b := 109) (by decide +kernel)
theorem d_Mod_reach_45 : decode b_Mod_reach 45 = .ok (.aload_n 0, 1) := kq_42 byq_r (by decide +kernel)
theorem d_Mod_reach_46 : decode b_Mod_reach 46 = .ok (.iconst 0, 1) := kq_3 byq_r (by decide +kernel)
theorem d_Mod_reach_47 : decode b_Mod_reach 47 = .ok (.putfield 112, 3) := kq_181 byq_r (a := 0) (b := 112) (by decide +kernel)
theorem d_Mod_reach_50 : decode b_Mod_reach 50 = .ok (.aload_n 0, 1) := kq_42 byq_r (by decide +kernel)
theorem d_Mod_reach_51 : decode b_Mod_reach 51 = .ok (.iload_n 1, 1) := kq_27 byq_r (by decide +kernel)
theorem d_Mod_reach_52 : decode b_Mod_reach 52 = .ok (.invokevirtual 371, 3) := kq_182 byq_r (a := 1) (b := 115) (by decide +kernel)
theorem d_Mod_reach_55 : decode b_Mod_reach 55 = .ok (.aload_n 0, 1) := kq_42 byq_r (by decide +kernel)
theorem d_Mod_reach_56 : decode b_Mod_reach 56 = .ok (.iload_n 1, 1) := kq_27 byq_r (by decide +kernel)
theorem d_Mod_reach_57 : decode b_Mod_reach 57 = .ok (.invokevirtual 368, 3) := kq_182 byq_r (a := 1) (b := 112) (by decide +kernel)
theorem d_Mod_reach_60 : decode b_Mod_reach 60 = .ok (.ireturn, 1) := kq_172 byq_r (by decide +kernel)
theorem d_Mod_path_0 : decode b_Mod_path 0 = .ok (.aload_n 0, 1) := kq_42 byq_r (by decide +kernel)
theorem d_Mod_path_1 : decode b_Mod_path 1 = .ok (.iconst 0, 1) := kq_3 byq_r (by decide +kernel)
theorem d_Mod_path_2 : decode b_Mod_path 2 = .ok (.putfield 109, 3) := kq_181 byq_r (a := 0) (b := 109) (by decide +kernel)
theorem d_Mod_path_5 : decode b_Mod_path 5 = .ok (.aload_n 0, 1) := kq_42 byq_r (by decide +kernel)
theorem d_Mod_path_6 : decode b_Mod_path 6 = .ok (.iload_n 1, 1) := kq_27 byq_r (by decide +kernel)
theorem d_Mod_path_7 : decode b_Mod_path 7 = .ok (.iload_n 2, 1) := kq_28 byq_r (by decide +kernel)
theorem d_Mod_path_8 : decode b_Mod_path 8 = .ok (.invokevirtual 374, 3) := kq_182 byq_r (a := 1) (b := 118) (by decide +kernel)
theorem d_Mod_path_11 : decode b_Mod_path 11 = .ok (.ifCond .eq 12, 3) := kq_153 byq_r (a := 0) (b := 12) (by decide +kernel)
theorem d_Mod_path_14 : decode b_Mod_path 14 = .ok (.aload_n 0, 1) := kq_42 byq_r (by decide +kernel)
theorem d_Mod_path_15 : decode b_Mod_path 15 = .ok (.iload_n 1, 1) := kq_27 byq_r (by decide +kernel)
theorem d_Mod_path_16 : decode b_Mod_path 16 = .ok (.iload_n 3, 1) := kq_29 byq_r (by decide +kernel)
theorem d_Mod_path_17 : decode b_Mod_path 17 = .ok (.invokevirtual 374, 3) := kq_182 byq_r (a := 1) (b := 118) (by decide +kernel)
theorem d_Mod_path_20 : decode b_Mod_path 20 = .ok (.ifCond .ne 5, 3) := kq_154 byq_r (a := 0) (b := 5) (by decide +kernel)
theorem d_Mod_path_23 : decode b_Mod_path 23 = .ok (.iconst (-1), 1) := kq_2 byq_r (by decide +kernel)
theorem d_Mod_path_24 : decode b_Mod_path 24 = .ok (.ireturn, 1) := kq_172 byq_r (by decide +kernel)
theorem d_Mod_path_25 : decode b_Mod_path 25 = .ok (.aload_n 0, 1) := kq_42 byq_r (by decide +kernel)
theorem d_Mod_path_26 : decode b_Mod_path 26 = .ok (.iload_n 1, 1) := kq_27 byq_r (by decide +kernel)
theorem d_Mod_path_27 : decode b_Mod_path 27 = .ok (.iload_n 3, 1) := kq_29 byq_r (by decide +kernel)
theorem d_Mod_path_28 : decode b_Mod_path 28 = .ok (.invokestatic 154, 3) := kq_184 byq_r (a := 0) (b := 154) (by decide +kernel)
theorem d_Mod_path_31 : decode b_Mod_path 31 = .ok (.invokevirtual 365, 3) := kq_182 byq_r (a := 1) (b := 109) (by decide +kernel)
theorem d_Mod_path_34 : decode b_Mod_path 34 = .ok (.iload_n 1, 1) := kq_27 byq_r (by decide +kernel)
theorem d_Mod_path_35 : decode b_Mod_path 35 = .ok (.iload_n 2, 1) := kq_28 byq_r (by decide +kernel)
theorem d_Mod_path_36 : decode b_Mod_path 36 = .ok (.invokestatic 154, 3) := kq_184 byq_r (a := 0) (b := 154) (by decide +kernel)
theorem d_Mod_path_39 : decode b_Mod_path 39 = .ok (.istore 4, 2) := kq_54 byq_r (by decide +kernel)
theorem d_Mod_path_41 : decode b_Mod_path 41 = .ok (.aload_n 0, 1) := kq_42 byq_r (by decide +kernel)
theorem d_Mod_path_42 : decode b_Mod_path 42 = .ok (.getfield 63, 3) := kq_180 byq_r (a := 0) (b := 63) (by decide +kernel)
theorem d_Mod_path_45 : decode b_Mod_path 45 = .ok (.iload 4, 2) := kq_21 byq_r (by decide +kernel)
theorem d_Mod_path_47 : decode b_Mod_path 47 = .ok (.iaload, 1) := kq_46 byq_r (by decide +kernel)
theorem d_Mod_path_48 : decode b_Mod_path 48 = .ok (.istore 5, 2) := kq_54 byq_r (by decide +kernel)
theorem d_Mod_path_50 : decode b_Mod_path 50 = .ok (.iload 5, 2) := kq_21 byq_r (by decide +kernel)
theorem d_Mod_path_52 : decode b_Mod_path 52 = .ok (.ldc_w 357, 3) := kq_19 byq_r (a := 1) (b := 101) (by decide +kernel)
theorem d_Mod_path_55 : decode b_Mod_path 55 = .ok (.if_icmp .lt 6, 3) := kq_161 byq_r (a := 0) (b := 6) (by decide +kernel)
theorem d_Mod_path_58 : decode b_Mod_path 58 = .ok (.bipush (-2), 2) := kq_16 byq_r (b := 254) (by decide +kernel)
theorem d_Mod_path_60 : decode b_Mod_path 60 = .ok (.ireturn, 1) := kq_172 byq_r (by decide +kernel)
theorem d_Mod_path_61 : decode b_Mod_path 61 = .ok (.aload_n 0, 1) := kq_42 byq_r (by decide +kernel)
theorem d_Mod_path_62 : decode b_Mod_path 62 = .ok (.iconst 0, 1) := kq_3 byq_r (by decide +kernel)
theorem d_Mod_path_63 : decode b_Mod_path 63 = .ok (.putfield 112, 3) := kq_181 byq_r (a := 0) (b := 112) (by decide +kernel)
theorem d_Mod_path_66 : decode b_Mod_path 66 = .ok (.iconst 0, 1) := kq_3 byq_r (by decide +kernel)
theorem d_Mod_path_67 : decode b_Mod_path 67 = .ok (.istore 6, 2) := kq_54 byq_r (by decide +kernel)
theorem d_Mod_path_69 : decode b_Mod_path 69 = .ok (.iload 6, 2) := kq_21 byq_r (by decide +kernel)
theorem d_Mod_path_71 : decode b_Mod_path 71 = .ok (.iload 5, 2) := kq_21 byq_r (by decide +kernel)
theorem d_Mod_path_73 : decode b_Mod_path 73 = .ok (.if_icmp .ge 90, 3) := kq_162 byq_r (a := 0) (b := 90) (by decide +kernel)
theorem d_Mod_path_76 : decode b_Mod_path 76 = .ok (.iconst 0, 1) := kq_3 byq_r (by decide +kernel)
theorem d_Mod_path_77 : decode b_Mod_path 77 = .ok (.istore 7, 2) := kq_54 byq_r (by decide +kernel)
theorem d_Mod_path_79 : decode b_Mod_path 79 = .ok (.aload_n 0, 1) := kq_42 byq_r (by decide +kernel)
theorem d_Mod_path_80 : decode b_Mod_path 80 = .ok (.aload_n 0, 1) := kq_42 byq_r (by decide +kernel)
theorem d_Mod_path_81 : decode b_Mod_path 81 = .ok (.getfield 9, 3) := kq_180 byq_r (a := 0) (b := 9) (by decide +kernel)
theorem d_Mod_path_84 : decode b_Mod_path 84 = .ok (.iload 4, 2) := kq_21 byq_r (by decide +kernel)
theorem d_Mod_path_86 : decode b_Mod_path 86 = .ok (.iload 7, 2) := kq_21 byq_r (by decide +kernel)
theorem d_Mod_path_88 : decode b_Mod_path 88 = .ok (.invokevirtual 252, 3) := kq_182 byq_r (a := 0) (b := 252) (by decide +kernel)
theorem d_Mod_path_91 : decode b_Mod_path 91 = .ok (.iconst (-1), 1) := kq_2 byq_r (by decide +kernel)
theorem d_Mod_path_92 : decode b_Mod_path 92 = .ok (.if_icmp .eq 32, 3) := kq_159 byq_r (a := 0) (b := 32) (by decide +kernel)
theorem d_Mod_path_95 : decode b_Mod_path 95 = .ok (.aload_n 0, 1) := kq_42 byq_r (by decide +kernel)
theorem d_Mod_path_96 : decode b_Mod_path 96 = .ok (.getfield 63, 3) := kq_180 byq_r (a := 0) (b := 63) (by decide +kernel)
theorem d_Mod_path_99 : decode b_Mod_path 99 = .ok (.aload_n 0, 1) := kq_42 byq_r (by decide +kernel)
theorem d_Mod_path_100 : decode b_Mod_path 100 = .ok (.aload_n 0, 1) := kq_42 byq_r (by decide +kernel)
theorem d_Mod_path_101 : decode b_Mod_path 101 = .ok (.getfield 9, 3) := kq_180 byq_r (a := 0) (b := 9) (by decide +kernel)
theorem d_Mod_path_104 : decode b_Mod_path 104 = .ok (.iload 4, 2) := kq_21 byq_r (by decide +kernel)
theorem d_Mod_path_106 : decode b_Mod_path 106 = .ok (.iload 7, 2) := kq_21 byq_r (by decide +kernel)
theorem d_Mod_path_108 : decode b_Mod_path 108 = .ok (.invokevirtual 252, 3) := kq_182 byq_r (a := 0) (b := 252) (by decide +kernel)
theorem d_Mod_path_111 : decode b_Mod_path 111 = .ok (.iaload, 1) := kq_46 byq_r (by decide +kernel)
theorem d_Mod_path_112 : decode b_Mod_path 112 = .ok (.aload_n 0, 1) := kq_42 byq_r (by decide +kernel)
theorem d_Mod_path_113 : decode b_Mod_path 113 = .ok (.getfield 63, 3) := kq_180 byq_r (a := 0) (b := 63) (by decide +kernel)
theorem d_Mod_path_116 : decode b_Mod_path 116 = .ok (.iload 4, 2) := kq_21 byq_r (by decide +kernel)
theorem d_Mod_path_118 : decode b_Mod_path 118 = .ok (.iaload, 1) := kq_46 byq_r (by decide +kernel)
theorem d_Mod_path_119 : decode b_Mod_path 119 = .ok (.iconst 1, 1) := kq_4 byq_r (by decide +kernel)
theorem d_Mod_path_120 : decode b_Mod_path 120 = .ok (.isub, 1) := kq_100 byq_r (by decide +kernel)
theorem d_Mod_path_121 : decode b_Mod_path 121 = .ok (.if_icmp .eq 9, 3) := kq_159 byq_r (a := 0) (b := 9) (by decide +kernel)
theorem d_Mod_path_124 : decode b_Mod_path 124 = .ok (.iinc 7 1, 3) := kq_132 byq_r (b := 1) (by decide +kernel)
theorem d_Mod_path_127 : decode b_Mod_path 127 = .ok (.goto (-48), 3) := kq_167 byq_r (a := 255) (b := 208) (by decide +kernel)
theorem d_Mod_path_130 : decode b_Mod_path 130 = .ok (.iload 6, 2) := kq_21 byq_r (by decide +kernel)
theorem d_Mod_path_132 : decode b_Mod_path 132 = .ok (.bipush 10, 2) := kq_16 byq_r (b := 10) (by decide +kernel)
theorem d_Mod_path_134 : decode b_Mod_path 134 = .ok (.if_icmp .ge 9, 3) := kq_162 byq_r (a := 0) (b := 9) (by decide +kernel)
theorem d_Mod_path_137 : decode b_Mod_path 137 = .ok (.aload_n 0, 1) := kq_42 byq_r (by decide +kernel)
theorem d_Mod_path_138 : decode b_Mod_path 138 = .ok (.iload 7, 2) := kq_21 byq_r (by decide +kernel)
theorem d_Mod_path_140 : decode b_Mod_path 140 = .ok (.invokevirtual 342, 3) := kq_182 byq_r (a := 1) (b := 86) (by decide +kernel)
theorem d_Mod_path_143 : decode b_Mod_path 143 = .ok (.aload_n 0, 1) := kq_42 byq_r (by decide +kernel)
theorem d_Mod_path_144 : decode b_Mod_path 144 = .ok (.aload_n 0, 1) := kq_42 byq_r (by decide +kernel)
theorem d_Mod_path_145 : decode b_Mod_path 145 = .ok (.getfield 9, 3) := kq_180 byq_r (a := 0) (b := 9) (by decide +kernel)
theorem d_Mod_path_148 : decode b_Mod_path 148 = .ok (.iload 4, 2) := kq_21 byq_r (by decide +kernel)
theorem d_Mod_path_150 : decode b_Mod_path 150 = .ok (.iload 7, 2) := kq_21 byq_r (by decide +kernel)
theorem d_Mod_path_152 : decode b_Mod_path 152 = .ok (.invokevirtual 252, 3) := kq_182 byq_r (a := 0) (b := 252) (by decide +kernel)
theorem d_Mod_path_155 : decode b_Mod_path 155 = .ok (.istore 4, 2) := kq_54 byq_r (by decide +kernel)
theorem d_Mod_path_157 : decode b_Mod_path 157 = .ok (.iinc 6 1, 3) := kq_132 byq_r (b := 1) (by decide +kernel)
theorem d_Mod_path_160 : decode b_Mod_path 160 = .ok (.goto (-91), 3) := kq_167 byq_r (a := 255) (b := 165) (by decide +kernel)
theorem d_Mod_path_163 : decode b_Mod_path 163 = .ok (.iload 5, 2) := kq_21 byq_r (by decide +kernel)
theorem d_Mod_path_165 : decode b_Mod_path 165 = .ok (.ireturn, 1) := kq_172 byq_r (by decide +kernel)
theorem d_Mod_lowerBoth_0 : decode b_Mod_lowerBoth 0 = .ok (.iload_n 1, 1) := kq_27 byq_r (by decide +kernel)
theorem d_Mod_lowerBoth_1 : decode b_Mod_lowerBoth 1 = .ok (.iconst (-1), 1) := kq_2 byq_r (by decide +kernel)
theorem d_Mod_lowerBoth_2 : decode b_Mod_lowerBoth 2 = .ok (.if_icmp .eq 13, 3) := kq_159 byq_r (a := 0) (b := 13) (by decide +kernel)
theorem d_Mod_lowerBoth_5 : decode b_Mod_lowerBoth 5 = .ok (.aload_n 0, 1) := kq_42 byq_r (by decide +kernel)
theorem d_Mod_lowerBoth_6 : decode b_Mod_lowerBoth 6 = .ok (.getfield 73, 3) := kq_180 byq_r (a := 0) (b := 73) (by decide +kernel)
theorem d_Mod_lowerBoth_9 : decode b_Mod_lowerBoth 9 = .ok (.iload_n 1, 1) := kq_27 byq_r (by decide +kernel)
theorem d_Mod_lowerBoth_10 : decode b_Mod_lowerBoth 10 = .ok (.iaload, 1) := kq_46 byq_r (by decide +kernel)
theorem d_Mod_lowerBoth_11 : decode b_Mod_lowerBoth 11 = .ok (.iload_n 2, 1) := kq_28 byq_r (by decide +kernel)
theorem d_Mod_lowerBoth_12 : decode b_Mod_lowerBoth 12 = .ok (.if_icmp .gt 5, 3) := kq_163 byq_r (a := 0) (b := 5) (by decide +kernel)
theorem d_Mod_lowerBoth_15 : decode b_Mod_lowerBoth 15 = .ok (.iconst 0, 1) := kq_3 byq_r (by decide +kernel)
theorem d_Mod_lowerBoth_16 : decode b_Mod_lowerBoth 16 = .ok (.ireturn, 1) := kq_172 byq_r (by decide +kernel)
theorem d_Mod_lowerBoth_17 : decode b_Mod_lowerBoth 17 = .ok (.aload_n 0, 1) := kq_42 byq_r (by decide +kernel)
theorem d_Mod_lowerBoth_18 : decode b_Mod_lowerBoth 18 = .ok (.getfield 73, 3) := kq_180 byq_r (a := 0) (b := 73) (by decide +kernel)
theorem d_Mod_lowerBoth_21 : decode b_Mod_lowerBoth 21 = .ok (.iload_n 1, 1) := kq_27 byq_r (by decide +kernel)
theorem d_Mod_lowerBoth_22 : decode b_Mod_lowerBoth 22 = .ok (.iload_n 2, 1) := kq_28 byq_r (by decide +kernel)
theorem d_Mod_lowerBoth_23 : decode b_Mod_lowerBoth 23 = .ok (.iastore, 1) := kq_79 byq_r (by decide +kernel)
theorem d_Mod_lowerBoth_24 : decode b_Mod_lowerBoth 24 = .ok (.iconst 1, 1) := kq_4 byq_r (by decide +kernel)
theorem d_Mod_lowerBoth_25 : decode b_Mod_lowerBoth 25 = .ok (.ireturn, 1) := kq_172 byq_r (by decide +kernel)
theorem d_Mod_both_0 : decode b_Mod_both 0 = .ok (.aload_n 0, 1) := kq_42 byq_r (by decide +kernel)
theorem d_Mod_both_1 : decode b_Mod_both 1 = .ok (.iconst 0, 1) := kq_3 byq_r (by decide +kernel)
theorem d_Mod_both_2 : decode b_Mod_both 2 = .ok (.putfield 109, 3) := kq_181 byq_r (a := 0) (b := 109) (by decide +kernel)
theorem d_Mod_both_5 : decode b_Mod_both 5 = .ok (.aload_n 0, 1) := kq_42 byq_r (by decide +kernel)
theorem d_Mod_both_6 : decode b_Mod_both 6 = .ok (.iload_n 1, 1) := kq_27 byq_r (by decide +kernel)
theorem d_Mod_both_7 : decode b_Mod_both 7 = .ok (.iload_n 2, 1) := kq_28 byq_r (by decide +kernel)
theorem d_Mod_both_8 : decode b_Mod_both 8 = .ok (.invokevirtual 374, 3) := kq_182 byq_r (a := 1) (b := 118) (by decide +kernel)
theorem d_Mod_both_11 : decode b_Mod_both 11 = .ok (.ifCond .eq 13, 3) := kq_153 byq_r (a := 0) (b := 13) (by decide +kernel)
theorem d_Mod_both_14 : decode b_Mod_both 14 = .ok (.aload_n 0, 1) := kq_42 byq_r (by decide +kernel)
theorem d_Mod_both_15 : decode b_Mod_both 15 = .ok (.iload_n 3, 1) := kq_29 byq_r (by decide +kernel)
theorem d_Mod_both_16 : decode b_Mod_both 16 = .ok (.iload 4, 2) := kq_21 byq_r (by decide +kernel)
theorem d_Mod_both_18 : decode b_Mod_both 18 = .ok (.invokevirtual 374, 3) := kq_182 byq_r (a := 1) (b := 118) (by decide +kernel)
theorem d_Mod_both_21 : decode b_Mod_both 21 = .ok (.ifCond .ne 5, 3) := kq_154 byq_r (a := 0) (b := 5) (by decide +kernel)
theorem d_Mod_both_24 : decode b_Mod_both 24 = .ok (.iconst (-1), 1) := kq_2 byq_r (by decide +kernel)
theorem d_Mod_both_25 : decode b_Mod_both 25 = .ok (.ireturn, 1) := kq_172 byq_r (by decide +kernel)
theorem d_Mod_both_26 : decode b_Mod_both 26 = .ok (.iconst 0, 1) := kq_3 byq_r (by decide +kernel)
theorem d_Mod_both_27 : decode b_Mod_both 27 = .ok (.istore 5, 2) := kq_54 byq_r (by decide +kernel)
theorem d_Mod_both_29 : decode b_Mod_both 29 = .ok (.iload 5, 2) := kq_21 byq_r (by decide +kernel)
theorem d_Mod_both_31 : decode b_Mod_both 31 = .ok (.bipush 72, 2) := kq_16 byq_r (b := 72) (by decide +kernel)
theorem d_Mod_both_33 : decode b_Mod_both 33 = .ok (.if_icmp .ge 19, 3) := kq_162 byq_r (a := 0) (b := 19) (by decide +kernel)
theorem d_Mod_both_36 : decode b_Mod_both 36 = .ok (.aload_n 0, 1) := kq_42 byq_r (by decide +kernel)
theorem d_Mod_both_37 : decode b_Mod_both 37 = .ok (.getfield 73, 3) := kq_180 byq_r (a := 0) (b := 73) (by decide +kernel)
theorem d_Mod_both_40 : decode b_Mod_both 40 = .ok (.iload 5, 2) := kq_21 byq_r (by decide +kernel)
theorem d_Mod_both_42 : decode b_Mod_both 42 = .ok (.ldc_w 357, 3) := kq_19 byq_r (a := 1) (b := 101) (by decide +kernel)
theorem d_Mod_both_45 : decode b_Mod_both 45 = .ok (.iastore, 1) := kq_79 byq_r (by decide +kernel)
theorem d_Mod_both_46 : decode b_Mod_both 46 = .ok (.iinc 5 1, 3) := kq_132 byq_r (b := 1) (by decide +kernel)
theorem d_Mod_both_49 : decode b_Mod_both 49 = .ok (.goto (-20), 3) := kq_167 byq_r (a := 255) (b := 236) (by decide +kernel)
theorem d_Mod_both_52 : decode b_Mod_both 52 = .ok (.aload_n 0, 1) := kq_42 byq_r (by decide +kernel)
theorem d_Mod_both_53 : decode b_Mod_both 53 = .ok (.getfield 73, 3) := kq_180 byq_r (a := 0) (b := 73) (by decide +kernel)
theorem d_Mod_both_56 : decode b_Mod_both 56 = .ok (.iload_n 1, 1) := kq_27 byq_r (by decide +kernel)
theorem d_Mod_both_57 : decode b_Mod_both 57 = .ok (.iload_n 2, 1) := kq_28 byq_r (by decide +kernel)
theorem d_Mod_both_58 : decode b_Mod_both 58 = .ok (.invokestatic 154, 3) := kq_184 byq_r (a := 0) (b := 154) (by decide +kernel)
theorem d_Mod_both_61 : decode b_Mod_both 61 = .ok (.iconst 0, 1) := kq_3 byq_r (by decide +kernel)
theorem d_Mod_both_62 : decode b_Mod_both 62 = .ok (.iastore, 1) := kq_79 byq_r (by decide +kernel)
theorem d_Mod_both_63 : decode b_Mod_both 63 = .ok (.iconst 1, 1) := kq_4 byq_r (by decide +kernel)
theorem d_Mod_both_64 : decode b_Mod_both 64 = .ok (.istore 5, 2) := kq_54 byq_r (by decide +kernel)
theorem d_Mod_both_66 : decode b_Mod_both 66 = .ok (.iload 5, 2) := kq_21 byq_r (by decide +kernel)
theorem d_Mod_both_68 : decode b_Mod_both 68 = .ok (.ifCond .eq 139, 3) := kq_153 byq_r (a := 0) (b := 139) (by decide +kernel)
theorem d_Mod_both_71 : decode b_Mod_both 71 = .ok (.iconst 0, 1) := kq_3 byq_r (by decide +kernel)
theorem d_Mod_both_72 : decode b_Mod_both 72 = .ok (.istore 5, 2) := kq_54 byq_r (by decide +kernel)
theorem d_Mod_both_74 : decode b_Mod_both 74 = .ok (.iconst 0, 1) := kq_3 byq_r (by decide +kernel)
theorem d_Mod_both_75 : decode b_Mod_both 75 = .ok (.istore 6, 2) := kq_54 byq_r (by decide +kernel)
theorem d_Mod_both_77 : decode b_Mod_both 77 = .ok (.iload 6, 2) := kq_21 byq_r (by decide +kernel)
theorem d_Mod_both_79 : decode b_Mod_both 79 = .ok (.bipush 72, 2) := kq_16 byq_r (b := 72) (by decide +kernel)
theorem d_Mod_both_81 : decode b_Mod_both 81 = .ok (.if_icmp .ge 123, 3) := kq_162 byq_r (a := 0) (b := 123) (by decide +kernel)
theorem d_Mod_both_84 : decode b_Mod_both 84 = .ok (.aload_n 0, 1) := kq_42 byq_r (by decide +kernel)
theorem d_Mod_both_85 : decode b_Mod_both 85 = .ok (.getfield 73, 3) := kq_180 byq_r (a := 0) (b := 73) (by decide +kernel)
theorem d_Mod_both_88 : decode b_Mod_both 88 = .ok (.iload 6, 2) := kq_21 byq_r (by decide +kernel)
theorem d_Mod_both_90 : decode b_Mod_both 90 = .ok (.iaload, 1) := kq_46 byq_r (by decide +kernel)
theorem d_Mod_both_91 : decode b_Mod_both 91 = .ok (.ldc_w 357, 3) := kq_19 byq_r (a := 1) (b := 101) (by decide +kernel)
theorem d_Mod_both_94 : decode b_Mod_both 94 = .ok (.if_icmp .lt 6, 3) := kq_161 byq_r (a := 0) (b := 6) (by decide +kernel)
theorem d_Mod_both_97 : decode b_Mod_both 97 = .ok (.goto 101, 3) := kq_167 byq_r (a := 0) (b := 101) (by decide +kernel)
theorem d_Mod_both_100 : decode b_Mod_both 100 = .ok (.iconst 0, 1) := kq_3 byq_r (by decide +kernel)
theorem d_Mod_both_101 : decode b_Mod_both 101 = .ok (.istore 7, 2) := kq_54 byq_r (by decide +kernel)
theorem d_Mod_both_103 : decode b_Mod_both 103 = .ok (.iload 7, 2) := kq_21 byq_r (by decide +kernel)
theorem d_Mod_both_105 : decode b_Mod_both 105 = .ok (.iconst 4, 1) := kq_7 byq_r (by decide +kernel)
theorem d_Mod_both_106 : decode b_Mod_both 106 = .ok (.if_icmp .ge 47, 3) := kq_162 byq_r (a := 0) (b := 47) (by decide +kernel)
theorem d_Mod_both_109 : decode b_Mod_both 109 = .ok (.iload 5, 2) := kq_21 byq_r (by decide +kernel)
theorem d_Mod_both_111 : decode b_Mod_both 111 = .ok (.aload_n 0, 1) := kq_42 byq_r (by decide +kernel)
theorem d_Mod_both_112 : decode b_Mod_both 112 = .ok (.aload_n 0, 1) := kq_42 byq_r (by decide +kernel)
theorem d_Mod_both_113 : decode b_Mod_both 113 = .ok (.aload_n 0, 1) := kq_42 byq_r (by decide +kernel)
theorem d_Mod_both_114 : decode b_Mod_both 114 = .ok (.getfield 9, 3) := kq_180 byq_r (a := 0) (b := 9) (by decide +kernel)
theorem d_Mod_both_117 : decode b_Mod_both 117 = .ok (.iload 6, 2) := kq_21 byq_r (by decide +kernel)
theorem d_Mod_both_119 : decode b_Mod_both 119 = .ok (.iload 7, 2) := kq_21 byq_r (by decide +kernel)
theorem d_Mod_both_121 : decode b_Mod_both 121 = .ok (.invokevirtual 252, 3) := kq_182 byq_r (a := 0) (b := 252) (by decide +kernel)
theorem d_Mod_both_124 : decode b_Mod_both 124 = .ok (.aload_n 0, 1) := kq_42 byq_r (by decide +kernel)
theorem d_Mod_both_125 : decode b_Mod_both 125 = .ok (.getfield 73, 3) := kq_180 byq_r (a := 0) (b := 73) (by decide +kernel)
theorem d_Mod_both_128 : decode b_Mod_both 128 = .ok (.iload 6, 2) := kq_21 byq_r (by decide +kernel)
theorem d_Mod_both_130 : decode b_Mod_both 130 = .ok (.iaload, 1) := kq_46 byq_r (by decide +kernel)
theorem d_Mod_both_131 : decode b_Mod_both 131 = .ok (.sipush 1000, 3) := kq_17 byq_r (a := 3) (b := 232) (by decide +kernel)
theorem d_Mod_both_134 : decode b_Mod_both 134 = .ok (.iadd, 1) := kq_96 byq_r (by decide +kernel)
theorem d_Mod_both_135 : decode b_Mod_both 135 = .ok (.iload 6, 2) := kq_21 byq_r (by decide +kernel)
theorem d_Mod_both_137 : decode b_Mod_both 137 = .ok (.invokestatic 143, 3) := kq_184 byq_r (a := 0) (b := 143) (by decide +kernel)
theorem d_Mod_both_140 : decode b_Mod_both 140 = .ok (.iadd, 1) := kq_96 byq_r (by decide +kernel)
theorem d_Mod_both_141 : decode b_Mod_both 141 = .ok (.invokevirtual 377, 3) := kq_182 byq_r (a := 1) (b := 121) (by decide +kernel)
theorem d_Mod_both_144 : decode b_Mod_both 144 = .ok (.ior, 1) := kq_128 byq_r (by decide +kernel)
theorem d_Mod_both_145 : decode b_Mod_both 145 = .ok (.istore 5, 2) := kq_54 byq_r (by decide +kernel)
theorem d_Mod_both_147 : decode b_Mod_both 147 = .ok (.iinc 7 1, 3) := kq_132 byq_r (b := 1) (by decide +kernel)
theorem d_Mod_both_150 : decode b_Mod_both 150 = .ok (.goto (-47), 3) := kq_167 byq_r (a := 255) (b := 209) (by decide +kernel)
theorem d_Mod_both_153 : decode b_Mod_both 153 = .ok (.aload_n 0, 1) := kq_42 byq_r (by decide +kernel)
theorem d_Mod_both_154 : decode b_Mod_both 154 = .ok (.getfield 13, 3) := kq_180 byq_r (a := 0) (b := 13) (by decide +kernel)
theorem d_Mod_both_157 : decode b_Mod_both 157 = .ok (.iload 6, 2) := kq_21 byq_r (by decide +kernel)
theorem d_Mod_both_159 : decode b_Mod_both 159 = .ok (.invokestatic 147, 3) := kq_184 byq_r (a := 0) (b := 147) (by decide +kernel)
theorem d_Mod_both_162 : decode b_Mod_both 162 = .ok (.iaload, 1) := kq_46 byq_r (by decide +kernel)
theorem d_Mod_both_163 : decode b_Mod_both 163 = .ok (.iconst 3, 1) := kq_6 byq_r (by decide +kernel)
theorem d_Mod_both_164 : decode b_Mod_both 164 = .ok (.if_icmp .ne 34, 3) := kq_160 byq_r (a := 0) (b := 34) (by decide +kernel)
theorem d_Mod_both_167 : decode b_Mod_both 167 = .ok (.iload 5, 2) := kq_21 byq_r (by decide +kernel)
theorem d_Mod_both_169 : decode b_Mod_both 169 = .ok (.aload_n 0, 1) := kq_42 byq_r (by decide +kernel)
theorem d_Mod_both_170 : decode b_Mod_both 170 = .ok (.iconst 1, 1) := kq_4 byq_r (by decide +kernel)
theorem d_Mod_both_171 : decode b_Mod_both 171 = .ok (.iload 6, 2) := kq_21 byq_r (by decide +kernel)
theorem d_Mod_both_173 : decode b_Mod_both 173 = .ok (.invokestatic 143, 3) := kq_184 byq_r (a := 0) (b := 143) (by decide +kernel)
theorem d_Mod_both_176 : decode b_Mod_both 176 = .ok (.isub, 1) := kq_100 byq_r (by decide +kernel)
theorem d_Mod_both_177 : decode b_Mod_both 177 = .ok (.iload 6, 2) := kq_21 byq_r (by decide +kernel)
theorem d_Mod_both_179 : decode b_Mod_both 179 = .ok (.invokestatic 147, 3) := kq_184 byq_r (a := 0) (b := 147) (by decide +kernel)
theorem d_Mod_both_182 : decode b_Mod_both 182 = .ok (.invokestatic 154, 3) := kq_184 byq_r (a := 0) (b := 154) (by decide +kernel)
theorem d_Mod_both_185 : decode b_Mod_both 185 = .ok (.aload_n 0, 1) := kq_42 byq_r (by decide +kernel)
theorem d_Mod_both_186 : decode b_Mod_both 186 = .ok (.getfield 73, 3) := kq_180 byq_r (a := 0) (b := 73) (by decide +kernel)
theorem d_Mod_both_189 : decode b_Mod_both 189 = .ok (.iload 6, 2) := kq_21 byq_r (by decide +kernel)
theorem d_Mod_both_191 : decode b_Mod_both 191 = .ok (.iaload, 1) := kq_46 byq_r (by decide +kernel)
theorem d_Mod_both_192 : decode b_Mod_both 192 = .ok (.invokevirtual 377, 3) := kq_182 byq_r (a := 1) (b := 121) (by decide +kernel)
theorem d_Mod_both_195 : decode b_Mod_both 195 = .ok (.ior, 1) := kq_128 byq_r (by decide +kernel)
theorem d_Mod_both_196 : decode b_Mod_both 196 = .ok (.istore 5, 2) := kq_54 byq_r (by decide +kernel)
theorem d_Mod_both_198 : decode b_Mod_both 198 = .ok (.iinc 6 1, 3) := kq_132 byq_r (b := 1) (by decide +kernel)
theorem d_Mod_both_201 : decode b_Mod_both 201 = .ok (.goto (-124), 3) := kq_167 byq_r (a := 255) (b := 132) (by decide +kernel)
theorem d_Mod_both_204 : decode b_Mod_both 204 = .ok (.goto (-138), 3) := kq_167 byq_r (a := 255) (b := 118) (by decide +kernel)
theorem d_Mod_both_207 : decode b_Mod_both 207 = .ok (.aload_n 0, 1) := kq_42 byq_r (by decide +kernel)
theorem d_Mod_both_208 : decode b_Mod_both 208 = .ok (.getfield 73, 3) := kq_180 byq_r (a := 0) (b := 73) (by decide +kernel)
theorem d_Mod_both_211 : decode b_Mod_both 211 = .ok (.iload_n 3, 1) := kq_29 byq_r (by decide +kernel)
theorem d_Mod_both_212 : decode b_Mod_both 212 = .ok (.iload 4, 2) := kq_21 byq_r (by decide +kernel)
theorem d_Mod_both_214 : decode b_Mod_both 214 = .ok (.invokestatic 154, 3) := kq_184 byq_r (a := 0) (b := 154) (by decide +kernel)
theorem d_Mod_both_217 : decode b_Mod_both 217 = .ok (.iaload, 1) := kq_46 byq_r (by decide +kernel)
theorem d_Mod_both_218 : decode b_Mod_both 218 = .ok (.istore 6, 2) := kq_54 byq_r (by decide +kernel)
theorem d_Mod_both_220 : decode b_Mod_both 220 = .ok (.iload 6, 2) := kq_21 byq_r (by decide +kernel)
theorem d_Mod_both_222 : decode b_Mod_both 222 = .ok (.ldc_w 357, 3) := kq_19 byq_r (a := 1) (b := 101) (by decide +kernel)
theorem d_Mod_both_225 : decode b_Mod_both 225 = .ok (.if_icmp .lt 6, 3) := kq_161 byq_r (a := 0) (b := 6) (by decide +kernel)
theorem d_Mod_both_228 : decode b_Mod_both 228 = .ok (.bipush (-2), 2) := kq_16 byq_r (b := 254) (by decide +kernel)
theorem d_Mod_both_230 : decode b_Mod_both 230 = .ok (.ireturn, 1) := kq_172 byq_r (by decide +kernel)
theorem d_Mod_both_231 : decode b_Mod_both 231 = .ok (.aload_n 0, 1) := kq_42 byq_r (by decide +kernel)
theorem d_Mod_both_232 : decode b_Mod_both 232 = .ok (.iconst 0, 1) := kq_3 byq_r (by decide +kernel)
theorem d_Mod_both_233 : decode b_Mod_both 233 = .ok (.putfield 112, 3) := kq_181 byq_r (a := 0) (b := 112) (by decide +kernel)
theorem d_Mod_both_236 : decode b_Mod_both 236 = .ok (.aload_n 0, 1) := kq_42 byq_r (by decide +kernel)
theorem d_Mod_both_237 : decode b_Mod_both 237 = .ok (.iload 6, 2) := kq_21 byq_r (by decide +kernel)
theorem d_Mod_both_239 : decode b_Mod_both 239 = .ok (.sipush 1000, 3) := kq_17 byq_r (a := 3) (b := 232) (by decide +kernel)
theorem d_Mod_both_242 : decode b_Mod_both 242 = .ok (.irem, 1) := kq_112 byq_r (by decide +kernel)
theorem d_Mod_both_243 : decode b_Mod_both 243 = .ok (.invokevirtual 342, 3) := kq_182 byq_r (a := 1) (b := 86) (by decide +kernel)
theorem d_Mod_both_246 : decode b_Mod_both 246 = .ok (.iload 6, 2) := kq_21 byq_r (by decide +kernel)
theorem d_Mod_both_248 : decode b_Mod_both 248 = .ok (.sipush 1000, 3) := kq_17 byq_r (a := 3) (b := 232) (by decide +kernel)
theorem d_Mod_both_251 : decode b_Mod_both 251 = .ok (.idiv, 1) := kq_108 byq_r (by decide +kernel)
theorem d_Mod_both_252 : decode b_Mod_both 252 = .ok (.ireturn, 1) := kq_172 byq_r (by decide +kernel)
theorem d_Mod_copy_0 : decode b_Mod_copy 0 = .ok (.iconst 0, 1) := kq_3 byq_r (by decide +kernel)
theorem d_Mod_copy_1 : decode b_Mod_copy 1 = .ok (.istore_n 2, 1) := kq_61 byq_r (by decide +kernel)
theorem d_Mod_copy_2 : decode b_Mod_copy 2 = .ok (.iload_n 2, 1) := kq_28 byq_r (by decide +kernel)
theorem d_Mod_copy_3 : decode b_Mod_copy 3 = .ok (.aload_n 0, 1) := kq_42 byq_r (by decide +kernel)
theorem d_Mod_copy_4 : decode b_Mod_copy 4 = .ok (.arraylength, 1) := kq_190 byq_r (by decide +kernel)
theorem d_Mod_copy_5 : decode b_Mod_copy 5 = .ok (.if_icmp .ge 15, 3) := kq_162 byq_r (a := 0) (b := 15) (by decide +kernel)
theorem d_Mod_copy_8 : decode b_Mod_copy 8 = .ok (.aload_n 1, 1) := kq_43 byq_r (by decide +kernel)
theorem d_Mod_copy_9 : decode b_Mod_copy 9 = .ok (.iload_n 2, 1) := kq_28 byq_r (by decide +kernel)
theorem d_Mod_copy_10 : decode b_Mod_copy 10 = .ok (.aload_n 0, 1) := kq_42 byq_r (by decide +kernel)
theorem d_Mod_copy_11 : decode b_Mod_copy 11 = .ok (.iload_n 2, 1) := kq_28 byq_r (by decide +kernel)
theorem d_Mod_copy_12 : decode b_Mod_copy 12 = .ok (.iaload, 1) := kq_46 byq_r (by decide +kernel)
theorem d_Mod_copy_13 : decode b_Mod_copy 13 = .ok (.iastore, 1) := kq_79 byq_r (by decide +kernel)
theorem d_Mod_copy_14 : decode b_Mod_copy 14 = .ok (.iinc 2 1, 3) := kq_132 byq_r (b := 1) (by decide +kernel)
theorem d_Mod_copy_17 : decode b_Mod_copy 17 = .ok (.goto (-15), 3) := kq_167 byq_r (a := 255) (b := 241) (by decide +kernel)
theorem d_Mod_copy_20 : decode b_Mod_copy 20 = .ok (.return_, 1) := kq_177 byq_r (by decide +kernel)
theorem d_Mod_errand_0 : decode b_Mod_errand 0 = .ok (.aload_n 0, 1) := kq_42 byq_r (by decide +kernel)
theorem d_Mod_errand_1 : decode b_Mod_errand 1 = .ok (.iconst 0, 1) := kq_3 byq_r (by decide +kernel)
theorem d_Mod_errand_2 : decode b_Mod_errand 2 = .ok (.putfield 109, 3) := kq_181 byq_r (a := 0) (b := 109) (by decide +kernel)
theorem d_Mod_errand_5 : decode b_Mod_errand 5 = .ok (.aload_n 0, 1) := kq_42 byq_r (by decide +kernel)
theorem d_Mod_errand_6 : decode b_Mod_errand 6 = .ok (.iconst 0, 1) := kq_3 byq_r (by decide +kernel)
theorem d_Mod_errand_7 : decode b_Mod_errand 7 = .ok (.iload_n 1, 1) := kq_27 byq_r (by decide +kernel)
theorem d_Mod_errand_8 : decode b_Mod_errand 8 = .ok (.invokevirtual 374, 3) := kq_182 byq_r (a := 1) (b := 118) (by decide +kernel)
theorem d_Mod_errand_11 : decode b_Mod_errand 11 = .ok (.ifCond .eq 12, 3) := kq_153 byq_r (a := 0) (b := 12) (by decide +kernel)
theorem d_Mod_errand_14 : decode b_Mod_errand 14 = .ok (.aload_n 0, 1) := kq_42 byq_r (by decide +kernel)
theorem d_Mod_errand_15 : decode b_Mod_errand 15 = .ok (.iconst 1, 1) := kq_4 byq_r (by decide +kernel)
theorem d_Mod_errand_16 : decode b_Mod_errand 16 = .ok (.iload_n 2, 1) := kq_28 byq_r (by decide +kernel)
theorem d_Mod_errand_17 : decode b_Mod_errand 17 = .ok (.invokevirtual 374, 3) := kq_182 byq_r (a := 1) (b := 118) (by decide +kernel)
theorem d_Mod_errand_20 : decode b_Mod_errand 20 = .ok (.ifCond .ne 5, 3) := kq_154 byq_r (a := 0) (b := 5) (by decide +kernel)
theorem d_Mod_errand_23 : decode b_Mod_errand 23 = .ok (.iconst (-1), 1) := kq_2 byq_r (by decide +kernel)
theorem d_Mod_errand_24 : decode b_Mod_errand 24 = .ok (.ireturn, 1) := kq_172 byq_r (by decide +kernel)
theorem d_Mod_errand_25 : decode b_Mod_errand 25 = .ok (.aload_n 0, 1) := kq_42 byq_r (by decide +kernel)
theorem d_Mod_errand_26 : decode b_Mod_errand 26 = .ok (.iconst 0, 1) := kq_3 byq_r (by decide +kernel)
theorem d_Mod_errand_27 : decode b_Mod_errand 27 = .ok (.iload_n 1, 1) := kq_27 byq_r (by decide +kernel)
theorem d_Mod_errand_28 : decode b_Mod_errand 28 = .ok (.invokestatic 154, 3) := kq_184 byq_r (a := 0) (b := 154) (by decide +kernel)
theorem d_Mod_errand_31 : decode b_Mod_errand 31 = .ok (.invokevirtual 365, 3) := kq_182 byq_r (a := 1) (b := 109) (by decide +kernel)
theorem d_Mod_errand_34 : decode b_Mod_errand 34 = .ok (.aload_n 0, 1) := kq_42 byq_r (by decide +kernel)
theorem d_Mod_errand_35 : decode b_Mod_errand 35 = .ok (.getfield 63, 3) := kq_180 byq_r (a := 0) (b := 63) (by decide +kernel)
theorem d_Mod_errand_38 : decode b_Mod_errand 38 = .ok (.aload_n 0, 1) := kq_42 byq_r (by decide +kernel)
theorem d_Mod_errand_39 : decode b_Mod_errand 39 = .ok (.getfield 76, 3) := kq_180 byq_r (a := 0) (b := 76) (by decide +kernel)
theorem d_Mod_errand_42 : decode b_Mod_errand 42 = .ok (.invokestatic 380, 3) := kq_184 byq_r (a := 1) (b := 124) (by decide +kernel)
theorem d_Mod_errand_45 : decode b_Mod_errand 45 = .ok (.aload_n 0, 1) := kq_42 byq_r (by decide +kernel)
theorem d_Mod_errand_46 : decode b_Mod_errand 46 = .ok (.iconst 1, 1) := kq_4 byq_r (by decide +kernel)
theorem d_Mod_errand_47 : decode b_Mod_errand 47 = .ok (.iload_n 2, 1) := kq_28 byq_r (by decide +kernel)
theorem d_Mod_errand_48 : decode b_Mod_errand 48 = .ok (.invokestatic 154, 3) := kq_184 byq_r (a := 0) (b := 154) (by decide +kernel)
theorem d_Mod_errand_51 : decode b_Mod_errand 51 = .ok (.invokevirtual 365, 3) := kq_182 byq_r (a := 1) (b := 109) (by decide +kernel)
theorem d_Mod_errand_54 : decode b_Mod_errand 54 = .ok (.aload_n 0, 1) := kq_42 byq_r (by decide +kernel)
theorem d_Mod_errand_55 : decode b_Mod_errand 55 = .ok (.getfield 63, 3) := kq_180 byq_r (a := 0) (b := 63) (by decide +kernel)
theorem d_Mod_errand_58 : decode b_Mod_errand 58 = .ok (.aload_n 0, 1) := kq_42 byq_r (by decide +kernel)
theorem d_Mod_errand_59 : decode b_Mod_errand 59 = .ok (.getfield 79, 3) := kq_180 byq_r (a := 0) (b := 79) (by decide +kernel)
theorem d_Mod_errand_62 : decode b_Mod_errand 62 = .ok (.invokestatic 380, 3) := kq_184 byq_r (a := 1) (b := 124) (by decide +kernel)
theorem d_Mod_errand_65 : decode b_Mod_errand 65 = .ok (.ldc_w 357, 3) := kq_19 byq_r (a := 1) (b := 101) (by decide +kernel)
theorem d_Mod_errand_68 : decode b_Mod_errand 68 = .ok (.istore_n 3, 1) := kq_62 byq_r (by decide +kernel)
theorem d_Mod_errand_69 : decode b_Mod_errand 69 = .ok (.iconst 0, 1) := kq_3 byq_r (by decide +kernel)
theorem d_Mod_errand_70 : decode b_Mod_errand 70 = .ok (.istore 4, 2) := kq_54 byq_r (by decide +kernel)
theorem d_Mod_errand_72 : decode b_Mod_errand 72 = .ok (.iconst 0, 1) := kq_3 byq_r (by decide +kernel)
theorem d_Mod_errand_73 : decode b_Mod_errand 73 = .ok (.istore 5, 2) := kq_54 byq_r (by decide +kernel)
theorem d_Mod_errand_75 : decode b_Mod_errand 75 = .ok (.iconst 0, 1) := kq_3 byq_r (by decide +kernel)
theorem d_Mod_errand_76 : decode b_Mod_errand 76 = .ok (.istore 6, 2) := kq_54 byq_r (by decide +kernel)
theorem d_Mod_errand_78 : decode b_Mod_errand 78 = .ok (.iconst 0, 1) := kq_3 byq_r (by decide +kernel)
theorem d_Mod_errand_79 : decode b_Mod_errand 79 = .ok (.istore 7, 2) := kq_54 byq_r (by decide +kernel)
theorem d_Mod_errand_81 : decode b_Mod_errand 81 = .ok (.iload 7, 2) := kq_21 byq_r (by decide +kernel)
theorem d_Mod_errand_83 : decode b_Mod_errand 83 = .ok (.aload_n 0, 1) := kq_42 byq_r (by decide +kernel)
theorem d_Mod_errand_84 : decode b_Mod_errand 84 = .ok (.getfield 123, 3) := kq_180 byq_r (a := 0) (b := 123) (by decide +kernel)
theorem d_Mod_errand_87 : decode b_Mod_errand 87 = .ok (.if_icmp .ge 242, 3) := kq_162 byq_r (a := 0) (b := 242) (by decide +kernel)
theorem d_Mod_errand_90 : decode b_Mod_errand 90 = .ok (.aload_n 0, 1) := kq_42 byq_r (by decide +kernel)
theorem d_Mod_errand_91 : decode b_Mod_errand 91 = .ok (.getfield 130, 3) := kq_180 byq_r (a := 0) (b := 130) (by decide +kernel)
theorem d_Mod_errand_94 : decode b_Mod_errand 94 = .ok (.iload 7, 2) := kq_21 byq_r (by decide +kernel)
theorem d_Mod_errand_96 : decode b_Mod_errand 96 = .ok (.invokestatic 133, 3) := kq_184 byq_r (a := 0) (b := 133) (by decide +kernel)
theorem d_Mod_errand_99 : decode b_Mod_errand 99 = .ok (.ifCond .ne 224, 3) := kq_154 byq_r (a := 0) (b := 224) (by decide +kernel)
theorem d_Mod_errand_102 : decode b_Mod_errand 102 = .ok (.aload_n 0, 1) := kq_42 byq_r (by decide +kernel)
theorem d_Mod_errand_103 : decode b_Mod_errand 103 = .ok (.getfield 76, 3) := kq_180 byq_r (a := 0) (b := 76) (by decide +kernel)
theorem d_Mod_errand_106 : decode b_Mod_errand 106 = .ok (.aload_n 0, 1) := kq_42 byq_r (by decide +kernel)
theorem d_Mod_errand_107 : decode b_Mod_errand 107 = .ok (.getfield 9, 3) := kq_180 byq_r (a := 0) (b := 9) (by decide +kernel)
theorem d_Mod_errand_110 : decode b_Mod_errand 110 = .ok (.iload 7, 2) := kq_21 byq_r (by decide +kernel)
theorem d_Mod_errand_112 : decode b_Mod_errand 112 = .ok (.iaload, 1) := kq_46 byq_r (by decide +kernel)
theorem d_Mod_errand_113 : decode b_Mod_errand 113 = .ok (.iaload, 1) := kq_46 byq_r (by decide +kernel)
theorem d_Mod_errand_114 : decode b_Mod_errand 114 = .ok (.ldc_w 357, 3) := kq_19 byq_r (a := 1) (b := 101) (by decide +kernel)
theorem d_Mod_errand_117 : decode b_Mod_errand 117 = .ok (.if_icmp .lt 6, 3) := kq_161 byq_r (a := 0) (b := 6) (by decide +kernel)
theorem d_Mod_errand_120 : decode b_Mod_errand 120 = .ok (.goto 203, 3) := kq_167 byq_r (a := 0) (b := 203) (by decide +kernel)
theorem d_Mod_errand_123 : decode b_Mod_errand 123 = .ok (.iconst 0, 1) := kq_3 byq_r (by decide +kernel)
theorem d_Mod_errand_124 : decode b_Mod_errand 124 = .ok (.istore 8, 2) := kq_54 byq_r (by decide +kernel)
theorem d_Mod_errand_126 : decode b_Mod_errand 126 = .ok (.iload 8, 2) := kq_21 byq_r (by decide +kernel)
theorem d_Mod_errand_128 : decode b_Mod_errand 128 = .ok (.aload_n 0, 1) := kq_42 byq_r (by decide +kernel)
theorem d_Mod_errand_129 : decode b_Mod_errand 129 = .ok (.getfield 123, 3) := kq_180 byq_r (a := 0) (b := 123) (by decide +kernel)
theorem d_Mod_errand_132 : decode b_Mod_errand 132 = .ok (.if_icmp .ge 191, 3) := kq_162 byq_r (a := 0) (b := 191) (by decide +kernel)
theorem d_Mod_errand_135 : decode b_Mod_errand 135 = .ok (.aload_n 0, 1) := kq_42 byq_r (by decide +kernel)
theorem d_Mod_errand_136 : decode b_Mod_errand 136 = .ok (.getfield 130, 3) := kq_180 byq_r (a := 0) (b := 130) (by decide +kernel)
theorem d_Mod_errand_139 : decode b_Mod_errand 139 = .ok (.iload 8, 2) := kq_21 byq_r (by decide +kernel)
theorem d_Mod_errand_141 : decode b_Mod_errand 141 = .ok (.invokestatic 133, 3) := kq_184 byq_r (a := 0) (b := 133) (by decide +kernel)
theorem d_Mod_errand_144 : decode b_Mod_errand 144 = .ok (.ifCond .eq 173, 3) := kq_153 byq_r (a := 0) (b := 173) (by decide +kernel)
theorem d_Mod_errand_147 : decode b_Mod_errand 147 = .ok (.aload_n 0, 1) := kq_42 byq_r (by decide +kernel)
theorem d_Mod_errand_148 : decode b_Mod_errand 148 = .ok (.getfield 9, 3) := kq_180 byq_r (a := 0) (b := 9) (by decide +kernel)
theorem d_Mod_errand_151 : decode b_Mod_errand 151 = .ok (.iload 8, 2) := kq_21 byq_r (by decide +kernel)
theorem d_Mod_errand_153 : decode b_Mod_errand 153 = .ok (.iaload, 1) := kq_46 byq_r (by decide +kernel)
theorem d_Mod_errand_154 : decode b_Mod_errand 154 = .ok (.invokestatic 143, 3) := kq_184 byq_r (a := 0) (b := 143) (by decide +kernel)
theorem d_Mod_errand_157 : decode b_Mod_errand 157 = .ok (.ifCond .ne 6, 3) := kq_154 byq_r (a := 0) (b := 6) (by decide +kernel)
theorem d_Mod_errand_160 : decode b_Mod_errand 160 = .ok (.goto 157, 3) := kq_167 byq_r (a := 0) (b := 157) (by decide +kernel)
theorem d_Mod_errand_163 : decode b_Mod_errand 163 = .ok (.aload_n 0, 1) := kq_42 byq_r (by decide +kernel)
theorem d_Mod_errand_164 : decode b_Mod_errand 164 = .ok (.aload_n 0, 1) := kq_42 byq_r (by decide +kernel)
theorem d_Mod_errand_165 : decode b_Mod_errand 165 = .ok (.getfield 9, 3) := kq_180 byq_r (a := 0) (b := 9) (by decide +kernel)
theorem d_Mod_errand_168 : decode b_Mod_errand 168 = .ok (.iload 8, 2) := kq_21 byq_r (by decide +kernel)
theorem d_Mod_errand_170 : decode b_Mod_errand 170 = .ok (.iaload, 1) := kq_46 byq_r (by decide +kernel)
theorem d_Mod_errand_171 : decode b_Mod_errand 171 = .ok (.invokevirtual 365, 3) := kq_182 byq_r (a := 1) (b := 109) (by decide +kernel)
theorem d_Mod_errand_174 : decode b_Mod_errand 174 = .ok (.iconst 0, 1) := kq_3 byq_r (by decide +kernel)
theorem d_Mod_errand_175 : decode b_Mod_errand 175 = .ok (.istore 9, 2) := kq_54 byq_r (by decide +kernel)
theorem d_Mod_errand_177 : decode b_Mod_errand 177 = .ok (.iload 9, 2) := kq_21 byq_r (by decide +kernel)
theorem d_Mod_errand_179 : decode b_Mod_errand 179 = .ok (.aload_n 0, 1) := kq_42 byq_r (by decide +kernel)
theorem d_Mod_errand_180 : decode b_Mod_errand 180 = .ok (.invokevirtual 115, 3) := kq_182 byq_r (a := 0) (b := 115) (by decide +kernel)
theorem d_Mod_errand_183 : decode b_Mod_errand 183 = .ok (.if_icmp .ge 134, 3) := kq_162 byq_r (a := 0) (b := 134) (by decide +kernel)
theorem d_Mod_errand_186 : decode b_Mod_errand 186 = .ok (.iconst 1, 1) := kq_4 byq_r (by decide +kernel)
theorem d_Mod_errand_187 : decode b_Mod_errand 187 = .ok (.iload 9, 2) := kq_21 byq_r (by decide +kernel)
theorem d_Mod_errand_189 : decode b_Mod_errand 189 = .ok (.invokestatic 154, 3) := kq_184 byq_r (a := 0) (b := 154) (by decide +kernel)
theorem d_Mod_errand_192 : decode b_Mod_errand 192 = .ok (.istore 10, 2) := kq_54 byq_r (by decide +kernel)
theorem d_Mod_errand_194 : decode b_Mod_errand 194 = .ok (.aload_n 0, 1) := kq_42 byq_r (by decide +kernel)
theorem d_Mod_errand_195 : decode b_Mod_errand 195 = .ok (.getfield 13, 3) := kq_180 byq_r (a := 0) (b := 13) (by decide +kernel)
theorem d_Mod_errand_198 : decode b_Mod_errand 198 = .ok (.iload 9, 2) := kq_21 byq_r (by decide +kernel)
theorem d_Mod_errand_200 : decode b_Mod_errand 200 = .ok (.iaload, 1) := kq_46 byq_r (by decide +kernel)
theorem d_Mod_errand_201 : decode b_Mod_errand 201 = .ok (.iconst 3, 1) := kq_6 byq_r (by decide +kernel)
theorem d_Mod_errand_202 : decode b_Mod_errand 202 = .ok (.if_icmp .ne 109, 3) := kq_160 byq_r (a := 0) (b := 109) (by decide +kernel)
theorem d_Mod_errand_205 : decode b_Mod_errand 205 = .ok (.aload_n 0, 1) := kq_42 byq_r (by decide +kernel)
theorem d_Mod_errand_206 : decode b_Mod_errand 206 = .ok (.getfield 76, 3) := kq_180 byq_r (a := 0) (b := 76) (by decide +kernel)
theorem d_Mod_errand_209 : decode b_Mod_errand 209 = .ok (.iload 9, 2) := kq_21 byq_r (by decide +kernel)
theorem d_Mod_errand_211 : decode b_Mod_errand 211 = .ok (.iaload, 1) := kq_46 byq_r (by decide +kernel)
theorem d_Mod_errand_212 : decode b_Mod_errand 212 = .ok (.ldc_w 357, 3) := kq_19 byq_r (a := 1) (b := 101) (by decide +kernel)
theorem d_Mod_errand_215 : decode b_Mod_errand 215 = .ok (.if_icmp .ge 96, 3) := kq_162 byq_r (a := 0) (b := 96) (by decide +kernel)
theorem d_Mod_errand_218 : decode b_Mod_errand 218 = .ok (.aload_n 0, 1) := kq_42 byq_r (by decide +kernel)
theorem d_Mod_errand_219 : decode b_Mod_errand 219 = .ok (.getfield 63, 3) := kq_180 byq_r (a := 0) (b := 63) (by decide +kernel)
theorem d_Mod_errand_222 : decode b_Mod_errand 222 = .ok (.iload 10, 2) := kq_21 byq_r (by decide +kernel)
theorem d_Mod_errand_224 : decode b_Mod_errand 224 = .ok (.iaload, 1) := kq_46 byq_r (by decide +kernel)
theorem d_Mod_errand_225 : decode b_Mod_errand 225 = .ok (.ldc_w 357, 3) := kq_19 byq_r (a := 1) (b := 101) (by decide +kernel)
theorem d_Mod_errand_228 : decode b_Mod_errand 228 = .ok (.if_icmp .ge 83, 3) := kq_162 byq_r (a := 0) (b := 83) (by decide +kernel)
theorem d_Mod_errand_231 : decode b_Mod_errand 231 = .ok (.aload_n 0, 1) := kq_42 byq_r (by decide +kernel)
theorem d_Mod_errand_232 : decode b_Mod_errand 232 = .ok (.getfield 79, 3) := kq_180 byq_r (a := 0) (b := 79) (by decide +kernel)
theorem d_Mod_errand_235 : decode b_Mod_errand 235 = .ok (.iload 10, 2) := kq_21 byq_r (by decide +kernel)
theorem d_Mod_errand_237 : decode b_Mod_errand 237 = .ok (.iaload, 1) := kq_46 byq_r (by decide +kernel)
theorem d_Mod_errand_238 : decode b_Mod_errand 238 = .ok (.ldc_w 357, 3) := kq_19 byq_r (a := 1) (b := 101) (by decide +kernel)
theorem d_Mod_errand_241 : decode b_Mod_errand 241 = .ok (.if_icmp .lt 6, 3) := kq_161 byq_r (a := 0) (b := 6) (by decide +kernel)
theorem d_Mod_errand_244 : decode b_Mod_errand 244 = .ok (.goto 67, 3) := kq_167 byq_r (a := 0) (b := 67) (by decide +kernel)
theorem d_Mod_errand_247 : decode b_Mod_errand 247 = .ok (.aload_n 0, 1) := kq_42 byq_r (by decide +kernel)
theorem d_Mod_errand_248 : decode b_Mod_errand 248 = .ok (.getfield 76, 3) := kq_180 byq_r (a := 0) (b := 76) (by decide +kernel)
theorem d_Mod_errand_251 : decode b_Mod_errand 251 = .ok (.aload_n 0, 1) := kq_42 byq_r (by decide +kernel)
theorem d_Mod_errand_252 : decode b_Mod_errand 252 = .ok (.getfield 9, 3) := kq_180 byq_r (a := 0) (b := 9) (by decide +kernel)
theorem d_Mod_errand_255 : decode b_Mod_errand 255 = .ok (.iload 7, 2) := kq_21 byq_r (by decide +kernel)
theorem d_Mod_errand_257 : decode b_Mod_errand 257 = .ok (.iaload, 1) := kq_46 byq_r (by decide +kernel)
theorem d_Mod_errand_258 : decode b_Mod_errand 258 = .ok (.iaload, 1) := kq_46 byq_r (by decide +kernel)
theorem d_Mod_errand_259 : decode b_Mod_errand 259 = .ok (.aload_n 0, 1) := kq_42 byq_r (by decide +kernel)
theorem d_Mod_errand_260 : decode b_Mod_errand 260 = .ok (.getfield 76, 3) := kq_180 byq_r (a := 0) (b := 76) (by decide +kernel)
theorem d_Mod_errand_263 : decode b_Mod_errand 263 = .ok (.iload 9, 2) := kq_21 byq_r (by decide +kernel)
theorem d_Mod_errand_265 : decode b_Mod_errand 265 = .ok (.iaload, 1) := kq_46 byq_r (by decide +kernel)
theorem d_Mod_errand_266 : decode b_Mod_errand 266 = .ok (.iadd, 1) := kq_96 byq_r (by decide +kernel)
theorem d_Mod_errand_267 : decode b_Mod_errand 267 = .ok (.aload_n 0, 1) := kq_42 byq_r (by decide +kernel)
theorem d_Mod_errand_268 : decode b_Mod_errand 268 = .ok (.getfield 63, 3) := kq_180 byq_r (a := 0) (b := 63) (by decide +kernel)
theorem d_Mod_errand_271 : decode b_Mod_errand 271 = .ok (.iload 10, 2) := kq_21 byq_r (by decide +kernel)
theorem d_Mod_errand_273 : decode b_Mod_errand 273 = .ok (.iaload, 1) := kq_46 byq_r (by decide +kernel)
theorem d_Mod_errand_274 : decode b_Mod_errand 274 = .ok (.invokestatic 304, 3) := kq_184 byq_r (a := 1) (b := 48) (by decide +kernel)
theorem d_Mod_errand_277 : decode b_Mod_errand 277 = .ok (.aload_n 0, 1) := kq_42 byq_r (by decide +kernel)
theorem d_Mod_errand_278 : decode b_Mod_errand 278 = .ok (.getfield 79, 3) := kq_180 byq_r (a := 0) (b := 79) (by decide +kernel)
theorem d_Mod_errand_281 : decode b_Mod_errand 281 = .ok (.iload 10, 2) := kq_21 byq_r (by decide +kernel)
theorem d_Mod_errand_283 : decode b_Mod_errand 283 = .ok (.iaload, 1) := kq_46 byq_r (by decide +kernel)
theorem d_Mod_errand_284 : decode b_Mod_errand 284 = .ok (.iadd, 1) := kq_96 byq_r (by decide +kernel)
theorem d_Mod_errand_285 : decode b_Mod_errand 285 = .ok (.istore 11, 2) := kq_54 byq_r (by decide +kernel)
theorem d_Mod_errand_287 : decode b_Mod_errand 287 = .ok (.iload 11, 2) := kq_21 byq_r (by decide +kernel)
theorem d_Mod_errand_289 : decode b_Mod_errand 289 = .ok (.iload_n 3, 1) := kq_29 byq_r (by decide +kernel)
theorem d_Mod_errand_290 : decode b_Mod_errand 290 = .ok (.if_icmp .lt 6, 3) := kq_161 byq_r (a := 0) (b := 6) (by decide +kernel)
theorem d_Mod_errand_293 : decode b_Mod_errand 293 = .ok (.goto 18, 3) := kq_167 byq_r (a := 0) (b := 18) (by decide +kernel)
theorem d_Mod_errand_296 : decode b_Mod_errand 296 = .ok (.iload 11, 2) := kq_21 byq_r (by decide +kernel)
theorem d_Mod_errand_298 : decode b_Mod_errand 298 = .ok (.istore_n 3, 1) := kq_62 byq_r (by decide +kernel)
theorem d_Mod_errand_299 : decode b_Mod_errand 299 = .ok (.iload 7, 2) := kq_21 byq_r (by decide +kernel)
theorem d_Mod_errand_301 : decode b_Mod_errand 301 = .ok (.istore 4, 2) := kq_54 byq_r (by decide +kernel)
theorem d_Mod_errand_303 : decode b_Mod_errand 303 = .ok (.iload 8, 2) := kq_21 byq_r (by decide +kernel)
theorem d_Mod_errand_305 : decode b_Mod_errand 305 = .ok (.istore 5, 2) := kq_54 byq_r (by decide +kernel)
theorem d_Mod_errand_307 : decode b_Mod_errand 307 = .ok (.iload 9, 2) := kq_21 byq_r (by decide +kernel)
theorem d_Mod_errand_309 : decode b_Mod_errand 309 = .ok (.istore 6, 2) := kq_54 byq_r (by decide +kernel)
theorem d_Mod_errand_311 : decode b_Mod_errand 311 = .ok (.iinc 9 1, 3) := kq_132 byq_r (b := 1) (by decide +kernel)
theorem d_Mod_errand_314 : decode b_Mod_errand 314 = .ok (.goto (-137), 3) := kq_167 byq_r (a := 255) (b := 119) (by decide +kernel)
theorem d_Mod_errand_317 : decode b_Mod_errand 317 = .ok (.iinc 8 1, 3) := kq_132 byq_r (b := 1) (by decide +kernel)
theorem d_Mod_errand_320 : decode b_Mod_errand 320 = .ok (.goto (-194), 3) := kq_167 byq_r (a := 255) (b := 62) (by decide +kernel)
theorem d_Mod_errand_323 : decode b_Mod_errand 323 = .ok (.iinc 7 1, 3) := kq_132 byq_r (b := 1) (by decide +kernel)
theorem d_Mod_errand_326 : decode b_Mod_errand 326 = .ok (.goto (-245), 3) := kq_167 byq_r (a := 255) (b := 11) (by decide +kernel)
theorem d_Mod_errand_329 : decode b_Mod_errand 329 = .ok (.iload_n 3, 1) := kq_29 byq_r (by decide +kernel)
theorem d_Mod_errand_330 : decode b_Mod_errand 330 = .ok (.ldc_w 357, 3) := kq_19 byq_r (a := 1) (b := 101) (by decide +kernel)
theorem d_Mod_errand_333 : decode b_Mod_errand 333 = .ok (.if_icmp .ne 6, 3) := kq_160 byq_r (a := 0) (b := 6) (by decide +kernel)
theorem d_Mod_errand_336 : decode b_Mod_errand 336 = .ok (.bipush (-2), 2) := kq_16 byq_r (b := 254) (by decide +kernel)
theorem d_Mod_errand_338 : decode b_Mod_errand 338 = .ok (.ireturn, 1) := kq_172 byq_r (by decide +kernel)
theorem d_Mod_errand_339 : decode b_Mod_errand 339 = .ok (.aload_n 0, 1) := kq_42 byq_r (by decide +kernel)
theorem d_Mod_errand_340 : decode b_Mod_errand 340 = .ok (.iconst 0, 1) := kq_3 byq_r (by decide +kernel)
theorem d_Mod_errand_341 : decode b_Mod_errand 341 = .ok (.putfield 112, 3) := kq_181 byq_r (a := 0) (b := 112) (by decide +kernel)
theorem d_Mod_errand_344 : decode b_Mod_errand 344 = .ok (.aload_n 0, 1) := kq_42 byq_r (by decide +kernel)
theorem d_Mod_errand_345 : decode b_Mod_errand 345 = .ok (.iload 4, 2) := kq_21 byq_r (by decide +kernel)
theorem d_Mod_errand_347 : decode b_Mod_errand 347 = .ok (.invokevirtual 342, 3) := kq_182 byq_r (a := 1) (b := 86) (by decide +kernel)
theorem d_Mod_errand_350 : decode b_Mod_errand 350 = .ok (.aload_n 0, 1) := kq_42 byq_r (by decide +kernel)
theorem d_Mod_errand_351 : decode b_Mod_errand 351 = .ok (.iload 5, 2) := kq_21 byq_r (by decide +kernel)
theorem d_Mod_errand_353 : decode b_Mod_errand 353 = .ok (.invokevirtual 342, 3) := kq_182 byq_r (a := 1) (b := 86) (by decide +kernel)
theorem d_Mod_errand_356 : decode b_Mod_errand 356 = .ok (.aload_n 0, 1) := kq_42 byq_r (by decide +kernel)
theorem d_Mod_errand_357 : decode b_Mod_errand 357 = .ok (.iload 6, 2) := kq_21 byq_r (by decide +kernel)
theorem d_Mod_errand_359 : decode b_Mod_errand 359 = .ok (.invokevirtual 342, 3) := kq_182 byq_r (a := 1) (b := 86) (by decide +kernel)
theorem d_Mod_errand_362 : decode b_Mod_errand 362 = .ok (.iload_n 3, 1) := kq_29 byq_r (by decide +kernel)
theorem d_Mod_errand_363 : decode b_Mod_errand 363 = .ok (.ireturn, 1) := kq_172 byq_r (by decide +kernel)
theorem d_Mod_findTryst_0 : decode b_Mod_findTryst 0 = .ok (.aload_n 0, 1) := kq_42 byq_r (by decide +kernel)
theorem d_Mod_findTryst_1 : decode b_Mod_findTryst 1 = .ok (.aload_n 0, 1) := kq_42 byq_r (by decide +kernel)
theorem d_Mod_findTryst_2 : decode b_Mod_findTryst 2 = .ok (.getfield 9, 3) := kq_180 byq_r (a := 0) (b := 9) (by decide +kernel)
theorem d_Mod_findTryst_5 : decode b_Mod_findTryst 5 = .ok (.iload_n 1, 1) := kq_27 byq_r (by decide +kernel)
theorem d_Mod_findTryst_6 : decode b_Mod_findTryst 6 = .ok (.iaload, 1) := kq_46 byq_r (by decide +kernel)
theorem d_Mod_findTryst_7 : decode b_Mod_findTryst 7 = .ok (.invokevirtual 365, 3) := kq_182 byq_r (a := 1) (b := 109) (by decide +kernel)
theorem d_Mod_findTryst_10 : decode b_Mod_findTryst 10 = .ok (.aload_n 0, 1) := kq_42 byq_r (by decide +kernel)
theorem d_Mod_findTryst_11 : decode b_Mod_findTryst 11 = .ok (.getfield 63, 3) := kq_180 byq_r (a := 0) (b := 63) (by decide +kernel)
theorem d_Mod_findTryst_14 : decode b_Mod_findTryst 14 = .ok (.aload_n 0, 1) := kq_42 byq_r (by decide +kernel)
theorem d_Mod_findTryst_15 : decode b_Mod_findTryst 15 = .ok (.getfield 82, 3) := kq_180 byq_r (a := 0) (b := 82) (by decide +kernel)
theorem d_Mod_findTryst_18 : decode b_Mod_findTryst 18 = .ok (.invokestatic 380, 3) := kq_184 byq_r (a := 1) (b := 124) (by decide +kernel)
theorem d_Mod_findTryst_21 : decode b_Mod_findTryst 21 = .ok (.aload_n 0, 1) := kq_42 byq_r (by decide +kernel)
theorem d_Mod_findTryst_22 : decode b_Mod_findTryst 22 = .ok (.aload_n 0, 1) := kq_42 byq_r (by decide +kernel)
theorem d_Mod_findTryst_23 : decode b_Mod_findTryst 23 = .ok (.getfield 9, 3) := kq_180 byq_r (a := 0) (b := 9) (by decide +kernel)
theorem d_Mod_findTryst_26 : decode b_Mod_findTryst 26 = .ok (.iload_n 2, 1) := kq_28 byq_r (by decide +kernel)
theorem d_Mod_findTryst_27 : decode b_Mod_findTryst 27 = .ok (.iaload, 1) := kq_46 byq_r (by decide +kernel)
theorem d_Mod_findTryst_28 : decode b_Mod_findTryst 28 = .ok (.invokevirtual 365, 3) := kq_182 byq_r (a := 1) (b := 109) (by decide +kernel)
theorem d_Mod_findTryst_31 : decode b_Mod_findTryst 31 = .ok (.ldc_w 357, 3) := kq_19 byq_r (a := 1) (b := 101) (by decide +kernel)
theorem d_Mod_findTryst_34 : decode b_Mod_findTryst 34 = .ok (.istore_n 3, 1) := kq_62 byq_r (by decide +kernel)
theorem d_Mod_findTryst_35 : decode b_Mod_findTryst 35 = .ok (.iconst 0, 1) := kq_3 byq_r (by decide +kernel)
theorem d_Mod_findTryst_36 : decode b_Mod_findTryst 36 = .ok (.istore 4, 2) := kq_54 byq_r (by decide +kernel)
theorem d_Mod_findTryst_38 : decode b_Mod_findTryst 38 = .ok (.iload 4, 2) := kq_21 byq_r (by decide +kernel)
theorem d_Mod_findTryst_40 : decode b_Mod_findTryst 40 = .ok (.aload_n 0, 1) := kq_42 byq_r (by decide +kernel)
theorem d_Mod_findTryst_41 : decode b_Mod_findTryst 41 = .ok (.invokevirtual 115, 3) := kq_182 byq_r (a := 0) (b := 115) (by decide +kernel)
theorem d_Mod_findTryst_44 : decode b_Mod_findTryst 44 = .ok (.if_icmp .ge 84, 3) := kq_162 byq_r (a := 0) (b := 84) (by decide +kernel)
theorem d_Mod_findTryst_47 : decode b_Mod_findTryst 47 = .ok (.aload_n 0, 1) := kq_42 byq_r (by decide +kernel)
theorem d_Mod_findTryst_48 : decode b_Mod_findTryst 48 = .ok (.getfield 13, 3) := kq_180 byq_r (a := 0) (b := 13) (by decide +kernel)
theorem d_Mod_findTryst_51 : decode b_Mod_findTryst 51 = .ok (.iload 4, 2) := kq_21 byq_r (by decide +kernel)
theorem d_Mod_findTryst_53 : decode b_Mod_findTryst 53 = .ok (.iaload, 1) := kq_46 byq_r (by decide +kernel)
theorem d_Mod_findTryst_54 : decode b_Mod_findTryst 54 = .ok (.iconst 3, 1) := kq_6 byq_r (by decide +kernel)
theorem d_Mod_findTryst_55 : decode b_Mod_findTryst 55 = .ok (.if_icmp .eq 6, 3) := kq_159 byq_r (a := 0) (b := 6) (by decide +kernel)
theorem d_Mod_findTryst_58 : decode b_Mod_findTryst 58 = .ok (.goto 64, 3) := kq_167 byq_r (a := 0) (b := 64) (by decide +kernel)
theorem d_Mod_findTryst_61 : decode b_Mod_findTryst 61 = .ok (.aload_n 0, 1) := kq_42 byq_r (by decide +kernel)
theorem d_Mod_findTryst_62 : decode b_Mod_findTryst 62 = .ok (.getfield 82, 3) := kq_180 byq_r (a := 0) (b := 82) (by decide +kernel)
theorem d_Mod_findTryst_65 : decode b_Mod_findTryst 65 = .ok (.aload_n 0, 1) := kq_42 byq_r (by decide +kernel)
theorem d_Mod_findTryst_66 : decode b_Mod_findTryst 66 = .ok (.getfield 9, 3) := kq_180 byq_r (a := 0) (b := 9) (by decide +kernel)
theorem d_Mod_findTryst_69 : decode b_Mod_findTryst 69 = .ok (.iload_n 1, 1) := kq_27 byq_r (by decide +kernel)
theorem d_Mod_findTryst_70 : decode b_Mod_findTryst 70 = .ok (.iaload, 1) := kq_46 byq_r (by decide +kernel)
theorem d_Mod_findTryst_71 : decode b_Mod_findTryst 71 = .ok (.invokestatic 143, 3) := kq_184 byq_r (a := 0) (b := 143) (by decide +kernel)
theorem d_Mod_findTryst_74 : decode b_Mod_findTryst 74 = .ok (.iload 4, 2) := kq_21 byq_r (by decide +kernel)
theorem d_Mod_findTryst_76 : decode b_Mod_findTryst 76 = .ok (.invokestatic 154, 3) := kq_184 byq_r (a := 0) (b := 154) (by decide +kernel)
theorem d_Mod_findTryst_79 : decode b_Mod_findTryst 79 = .ok (.iaload, 1) := kq_46 byq_r (by decide +kernel)
theorem d_Mod_findTryst_80 : decode b_Mod_findTryst 80 = .ok (.aload_n 0, 1) := kq_42 byq_r (by decide +kernel)
theorem d_Mod_findTryst_81 : decode b_Mod_findTryst 81 = .ok (.getfield 63, 3) := kq_180 byq_r (a := 0) (b := 63) (by decide +kernel)
theorem d_Mod_findTryst_84 : decode b_Mod_findTryst 84 = .ok (.aload_n 0, 1) := kq_42 byq_r (by decide +kernel)
theorem d_Mod_findTryst_85 : decode b_Mod_findTryst 85 = .ok (.getfield 9, 3) := kq_180 byq_r (a := 0) (b := 9) (by decide +kernel)
theorem d_Mod_findTryst_88 : decode b_Mod_findTryst 88 = .ok (.iload_n 2, 1) := kq_28 byq_r (by decide +kernel)
theorem d_Mod_findTryst_89 : decode b_Mod_findTryst 89 = .ok (.iaload, 1) := kq_46 byq_r (by decide +kernel)
theorem d_Mod_findTryst_90 : decode b_Mod_findTryst 90 = .ok (.invokestatic 143, 3) := kq_184 byq_r (a := 0) (b := 143) (by decide +kernel)
theorem d_Mod_findTryst_93 : decode b_Mod_findTryst 93 = .ok (.iload 4, 2) := kq_21 byq_r (by decide +kernel)
theorem d_Mod_findTryst_95 : decode b_Mod_findTryst 95 = .ok (.invokestatic 154, 3) := kq_184 byq_r (a := 0) (b := 154) (by decide +kernel)
theorem d_Mod_findTryst_98 : decode b_Mod_findTryst 98 = .ok (.iaload, 1) := kq_46 byq_r (by decide +kernel)
theorem d_Mod_findTryst_99 : decode b_Mod_findTryst 99 = .ok (.invokestatic 304, 3) := kq_184 byq_r (a := 1) (b := 48) (by decide +kernel)
theorem d_Mod_findTryst_102 : decode b_Mod_findTryst 102 = .ok (.istore 5, 2) := kq_54 byq_r (by decide +kernel)
theorem d_Mod_findTryst_104 : decode b_Mod_findTryst 104 = .ok (.iload 5, 2) := kq_21 byq_r (by decide +kernel)
theorem d_Mod_findTryst_106 : decode b_Mod_findTryst 106 = .ok (.iload_n 3, 1) := kq_29 byq_r (by decide +kernel)
theorem d_Mod_findTryst_107 : decode b_Mod_findTryst 107 = .ok (.if_icmp .lt 6, 3) := kq_161 byq_r (a := 0) (b := 6) (by decide +kernel)
theorem d_Mod_findTryst_110 : decode b_Mod_findTryst 110 = .ok (.goto 12, 3) := kq_167 byq_r (a := 0) (b := 12) (by decide +kernel)
theorem d_Mod_findTryst_113 : decode b_Mod_findTryst 113 = .ok (.iload 5, 2) := kq_21 byq_r (by decide +kernel)
theorem d_Mod_findTryst_115 : decode b_Mod_findTryst 115 = .ok (.istore_n 3, 1) := kq_62 byq_r (by decide +kernel)
theorem d_Mod_findTryst_116 : decode b_Mod_findTryst 116 = .ok (.aload_n 0, 1) := kq_42 byq_r (by decide +kernel)
theorem d_Mod_findTryst_117 : decode b_Mod_findTryst 117 = .ok (.iload 4, 2) := kq_21 byq_r (by decide +kernel)
theorem d_Mod_findTryst_119 : decode b_Mod_findTryst 119 = .ok (.putfield 384, 3) := kq_181 byq_r (a := 1) (b := 128) (by decide +kernel)
theorem d_Mod_findTryst_122 : decode b_Mod_findTryst 122 = .ok (.iinc 4 1, 3) := kq_132 byq_r (b := 1) (by decide +kernel)
theorem d_Mod_findTryst_125 : decode b_Mod_findTryst 125 = .ok (.goto (-87), 3) := kq_167 byq_r (a := 255) (b := 169) (by decide +kernel)
theorem d_Mod_findTryst_128 : decode b_Mod_findTryst 128 = .ok (.iload_n 3, 1) := kq_29 byq_r (by decide +kernel)
theorem d_Mod_findTryst_129 : decode b_Mod_findTryst 129 = .ok (.ireturn, 1) := kq_172 byq_r (by decide +kernel)
def lb_Mod_pieces_26 (v1 : Int32) (v2 : Int32) (v3 : Int32) (v4 : Int32) (s : Int32 × Mem) : Option ((Int32 × Mem) ⊕ ((Mem))) :=
  if (36 : Int32) ≤ s.1 then
  some (.inr s.2)
  else
  if inb s.1 36 = true then
  mem_ (s_i s.2 179 s.1.toNatClampNeg (vp_nar .boolean (0 : Int32))) fun M3 =>
  some (.inl ((s.1 + (1 : Int32)), M3))
  else none
theorem lb_Mod_pieces_26_ok {E : Ev} {G : Gw} {d : Nat} {post : Int32 → Mem → Prop} (X : Cx E G b_Mod_pieces "WomenByTheRoofsModel" 7 d (some .int)) (hD : 7 ≤ d)  (v1 : Int32) (v2 : Int32) (v3 : Int32) (v4 : Int32)   (s : Int32 × Mem) (o : (Int32 × Mem) ⊕ ((Mem))) (h : lb_Mod_pieces_26 v1 v2 v3 v4 s = some o) (kc : ∀ s9 : Int32 × Mem, o = .inl s9 → V E (0, 0) G 7 (QI E G post) s9.2 26 [(0, .ref (G.2.2 + 162)), (1, .int v1), (2, .int v2), (3, .int v3), (4, .int v4), (5, .int s9.1)] []) (kx0 : ∀ x9 : Mem, o = .inr x9 → V E (0, 0) G 7 (QI E G post) x9 47 [(0, .ref (G.2.2 + 162)), (1, .int v1), (2, .int v2), (3, .int v3), (4, .int v4)] []) : V E (0, 0) G 7 (QI E G post) s.2 26 [(0, .ref (G.2.2 + 162)), (1, .int v1), (2, .int v2), (3, .int v3), (4, .int v4), (5, .int s.1)] [] := by
  unfold lb_Mod_pieces_26 at h
  refine V_iload (n := 5) X d_Mod_pieces_26 rfl rfl ?_
  refine V_bipush (v := 36) X d_Mod_pieces_28 (by decide) rfl ?_
  refine V_icmp_ge (tgt := 47) X d_Mod_pieces_30 (by decide) rfl (fun c4 => ?_) (fun c4 => ?_)
  · rw [if_pos c4] at h
    refine V_sub (lv' := [(0, .ref (G.2.2 + 162)), (1, .int v1), (2, .int v2), (3, .int v3), (4, .int v4)]) [0, 1, 2, 3, 4] rfl ?_
    exact kx0 s.2 (Option.some.inj h).symm
  · rw [if_neg c4] at h
    refine V_aload_n (n := 0) X d_Mod_pieces_33 rfl rfl rfl ?_
    refine V_getr (k2 := 179) X fo_Mod_69 kd_162 rfl rf_162_37 d_Mod_pieces_34 rfl ?_
    refine V_iload (n := 5) X d_Mod_pieces_37 rfl rfl ?_
    refine V_iconst (v := 0) X d_Mod_pieces_39 (by decide) rfl ?_
    obtain ⟨hb, h⟩ := ifn h
    obtain ⟨M3, eM3, h⟩ := memS h
    refine V_zast X kd_179 (inb_in ln_179 hb) d_Mod_pieces_40 rfl ?_
    rw [← eM3]
    refine V_iinc (n := 5) (v := (s.1 + (1 : Int32))) (lv' := [(5, .int (s.1 + (1 : Int32))), (0, .ref (G.2.2 + 162)), (1, .int v1), (2, .int v2), (3, .int v3), (4, .int v4)]) X d_Mod_pieces_41 rfl rfl (by decide) rfl rfl ?_
    refine V_goto (pc' := 26) X d_Mod_pieces_44 (by decide) ?_
    refine V_sub (lv' := [(0, .ref (G.2.2 + 162)), (1, .int v1), (2, .int v2), (3, .int v3), (4, .int v4), (5, .int (s.1 + (1 : Int32)))]) [1, 2, 3, 4, 5, 0] rfl ?_
    exact kc ((s.1 + (1 : Int32)), M3) (Option.some.inj h).symm
theorem lp_Mod_pieces_26_ok {E : Ev} {G : Gw} {d : Nat} {post : Int32 → Mem → Prop} (X : Cx E G b_Mod_pieces "WomenByTheRoofsModel" 7 d (some .int)) (hD : 7 ≤ d)  (v1 : Int32) (v2 : Int32) (v3 : Int32) (v4 : Int32)   (n9 : Nat) (s : Int32 × Mem) (x : (Mem)) (h : iter (lb_Mod_pieces_26 v1 v2 v3 v4) n9 s = some x) (kx0 : ∀ x9 : Mem, x = x9 → V E (0, 0) G 7 (QI E G post) x9 47 [(0, .ref (G.2.2 + 162)), (1, .int v1), (2, .int v2), (3, .int v3), (4, .int v4)] []) : V E (0, 0) G 7 (QI E G post) s.2 26 [(0, .ref (G.2.2 + 162)), (1, .int v1), (2, .int v2), (3, .int v3), (4, .int v4), (5, .int s.1)] [] :=
  iter_P (P := fun s : Int32 × Mem => V E (0, 0) G 7 (QI E G post) s.2 26 [(0, .ref (G.2.2 + 162)), (1, .int v1), (2, .int v2), (3, .int v3), (4, .int v4), (5, .int s.1)] []) (fun s o hb kc ky => lb_Mod_pieces_26_ok X hD v1 v2 v3 v4 s o hb kc (fun x9 e9 => kx0 x9 (ky _ e9).symm)) n9 s h
def lb_Mod_pieces_98 (v1 : Int32) (v2 : Int32) (v3 : Int32) (v4 : Int32) (v5 : Int32) (s : Int32 × Mem) : Option ((Int32 × Mem) ⊕ ((Mem))) :=
  if (36 : Int32) ≤ s.1 then
  some (.inr s.2)
  else
  if inb s.1 36 = true then
  Option.bind (f_Mod_placeOf v1 s.1) fun x10 =>
  if inb x10 72 = true then
  if (1000000 : Int32) ≤ (s.2.1 177 x10.toNatClampNeg) then
  if inb s.1 36 = true then
  mem_ (s_i s.2 179 s.1.toNatClampNeg (vp_nar .boolean ((s.2.1 179 s.1.toNatClampNeg) ||| (0 : Int32)))) fun M11 =>
  some (.inl ((s.1 + (1 : Int32)), M11))
  else none
  else
  if inb s.1 36 = true then
  mem_ (s_i s.2 179 s.1.toNatClampNeg (vp_nar .boolean ((s.2.1 179 s.1.toNatClampNeg) ||| (1 : Int32)))) fun M12 =>
  some (.inl ((s.1 + (1 : Int32)), M12))
  else none
  else none
  else none
theorem lb_Mod_pieces_98_ok {E : Ev} {G : Gw} {d : Nat} {post : Int32 → Mem → Prop} (X : Cx E G b_Mod_pieces "WomenByTheRoofsModel" 7 d (some .int)) (hD : 7 ≤ d)  (v1 : Int32) (v2 : Int32) (v3 : Int32) (v4 : Int32) (v5 : Int32)   (s : Int32 × Mem) (o : (Int32 × Mem) ⊕ ((Mem))) (h : lb_Mod_pieces_98 v1 v2 v3 v4 v5 s = some o) (kc : ∀ s9 : Int32 × Mem, o = .inl s9 → V E (0, 0) G 7 (QI E G post) s9.2 98 [(0, .ref (G.2.2 + 162)), (1, .int v1), (2, .int v2), (3, .int v3), (4, .int v4), (5, .int v5), (6, .int s9.1)] []) (kx0 : ∀ x9 : Mem, o = .inr x9 → V E (0, 0) G 7 (QI E G post) x9 143 [(0, .ref (G.2.2 + 162)), (1, .int v1), (2, .int v2), (3, .int v3), (4, .int v4), (5, .int v5)] []) : V E (0, 0) G 7 (QI E G post) s.2 98 [(0, .ref (G.2.2 + 162)), (1, .int v1), (2, .int v2), (3, .int v3), (4, .int v4), (5, .int v5), (6, .int s.1)] [] := by
  unfold lb_Mod_pieces_98 at h
  refine V_iload (n := 6) X d_Mod_pieces_98 rfl rfl ?_
  refine V_bipush (v := 36) X d_Mod_pieces_100 (by decide) rfl ?_
  refine V_icmp_ge (tgt := 143) X d_Mod_pieces_102 (by decide) rfl (fun c14 => ?_) (fun c14 => ?_)
  · rw [if_pos c14] at h
    refine V_sub (lv' := [(0, .ref (G.2.2 + 162)), (1, .int v1), (2, .int v2), (3, .int v3), (4, .int v4), (5, .int v5)]) [0, 1, 2, 3, 4, 5] rfl ?_
    exact kx0 s.2 (Option.some.inj h).symm
  · rw [if_neg c14] at h
    refine V_aload_n (n := 0) X d_Mod_pieces_105 rfl rfl rfl ?_
    refine V_getr (k2 := 179) X fo_Mod_69 kd_162 rfl rf_162_37 d_Mod_pieces_106 rfl ?_
    refine V_iload (n := 6) X d_Mod_pieces_109 rfl rfl ?_
    refine V_dup2 X d_Mod_pieces_111 rfl rfl rfl ?_
    obtain ⟨hb, h⟩ := ifn h
    refine V_zald X kd_179 (inb_in ln_179 hb) d_Mod_pieces_112 rfl ?_
    refine V_aload_n (n := 0) X d_Mod_pieces_113 rfl rfl rfl ?_
    refine V_getr (k2 := 177) X fo_Mod_63 kd_162 rfl rf_162_35 d_Mod_pieces_114 rfl ?_
    refine V_iload_n (n := 1) X d_Mod_pieces_117 rfl rfl rfl ?_
    refine V_iload (n := 6) X d_Mod_pieces_118 rfl rfl ?_
    obtain ⟨x10, hx10, h⟩ := ob_s h
    refine V_si (As := [.int v1, .int s.1]) X (Z0 E) ml_Mod_154 yq_Mod_placeOf (c_Mod_placeOf E.2.1 G v1 s.1 s.2 x10 hx10 _ (Nat.le_refl _)) rfl (by omega) rfl (Nat.le_of_ble_eq_true rfl) d_Mod_pieces_120 rfl (fun r9 M9 hq => ?_)
    rw [hq.1, hq.2]
    obtain ⟨hb, h⟩ := ifn h
    refine V_iald X kd_177 (inb_in ln_177 hb) d_Mod_pieces_123 rfl ?_
    refine V_ldc_w (v := 1000000) X d_Mod_pieces_124 kc_Mod_357 rfl ?_
    refine V_icmp_ge (tgt := 134) X d_Mod_pieces_127 (by decide) rfl (fun c13 => ?_) (fun c13 => ?_)
    · rw [if_pos c13] at h
      refine V_iconst (v := 0) X d_Mod_pieces_134 (by decide) rfl ?_
      refine V_ior X d_Mod_pieces_135 rfl ?_
      obtain ⟨hb, h⟩ := ifn h
      obtain ⟨M11, eM11, h⟩ := memS h
      refine V_zast X kd_179 (inb_in ln_179 hb) d_Mod_pieces_136 rfl ?_
      rw [← eM11]
      refine V_iinc (n := 6) (v := (s.1 + (1 : Int32))) (lv' := [(6, .int (s.1 + (1 : Int32))), (0, .ref (G.2.2 + 162)), (1, .int v1), (2, .int v2), (3, .int v3), (4, .int v4), (5, .int v5)]) X d_Mod_pieces_137 rfl rfl (by decide) rfl rfl ?_
      refine V_goto (pc' := 98) X d_Mod_pieces_140 (by decide) ?_
      refine V_sub (lv' := [(0, .ref (G.2.2 + 162)), (1, .int v1), (2, .int v2), (3, .int v3), (4, .int v4), (5, .int v5), (6, .int (s.1 + (1 : Int32)))]) [1, 2, 3, 4, 5, 6, 0] rfl ?_
      exact kc ((s.1 + (1 : Int32)), M11) (Option.some.inj h).symm
    · rw [if_neg c13] at h
      refine V_iconst (v := 1) X d_Mod_pieces_130 (by decide) rfl ?_
      refine V_goto (pc' := 135) X d_Mod_pieces_131 (by decide) ?_
      refine V_ior X d_Mod_pieces_135 rfl ?_
      obtain ⟨hb, h⟩ := ifn h
      obtain ⟨M12, eM12, h⟩ := memS h
      refine V_zast X kd_179 (inb_in ln_179 hb) d_Mod_pieces_136 rfl ?_
      rw [← eM12]
      refine V_iinc (n := 6) (v := (s.1 + (1 : Int32))) (lv' := [(6, .int (s.1 + (1 : Int32))), (0, .ref (G.2.2 + 162)), (1, .int v1), (2, .int v2), (3, .int v3), (4, .int v4), (5, .int v5)]) X d_Mod_pieces_137 rfl rfl (by decide) rfl rfl ?_
      refine V_goto (pc' := 98) X d_Mod_pieces_140 (by decide) ?_
      refine V_sub (lv' := [(0, .ref (G.2.2 + 162)), (1, .int v1), (2, .int v2), (3, .int v3), (4, .int v4), (5, .int v5), (6, .int (s.1 + (1 : Int32)))]) [1, 2, 3, 4, 5, 6, 0] rfl ?_
      exact kc ((s.1 + (1 : Int32)), M12) (Option.some.inj h).symm
theorem lp_Mod_pieces_98_ok {E : Ev} {G : Gw} {d : Nat} {post : Int32 → Mem → Prop} (X : Cx E G b_Mod_pieces "WomenByTheRoofsModel" 7 d (some .int)) (hD : 7 ≤ d)  (v1 : Int32) (v2 : Int32) (v3 : Int32) (v4 : Int32) (v5 : Int32)   (n9 : Nat) (s : Int32 × Mem) (x : (Mem)) (h : iter (lb_Mod_pieces_98 v1 v2 v3 v4 v5) n9 s = some x) (kx0 : ∀ x9 : Mem, x = x9 → V E (0, 0) G 7 (QI E G post) x9 143 [(0, .ref (G.2.2 + 162)), (1, .int v1), (2, .int v2), (3, .int v3), (4, .int v4), (5, .int v5)] []) : V E (0, 0) G 7 (QI E G post) s.2 98 [(0, .ref (G.2.2 + 162)), (1, .int v1), (2, .int v2), (3, .int v3), (4, .int v4), (5, .int v5), (6, .int s.1)] [] :=
  iter_P (P := fun s : Int32 × Mem => V E (0, 0) G 7 (QI E G post) s.2 98 [(0, .ref (G.2.2 + 162)), (1, .int v1), (2, .int v2), (3, .int v3), (4, .int v4), (5, .int v5), (6, .int s.1)] []) (fun s o hb kc ky => lb_Mod_pieces_98_ok X hD v1 v2 v3 v4 v5 s o hb kc (fun x9 e9 => kx0 x9 (ky _ e9).symm)) n9 s h
def lb_Mod_pieces_50 (v1 : Int32) (s : Int32 × Int32 × Int32 × Int32 × Mem) : Option ((Int32 × Int32 × Int32 × Int32 × Mem) ⊕ ((Int32 × Int32 × Int32 × Mem))) :=
  Option.bind (f_Mod_cells s.2.2.2.2) fun x6 =>
  if x6 ≤ s.2.2.2.1 then
  some (.inr (s.1, s.2.1, s.2.2.1, s.2.2.2.2))
  else
  Option.bind (f_Mod_isOf v1 s.2.2.2.1 s.2.2.2.2) fun x7 =>
  if x7 = 0 then
  some (.inl (s.1, s.2.1, s.2.2.1, (s.2.2.2.1 + (1 : Int32)), s.2.2.2.2))
  else
  if inb s.2.2.2.1 36 = true then
  if (s.2.2.2.2.1 179 s.2.2.2.1.toNatClampNeg) = 0 then
  Option.bind (f_Mod_placeOf v1 s.2.2.2.1) fun x8 =>
  Option.bind (f_Mod_findFar x8 s.2.2.2.2) fun x9 =>
  Option.bind (iter (lb_Mod_pieces_98 v1 (s.1 + (1 : Int32)) s.2.1 s.2.2.1 s.2.2.2.1) FU ((0 : Int32), x9)) fun x15 =>
  Option.bind (f_Mod_reached v1 x15) fun x16 =>
  if s.2.1 < x16 then
  Option.bind (f_Mod_reached v1 x15) fun x17 =>
  some (.inl ((s.1 + (1 : Int32)), x17, s.2.2.2.1, (s.2.2.2.1 + (1 : Int32)), x15))
  else
  some (.inl ((s.1 + (1 : Int32)), s.2.1, s.2.2.1, (s.2.2.2.1 + (1 : Int32)), x15))
  else
  some (.inl (s.1, s.2.1, s.2.2.1, (s.2.2.2.1 + (1 : Int32)), s.2.2.2.2))
  else none
theorem lb_Mod_pieces_50_ok {E : Ev} {G : Gw} {d : Nat} {post : Int32 → Mem → Prop} (X : Cx E G b_Mod_pieces "WomenByTheRoofsModel" 7 d (some .int)) (hD : 7 ≤ d)  (v1 : Int32)   (s : Int32 × Int32 × Int32 × Int32 × Mem) (o : (Int32 × Int32 × Int32 × Int32 × Mem) ⊕ ((Int32 × Int32 × Int32 × Mem))) (h : lb_Mod_pieces_50 v1 s = some o) (kc : ∀ s9 : Int32 × Int32 × Int32 × Int32 × Mem, o = .inl s9 → V E (0, 0) G 7 (QI E G post) s9.2.2.2.2 50 [(0, .ref (G.2.2 + 162)), (1, .int v1), (2, .int s9.1), (3, .int s9.2.1), (4, .int s9.2.2.1), (5, .int s9.2.2.2.1)] []) (kx0 : ∀ x9 : Int32 × Int32 × Int32 × Mem, o = .inr x9 → V E (0, 0) G 7 (QI E G post) x9.2.2.2 171 [(0, .ref (G.2.2 + 162)), (2, .int x9.1), (3, .int x9.2.1), (4, .int x9.2.2.1)] []) : V E (0, 0) G 7 (QI E G post) s.2.2.2.2 50 [(0, .ref (G.2.2 + 162)), (1, .int v1), (2, .int s.1), (3, .int s.2.1), (4, .int s.2.2.1), (5, .int s.2.2.2.1)] [] := by
  unfold lb_Mod_pieces_50 at h
  refine V_iload (n := 5) X d_Mod_pieces_50 rfl rfl ?_
  refine V_aload_n (n := 0) X d_Mod_pieces_52 rfl rfl rfl ?_
  obtain ⟨x6, hx6, h⟩ := ob_s h
  refine V_ci (As := []) X (Z0 E) ml_Mod_115 yq_Mod_cells (c_Mod_cells E.2.1 G  s.2.2.2.2 x6 hx6 _ (Nat.le_refl _)) kd_162 rfl rfl (by omega) rfl (Nat.le_of_ble_eq_true rfl) d_Mod_pieces_53 rfl (fun r9 M9 hq => ?_)
  rw [hq.1, hq.2]
  refine V_icmp_ge (tgt := 171) X d_Mod_pieces_56 (by decide) rfl (fun c21 => ?_) (fun c21 => ?_)
  · rw [if_pos c21] at h
    refine V_sub (lv' := [(0, .ref (G.2.2 + 162)), (2, .int s.1), (3, .int s.2.1), (4, .int s.2.2.1)]) [0, 2, 3, 4] rfl ?_
    exact kx0 (s.1, s.2.1, s.2.2.1, s.2.2.2.2) (Option.some.inj h).symm
  · rw [if_neg c21] at h
    refine V_aload_n (n := 0) X d_Mod_pieces_59 rfl rfl rfl ?_
    refine V_iload_n (n := 1) X d_Mod_pieces_60 rfl rfl rfl ?_
    refine V_iload (n := 5) X d_Mod_pieces_61 rfl rfl ?_
    obtain ⟨x7, hx7, h⟩ := ob_s h
    refine V_ci (As := [.int v1, .int s.2.2.2.1]) X (Z0 E) ml_Mod_140 yq_Mod_isOf (c_Mod_isOf E.2.1 G v1 s.2.2.2.1 s.2.2.2.2 x7 hx7 _ (Nat.le_refl _)) kd_162 rfl rfl (by omega) rfl (Nat.le_of_ble_eq_true rfl) d_Mod_pieces_63 rfl (fun r9 M9 hq => ?_)
    rw [hq.1, hq.2]
    refine V_if_eq (tgt := 165) X d_Mod_pieces_66 (by decide) rfl (fun c20 => ?_) (fun c20 => ?_)
    · rw [if_pos c20] at h
      refine V_iinc (n := 5) (v := (s.2.2.2.1 + (1 : Int32))) (lv' := [(5, .int (s.2.2.2.1 + (1 : Int32))), (0, .ref (G.2.2 + 162)), (1, .int v1), (2, .int s.1), (3, .int s.2.1), (4, .int s.2.2.1)]) X d_Mod_pieces_165 rfl rfl (by decide) rfl rfl ?_
      refine V_goto (pc' := 50) X d_Mod_pieces_168 (by decide) ?_
      refine V_sub (lv' := [(0, .ref (G.2.2 + 162)), (1, .int v1), (2, .int s.1), (3, .int s.2.1), (4, .int s.2.2.1), (5, .int (s.2.2.2.1 + (1 : Int32)))]) [1, 2, 3, 4, 5, 0] rfl ?_
      exact kc (s.1, s.2.1, s.2.2.1, (s.2.2.2.1 + (1 : Int32)), s.2.2.2.2) (Option.some.inj h).symm
    · rw [if_neg c20] at h
      refine V_aload_n (n := 0) X d_Mod_pieces_69 rfl rfl rfl ?_
      refine V_getr (k2 := 179) X fo_Mod_69 kd_162 rfl rf_162_37 d_Mod_pieces_70 rfl ?_
      refine V_iload (n := 5) X d_Mod_pieces_73 rfl rfl ?_
      obtain ⟨hb, h⟩ := ifn h
      refine V_zald X kd_179 (inb_in ln_179 hb) d_Mod_pieces_75 rfl ?_
      refine V_if_eq (tgt := 82) X d_Mod_pieces_76 (by decide) rfl (fun c19 => ?_) (fun c19 => ?_)
      · rw [if_pos c19] at h
        refine V_aload_n (n := 0) X d_Mod_pieces_82 rfl rfl rfl ?_
        refine V_iload_n (n := 1) X d_Mod_pieces_83 rfl rfl rfl ?_
        refine V_iload (n := 5) X d_Mod_pieces_84 rfl rfl ?_
        obtain ⟨x8, hx8, h⟩ := ob_s h
        refine V_si (As := [.int v1, .int s.2.2.2.1]) X (Z0 E) ml_Mod_154 yq_Mod_placeOf (c_Mod_placeOf E.2.1 G v1 s.2.2.2.1 s.2.2.2.2 x8 hx8 _ (Nat.le_refl _)) rfl (by omega) rfl (Nat.le_of_ble_eq_true rfl) d_Mod_pieces_86 rfl (fun r9 M9 hq => ?_)
        rw [hq.1, hq.2]
        obtain ⟨x9, hx9, h⟩ := ob_s h
        refine V_cv (As := [.int x8]) X (Z0 E) ml_Mod_365 yq_Mod_findFar (c_Mod_findFar E.2.1 G x8 s.2.2.2.2 x9 hx9 _ (Nat.le_refl _)) kd_162 rfl rfl (by omega) rfl (Nat.le_of_ble_eq_true rfl) d_Mod_pieces_89 rfl (fun M9 hq => ?_)
        rw [hq]
        refine V_iinc (n := 2) (v := (s.1 + (1 : Int32))) (lv' := [(2, .int (s.1 + (1 : Int32))), (0, .ref (G.2.2 + 162)), (1, .int v1), (3, .int s.2.1), (4, .int s.2.2.1), (5, .int s.2.2.2.1)]) X d_Mod_pieces_92 rfl rfl (by decide) rfl rfl ?_
        refine V_iconst (v := 0) X d_Mod_pieces_95 (by decide) rfl ?_
        refine V_istore (lv' := [(6, .int (0 : Int32)), (2, .int (s.1 + (1 : Int32))), (0, .ref (G.2.2 + 162)), (1, .int v1), (3, .int s.2.1), (4, .int s.2.2.1), (5, .int s.2.2.2.1)]) X d_Mod_pieces_96 (by decide) rfl rfl ?_
        refine V_sub (lv' := [(0, .ref (G.2.2 + 162)), (1, .int v1), (2, .int (s.1 + (1 : Int32))), (3, .int s.2.1), (4, .int s.2.2.1), (5, .int s.2.2.2.1), (6, .int (0 : Int32))]) [2, 3, 1, 4, 5, 6, 0] rfl ?_
        obtain ⟨x15, hx15, h⟩ := ob_s h
        refine (lp_Mod_pieces_98_ok X hD v1 (s.1 + (1 : Int32)) s.2.1 s.2.2.1 s.2.2.2.1 _ _ _ hx15 (fun x9 e9 => ?_) :)
        subst e9
        refine V_aload_n (n := 0) X d_Mod_pieces_143 rfl rfl rfl ?_
        refine V_iload_n (n := 1) X d_Mod_pieces_144 rfl rfl rfl ?_
        obtain ⟨x16, hx16, h⟩ := ob_s h
        refine V_ci (As := [.int v1]) X (Z0 E) ml_Mod_368 yq_Mod_reached (c_Mod_reached E.2.1 G v1 x15 x16 hx16 _ (Nat.le_refl _)) kd_162 rfl rfl (by omega) rfl (Nat.le_of_ble_eq_true rfl) d_Mod_pieces_145 rfl (fun r9 M9 hq => ?_)
        rw [hq.1, hq.2]
        refine V_iload_n (n := 3) X d_Mod_pieces_148 rfl rfl rfl ?_
        refine V_icmp_gt (tgt := 155) X d_Mod_pieces_149 (by decide) rfl (fun c18 => ?_) (fun c18 => ?_)
        · rw [if_pos c18] at h
          refine V_aload_n (n := 0) X d_Mod_pieces_155 rfl rfl rfl ?_
          refine V_iload_n (n := 1) X d_Mod_pieces_156 rfl rfl rfl ?_
          obtain ⟨x17, hx17, h⟩ := ob_s h
          refine V_ci (As := [.int v1]) X (Z0 E) ml_Mod_368 yq_Mod_reached (c_Mod_reached E.2.1 G v1 x15 x17 hx17 _ (Nat.le_refl _)) kd_162 rfl rfl (by omega) rfl (Nat.le_of_ble_eq_true rfl) d_Mod_pieces_157 rfl (fun r9 M9 hq => ?_)
          rw [hq.1, hq.2]
          refine V_istore_n (lv' := [(3, .int x17), (0, .ref (G.2.2 + 162)), (1, .int v1), (2, .int (s.1 + (1 : Int32))), (4, .int s.2.2.1), (5, .int s.2.2.2.1)]) X d_Mod_pieces_160 rfl (by decide) rfl rfl ?_
          refine V_iload (n := 5) X d_Mod_pieces_161 rfl rfl ?_
          refine V_istore (lv' := [(4, .int s.2.2.2.1), (3, .int x17), (0, .ref (G.2.2 + 162)), (1, .int v1), (2, .int (s.1 + (1 : Int32))), (5, .int s.2.2.2.1)]) X d_Mod_pieces_163 (by decide) rfl rfl ?_
          refine V_iinc (n := 5) (v := (s.2.2.2.1 + (1 : Int32))) (lv' := [(5, .int (s.2.2.2.1 + (1 : Int32))), (4, .int s.2.2.2.1), (3, .int x17), (0, .ref (G.2.2 + 162)), (1, .int v1), (2, .int (s.1 + (1 : Int32)))]) X d_Mod_pieces_165 rfl rfl (by decide) rfl rfl ?_
          refine V_goto (pc' := 50) X d_Mod_pieces_168 (by decide) ?_
          refine V_sub (lv' := [(0, .ref (G.2.2 + 162)), (1, .int v1), (2, .int (s.1 + (1 : Int32))), (3, .int x17), (4, .int s.2.2.2.1), (5, .int (s.2.2.2.1 + (1 : Int32)))]) [3, 4, 5, 2, 1, 0] rfl ?_
          exact kc ((s.1 + (1 : Int32)), x17, s.2.2.2.1, (s.2.2.2.1 + (1 : Int32)), x15) (Option.some.inj h).symm
        · rw [if_neg c18] at h
          refine V_goto (pc' := 165) X d_Mod_pieces_152 (by decide) ?_
          refine V_iinc (n := 5) (v := (s.2.2.2.1 + (1 : Int32))) (lv' := [(5, .int (s.2.2.2.1 + (1 : Int32))), (0, .ref (G.2.2 + 162)), (1, .int v1), (2, .int (s.1 + (1 : Int32))), (3, .int s.2.1), (4, .int s.2.2.1)]) X d_Mod_pieces_165 rfl rfl (by decide) rfl rfl ?_
          refine V_goto (pc' := 50) X d_Mod_pieces_168 (by decide) ?_
          refine V_sub (lv' := [(0, .ref (G.2.2 + 162)), (1, .int v1), (2, .int (s.1 + (1 : Int32))), (3, .int s.2.1), (4, .int s.2.2.1), (5, .int (s.2.2.2.1 + (1 : Int32)))]) [1, 2, 3, 4, 5, 0] rfl ?_
          exact kc ((s.1 + (1 : Int32)), s.2.1, s.2.2.1, (s.2.2.2.1 + (1 : Int32)), x15) (Option.some.inj h).symm
      · rw [if_neg c19] at h
        refine V_goto (pc' := 165) X d_Mod_pieces_79 (by decide) ?_
        refine V_iinc (n := 5) (v := (s.2.2.2.1 + (1 : Int32))) (lv' := [(5, .int (s.2.2.2.1 + (1 : Int32))), (0, .ref (G.2.2 + 162)), (1, .int v1), (2, .int s.1), (3, .int s.2.1), (4, .int s.2.2.1)]) X d_Mod_pieces_165 rfl rfl (by decide) rfl rfl ?_
        refine V_goto (pc' := 50) X d_Mod_pieces_168 (by decide) ?_
        refine V_sub (lv' := [(0, .ref (G.2.2 + 162)), (1, .int v1), (2, .int s.1), (3, .int s.2.1), (4, .int s.2.2.1), (5, .int (s.2.2.2.1 + (1 : Int32)))]) [1, 2, 3, 4, 5, 0] rfl ?_
        exact kc (s.1, s.2.1, s.2.2.1, (s.2.2.2.1 + (1 : Int32)), s.2.2.2.2) (Option.some.inj h).symm
theorem lp_Mod_pieces_50_ok {E : Ev} {G : Gw} {d : Nat} {post : Int32 → Mem → Prop} (X : Cx E G b_Mod_pieces "WomenByTheRoofsModel" 7 d (some .int)) (hD : 7 ≤ d)  (v1 : Int32)   (n9 : Nat) (s : Int32 × Int32 × Int32 × Int32 × Mem) (x : (Int32 × Int32 × Int32 × Mem)) (h : iter (lb_Mod_pieces_50 v1) n9 s = some x) (kx0 : ∀ x9 : Int32 × Int32 × Int32 × Mem, x = x9 → V E (0, 0) G 7 (QI E G post) x9.2.2.2 171 [(0, .ref (G.2.2 + 162)), (2, .int x9.1), (3, .int x9.2.1), (4, .int x9.2.2.1)] []) : V E (0, 0) G 7 (QI E G post) s.2.2.2.2 50 [(0, .ref (G.2.2 + 162)), (1, .int v1), (2, .int s.1), (3, .int s.2.1), (4, .int s.2.2.1), (5, .int s.2.2.2.1)] [] :=
  iter_P (P := fun s : Int32 × Int32 × Int32 × Int32 × Mem => V E (0, 0) G 7 (QI E G post) s.2.2.2.2 50 [(0, .ref (G.2.2 + 162)), (1, .int v1), (2, .int s.1), (3, .int s.2.1), (4, .int s.2.2.1), (5, .int s.2.2.2.1)] []) (fun s o hb kc ky => lb_Mod_pieces_50_ok X hD v1 s o hb kc (fun x9 e9 => kx0 x9 (ky _ e9).symm)) n9 s h
def f_Mod_pieces (v1 : Int32) (M : Mem) : Option (Int32 × Mem) :=
  mem_ (s_i M 162 13 (0 : Int32)) fun M1 =>
  Option.bind (f_Mod_in v1 (0 : Int32) (1 : Int32)) fun x2 =>
  if x2 = 0 then
  some ((-1 : Int32), M1)
  else
  Option.bind (iter (lb_Mod_pieces_26 v1 (0 : Int32) (0 : Int32) (-1 : Int32)) FU ((0 : Int32), M1)) fun x5 =>
  Option.bind (iter (lb_Mod_pieces_50 v1) FU ((0 : Int32), (0 : Int32), (-1 : Int32), (0 : Int32), x5)) fun x22 =>
  mem_ (s_i x22.2.2.2 162 12 (0 : Int32)) fun M23 =>
  Option.bind (f_Mod_put x22.2.1 M23) fun x24 =>
  Option.bind (f_Mod_put x22.2.2.1 x24) fun x25 =>
  some (x22.1, x25)
theorem c_Mod_pieces (l : Launch) (G : Gw)  (v1 : Int32) (M : Mem) (x : Int32 × Mem) (h : f_Mod_pieces v1 M = some x) (d : Nat) (hD : 7 ≤ d) : Ci l G y_Mod_pieces b_Mod_pieces 7 (some .int) d [.ref (G.2.2 + 162), .int v1] M (fun r9 M9 => r9 = x.1 ∧ M9 = x.2) := by
  refine Ci_of (by decide) (Nat.le_of_ble_eq_true rfl) (fun E hE X => ?_)
  subst hE
  have kr : ∀ x9 : Int32 × Mem, x = x9 → (fun r9 M9 => r9 = x.1 ∧ M9 = x.2) x9.1 x9.2 := fun x9 e9 => by subst e9; exact ⟨rfl, rfl⟩
  unfold f_Mod_pieces at h
  refine V_aload_n (n := 0) X d_Mod_pieces_0 rfl rfl rfl ?_
  refine V_iconst (v := 0) X d_Mod_pieces_1 (by decide) rfl ?_
  obtain ⟨M1, eM1, h⟩ := memS h
  refine V_putI X fp_Mod_109 kd_162 rfl d_Mod_pieces_2 rfl ?_
  rw [← eM1]
  refine V_iload_n (n := 1) X d_Mod_pieces_5 rfl rfl rfl ?_
  refine V_iconst (v := 0) X d_Mod_pieces_6 (by decide) rfl ?_
  refine V_iconst (v := 1) X d_Mod_pieces_7 (by decide) rfl ?_
  obtain ⟨x2, hx2, h⟩ := ob_s h
  refine V_si (As := [.int v1, .int (0 : Int32), .int (1 : Int32)]) X (Z0 E) ml_Mod_119 yq_Mod_in (c_Mod_in E.2.1 G v1 (0 : Int32) (1 : Int32) M1 x2 hx2 _ (Nat.le_refl _)) rfl (by omega) rfl (Nat.le_of_ble_eq_true rfl) d_Mod_pieces_8 rfl (fun r9 M9 hq => ?_)
  rw [hq.1, hq.2]
  refine V_if_ne (tgt := 16) X d_Mod_pieces_11 (by decide) rfl (fun c26 => ?_) (fun c26 => ?_)
  · rw [if_neg c26] at h
    refine V_iconst (v := 0) X d_Mod_pieces_16 (by decide) rfl ?_
    refine V_istore_n (lv' := [(2, .int (0 : Int32)), (0, .ref (G.2.2 + 162)), (1, .int v1)]) X d_Mod_pieces_17 rfl (by decide) rfl rfl ?_
    refine V_iconst (v := 0) X d_Mod_pieces_18 (by decide) rfl ?_
    refine V_istore_n (lv' := [(3, .int (0 : Int32)), (2, .int (0 : Int32)), (0, .ref (G.2.2 + 162)), (1, .int v1)]) X d_Mod_pieces_19 rfl (by decide) rfl rfl ?_
    refine V_iconst (v := -1) X d_Mod_pieces_20 (by decide) rfl ?_
    refine V_istore (lv' := [(4, .int (-1 : Int32)), (3, .int (0 : Int32)), (2, .int (0 : Int32)), (0, .ref (G.2.2 + 162)), (1, .int v1)]) X d_Mod_pieces_21 (by decide) rfl rfl ?_
    refine V_iconst (v := 0) X d_Mod_pieces_23 (by decide) rfl ?_
    refine V_istore (lv' := [(5, .int (0 : Int32)), (4, .int (-1 : Int32)), (3, .int (0 : Int32)), (2, .int (0 : Int32)), (0, .ref (G.2.2 + 162)), (1, .int v1)]) X d_Mod_pieces_24 (by decide) rfl rfl ?_
    refine V_sub (lv' := [(0, .ref (G.2.2 + 162)), (1, .int v1), (2, .int (0 : Int32)), (3, .int (0 : Int32)), (4, .int (-1 : Int32)), (5, .int (0 : Int32))]) [4, 5, 3, 2, 1, 0] rfl ?_
    obtain ⟨x5, hx5, h⟩ := ob_s h
    refine (lp_Mod_pieces_26_ok X hD v1 (0 : Int32) (0 : Int32) (-1 : Int32) _ _ _ hx5 (fun x9 e9 => ?_) :)
    subst e9
    refine V_iconst (v := 0) X d_Mod_pieces_47 (by decide) rfl ?_
    refine V_istore (lv' := [(5, .int (0 : Int32)), (0, .ref (G.2.2 + 162)), (1, .int v1), (2, .int (0 : Int32)), (3, .int (0 : Int32)), (4, .int (-1 : Int32))]) X d_Mod_pieces_48 (by decide) rfl rfl ?_
    refine V_sub (lv' := [(0, .ref (G.2.2 + 162)), (1, .int v1), (2, .int (0 : Int32)), (3, .int (0 : Int32)), (4, .int (-1 : Int32)), (5, .int (0 : Int32))]) [1, 2, 3, 4, 5, 0] rfl ?_
    obtain ⟨x22, hx22, h⟩ := ob_s h
    refine (lp_Mod_pieces_50_ok X hD v1 _ _ _ hx22 (fun x9 e9 => ?_) :)
    subst e9
    refine V_aload_n (n := 0) X d_Mod_pieces_171 rfl rfl rfl ?_
    refine V_iconst (v := 0) X d_Mod_pieces_172 (by decide) rfl ?_
    obtain ⟨M23, eM23, h⟩ := memS h
    refine V_putI X fp_Mod_112 kd_162 rfl d_Mod_pieces_173 rfl ?_
    rw [← eM23]
    refine V_aload_n (n := 0) X d_Mod_pieces_176 rfl rfl rfl ?_
    refine V_iload_n (n := 2) X d_Mod_pieces_177 rfl rfl rfl ?_
    obtain ⟨x24, hx24, h⟩ := ob_s h
    refine V_cv (As := [.int x22.2.1]) X (Z0 E) ml_Mod_342 yq_Mod_put (c_Mod_put E.2.1 G x22.2.1 M23 x24 hx24 _ (Nat.le_refl _)) kd_162 rfl rfl (by omega) rfl (Nat.le_of_ble_eq_true rfl) d_Mod_pieces_178 rfl (fun M9 hq => ?_)
    rw [hq]
    refine V_aload_n (n := 0) X d_Mod_pieces_181 rfl rfl rfl ?_
    refine V_iload (n := 3) X d_Mod_pieces_182 rfl rfl ?_
    obtain ⟨x25, hx25, h⟩ := ob_s h
    refine V_cv (As := [.int x22.2.2.1]) X (Z0 E) ml_Mod_342 yq_Mod_put (c_Mod_put E.2.1 G x22.2.2.1 x24 x25 hx25 _ (Nat.le_refl _)) kd_162 rfl rfl (by omega) rfl (Nat.le_of_ble_eq_true rfl) d_Mod_pieces_184 rfl (fun M9 hq => ?_)
    rw [hq]
    refine V_iload_n (n := 1) X d_Mod_pieces_187 rfl rfl rfl ?_
    exact V_iret X (kr (x22.1, x25) (Option.some.inj h).symm) d_Mod_pieces_188
  · rw [if_pos c26] at h
    refine V_iconst (v := -1) X d_Mod_pieces_14 (by decide) rfl ?_
    exact V_iret X (kr ((-1 : Int32), M1) (Option.some.inj h).symm) d_Mod_pieces_15
def f_Mod_reach (v1 : Int32) (v2 : Int32) (M : Mem) : Option (Int32 × Mem) :=
  mem_ (s_i M 162 13 (0 : Int32)) fun M1 =>
  Option.bind (f_Mod_in v1 (0 : Int32) (1 : Int32)) fun x2 =>
  if x2 = 0 then
  some ((-1 : Int32), M1)
  else
  Option.bind (f_Mod_isCell v2 M1) fun x3 =>
  if x3 = 0 then
  some ((-1 : Int32), M1)
  else
  Option.bind (f_Mod_isOf v1 v2 M1) fun x4 =>
  if x4 = 0 then
  some ((-2 : Int32), M1)
  else
  Option.bind (f_Mod_placeOf v1 v2) fun x5 =>
  Option.bind (f_Mod_findFar x5 M1) fun x6 =>
  mem_ (s_i x6 162 12 (0 : Int32)) fun M7 =>
  Option.bind (f_Mod_putCells v1 M7) fun x8 =>
  Option.bind (f_Mod_reached v1 x8) fun x9 =>
  some (x9, x8)
theorem c_Mod_reach (l : Launch) (G : Gw)  (v1 : Int32) (v2 : Int32) (M : Mem) (x : Int32 × Mem) (h : f_Mod_reach v1 v2 M = some x) (d : Nat) (hD : 7 ≤ d) : Ci l G y_Mod_reach b_Mod_reach 3 (some .int) d [.ref (G.2.2 + 162), .int v1, .int v2] M (fun r9 M9 => r9 = x.1 ∧ M9 = x.2) := by
  refine Ci_of (by decide) (Nat.le_of_ble_eq_true rfl) (fun E hE X => ?_)
  subst hE
  have kr : ∀ x9 : Int32 × Mem, x = x9 → (fun r9 M9 => r9 = x.1 ∧ M9 = x.2) x9.1 x9.2 := fun x9 e9 => by subst e9; exact ⟨rfl, rfl⟩
  unfold f_Mod_reach at h
  refine V_aload_n (n := 0) X d_Mod_reach_0 rfl rfl rfl ?_
  refine V_iconst (v := 0) X d_Mod_reach_1 (by decide) rfl ?_
  obtain ⟨M1, eM1, h⟩ := memS h
  refine V_putI X fp_Mod_109 kd_162 rfl d_Mod_reach_2 rfl ?_
  rw [← eM1]
  refine V_iload_n (n := 1) X d_Mod_reach_5 rfl rfl rfl ?_
  refine V_iconst (v := 0) X d_Mod_reach_6 (by decide) rfl ?_
  refine V_iconst (v := 1) X d_Mod_reach_7 (by decide) rfl ?_
  obtain ⟨x2, hx2, h⟩ := ob_s h
  refine V_si (As := [.int v1, .int (0 : Int32), .int (1 : Int32)]) X (Z0 E) ml_Mod_119 yq_Mod_in (c_Mod_in E.2.1 G v1 (0 : Int32) (1 : Int32) M1 x2 hx2 _ (Nat.le_refl _)) rfl (by omega) rfl (Nat.le_of_ble_eq_true rfl) d_Mod_reach_8 rfl (fun r9 M9 hq => ?_)
  rw [hq.1, hq.2]
  refine V_if_eq (tgt := 22) X d_Mod_reach_11 (by decide) rfl (fun c12 => ?_) (fun c12 => ?_)
  · rw [if_pos c12] at h
    refine V_iconst (v := -1) X d_Mod_reach_22 (by decide) rfl ?_
    exact V_iret X (kr ((-1 : Int32), M1) (Option.some.inj h).symm) d_Mod_reach_23
  · rw [if_neg c12] at h
    refine V_aload_n (n := 0) X d_Mod_reach_14 rfl rfl rfl ?_
    refine V_iload_n (n := 2) X d_Mod_reach_15 rfl rfl rfl ?_
    obtain ⟨x3, hx3, h⟩ := ob_s h
    refine V_ci (As := [.int v2]) X (Z0 E) ml_Mod_137 yq_Mod_isCell (c_Mod_isCell E.2.1 G v2 M1 x3 hx3 _ (Nat.le_refl _)) kd_162 rfl rfl (by omega) rfl (Nat.le_of_ble_eq_true rfl) d_Mod_reach_16 rfl (fun r9 M9 hq => ?_)
    rw [hq.1, hq.2]
    refine V_if_ne (tgt := 24) X d_Mod_reach_19 (by decide) rfl (fun c11 => ?_) (fun c11 => ?_)
    · rw [if_neg c11] at h
      refine V_aload_n (n := 0) X d_Mod_reach_24 rfl rfl rfl ?_
      refine V_iload_n (n := 1) X d_Mod_reach_25 rfl rfl rfl ?_
      refine V_iload_n (n := 2) X d_Mod_reach_26 rfl rfl rfl ?_
      obtain ⟨x4, hx4, h⟩ := ob_s h
      refine V_ci (As := [.int v1, .int v2]) X (Z0 E) ml_Mod_140 yq_Mod_isOf (c_Mod_isOf E.2.1 G v1 v2 M1 x4 hx4 _ (Nat.le_refl _)) kd_162 rfl rfl (by omega) rfl (Nat.le_of_ble_eq_true rfl) d_Mod_reach_27 rfl (fun r9 M9 hq => ?_)
      rw [hq.1, hq.2]
      refine V_if_ne (tgt := 36) X d_Mod_reach_30 (by decide) rfl (fun c10 => ?_) (fun c10 => ?_)
      · rw [if_neg c10] at h
        refine V_aload_n (n := 0) X d_Mod_reach_36 rfl rfl rfl ?_
        refine V_iload_n (n := 1) X d_Mod_reach_37 rfl rfl rfl ?_
        refine V_iload_n (n := 2) X d_Mod_reach_38 rfl rfl rfl ?_
        obtain ⟨x5, hx5, h⟩ := ob_s h
        refine V_si (As := [.int v1, .int v2]) X (Z0 E) ml_Mod_154 yq_Mod_placeOf (c_Mod_placeOf E.2.1 G v1 v2 M1 x5 hx5 _ (Nat.le_refl _)) rfl (by omega) rfl (Nat.le_of_ble_eq_true rfl) d_Mod_reach_39 rfl (fun r9 M9 hq => ?_)
        rw [hq.1, hq.2]
        obtain ⟨x6, hx6, h⟩ := ob_s h
        refine V_cv (As := [.int x5]) X (Z0 E) ml_Mod_365 yq_Mod_findFar (c_Mod_findFar E.2.1 G x5 M1 x6 hx6 _ (Nat.le_refl _)) kd_162 rfl rfl (by omega) rfl (Nat.le_of_ble_eq_true rfl) d_Mod_reach_42 rfl (fun M9 hq => ?_)
        rw [hq]
        refine V_aload_n (n := 0) X d_Mod_reach_45 rfl rfl rfl ?_
        refine V_iconst (v := 0) X d_Mod_reach_46 (by decide) rfl ?_
        obtain ⟨M7, eM7, h⟩ := memS h
        refine V_putI X fp_Mod_112 kd_162 rfl d_Mod_reach_47 rfl ?_
        rw [← eM7]
        refine V_aload_n (n := 0) X d_Mod_reach_50 rfl rfl rfl ?_
        refine V_iload_n (n := 1) X d_Mod_reach_51 rfl rfl rfl ?_
        obtain ⟨x8, hx8, h⟩ := ob_s h
        refine V_cv (As := [.int v1]) X (Z0 E) ml_Mod_371 yq_Mod_putCells (c_Mod_putCells E.2.1 G v1 M7 x8 hx8 _ (Nat.le_refl _)) kd_162 rfl rfl (by omega) rfl (Nat.le_of_ble_eq_true rfl) d_Mod_reach_52 rfl (fun M9 hq => ?_)
        rw [hq]
        refine V_aload_n (n := 0) X d_Mod_reach_55 rfl rfl rfl ?_
        refine V_iload_n (n := 1) X d_Mod_reach_56 rfl rfl rfl ?_
        obtain ⟨x9, hx9, h⟩ := ob_s h
        refine V_ci (As := [.int v1]) X (Z0 E) ml_Mod_368 yq_Mod_reached (c_Mod_reached E.2.1 G v1 x8 x9 hx9 _ (Nat.le_refl _)) kd_162 rfl rfl (by omega) rfl (Nat.le_of_ble_eq_true rfl) d_Mod_reach_57 rfl (fun r9 M9 hq => ?_)
        rw [hq.1, hq.2]
        exact V_iret X (kr (x9, x8) (Option.some.inj h).symm) d_Mod_reach_60
      · rw [if_pos c10] at h
        refine V_bipush (v := -2) X d_Mod_reach_33 (by decide) rfl ?_
        exact V_iret X (kr ((-2 : Int32), M1) (Option.some.inj h).symm) d_Mod_reach_35
    · rw [if_pos c11] at h
      refine V_iconst (v := -1) X d_Mod_reach_22 (by decide) rfl ?_
      exact V_iret X (kr ((-1 : Int32), M1) (Option.some.inj h).symm) d_Mod_reach_23
def lb_Mod_path_79 (v4 : Int32) (v5 : Int32) (v6 : Int32) (M : Mem) (s : Int32) : Option ((Int32) ⊕ ((Int32))) :=
  Option.bind (f_Mod_go 163 v4 s M) fun x8 =>
  if x8 = (-1 : Int32) then
  some (.inl (s + (1 : Int32)))
  else
  Option.bind (f_Mod_go 163 v4 s M) fun x9 =>
  if inb x9 72 = true then
  if inb v4 72 = true then
  if (M.1 177 x9.toNatClampNeg) = ((M.1 177 v4.toNatClampNeg) - (1 : Int32)) then
  some (.inr s)
  else
  some (.inl (s + (1 : Int32)))
  else none
  else none
theorem lb_Mod_path_79_ok {E : Ev} {G : Gw} {d : Nat} {post : Int32 → Mem → Prop} (X : Cx E G b_Mod_path "WomenByTheRoofsModel" 8 d (some .int)) (hD : 7 ≤ d)  (v4 : Int32) (v5 : Int32) (v6 : Int32)  (M : Mem) (s : Int32) (o : (Int32) ⊕ ((Int32))) (h : lb_Mod_path_79 v4 v5 v6 M s = some o) (kc : ∀ s9 : Int32, o = .inl s9 → V E (0, 0) G 8 (QI E G post) M 79 [(0, .ref (G.2.2 + 162)), (4, .int v4), (5, .int v5), (6, .int v6), (7, .int s9)] []) (kx0 : ∀ x9 : Int32, o = .inr x9 → V E (0, 0) G 8 (QI E G post) M 130 [(0, .ref (G.2.2 + 162)), (4, .int v4), (5, .int v5), (6, .int v6), (7, .int x9)] []) : V E (0, 0) G 8 (QI E G post) M 79 [(0, .ref (G.2.2 + 162)), (4, .int v4), (5, .int v5), (6, .int v6), (7, .int s)] [] := by
  unfold lb_Mod_path_79 at h
  refine V_aload_n (n := 0) X d_Mod_path_79 rfl rfl rfl ?_
  refine V_aload_n (n := 0) X d_Mod_path_80 rfl rfl rfl ?_
  refine V_getr (k2 := 163) X fo_Mod_9 kd_162 rfl rf_162_0 d_Mod_path_81 rfl ?_
  refine V_iload (n := 1) X d_Mod_path_84 rfl rfl ?_
  refine V_iload (n := 4) X d_Mod_path_86 rfl rfl ?_
  obtain ⟨x8, hx8, h⟩ := ob_s h
  refine V_ci (As := [.ref (G.2.2 + 163), .int v4, .int s]) X (Z0 E) ml_Mod_252 yq_Mod_go (c_Mod_go E.2.1 G 163 v4 s M x8 hx8 _ (Nat.le_refl _)) kd_162 rfl rfl (by omega) rfl (Nat.le_of_ble_eq_true rfl) d_Mod_path_88 rfl (fun r9 M9 hq => ?_)
  rw [hq.1, hq.2]
  refine V_iconst (v := -1) X d_Mod_path_91 (by decide) rfl ?_
  refine V_icmp_eq (tgt := 124) X d_Mod_path_92 (by decide) rfl (fun c11 => ?_) (fun c11 => ?_)
  · rw [if_pos c11] at h
    refine V_iinc (n := 4) (v := (s + (1 : Int32))) (lv' := [(7, .int (s + (1 : Int32))), (0, .ref (G.2.2 + 162)), (4, .int v4), (5, .int v5), (6, .int v6)]) X d_Mod_path_124 rfl rfl (by decide) rfl rfl ?_
    refine V_goto (pc' := 79) X d_Mod_path_127 (by decide) ?_
    refine V_sub (lv' := [(0, .ref (G.2.2 + 162)), (4, .int v4), (5, .int v5), (6, .int v6), (7, .int (s + (1 : Int32)))]) [1, 2, 3, 4, 0] rfl ?_
    exact kc (s + (1 : Int32)) (Option.some.inj h).symm
  · rw [if_neg c11] at h
    refine V_aload_n (n := 0) X d_Mod_path_95 rfl rfl rfl ?_
    refine V_getr (k2 := 177) X fo_Mod_63 kd_162 rfl rf_162_35 d_Mod_path_96 rfl ?_
    refine V_aload_n (n := 0) X d_Mod_path_99 rfl rfl rfl ?_
    refine V_aload_n (n := 0) X d_Mod_path_100 rfl rfl rfl ?_
    refine V_getr (k2 := 163) X fo_Mod_9 kd_162 rfl rf_162_0 d_Mod_path_101 rfl ?_
    refine V_iload (n := 1) X d_Mod_path_104 rfl rfl ?_
    refine V_iload (n := 4) X d_Mod_path_106 rfl rfl ?_
    obtain ⟨x9, hx9, h⟩ := ob_s h
    refine V_ci (As := [.ref (G.2.2 + 163), .int v4, .int s]) X (Z0 E) ml_Mod_252 yq_Mod_go (c_Mod_go E.2.1 G 163 v4 s M x9 hx9 _ (Nat.le_refl _)) kd_162 rfl rfl (by omega) rfl (Nat.le_of_ble_eq_true rfl) d_Mod_path_108 rfl (fun r9 M9 hq => ?_)
    rw [hq.1, hq.2]
    obtain ⟨hb, h⟩ := ifn h
    refine V_iald X kd_177 (inb_in ln_177 hb) d_Mod_path_111 rfl ?_
    refine V_aload_n (n := 0) X d_Mod_path_112 rfl rfl rfl ?_
    refine V_getr (k2 := 177) X fo_Mod_63 kd_162 rfl rf_162_35 d_Mod_path_113 rfl ?_
    refine V_iload (n := 1) X d_Mod_path_116 rfl rfl ?_
    obtain ⟨hb, h⟩ := ifn h
    refine V_iald X kd_177 (inb_in ln_177 hb) d_Mod_path_118 rfl ?_
    refine V_iconst (v := 1) X d_Mod_path_119 (by decide) rfl ?_
    refine V_isub X d_Mod_path_120 rfl ?_
    refine V_icmp_eq (tgt := 130) X d_Mod_path_121 (by decide) rfl (fun c10 => ?_) (fun c10 => ?_)
    · rw [if_pos c10] at h
      exact kx0 s (Option.some.inj h).symm
    · rw [if_neg c10] at h
      refine V_iinc (n := 4) (v := (s + (1 : Int32))) (lv' := [(7, .int (s + (1 : Int32))), (0, .ref (G.2.2 + 162)), (4, .int v4), (5, .int v5), (6, .int v6)]) X d_Mod_path_124 rfl rfl (by decide) rfl rfl ?_
      refine V_goto (pc' := 79) X d_Mod_path_127 (by decide) ?_
      refine V_sub (lv' := [(0, .ref (G.2.2 + 162)), (4, .int v4), (5, .int v5), (6, .int v6), (7, .int (s + (1 : Int32)))]) [1, 2, 3, 4, 0] rfl ?_
      exact kc (s + (1 : Int32)) (Option.some.inj h).symm
theorem lp_Mod_path_79_ok {E : Ev} {G : Gw} {d : Nat} {post : Int32 → Mem → Prop} (X : Cx E G b_Mod_path "WomenByTheRoofsModel" 8 d (some .int)) (hD : 7 ≤ d)  (v4 : Int32) (v5 : Int32) (v6 : Int32)  (M : Mem) (n9 : Nat) (s : Int32) (x : (Int32)) (h : iter (lb_Mod_path_79 v4 v5 v6 M) n9 s = some x) (kx0 : ∀ x9 : Int32, x = x9 → V E (0, 0) G 8 (QI E G post) M 130 [(0, .ref (G.2.2 + 162)), (4, .int v4), (5, .int v5), (6, .int v6), (7, .int x9)] []) : V E (0, 0) G 8 (QI E G post) M 79 [(0, .ref (G.2.2 + 162)), (4, .int v4), (5, .int v5), (6, .int v6), (7, .int s)] [] :=
  iter_P (P := fun s : Int32 => V E (0, 0) G 8 (QI E G post) M 79 [(0, .ref (G.2.2 + 162)), (4, .int v4), (5, .int v5), (6, .int v6), (7, .int s)] []) (fun s o hb kc ky => lb_Mod_path_79_ok X hD v4 v5 v6 M s o hb kc (fun x9 e9 => kx0 x9 (ky _ e9).symm)) n9 s h
def j_Mod_path_143_69 (v4 : Int32) (v5 : Int32) (v6 : Int32) (v7 : Int32) (M : Mem) : Option ((Int32 × Int32 × Mem) ⊕ ((Mem))) :=
  Option.bind (f_Mod_go 163 v4 v7 M) fun x13 =>
  some (.inl (x13, (v6 + (1 : Int32)), M))
theorem j_Mod_path_143_69_ok {E : Ev} {G : Gw} {d : Nat} {post : Int32 → Mem → Prop} (X : Cx E G b_Mod_path "WomenByTheRoofsModel" 8 d (some .int)) (hD : 7 ≤ d)  (v4 : Int32) (v5 : Int32) (v6 : Int32) (v7 : Int32)  (M : Mem)  (o : (Int32 × Int32 × Mem) ⊕ ((Mem))) (h : j_Mod_path_143_69 v4 v5 v6 v7 M = some o) (kc : ∀ s9 : Int32 × Int32 × Mem, o = .inl s9 → V E (0, 0) G 8 (QI E G post) s9.2.2 69 [(0, .ref (G.2.2 + 162)), (4, .int s9.1), (5, .int v5), (6, .int s9.2.1)] []) (kx0 : ∀ x9 : Mem, o = .inr x9 → V E (0, 0) G 8 (QI E G post) x9 163 [(5, .int v5)] []) : V E (0, 0) G 8 (QI E G post) M 143 [(0, .ref (G.2.2 + 162)), (4, .int v4), (5, .int v5), (6, .int v6), (7, .int v7)] [] := by
  unfold j_Mod_path_143_69 at h
  refine V_aload_n (n := 0) X d_Mod_path_143 rfl rfl rfl ?_
  refine V_aload_n (n := 0) X d_Mod_path_144 rfl rfl rfl ?_
  refine V_getr (k2 := 163) X fo_Mod_9 kd_162 rfl rf_162_0 d_Mod_path_145 rfl ?_
  refine V_iload (n := 1) X d_Mod_path_148 rfl rfl ?_
  refine V_iload (n := 4) X d_Mod_path_150 rfl rfl ?_
  obtain ⟨x13, hx13, h⟩ := ob_s h
  refine V_ci (As := [.ref (G.2.2 + 163), .int v4, .int v7]) X (Z0 E) ml_Mod_252 yq_Mod_go (c_Mod_go E.2.1 G 163 v4 v7 M x13 hx13 _ (Nat.le_refl _)) kd_162 rfl rfl (by omega) rfl (Nat.le_of_ble_eq_true rfl) d_Mod_path_152 rfl (fun r9 M9 hq => ?_)
  rw [hq.1, hq.2]
  refine V_istore (lv' := [(4, .int x13), (0, .ref (G.2.2 + 162)), (5, .int v5), (6, .int v6), (7, .int v7)]) X d_Mod_path_155 (by decide) rfl rfl ?_
  refine V_iinc (n := 3) (v := (v6 + (1 : Int32))) (lv' := [(6, .int (v6 + (1 : Int32))), (4, .int x13), (0, .ref (G.2.2 + 162)), (5, .int v5), (7, .int v7)]) X d_Mod_path_157 rfl rfl (by decide) rfl rfl ?_
  refine V_goto (pc' := 69) X d_Mod_path_160 (by decide) ?_
  refine V_sub (lv' := [(0, .ref (G.2.2 + 162)), (4, .int x13), (5, .int v5), (6, .int (v6 + (1 : Int32)))]) [2, 1, 3, 0] rfl ?_
  exact kc (x13, (v6 + (1 : Int32)), M) (Option.some.inj h).symm
def lb_Mod_path_69 (v5 : Int32) (s : Int32 × Int32 × Mem) : Option ((Int32 × Int32 × Mem) ⊕ ((Mem))) :=
  if v5 ≤ s.2.1 then
  some (.inr s.2.2)
  else
  Option.bind (iter (lb_Mod_path_79 s.1 v5 s.2.1 s.2.2) FU (0 : Int32)) fun x12 =>
  if (10 : Int32) ≤ s.2.1 then
  j_Mod_path_143_69 s.1 v5 s.2.1 x12 s.2.2
  else
  Option.bind (f_Mod_put x12 s.2.2) fun x14 =>
  j_Mod_path_143_69 s.1 v5 s.2.1 x12 x14
theorem lb_Mod_path_69_ok {E : Ev} {G : Gw} {d : Nat} {post : Int32 → Mem → Prop} (X : Cx E G b_Mod_path "WomenByTheRoofsModel" 8 d (some .int)) (hD : 7 ≤ d)  (v5 : Int32)   (s : Int32 × Int32 × Mem) (o : (Int32 × Int32 × Mem) ⊕ ((Mem))) (h : lb_Mod_path_69 v5 s = some o) (kc : ∀ s9 : Int32 × Int32 × Mem, o = .inl s9 → V E (0, 0) G 8 (QI E G post) s9.2.2 69 [(0, .ref (G.2.2 + 162)), (4, .int s9.1), (5, .int v5), (6, .int s9.2.1)] []) (kx0 : ∀ x9 : Mem, o = .inr x9 → V E (0, 0) G 8 (QI E G post) x9 163 [(5, .int v5)] []) : V E (0, 0) G 8 (QI E G post) s.2.2 69 [(0, .ref (G.2.2 + 162)), (4, .int s.1), (5, .int v5), (6, .int s.2.1)] [] := by
  unfold lb_Mod_path_69 at h
  refine V_iload (n := 3) X d_Mod_path_69 rfl rfl ?_
  refine V_iload (n := 2) X d_Mod_path_71 rfl rfl ?_
  refine V_icmp_ge (tgt := 163) X d_Mod_path_73 (by decide) rfl (fun c16 => ?_) (fun c16 => ?_)
  · rw [if_pos c16] at h
    refine V_sub (lv' := [(5, .int v5)]) [2] rfl ?_
    exact kx0 s.2.2 (Option.some.inj h).symm
  · rw [if_neg c16] at h
    refine V_iconst (v := 0) X d_Mod_path_76 (by decide) rfl ?_
    refine V_istore (lv' := [(7, .int (0 : Int32)), (0, .ref (G.2.2 + 162)), (4, .int s.1), (5, .int v5), (6, .int s.2.1)]) X d_Mod_path_77 (by decide) rfl rfl ?_
    refine V_sub (lv' := [(0, .ref (G.2.2 + 162)), (4, .int s.1), (5, .int v5), (6, .int s.2.1), (7, .int (0 : Int32))]) [1, 2, 3, 4, 0] rfl ?_
    obtain ⟨x12, hx12, h⟩ := ob_s h
    refine (lp_Mod_path_79_ok X hD s.1 v5 s.2.1 s.2.2 _ _ _ hx12 (fun x9 e9 => ?_) :)
    subst e9
    refine V_iload (n := 3) X d_Mod_path_130 rfl rfl ?_
    refine V_bipush (v := 10) X d_Mod_path_132 (by decide) rfl ?_
    refine V_icmp_ge (tgt := 143) X d_Mod_path_134 (by decide) rfl (fun c15 => ?_) (fun c15 => ?_)
    · rw [if_pos c15] at h
      exact j_Mod_path_143_69_ok X hD s.1 v5 s.2.1 x12 s.2.2 _ h kc kx0
    · rw [if_neg c15] at h
      refine V_aload_n (n := 0) X d_Mod_path_137 rfl rfl rfl ?_
      refine V_iload (n := 4) X d_Mod_path_138 rfl rfl ?_
      obtain ⟨x14, hx14, h⟩ := ob_s h
      refine V_cv (As := [.int x12]) X (Z0 E) ml_Mod_342 yq_Mod_put (c_Mod_put E.2.1 G x12 s.2.2 x14 hx14 _ (Nat.le_refl _)) kd_162 rfl rfl (by omega) rfl (Nat.le_of_ble_eq_true rfl) d_Mod_path_140 rfl (fun M9 hq => ?_)
      rw [hq]
      exact j_Mod_path_143_69_ok X hD s.1 v5 s.2.1 x12 x14 _ h kc kx0
theorem lp_Mod_path_69_ok {E : Ev} {G : Gw} {d : Nat} {post : Int32 → Mem → Prop} (X : Cx E G b_Mod_path "WomenByTheRoofsModel" 8 d (some .int)) (hD : 7 ≤ d)  (v5 : Int32)   (n9 : Nat) (s : Int32 × Int32 × Mem) (x : (Mem)) (h : iter (lb_Mod_path_69 v5) n9 s = some x) (kx0 : ∀ x9 : Mem, x = x9 → V E (0, 0) G 8 (QI E G post) x9 163 [(5, .int v5)] []) : V E (0, 0) G 8 (QI E G post) s.2.2 69 [(0, .ref (G.2.2 + 162)), (4, .int s.1), (5, .int v5), (6, .int s.2.1)] [] :=
  iter_P (P := fun s : Int32 × Int32 × Mem => V E (0, 0) G 8 (QI E G post) s.2.2 69 [(0, .ref (G.2.2 + 162)), (4, .int s.1), (5, .int v5), (6, .int s.2.1)] []) (fun s o hb kc ky => lb_Mod_path_69_ok X hD v5 s o hb kc (fun x9 e9 => kx0 x9 (ky _ e9).symm)) n9 s h
def f_Mod_path (v1 : Int32) (v2 : Int32) (v3 : Int32) (M : Mem) : Option (Int32 × Mem) :=
  mem_ (s_i M 162 13 (0 : Int32)) fun M1 =>
  Option.bind (f_Mod_isPlaceOf v1 v2 M1) fun x2 =>
  if x2 = 0 then
  some ((-1 : Int32), M1)
  else
  Option.bind (f_Mod_isPlaceOf v1 v3 M1) fun x3 =>
  if x3 = 0 then
  some ((-1 : Int32), M1)
  else
  Option.bind (f_Mod_placeOf v1 v3) fun x4 =>
  Option.bind (f_Mod_findFar x4 M1) fun x5 =>
  Option.bind (f_Mod_placeOf v1 v2) fun x6 =>
  if inb x6 72 = true then
  if (x5.1 177 x6.toNatClampNeg) < (1000000 : Int32) then
  mem_ (s_i x5 162 12 (0 : Int32)) fun M7 =>
  Option.bind (iter (lb_Mod_path_69 (x5.1 177 x6.toNatClampNeg)) FU (x6, (0 : Int32), M7)) fun x17 =>
  some ((x5.1 177 x6.toNatClampNeg), x17)
  else
  some ((-2 : Int32), x5)
  else none
theorem c_Mod_path (l : Launch) (G : Gw)  (v1 : Int32) (v2 : Int32) (v3 : Int32) (M : Mem) (x : Int32 × Mem) (h : f_Mod_path v1 v2 v3 M = some x) (d : Nat) (hD : 7 ≤ d) : Ci l G y_Mod_path b_Mod_path 8 (some .int) d [.ref (G.2.2 + 162), .int v1, .int v2, .int v3] M (fun r9 M9 => r9 = x.1 ∧ M9 = x.2) := by
  refine Ci_of (by decide) (Nat.le_of_ble_eq_true rfl) (fun E hE X => ?_)
  subst hE
  have kr : ∀ x9 : Int32 × Mem, x = x9 → (fun r9 M9 => r9 = x.1 ∧ M9 = x.2) x9.1 x9.2 := fun x9 e9 => by subst e9; exact ⟨rfl, rfl⟩
  unfold f_Mod_path at h
  refine V_aload_n (n := 0) X d_Mod_path_0 rfl rfl rfl ?_
  refine V_iconst (v := 0) X d_Mod_path_1 (by decide) rfl ?_
  obtain ⟨M1, eM1, h⟩ := memS h
  refine V_putI X fp_Mod_109 kd_162 rfl d_Mod_path_2 rfl ?_
  rw [← eM1]
  refine V_aload_n (n := 0) X d_Mod_path_5 rfl rfl rfl ?_
  refine V_iload_n (n := 1) X d_Mod_path_6 rfl rfl rfl ?_
  refine V_iload_n (n := 2) X d_Mod_path_7 rfl rfl rfl ?_
  obtain ⟨x2, hx2, h⟩ := ob_s h
  refine V_ci (As := [.int v1, .int v2]) X (Z0 E) ml_Mod_374 yq_Mod_isPlaceOf (c_Mod_isPlaceOf E.2.1 G v1 v2 M1 x2 hx2 _ (Nat.le_refl _)) kd_162 rfl rfl (by omega) rfl (Nat.le_of_ble_eq_true rfl) d_Mod_path_8 rfl (fun r9 M9 hq => ?_)
  rw [hq.1, hq.2]
  refine V_if_eq (tgt := 23) X d_Mod_path_11 (by decide) rfl (fun c20 => ?_) (fun c20 => ?_)
  · rw [if_pos c20] at h
    refine V_iconst (v := -1) X d_Mod_path_23 (by decide) rfl ?_
    exact V_iret X (kr ((-1 : Int32), M1) (Option.some.inj h).symm) d_Mod_path_24
  · rw [if_neg c20] at h
    refine V_aload_n (n := 0) X d_Mod_path_14 rfl rfl rfl ?_
    refine V_iload_n (n := 1) X d_Mod_path_15 rfl rfl rfl ?_
    refine V_iload_n (n := 3) X d_Mod_path_16 rfl rfl rfl ?_
    obtain ⟨x3, hx3, h⟩ := ob_s h
    refine V_ci (As := [.int v1, .int v3]) X (Z0 E) ml_Mod_374 yq_Mod_isPlaceOf (c_Mod_isPlaceOf E.2.1 G v1 v3 M1 x3 hx3 _ (Nat.le_refl _)) kd_162 rfl rfl (by omega) rfl (Nat.le_of_ble_eq_true rfl) d_Mod_path_17 rfl (fun r9 M9 hq => ?_)
    rw [hq.1, hq.2]
    refine V_if_ne (tgt := 25) X d_Mod_path_20 (by decide) rfl (fun c19 => ?_) (fun c19 => ?_)
    · rw [if_neg c19] at h
      refine V_aload_n (n := 0) X d_Mod_path_25 rfl rfl rfl ?_
      refine V_iload_n (n := 1) X d_Mod_path_26 rfl rfl rfl ?_
      refine V_iload_n (n := 3) X d_Mod_path_27 rfl rfl rfl ?_
      obtain ⟨x4, hx4, h⟩ := ob_s h
      refine V_si (As := [.int v1, .int v3]) X (Z0 E) ml_Mod_154 yq_Mod_placeOf (c_Mod_placeOf E.2.1 G v1 v3 M1 x4 hx4 _ (Nat.le_refl _)) rfl (by omega) rfl (Nat.le_of_ble_eq_true rfl) d_Mod_path_28 rfl (fun r9 M9 hq => ?_)
      rw [hq.1, hq.2]
      obtain ⟨x5, hx5, h⟩ := ob_s h
      refine V_cv (As := [.int x4]) X (Z0 E) ml_Mod_365 yq_Mod_findFar (c_Mod_findFar E.2.1 G x4 M1 x5 hx5 _ (Nat.le_refl _)) kd_162 rfl rfl (by omega) rfl (Nat.le_of_ble_eq_true rfl) d_Mod_path_31 rfl (fun M9 hq => ?_)
      rw [hq]
      refine V_iload_n (n := 1) X d_Mod_path_34 rfl rfl rfl ?_
      refine V_iload_n (n := 2) X d_Mod_path_35 rfl rfl rfl ?_
      obtain ⟨x6, hx6, h⟩ := ob_s h
      refine V_si (As := [.int v1, .int v2]) X (Z0 E) ml_Mod_154 yq_Mod_placeOf (c_Mod_placeOf E.2.1 G v1 v2 x5 x6 hx6 _ (Nat.le_refl _)) rfl (by omega) rfl (Nat.le_of_ble_eq_true rfl) d_Mod_path_36 rfl (fun r9 M9 hq => ?_)
      rw [hq.1, hq.2]
      refine V_istore (lv' := [(4, .int x6), (0, .ref (G.2.2 + 162)), (1, .int v1), (2, .int v2), (3, .int v3)]) X d_Mod_path_39 (by decide) rfl rfl ?_
      refine V_aload_n (n := 1) X d_Mod_path_41 rfl rfl rfl ?_
      refine V_getr (k2 := 177) X fo_Mod_63 kd_162 rfl rf_162_35 d_Mod_path_42 rfl ?_
      refine V_iload (n := 0) X d_Mod_path_45 rfl rfl ?_
      obtain ⟨hb, h⟩ := ifn h
      refine V_iald X kd_177 (inb_in ln_177 hb) d_Mod_path_47 rfl ?_
      refine V_istore (lv' := [(5, .int (x5.1 177 x6.toNatClampNeg)), (4, .int x6), (0, .ref (G.2.2 + 162)), (1, .int v1), (2, .int v2), (3, .int v3)]) X d_Mod_path_48 (by decide) rfl rfl ?_
      refine V_iload (n := 0) X d_Mod_path_50 rfl rfl ?_
      refine V_ldc_w (v := 1000000) X d_Mod_path_52 kc_Mod_357 rfl ?_
      refine V_icmp_lt (tgt := 61) X d_Mod_path_55 (by decide) rfl (fun c18 => ?_) (fun c18 => ?_)
      · rw [if_pos c18] at h
        refine V_aload_n (n := 2) X d_Mod_path_61 rfl rfl rfl ?_
        refine V_iconst (v := 0) X d_Mod_path_62 (by decide) rfl ?_
        obtain ⟨M7, eM7, h⟩ := memS h
        refine V_putI X fp_Mod_112 kd_162 rfl d_Mod_path_63 rfl ?_
        rw [← eM7]
        refine V_iconst (v := 0) X d_Mod_path_66 (by decide) rfl ?_
        refine V_istore (lv' := [(6, .int (0 : Int32)), (5, .int (x5.1 177 x6.toNatClampNeg)), (4, .int x6), (0, .ref (G.2.2 + 162)), (1, .int v1), (2, .int v2), (3, .int v3)]) X d_Mod_path_67 (by decide) rfl rfl ?_
        refine V_sub (lv' := [(0, .ref (G.2.2 + 162)), (4, .int x6), (5, .int (x5.1 177 x6.toNatClampNeg)), (6, .int (0 : Int32))]) [3, 2, 1, 0] rfl ?_
        obtain ⟨x17, hx17, h⟩ := ob_s h
        refine (lp_Mod_path_69_ok X hD (x5.1 177 x6.toNatClampNeg) _ _ _ hx17 (fun x9 e9 => ?_) :)
        subst e9
        refine V_iload (n := 0) X d_Mod_path_163 rfl rfl ?_
        exact V_iret X (kr ((x5.1 177 x6.toNatClampNeg), x17) (Option.some.inj h).symm) d_Mod_path_165
      · rw [if_neg c18] at h
        refine V_bipush (v := -2) X d_Mod_path_58 (by decide) rfl ?_
        exact V_iret X (kr ((-2 : Int32), x5) (Option.some.inj h).symm) d_Mod_path_60
    · rw [if_pos c19] at h
      refine V_iconst (v := -1) X d_Mod_path_23 (by decide) rfl ?_
      exact V_iret X (kr ((-1 : Int32), M1) (Option.some.inj h).symm) d_Mod_path_24
def f_Mod_lowerBoth (v1 : Int32) (v2 : Int32) (M : Mem) : Option (Int32 × Mem) :=
  if v1 = (-1 : Int32) then
  some ((0 : Int32), M)
  else
  if inb v1 72 = true then
  if v2 < (M.1 180 v1.toNatClampNeg) then
  if inb v1 72 = true then
  mem_ (s_i M 180 v1.toNatClampNeg v2) fun M1 =>
  some ((1 : Int32), M1)
  else none
  else
  some ((0 : Int32), M)
  else none
theorem c_Mod_lowerBoth (l : Launch) (G : Gw)  (v1 : Int32) (v2 : Int32) (M : Mem) (x : Int32 × Mem) (h : f_Mod_lowerBoth v1 v2 M = some x) (d : Nat) (hD : 1 ≤ d) : Ci l G y_Mod_lowerBoth b_Mod_lowerBoth 3 (some .boolean) d [.ref (G.2.2 + 162), .int v1, .int v2] M (fun r9 M9 => r9 = x.1 ∧ M9 = x.2) := by
  refine Ci_of (by decide) (Nat.le_of_ble_eq_true rfl) (fun E hE X => ?_)
  subst hE
  have kr : ∀ x9 : Int32 × Mem, x = x9 → (fun r9 M9 => r9 = x.1 ∧ M9 = x.2) x9.1 x9.2 := fun x9 e9 => by subst e9; exact ⟨rfl, rfl⟩
  unfold f_Mod_lowerBoth at h
  refine V_iload_n (n := 1) X d_Mod_lowerBoth_0 rfl rfl rfl ?_
  refine V_iconst (v := -1) X d_Mod_lowerBoth_1 (by decide) rfl ?_
  refine V_icmp_eq (tgt := 15) X d_Mod_lowerBoth_2 (by decide) rfl (fun c3 => ?_) (fun c3 => ?_)
  · rw [if_pos c3] at h
    refine V_iconst (v := 0) X d_Mod_lowerBoth_15 (by decide) rfl ?_
    exact V_zret X (kr ((0 : Int32), M) (Option.some.inj h).symm) (by decide) d_Mod_lowerBoth_16
  · rw [if_neg c3] at h
    refine V_aload_n (n := 0) X d_Mod_lowerBoth_5 rfl rfl rfl ?_
    refine V_getr (k2 := 180) X fo_Mod_73 kd_162 rfl rf_162_38 d_Mod_lowerBoth_6 rfl ?_
    refine V_iload_n (n := 1) X d_Mod_lowerBoth_9 rfl rfl rfl ?_
    obtain ⟨hb, h⟩ := ifn h
    refine V_iald X kd_180 (inb_in ln_180 hb) d_Mod_lowerBoth_10 rfl ?_
    refine V_iload_n (n := 2) X d_Mod_lowerBoth_11 rfl rfl rfl ?_
    refine V_icmp_gt (tgt := 17) X d_Mod_lowerBoth_12 (by decide) rfl (fun c2 => ?_) (fun c2 => ?_)
    · rw [if_pos c2] at h
      refine V_aload_n (n := 0) X d_Mod_lowerBoth_17 rfl rfl rfl ?_
      refine V_getr (k2 := 180) X fo_Mod_73 kd_162 rfl rf_162_38 d_Mod_lowerBoth_18 rfl ?_
      refine V_iload_n (n := 1) X d_Mod_lowerBoth_21 rfl rfl rfl ?_
      refine V_iload_n (n := 2) X d_Mod_lowerBoth_22 rfl rfl rfl ?_
      obtain ⟨hb, h⟩ := ifn h
      obtain ⟨M1, eM1, h⟩ := memS h
      refine V_iast X kd_180 (inb_in ln_180 hb) d_Mod_lowerBoth_23 rfl ?_
      rw [← eM1]
      refine V_iconst (v := 1) X d_Mod_lowerBoth_24 (by decide) rfl ?_
      exact V_zret X (kr ((1 : Int32), M1) (Option.some.inj h).symm) (by decide) d_Mod_lowerBoth_25
    · rw [if_neg c2] at h
      refine V_iconst (v := 0) X d_Mod_lowerBoth_15 (by decide) rfl ?_
      exact V_zret X (kr ((0 : Int32), M) (Option.some.inj h).symm) (by decide) d_Mod_lowerBoth_16
def lb_Mod_both_29 (v1 : Int32) (v2 : Int32) (v3 : Int32) (v4 : Int32) (s : Int32 × Mem) : Option ((Int32 × Mem) ⊕ ((Mem))) :=
  if (72 : Int32) ≤ s.1 then
  some (.inr s.2)
  else
  if inb s.1 72 = true then
  mem_ (s_i s.2 180 s.1.toNatClampNeg (1000000 : Int32)) fun M4 =>
  some (.inl ((s.1 + (1 : Int32)), M4))
  else none
theorem lb_Mod_both_29_ok {E : Ev} {G : Gw} {d : Nat} {post : Int32 → Mem → Prop} (X : Cx E G b_Mod_both "WomenByTheRoofsModel" 8 d (some .int)) (hD : 5 ≤ d)  (v1 : Int32) (v2 : Int32) (v3 : Int32) (v4 : Int32)   (s : Int32 × Mem) (o : (Int32 × Mem) ⊕ ((Mem))) (h : lb_Mod_both_29 v1 v2 v3 v4 s = some o) (kc : ∀ s9 : Int32 × Mem, o = .inl s9 → V E (0, 0) G 8 (QI E G post) s9.2 29 [(0, .ref (G.2.2 + 162)), (1, .int v1), (2, .int v2), (3, .int v3), (4, .int v4), (5, .int s9.1)] []) (kx0 : ∀ x9 : Mem, o = .inr x9 → V E (0, 0) G 8 (QI E G post) x9 52 [(0, .ref (G.2.2 + 162)), (1, .int v1), (2, .int v2), (3, .int v3), (4, .int v4)] []) : V E (0, 0) G 8 (QI E G post) s.2 29 [(0, .ref (G.2.2 + 162)), (1, .int v1), (2, .int v2), (3, .int v3), (4, .int v4), (5, .int s.1)] [] := by
  unfold lb_Mod_both_29 at h
  refine V_iload (n := 5) X d_Mod_both_29 rfl rfl ?_
  refine V_bipush (v := 72) X d_Mod_both_31 (by decide) rfl ?_
  refine V_icmp_ge (tgt := 52) X d_Mod_both_33 (by decide) rfl (fun c5 => ?_) (fun c5 => ?_)
  · rw [if_pos c5] at h
    refine V_sub (lv' := [(0, .ref (G.2.2 + 162)), (1, .int v1), (2, .int v2), (3, .int v3), (4, .int v4)]) [0, 1, 2, 3, 4] rfl ?_
    exact kx0 s.2 (Option.some.inj h).symm
  · rw [if_neg c5] at h
    refine V_aload_n (n := 0) X d_Mod_both_36 rfl rfl rfl ?_
    refine V_getr (k2 := 180) X fo_Mod_73 kd_162 rfl rf_162_38 d_Mod_both_37 rfl ?_
    refine V_iload (n := 5) X d_Mod_both_40 rfl rfl ?_
    refine V_ldc_w (v := 1000000) X d_Mod_both_42 kc_Mod_357 rfl ?_
    obtain ⟨hb, h⟩ := ifn h
    obtain ⟨M4, eM4, h⟩ := memS h
    refine V_iast X kd_180 (inb_in ln_180 hb) d_Mod_both_45 rfl ?_
    rw [← eM4]
    refine V_iinc (n := 5) (v := (s.1 + (1 : Int32))) (lv' := [(5, .int (s.1 + (1 : Int32))), (0, .ref (G.2.2 + 162)), (1, .int v1), (2, .int v2), (3, .int v3), (4, .int v4)]) X d_Mod_both_46 rfl rfl (by decide) rfl rfl ?_
    refine V_goto (pc' := 29) X d_Mod_both_49 (by decide) ?_
    refine V_sub (lv' := [(0, .ref (G.2.2 + 162)), (1, .int v1), (2, .int v2), (3, .int v3), (4, .int v4), (5, .int (s.1 + (1 : Int32)))]) [1, 2, 3, 4, 5, 0] rfl ?_
    exact kc ((s.1 + (1 : Int32)), M4) (Option.some.inj h).symm
theorem lp_Mod_both_29_ok {E : Ev} {G : Gw} {d : Nat} {post : Int32 → Mem → Prop} (X : Cx E G b_Mod_both "WomenByTheRoofsModel" 8 d (some .int)) (hD : 5 ≤ d)  (v1 : Int32) (v2 : Int32) (v3 : Int32) (v4 : Int32)   (n9 : Nat) (s : Int32 × Mem) (x : (Mem)) (h : iter (lb_Mod_both_29 v1 v2 v3 v4) n9 s = some x) (kx0 : ∀ x9 : Mem, x = x9 → V E (0, 0) G 8 (QI E G post) x9 52 [(0, .ref (G.2.2 + 162)), (1, .int v1), (2, .int v2), (3, .int v3), (4, .int v4)] []) : V E (0, 0) G 8 (QI E G post) s.2 29 [(0, .ref (G.2.2 + 162)), (1, .int v1), (2, .int v2), (3, .int v3), (4, .int v4), (5, .int s.1)] [] :=
  iter_P (P := fun s : Int32 × Mem => V E (0, 0) G 8 (QI E G post) s.2 29 [(0, .ref (G.2.2 + 162)), (1, .int v1), (2, .int v2), (3, .int v3), (4, .int v4), (5, .int s.1)] []) (fun s o hb kc ky => lb_Mod_both_29_ok X hD v1 v2 v3 v4 s o hb kc (fun x9 e9 => kx0 x9 (ky _ e9).symm)) n9 s h
def lb_Mod_both_103 (v3 : Int32) (v4 : Int32) (v6 : Int32) (s : Int32 × Int32 × Mem) : Option ((Int32 × Int32 × Mem) ⊕ ((Int32 × Mem))) :=
  if (4 : Int32) ≤ s.2.1 then
  some (.inr (s.1, s.2.2))
  else
  Option.bind (f_Mod_go 163 v6 s.2.1 s.2.2) fun x9 =>
  if inb v6 72 = true then
  Option.bind (f_Mod_levelOf v6) fun x10 =>
  Option.bind (f_Mod_lowerBoth x9 (((s.2.2.1 180 v6.toNatClampNeg) + (1000 : Int32)) + x10) s.2.2) fun x11 =>
  some (.inl ((s.1 ||| x11.1), (s.2.1 + (1 : Int32)), x11.2))
  else none
theorem lb_Mod_both_103_ok {E : Ev} {G : Gw} {d : Nat} {post : Int32 → Mem → Prop} (X : Cx E G b_Mod_both "WomenByTheRoofsModel" 8 d (some .int)) (hD : 5 ≤ d)  (v3 : Int32) (v4 : Int32) (v6 : Int32)   (s : Int32 × Int32 × Mem) (o : (Int32 × Int32 × Mem) ⊕ ((Int32 × Mem))) (h : lb_Mod_both_103 v3 v4 v6 s = some o) (kc : ∀ s9 : Int32 × Int32 × Mem, o = .inl s9 → V E (0, 0) G 8 (QI E G post) s9.2.2 103 [(0, .ref (G.2.2 + 162)), (3, .int v3), (4, .int v4), (5, .int s9.1), (6, .int v6), (7, .int s9.2.1)] []) (kx0 : ∀ x9 : Int32 × Mem, o = .inr x9 → V E (0, 0) G 8 (QI E G post) x9.2 153 [(0, .ref (G.2.2 + 162)), (3, .int v3), (4, .int v4), (5, .int x9.1), (6, .int v6)] []) : V E (0, 0) G 8 (QI E G post) s.2.2 103 [(0, .ref (G.2.2 + 162)), (3, .int v3), (4, .int v4), (5, .int s.1), (6, .int v6), (7, .int s.2.1)] [] := by
  unfold lb_Mod_both_103 at h
  refine V_iload (n := 5) X d_Mod_both_103 rfl rfl ?_
  refine V_iconst (v := 4) X d_Mod_both_105 (by decide) rfl ?_
  refine V_icmp_ge (tgt := 153) X d_Mod_both_106 (by decide) rfl (fun c12 => ?_) (fun c12 => ?_)
  · rw [if_pos c12] at h
    refine V_sub (lv' := [(0, .ref (G.2.2 + 162)), (3, .int v3), (4, .int v4), (5, .int s.1), (6, .int v6)]) [0, 1, 2, 3, 4] rfl ?_
    exact kx0 (s.1, s.2.2) (Option.some.inj h).symm
  · rw [if_neg c12] at h
    refine V_iload (n := 3) X d_Mod_both_109 rfl rfl ?_
    refine V_aload_n (n := 0) X d_Mod_both_111 rfl rfl rfl ?_
    refine V_aload_n (n := 0) X d_Mod_both_112 rfl rfl rfl ?_
    refine V_aload_n (n := 0) X d_Mod_both_113 rfl rfl rfl ?_
    refine V_getr (k2 := 163) X fo_Mod_9 kd_162 rfl rf_162_0 d_Mod_both_114 rfl ?_
    refine V_iload (n := 4) X d_Mod_both_117 rfl rfl ?_
    refine V_iload (n := 5) X d_Mod_both_119 rfl rfl ?_
    obtain ⟨x9, hx9, h⟩ := ob_s h
    refine V_ci (As := [.ref (G.2.2 + 163), .int v6, .int s.2.1]) X (Z0 E) ml_Mod_252 yq_Mod_go (c_Mod_go E.2.1 G 163 v6 s.2.1 s.2.2 x9 hx9 _ (Nat.le_refl _)) kd_162 rfl rfl (by omega) rfl (Nat.le_of_ble_eq_true rfl) d_Mod_both_121 rfl (fun r9 M9 hq => ?_)
    rw [hq.1, hq.2]
    refine V_aload_n (n := 0) X d_Mod_both_124 rfl rfl rfl ?_
    refine V_getr (k2 := 180) X fo_Mod_73 kd_162 rfl rf_162_38 d_Mod_both_125 rfl ?_
    refine V_iload (n := 4) X d_Mod_both_128 rfl rfl ?_
    obtain ⟨hb, h⟩ := ifn h
    refine V_iald X kd_180 (inb_in ln_180 hb) d_Mod_both_130 rfl ?_
    refine V_sipush (v := 1000) X d_Mod_both_131 (by decide) rfl ?_
    refine V_iadd X d_Mod_both_134 rfl ?_
    refine V_iload (n := 4) X d_Mod_both_135 rfl rfl ?_
    obtain ⟨x10, hx10, h⟩ := ob_s h
    refine V_si (As := [.int v6]) X (Z0 E) ml_Mod_143 yq_Mod_levelOf (c_Mod_levelOf E.2.1 G v6 s.2.2 x10 hx10 _ (Nat.le_refl _)) rfl (by omega) rfl (Nat.le_of_ble_eq_true rfl) d_Mod_both_137 rfl (fun r9 M9 hq => ?_)
    rw [hq.1, hq.2]
    refine V_iadd X d_Mod_both_140 rfl ?_
    obtain ⟨x11, hx11, h⟩ := ob_s h
    refine V_ci (As := [.int x9, .int (((s.2.2.1 180 v6.toNatClampNeg) + (1000 : Int32)) + x10)]) X (Z0 E) ml_Mod_377 yq_Mod_lowerBoth (c_Mod_lowerBoth E.2.1 G x9 (((s.2.2.1 180 v6.toNatClampNeg) + (1000 : Int32)) + x10) s.2.2 x11 hx11 _ (Nat.le_refl _)) kd_162 rfl rfl (by omega) rfl (Nat.le_of_ble_eq_true rfl) d_Mod_both_141 rfl (fun r9 M9 hq => ?_)
    rw [hq.1, hq.2]
    refine V_ior X d_Mod_both_144 rfl ?_
    refine V_istore (lv' := [(5, .int (s.1 ||| x11.1)), (0, .ref (G.2.2 + 162)), (3, .int v3), (4, .int v4), (6, .int v6), (7, .int s.2.1)]) X d_Mod_both_145 (by decide) rfl rfl ?_
    refine V_iinc (n := 5) (v := (s.2.1 + (1 : Int32))) (lv' := [(7, .int (s.2.1 + (1 : Int32))), (5, .int (s.1 ||| x11.1)), (0, .ref (G.2.2 + 162)), (3, .int v3), (4, .int v4), (6, .int v6)]) X d_Mod_both_147 rfl rfl (by decide) rfl rfl ?_
    refine V_goto (pc' := 103) X d_Mod_both_150 (by decide) ?_
    refine V_sub (lv' := [(0, .ref (G.2.2 + 162)), (3, .int v3), (4, .int v4), (5, .int (s.1 ||| x11.1)), (6, .int v6), (7, .int (s.2.1 + (1 : Int32)))]) [2, 3, 4, 1, 5, 0] rfl ?_
    exact kc ((s.1 ||| x11.1), (s.2.1 + (1 : Int32)), x11.2) (Option.some.inj h).symm
theorem lp_Mod_both_103_ok {E : Ev} {G : Gw} {d : Nat} {post : Int32 → Mem → Prop} (X : Cx E G b_Mod_both "WomenByTheRoofsModel" 8 d (some .int)) (hD : 5 ≤ d)  (v3 : Int32) (v4 : Int32) (v6 : Int32)   (n9 : Nat) (s : Int32 × Int32 × Mem) (x : (Int32 × Mem)) (h : iter (lb_Mod_both_103 v3 v4 v6) n9 s = some x) (kx0 : ∀ x9 : Int32 × Mem, x = x9 → V E (0, 0) G 8 (QI E G post) x9.2 153 [(0, .ref (G.2.2 + 162)), (3, .int v3), (4, .int v4), (5, .int x9.1), (6, .int v6)] []) : V E (0, 0) G 8 (QI E G post) s.2.2 103 [(0, .ref (G.2.2 + 162)), (3, .int v3), (4, .int v4), (5, .int s.1), (6, .int v6), (7, .int s.2.1)] [] :=
  iter_P (P := fun s : Int32 × Int32 × Mem => V E (0, 0) G 8 (QI E G post) s.2.2 103 [(0, .ref (G.2.2 + 162)), (3, .int v3), (4, .int v4), (5, .int s.1), (6, .int v6), (7, .int s.2.1)] []) (fun s o hb kc ky => lb_Mod_both_103_ok X hD v3 v4 v6 s o hb kc (fun x9 e9 => kx0 x9 (ky _ e9).symm)) n9 s h
def lb_Mod_both_77 (v3 : Int32) (v4 : Int32) (s : Int32 × Int32 × Mem) : Option ((Int32 × Int32 × Mem) ⊕ ((Int32 × Mem))) :=
  if (72 : Int32) ≤ s.2.1 then
  some (.inr (s.1, s.2.2))
  else
  if inb s.2.1 72 = true then
  if (s.2.2.1 180 s.2.1.toNatClampNeg) < (1000000 : Int32) then
  Option.bind (iter (lb_Mod_both_103 v3 v4 s.2.1) FU (s.1, (0 : Int32), s.2.2)) fun x13 =>
  Option.bind (f_Mod_cellOf s.2.1) fun x14 =>
  if inb x14 36 = true then
  if (x13.2.1 164 x14.toNatClampNeg) = (3 : Int32) then
  Option.bind (f_Mod_levelOf s.2.1) fun x15 =>
  Option.bind (f_Mod_cellOf s.2.1) fun x16 =>
  Option.bind (f_Mod_placeOf ((1 : Int32) - x15) x16) fun x17 =>
  if inb s.2.1 72 = true then
  Option.bind (f_Mod_lowerBoth x17 (x13.2.1 180 s.2.1.toNatClampNeg) x13.2) fun x18 =>
  some (.inl ((x13.1 ||| x18.1), (s.2.1 + (1 : Int32)), x18.2))
  else none
  else
  some (.inl (x13.1, (s.2.1 + (1 : Int32)), x13.2))
  else none
  else
  some (.inl (s.1, (s.2.1 + (1 : Int32)), s.2.2))
  else none
theorem lb_Mod_both_77_ok {E : Ev} {G : Gw} {d : Nat} {post : Int32 → Mem → Prop} (X : Cx E G b_Mod_both "WomenByTheRoofsModel" 8 d (some .int)) (hD : 5 ≤ d)  (v3 : Int32) (v4 : Int32)   (s : Int32 × Int32 × Mem) (o : (Int32 × Int32 × Mem) ⊕ ((Int32 × Mem))) (h : lb_Mod_both_77 v3 v4 s = some o) (kc : ∀ s9 : Int32 × Int32 × Mem, o = .inl s9 → V E (0, 0) G 8 (QI E G post) s9.2.2 77 [(0, .ref (G.2.2 + 162)), (3, .int v3), (4, .int v4), (5, .int s9.1), (6, .int s9.2.1)] []) (kx0 : ∀ x9 : Int32 × Mem, o = .inr x9 → V E (0, 0) G 8 (QI E G post) x9.2 204 [(0, .ref (G.2.2 + 162)), (3, .int v3), (4, .int v4), (5, .int x9.1)] []) : V E (0, 0) G 8 (QI E G post) s.2.2 77 [(0, .ref (G.2.2 + 162)), (3, .int v3), (4, .int v4), (5, .int s.1), (6, .int s.2.1)] [] := by
  unfold lb_Mod_both_77 at h
  refine V_iload (n := 4) X d_Mod_both_77 rfl rfl ?_
  refine V_bipush (v := 72) X d_Mod_both_79 (by decide) rfl ?_
  refine V_icmp_ge (tgt := 204) X d_Mod_both_81 (by decide) rfl (fun c21 => ?_) (fun c21 => ?_)
  · rw [if_pos c21] at h
    refine V_sub (lv' := [(0, .ref (G.2.2 + 162)), (3, .int v3), (4, .int v4), (5, .int s.1)]) [0, 1, 2, 3] rfl ?_
    exact kx0 (s.1, s.2.2) (Option.some.inj h).symm
  · rw [if_neg c21] at h
    refine V_aload_n (n := 0) X d_Mod_both_84 rfl rfl rfl ?_
    refine V_getr (k2 := 180) X fo_Mod_73 kd_162 rfl rf_162_38 d_Mod_both_85 rfl ?_
    refine V_iload (n := 4) X d_Mod_both_88 rfl rfl ?_
    obtain ⟨hb, h⟩ := ifn h
    refine V_iald X kd_180 (inb_in ln_180 hb) d_Mod_both_90 rfl ?_
    refine V_ldc_w (v := 1000000) X d_Mod_both_91 kc_Mod_357 rfl ?_
    refine V_icmp_lt (tgt := 100) X d_Mod_both_94 (by decide) rfl (fun c20 => ?_) (fun c20 => ?_)
    · rw [if_pos c20] at h
      refine V_iconst (v := 0) X d_Mod_both_100 (by decide) rfl ?_
      refine V_istore (lv' := [(7, .int (0 : Int32)), (0, .ref (G.2.2 + 162)), (3, .int v3), (4, .int v4), (5, .int s.1), (6, .int s.2.1)]) X d_Mod_both_101 (by decide) rfl rfl ?_
      refine V_sub (lv' := [(0, .ref (G.2.2 + 162)), (3, .int v3), (4, .int v4), (5, .int s.1), (6, .int s.2.1), (7, .int (0 : Int32))]) [1, 2, 3, 4, 5, 0] rfl ?_
      obtain ⟨x13, hx13, h⟩ := ob_s h
      refine (lp_Mod_both_103_ok X hD v3 v4 s.2.1 _ _ _ hx13 (fun x9 e9 => ?_) :)
      subst e9
      refine V_aload_n (n := 0) X d_Mod_both_153 rfl rfl rfl ?_
      refine V_getr (k2 := 164) X fo_Mod_13 kd_162 rfl rf_162_1 d_Mod_both_154 rfl ?_
      refine V_iload (n := 4) X d_Mod_both_157 rfl rfl ?_
      obtain ⟨x14, hx14, h⟩ := ob_s h
      refine V_si (As := [.int s.2.1]) X (Z0 E) ml_Mod_147 yq_Mod_cellOf (c_Mod_cellOf E.2.1 G s.2.1 x13.2 x14 hx14 _ (Nat.le_refl _)) rfl (by omega) rfl (Nat.le_of_ble_eq_true rfl) d_Mod_both_159 rfl (fun r9 M9 hq => ?_)
      rw [hq.1, hq.2]
      obtain ⟨hb, h⟩ := ifn h
      refine V_iald X kd_164 (inb_in ln_164 hb) d_Mod_both_162 rfl ?_
      refine V_iconst (v := 3) X d_Mod_both_163 (by decide) rfl ?_
      refine V_icmp_ne (tgt := 198) X d_Mod_both_164 (by decide) rfl (fun c19 => ?_) (fun c19 => ?_)
      · rw [if_neg c19] at h
        refine V_iinc (n := 4) (v := (s.2.1 + (1 : Int32))) (lv' := [(6, .int (s.2.1 + (1 : Int32))), (0, .ref (G.2.2 + 162)), (3, .int v3), (4, .int v4), (5, .int x13.1)]) X d_Mod_both_198 rfl rfl (by decide) rfl rfl ?_
        refine V_goto (pc' := 77) X d_Mod_both_201 (by decide) ?_
        refine V_sub (lv' := [(0, .ref (G.2.2 + 162)), (3, .int v3), (4, .int v4), (5, .int x13.1), (6, .int (s.2.1 + (1 : Int32)))]) [1, 2, 3, 4, 0] rfl ?_
        exact kc (x13.1, (s.2.1 + (1 : Int32)), x13.2) (Option.some.inj h).symm
      · rw [if_pos c19] at h
        refine V_iload (n := 3) X d_Mod_both_167 rfl rfl ?_
        refine V_aload_n (n := 0) X d_Mod_both_169 rfl rfl rfl ?_
        refine V_iconst (v := 1) X d_Mod_both_170 (by decide) rfl ?_
        refine V_iload (n := 4) X d_Mod_both_171 rfl rfl ?_
        obtain ⟨x15, hx15, h⟩ := ob_s h
        refine V_si (As := [.int s.2.1]) X (Z0 E) ml_Mod_143 yq_Mod_levelOf (c_Mod_levelOf E.2.1 G s.2.1 x13.2 x15 hx15 _ (Nat.le_refl _)) rfl (by omega) rfl (Nat.le_of_ble_eq_true rfl) d_Mod_both_173 rfl (fun r9 M9 hq => ?_)
        rw [hq.1, hq.2]
        refine V_isub X d_Mod_both_176 rfl ?_
        refine V_iload (n := 4) X d_Mod_both_177 rfl rfl ?_
        obtain ⟨x16, hx16, h⟩ := ob_s h
        refine V_si (As := [.int s.2.1]) X (Z0 E) ml_Mod_147 yq_Mod_cellOf (c_Mod_cellOf E.2.1 G s.2.1 x13.2 x16 hx16 _ (Nat.le_refl _)) rfl (by omega) rfl (Nat.le_of_ble_eq_true rfl) d_Mod_both_179 rfl (fun r9 M9 hq => ?_)
        rw [hq.1, hq.2]
        obtain ⟨x17, hx17, h⟩ := ob_s h
        refine V_si (As := [.int ((1 : Int32) - x15), .int x16]) X (Z0 E) ml_Mod_154 yq_Mod_placeOf (c_Mod_placeOf E.2.1 G ((1 : Int32) - x15) x16 x13.2 x17 hx17 _ (Nat.le_refl _)) rfl (by omega) rfl (Nat.le_of_ble_eq_true rfl) d_Mod_both_182 rfl (fun r9 M9 hq => ?_)
        rw [hq.1, hq.2]
        refine V_aload_n (n := 0) X d_Mod_both_185 rfl rfl rfl ?_
        refine V_getr (k2 := 180) X fo_Mod_73 kd_162 rfl rf_162_38 d_Mod_both_186 rfl ?_
        refine V_iload (n := 4) X d_Mod_both_189 rfl rfl ?_
        obtain ⟨hb, h⟩ := ifn h
        refine V_iald X kd_180 (inb_in ln_180 hb) d_Mod_both_191 rfl ?_
        obtain ⟨x18, hx18, h⟩ := ob_s h
        refine V_ci (As := [.int x17, .int (x13.2.1 180 s.2.1.toNatClampNeg)]) X (Z0 E) ml_Mod_377 yq_Mod_lowerBoth (c_Mod_lowerBoth E.2.1 G x17 (x13.2.1 180 s.2.1.toNatClampNeg) x13.2 x18 hx18 _ (Nat.le_refl _)) kd_162 rfl rfl (by omega) rfl (Nat.le_of_ble_eq_true rfl) d_Mod_both_192 rfl (fun r9 M9 hq => ?_)
        rw [hq.1, hq.2]
        refine V_ior X d_Mod_both_195 rfl ?_
        refine V_istore (lv' := [(5, .int (x13.1 ||| x18.1)), (0, .ref (G.2.2 + 162)), (3, .int v3), (4, .int v4), (6, .int s.2.1)]) X d_Mod_both_196 (by decide) rfl rfl ?_
        refine V_iinc (n := 4) (v := (s.2.1 + (1 : Int32))) (lv' := [(6, .int (s.2.1 + (1 : Int32))), (5, .int (x13.1 ||| x18.1)), (0, .ref (G.2.2 + 162)), (3, .int v3), (4, .int v4)]) X d_Mod_both_198 rfl rfl (by decide) rfl rfl ?_
        refine V_goto (pc' := 77) X d_Mod_both_201 (by decide) ?_
        refine V_sub (lv' := [(0, .ref (G.2.2 + 162)), (3, .int v3), (4, .int v4), (5, .int (x13.1 ||| x18.1)), (6, .int (s.2.1 + (1 : Int32)))]) [2, 3, 4, 1, 0] rfl ?_
        exact kc ((x13.1 ||| x18.1), (s.2.1 + (1 : Int32)), x18.2) (Option.some.inj h).symm
    · rw [if_neg c20] at h
      refine V_goto (pc' := 198) X d_Mod_both_97 (by decide) ?_
      refine V_iinc (n := 4) (v := (s.2.1 + (1 : Int32))) (lv' := [(6, .int (s.2.1 + (1 : Int32))), (0, .ref (G.2.2 + 162)), (3, .int v3), (4, .int v4), (5, .int s.1)]) X d_Mod_both_198 rfl rfl (by decide) rfl rfl ?_
      refine V_goto (pc' := 77) X d_Mod_both_201 (by decide) ?_
      refine V_sub (lv' := [(0, .ref (G.2.2 + 162)), (3, .int v3), (4, .int v4), (5, .int s.1), (6, .int (s.2.1 + (1 : Int32)))]) [1, 2, 3, 4, 0] rfl ?_
      exact kc (s.1, (s.2.1 + (1 : Int32)), s.2.2) (Option.some.inj h).symm
theorem lp_Mod_both_77_ok {E : Ev} {G : Gw} {d : Nat} {post : Int32 → Mem → Prop} (X : Cx E G b_Mod_both "WomenByTheRoofsModel" 8 d (some .int)) (hD : 5 ≤ d)  (v3 : Int32) (v4 : Int32)   (n9 : Nat) (s : Int32 × Int32 × Mem) (x : (Int32 × Mem)) (h : iter (lb_Mod_both_77 v3 v4) n9 s = some x) (kx0 : ∀ x9 : Int32 × Mem, x = x9 → V E (0, 0) G 8 (QI E G post) x9.2 204 [(0, .ref (G.2.2 + 162)), (3, .int v3), (4, .int v4), (5, .int x9.1)] []) : V E (0, 0) G 8 (QI E G post) s.2.2 77 [(0, .ref (G.2.2 + 162)), (3, .int v3), (4, .int v4), (5, .int s.1), (6, .int s.2.1)] [] :=
  iter_P (P := fun s : Int32 × Int32 × Mem => V E (0, 0) G 8 (QI E G post) s.2.2 77 [(0, .ref (G.2.2 + 162)), (3, .int v3), (4, .int v4), (5, .int s.1), (6, .int s.2.1)] []) (fun s o hb kc ky => lb_Mod_both_77_ok X hD v3 v4 s o hb kc (fun x9 e9 => kx0 x9 (ky _ e9).symm)) n9 s h
def lb_Mod_both_66 (v3 : Int32) (v4 : Int32) (s : Int32 × Mem) : Option ((Int32 × Mem) ⊕ ((Mem))) :=
  if s.1 = 0 then
  some (.inr s.2)
  else
  Option.bind (iter (lb_Mod_both_77 v3 v4) FU ((0 : Int32), (0 : Int32), s.2)) fun x22 =>
  some (.inl (x22.1, x22.2))
theorem lb_Mod_both_66_ok {E : Ev} {G : Gw} {d : Nat} {post : Int32 → Mem → Prop} (X : Cx E G b_Mod_both "WomenByTheRoofsModel" 8 d (some .int)) (hD : 5 ≤ d)  (v3 : Int32) (v4 : Int32)   (s : Int32 × Mem) (o : (Int32 × Mem) ⊕ ((Mem))) (h : lb_Mod_both_66 v3 v4 s = some o) (kc : ∀ s9 : Int32 × Mem, o = .inl s9 → V E (0, 0) G 8 (QI E G post) s9.2 66 [(0, .ref (G.2.2 + 162)), (3, .int v3), (4, .int v4), (5, .int s9.1)] []) (kx0 : ∀ x9 : Mem, o = .inr x9 → V E (0, 0) G 8 (QI E G post) x9 207 [(0, .ref (G.2.2 + 162)), (3, .int v3), (4, .int v4)] []) : V E (0, 0) G 8 (QI E G post) s.2 66 [(0, .ref (G.2.2 + 162)), (3, .int v3), (4, .int v4), (5, .int s.1)] [] := by
  unfold lb_Mod_both_66 at h
  refine V_iload (n := 3) X d_Mod_both_66 rfl rfl ?_
  refine V_if_eq (tgt := 207) X d_Mod_both_68 (by decide) rfl (fun c23 => ?_) (fun c23 => ?_)
  · rw [if_pos c23] at h
    refine V_sub (lv' := [(0, .ref (G.2.2 + 162)), (3, .int v3), (4, .int v4)]) [0, 1, 2] rfl ?_
    exact kx0 s.2 (Option.some.inj h).symm
  · rw [if_neg c23] at h
    refine V_iconst (v := 0) X d_Mod_both_71 (by decide) rfl ?_
    refine V_istore (lv' := [(5, .int (0 : Int32)), (0, .ref (G.2.2 + 162)), (3, .int v3), (4, .int v4)]) X d_Mod_both_72 (by decide) rfl rfl ?_
    refine V_iconst (v := 0) X d_Mod_both_74 (by decide) rfl ?_
    refine V_istore (lv' := [(6, .int (0 : Int32)), (5, .int (0 : Int32)), (0, .ref (G.2.2 + 162)), (3, .int v3), (4, .int v4)]) X d_Mod_both_75 (by decide) rfl rfl ?_
    refine V_sub (lv' := [(0, .ref (G.2.2 + 162)), (3, .int v3), (4, .int v4), (5, .int (0 : Int32)), (6, .int (0 : Int32))]) [2, 3, 4, 1, 0] rfl ?_
    obtain ⟨x22, hx22, h⟩ := ob_s h
    refine (lp_Mod_both_77_ok X hD v3 v4 _ _ _ hx22 (fun x9 e9 => ?_) :)
    subst e9
    refine V_goto (pc' := 66) X d_Mod_both_204 (by decide) ?_
    exact kc (x22.1, x22.2) (Option.some.inj h).symm
theorem lp_Mod_both_66_ok {E : Ev} {G : Gw} {d : Nat} {post : Int32 → Mem → Prop} (X : Cx E G b_Mod_both "WomenByTheRoofsModel" 8 d (some .int)) (hD : 5 ≤ d)  (v3 : Int32) (v4 : Int32)   (n9 : Nat) (s : Int32 × Mem) (x : (Mem)) (h : iter (lb_Mod_both_66 v3 v4) n9 s = some x) (kx0 : ∀ x9 : Mem, x = x9 → V E (0, 0) G 8 (QI E G post) x9 207 [(0, .ref (G.2.2 + 162)), (3, .int v3), (4, .int v4)] []) : V E (0, 0) G 8 (QI E G post) s.2 66 [(0, .ref (G.2.2 + 162)), (3, .int v3), (4, .int v4), (5, .int s.1)] [] :=
  iter_P (P := fun s : Int32 × Mem => V E (0, 0) G 8 (QI E G post) s.2 66 [(0, .ref (G.2.2 + 162)), (3, .int v3), (4, .int v4), (5, .int s.1)] []) (fun s o hb kc ky => lb_Mod_both_66_ok X hD v3 v4 s o hb kc (fun x9 e9 => kx0 x9 (ky _ e9).symm)) n9 s h
def f_Mod_both (v1 : Int32) (v2 : Int32) (v3 : Int32) (v4 : Int32) (M : Mem) : Option (Int32 × Mem) :=
  mem_ (s_i M 162 13 (0 : Int32)) fun M1 =>
  Option.bind (f_Mod_isPlaceOf v1 v2 M1) fun x2 =>
  if x2 = 0 then
  some ((-1 : Int32), M1)
  else
  Option.bind (f_Mod_isPlaceOf v3 v4 M1) fun x3 =>
  if x3 = 0 then
  some ((-1 : Int32), M1)
  else
  Option.bind (iter (lb_Mod_both_29 v1 v2 v3 v4) FU ((0 : Int32), M1)) fun x6 =>
  Option.bind (f_Mod_placeOf v1 v2) fun x7 =>
  if inb x7 72 = true then
  mem_ (s_i x6 180 x7.toNatClampNeg (0 : Int32)) fun M8 =>
  Option.bind (iter (lb_Mod_both_66 v3 v4) FU ((1 : Int32), M8)) fun x24 =>
  Option.bind (f_Mod_placeOf v3 v4) fun x25 =>
  if inb x25 72 = true then
  if (x24.1 180 x25.toNatClampNeg) < (1000000 : Int32) then
  mem_ (s_i x24 162 12 (0 : Int32)) fun M26 =>
  Option.bind (f_Mod_put ((x24.1 180 x25.toNatClampNeg) - (x24.1 180 x25.toNatClampNeg) / (1000 : Int32) * (1000 : Int32)) M26) fun x27 =>
  some (((x24.1 180 x25.toNatClampNeg) / (1000 : Int32)), x27)
  else
  some ((-2 : Int32), x24)
  else none
  else none
theorem c_Mod_both (l : Launch) (G : Gw)  (v1 : Int32) (v2 : Int32) (v3 : Int32) (v4 : Int32) (M : Mem) (x : Int32 × Mem) (h : f_Mod_both v1 v2 v3 v4 M = some x) (d : Nat) (hD : 5 ≤ d) : Ci l G y_Mod_both b_Mod_both 8 (some .int) d [.ref (G.2.2 + 162), .int v1, .int v2, .int v3, .int v4] M (fun r9 M9 => r9 = x.1 ∧ M9 = x.2) := by
  refine Ci_of (by decide) (Nat.le_of_ble_eq_true rfl) (fun E hE X => ?_)
  subst hE
  have kr : ∀ x9 : Int32 × Mem, x = x9 → (fun r9 M9 => r9 = x.1 ∧ M9 = x.2) x9.1 x9.2 := fun x9 e9 => by subst e9; exact ⟨rfl, rfl⟩
  unfold f_Mod_both at h
  refine V_aload_n (n := 0) X d_Mod_both_0 rfl rfl rfl ?_
  refine V_iconst (v := 0) X d_Mod_both_1 (by decide) rfl ?_
  obtain ⟨M1, eM1, h⟩ := memS h
  refine V_putI X fp_Mod_109 kd_162 rfl d_Mod_both_2 rfl ?_
  rw [← eM1]
  refine V_aload_n (n := 0) X d_Mod_both_5 rfl rfl rfl ?_
  refine V_iload_n (n := 1) X d_Mod_both_6 rfl rfl rfl ?_
  refine V_iload_n (n := 2) X d_Mod_both_7 rfl rfl rfl ?_
  obtain ⟨x2, hx2, h⟩ := ob_s h
  refine V_ci (As := [.int v1, .int v2]) X (Z0 E) ml_Mod_374 yq_Mod_isPlaceOf (c_Mod_isPlaceOf E.2.1 G v1 v2 M1 x2 hx2 _ (Nat.le_refl _)) kd_162 rfl rfl (by omega) rfl (Nat.le_of_ble_eq_true rfl) d_Mod_both_8 rfl (fun r9 M9 hq => ?_)
  rw [hq.1, hq.2]
  refine V_if_eq (tgt := 24) X d_Mod_both_11 (by decide) rfl (fun c30 => ?_) (fun c30 => ?_)
  · rw [if_pos c30] at h
    refine V_iconst (v := -1) X d_Mod_both_24 (by decide) rfl ?_
    exact V_iret X (kr ((-1 : Int32), M1) (Option.some.inj h).symm) d_Mod_both_25
  · rw [if_neg c30] at h
    refine V_aload_n (n := 0) X d_Mod_both_14 rfl rfl rfl ?_
    refine V_iload_n (n := 3) X d_Mod_both_15 rfl rfl rfl ?_
    refine V_iload (n := 4) X d_Mod_both_16 rfl rfl ?_
    obtain ⟨x3, hx3, h⟩ := ob_s h
    refine V_ci (As := [.int v3, .int v4]) X (Z0 E) ml_Mod_374 yq_Mod_isPlaceOf (c_Mod_isPlaceOf E.2.1 G v3 v4 M1 x3 hx3 _ (Nat.le_refl _)) kd_162 rfl rfl (by omega) rfl (Nat.le_of_ble_eq_true rfl) d_Mod_both_18 rfl (fun r9 M9 hq => ?_)
    rw [hq.1, hq.2]
    refine V_if_ne (tgt := 26) X d_Mod_both_21 (by decide) rfl (fun c29 => ?_) (fun c29 => ?_)
    · rw [if_neg c29] at h
      refine V_iconst (v := 0) X d_Mod_both_26 (by decide) rfl ?_
      refine V_istore (lv' := [(5, .int (0 : Int32)), (0, .ref (G.2.2 + 162)), (1, .int v1), (2, .int v2), (3, .int v3), (4, .int v4)]) X d_Mod_both_27 (by decide) rfl rfl ?_
      refine V_sub (lv' := [(0, .ref (G.2.2 + 162)), (1, .int v1), (2, .int v2), (3, .int v3), (4, .int v4), (5, .int (0 : Int32))]) [1, 2, 3, 4, 5, 0] rfl ?_
      obtain ⟨x6, hx6, h⟩ := ob_s h
      refine (lp_Mod_both_29_ok X hD v1 v2 v3 v4 _ _ _ hx6 (fun x9 e9 => ?_) :)
      subst e9
      refine V_aload_n (n := 0) X d_Mod_both_52 rfl rfl rfl ?_
      refine V_getr (k2 := 180) X fo_Mod_73 kd_162 rfl rf_162_38 d_Mod_both_53 rfl ?_
      refine V_iload_n (n := 1) X d_Mod_both_56 rfl rfl rfl ?_
      refine V_iload_n (n := 2) X d_Mod_both_57 rfl rfl rfl ?_
      obtain ⟨x7, hx7, h⟩ := ob_s h
      refine V_si (As := [.int v1, .int v2]) X (Z0 E) ml_Mod_154 yq_Mod_placeOf (c_Mod_placeOf E.2.1 G v1 v2 x6 x7 hx7 _ (Nat.le_refl _)) rfl (by omega) rfl (Nat.le_of_ble_eq_true rfl) d_Mod_both_58 rfl (fun r9 M9 hq => ?_)
      rw [hq.1, hq.2]
      refine V_iconst (v := 0) X d_Mod_both_61 (by decide) rfl ?_
      obtain ⟨hb, h⟩ := ifn h
      obtain ⟨M8, eM8, h⟩ := memS h
      refine V_iast X kd_180 (inb_in ln_180 hb) d_Mod_both_62 rfl ?_
      rw [← eM8]
      refine V_iconst (v := 1) X d_Mod_both_63 (by decide) rfl ?_
      refine V_istore (lv' := [(5, .int (1 : Int32)), (0, .ref (G.2.2 + 162)), (1, .int v1), (2, .int v2), (3, .int v3), (4, .int v4)]) X d_Mod_both_64 (by decide) rfl rfl ?_
      refine V_sub (lv' := [(0, .ref (G.2.2 + 162)), (3, .int v3), (4, .int v4), (5, .int (1 : Int32))]) [1, 4, 5, 0] rfl ?_
      obtain ⟨x24, hx24, h⟩ := ob_s h
      refine (lp_Mod_both_66_ok X hD v3 v4 _ _ _ hx24 (fun x9 e9 => ?_) :)
      subst e9
      refine V_aload_n (n := 0) X d_Mod_both_207 rfl rfl rfl ?_
      refine V_getr (k2 := 180) X fo_Mod_73 kd_162 rfl rf_162_38 d_Mod_both_208 rfl ?_
      refine V_iload_n (n := 1) X d_Mod_both_211 rfl rfl rfl ?_
      refine V_iload (n := 2) X d_Mod_both_212 rfl rfl ?_
      obtain ⟨x25, hx25, h⟩ := ob_s h
      refine V_si (As := [.int v3, .int v4]) X (Z0 E) ml_Mod_154 yq_Mod_placeOf (c_Mod_placeOf E.2.1 G v3 v4 x24 x25 hx25 _ (Nat.le_refl _)) rfl (by omega) rfl (Nat.le_of_ble_eq_true rfl) d_Mod_both_214 rfl (fun r9 M9 hq => ?_)
      rw [hq.1, hq.2]
      obtain ⟨hb, h⟩ := ifn h
      refine V_iald X kd_180 (inb_in ln_180 hb) d_Mod_both_217 rfl ?_
      refine V_istore (lv' := [(6, .int (x24.1 180 x25.toNatClampNeg)), (0, .ref (G.2.2 + 162)), (3, .int v3), (4, .int v4)]) X d_Mod_both_218 (by decide) rfl rfl ?_
      refine V_iload (n := 0) X d_Mod_both_220 rfl rfl ?_
      refine V_ldc_w (v := 1000000) X d_Mod_both_222 kc_Mod_357 rfl ?_
      refine V_icmp_lt (tgt := 231) X d_Mod_both_225 (by decide) rfl (fun c28 => ?_) (fun c28 => ?_)
      · rw [if_pos c28] at h
        refine V_aload_n (n := 1) X d_Mod_both_231 rfl rfl rfl ?_
        refine V_iconst (v := 0) X d_Mod_both_232 (by decide) rfl ?_
        obtain ⟨M26, eM26, h⟩ := memS h
        refine V_putI X fp_Mod_112 kd_162 rfl d_Mod_both_233 rfl ?_
        rw [← eM26]
        refine V_aload_n (n := 1) X d_Mod_both_236 rfl rfl rfl ?_
        refine V_iload (n := 0) X d_Mod_both_237 rfl rfl ?_
        refine V_sipush (v := 1000) X d_Mod_both_239 (by decide) rfl ?_
        refine V_irem X d_Mod_both_242 (by decide) rfl ?_
        obtain ⟨x27, hx27, h⟩ := ob_s h
        refine V_cv (As := [.int ((x24.1 180 x25.toNatClampNeg) - (x24.1 180 x25.toNatClampNeg) / (1000 : Int32) * (1000 : Int32))]) X (Z0 E) ml_Mod_342 yq_Mod_put (c_Mod_put E.2.1 G ((x24.1 180 x25.toNatClampNeg) - (x24.1 180 x25.toNatClampNeg) / (1000 : Int32) * (1000 : Int32)) M26 x27 hx27 _ (Nat.le_refl _)) kd_162 rfl rfl (by omega) rfl (Nat.le_of_ble_eq_true rfl) d_Mod_both_243 rfl (fun M9 hq => ?_)
        rw [hq]
        refine V_iload (n := 0) X d_Mod_both_246 rfl rfl ?_
        refine V_sipush (v := 1000) X d_Mod_both_248 (by decide) rfl ?_
        refine V_idiv X d_Mod_both_251 (by decide) rfl ?_
        exact V_iret X (kr (((x24.1 180 x25.toNatClampNeg) / (1000 : Int32)), x27) (Option.some.inj h).symm) d_Mod_both_252
      · rw [if_neg c28] at h
        refine V_bipush (v := -2) X d_Mod_both_228 (by decide) rfl ?_
        exact V_iret X (kr ((-2 : Int32), x24) (Option.some.inj h).symm) d_Mod_both_230
    · rw [if_pos c29] at h
      refine V_iconst (v := -1) X d_Mod_both_24 (by decide) rfl ?_
      exact V_iret X (kr ((-1 : Int32), M1) (Option.some.inj h).symm) d_Mod_both_25
def lb_Mod_copy_2 (v0 : Nat) (v1 : Nat) (s : Int32 × Mem) : Option ((Int32 × Mem) ⊕ ((Mem))) :=
  if (Int32.ofNat (ln v0)) ≤ s.1 then
  some (.inr s.2)
  else
  if inb s.1 (ln v0) = true then
  if inb s.1 (ln v1) = true then
  mem_ (s_i s.2 v1 s.1.toNatClampNeg (s.2.1 v0 s.1.toNatClampNeg)) fun M1 =>
  some (.inl ((s.1 + (1 : Int32)), M1))
  else none
  else none
theorem lb_Mod_copy_2_ok {E : Ev} {G : Gw} {d : Nat} {post : Mem → Prop} (X : Cx E G b_Mod_copy "WomenByTheRoofsModel" 3 d none) (hD : 1 ≤ d)  (v0 : Nat) (v1 : Nat) (hk_v0 : kd v0 = 1) (hk_v1 : kd v1 = 1)  (s : Int32 × Mem) (o : (Int32 × Mem) ⊕ ((Mem))) (h : lb_Mod_copy_2 v0 v1 s = some o) (kc : ∀ s9 : Int32 × Mem, o = .inl s9 → V E (0, 0) G 3 (QV E G post) s9.2 2 [(0, .ref (G.2.2 + v0)), (1, .ref (G.2.2 + v1)), (2, .int s9.1)] []) (kx0 : ∀ x9 : Mem, o = .inr x9 → V E (0, 0) G 3 (QV E G post) x9 20 [] []) : V E (0, 0) G 3 (QV E G post) s.2 2 [(0, .ref (G.2.2 + v0)), (1, .ref (G.2.2 + v1)), (2, .int s.1)] [] := by
  unfold lb_Mod_copy_2 at h
  refine V_iload_n (n := 2) X d_Mod_copy_2 rfl rfl rfl ?_
  refine V_aload_n (n := 0) X d_Mod_copy_3 rfl rfl rfl ?_
  refine V_alen X hk_v0 (by decide) rfl d_Mod_copy_4 rfl ?_
  refine V_icmp_ge (tgt := 20) X d_Mod_copy_5 (by decide) rfl (fun c2 => ?_) (fun c2 => ?_)
  · rw [if_pos c2] at h
    refine V_sub (lv' := []) [] rfl ?_
    exact kx0 s.2 (Option.some.inj h).symm
  · rw [if_neg c2] at h
    refine V_aload_n (n := 1) X d_Mod_copy_8 rfl rfl rfl ?_
    refine V_iload_n (n := 2) X d_Mod_copy_9 rfl rfl rfl ?_
    refine V_aload_n (n := 0) X d_Mod_copy_10 rfl rfl rfl ?_
    refine V_iload_n (n := 2) X d_Mod_copy_11 rfl rfl rfl ?_
    obtain ⟨hb, h⟩ := ifn h
    refine V_iald X hk_v0 (inb_in rfl hb) d_Mod_copy_12 rfl ?_
    obtain ⟨hb, h⟩ := ifn h
    obtain ⟨M1, eM1, h⟩ := memS h
    refine V_iast X hk_v1 (inb_in rfl hb) d_Mod_copy_13 rfl ?_
    rw [← eM1]
    refine V_iinc (n := 2) (v := (s.1 + (1 : Int32))) (lv' := [(2, .int (s.1 + (1 : Int32))), (0, .ref (G.2.2 + v0)), (1, .ref (G.2.2 + v1))]) X d_Mod_copy_14 rfl rfl (by decide) rfl rfl ?_
    refine V_goto (pc' := 2) X d_Mod_copy_17 (by decide) ?_
    refine V_sub (lv' := [(0, .ref (G.2.2 + v0)), (1, .ref (G.2.2 + v1)), (2, .int (s.1 + (1 : Int32)))]) [1, 2, 0] rfl ?_
    exact kc ((s.1 + (1 : Int32)), M1) (Option.some.inj h).symm
theorem lp_Mod_copy_2_ok {E : Ev} {G : Gw} {d : Nat} {post : Mem → Prop} (X : Cx E G b_Mod_copy "WomenByTheRoofsModel" 3 d none) (hD : 1 ≤ d)  (v0 : Nat) (v1 : Nat) (hk_v0 : kd v0 = 1) (hk_v1 : kd v1 = 1)  (n9 : Nat) (s : Int32 × Mem) (x : (Mem)) (h : iter (lb_Mod_copy_2 v0 v1) n9 s = some x) (kx0 : ∀ x9 : Mem, x = x9 → V E (0, 0) G 3 (QV E G post) x9 20 [] []) : V E (0, 0) G 3 (QV E G post) s.2 2 [(0, .ref (G.2.2 + v0)), (1, .ref (G.2.2 + v1)), (2, .int s.1)] [] :=
  iter_P (P := fun s : Int32 × Mem => V E (0, 0) G 3 (QV E G post) s.2 2 [(0, .ref (G.2.2 + v0)), (1, .ref (G.2.2 + v1)), (2, .int s.1)] []) (fun s o hb kc ky => lb_Mod_copy_2_ok X hD v0 v1 hk_v0 hk_v1 s o hb kc (fun x9 e9 => kx0 x9 (ky _ e9).symm)) n9 s h
def f_Mod_copy (v0 : Nat) (v1 : Nat) (M : Mem) : Option (Mem) :=
  if kd v0 = 1 then
  if kd v1 = 1 then
  Option.bind (iter (lb_Mod_copy_2 v0 v1) FU ((0 : Int32), M)) fun x3 =>
  some x3
  else none
  else none
theorem c_Mod_copy (l : Launch) (G : Gw)  (v0 : Nat) (v1 : Nat) (M : Mem) (x : Mem) (h : f_Mod_copy v0 v1 M = some x) (d : Nat) (hD : 1 ≤ d) : Cv l G y_Mod_copy b_Mod_copy 3 none d [.ref (G.2.2 + v0), .ref (G.2.2 + v1)] M (fun M9 => M9 = x) := by
  refine Cv_of (by decide) (Nat.le_of_ble_eq_true rfl) (fun E hE X => ?_)
  subst hE
  have kr : ∀ x9 : Mem, x = x9 → (fun M9 => M9 = x) x9 := fun x9 e9 => by subst e9; exact rfl
  unfold f_Mod_copy at h
  obtain ⟨hk_v0, h⟩ := ifn h
  obtain ⟨hk_v1, h⟩ := ifn h
  refine V_iconst (v := 0) X d_Mod_copy_0 (by decide) rfl ?_
  refine V_istore_n (lv' := [(2, .int (0 : Int32)), (0, .ref (G.2.2 + v0)), (1, .ref (G.2.2 + v1))]) X d_Mod_copy_1 rfl (by decide) rfl rfl ?_
  refine V_sub (lv' := [(0, .ref (G.2.2 + v0)), (1, .ref (G.2.2 + v1)), (2, .int (0 : Int32))]) [1, 2, 0] rfl ?_
  obtain ⟨x3, hx3, h⟩ := ob_s h
  refine (lp_Mod_copy_2_ok X hD v0 v1 hk_v0 hk_v1 _ _ _ hx3 (fun x9 e9 => ?_) :)
  subst e9
  exact V_vret X (kr x3 (Option.some.inj h).symm) d_Mod_copy_20
def lb_Mod_errand_177 (v7 : Int32) (v8 : Int32) (M : Mem) (s : Int32 × Int32 × Int32 × Int32 × Int32) : Option ((Int32 × Int32 × Int32 × Int32 × Int32) ⊕ ((Int32 × Int32 × Int32 × Int32))) :=
  Option.bind (f_Mod_cells M) fun x14 =>
  if x14 ≤ s.2.2.2.2 then
  some (.inr (s.1, s.2.1, s.2.2.1, s.2.2.2.1))
  else
  Option.bind (f_Mod_placeOf (1 : Int32) s.2.2.2.2) fun x15 =>
  if inb s.2.2.2.2 36 = true then
  if (M.1 164 s.2.2.2.2.toNatClampNeg) = (3 : Int32) then
  if inb s.2.2.2.2 72 = true then
  if (1000000 : Int32) ≤ (M.1 181 s.2.2.2.2.toNatClampNeg) then
  some (.inl (s.1, s.2.1, s.2.2.1, s.2.2.2.1, (s.2.2.2.2 + (1 : Int32))))
  else
  if inb x15 72 = true then
  if (1000000 : Int32) ≤ (M.1 177 x15.toNatClampNeg) then
  some (.inl (s.1, s.2.1, s.2.2.1, s.2.2.2.1, (s.2.2.2.2 + (1 : Int32))))
  else
  if inb x15 72 = true then
  if (M.1 182 x15.toNatClampNeg) < (1000000 : Int32) then
  if inb v7 96 = true then
  if inb (M.1 163 v7.toNatClampNeg) 72 = true then
  if inb s.2.2.2.2 72 = true then
  if inb x15 72 = true then
  if inb x15 72 = true then
  if ((if ((M.1 181 (M.1 163 v7.toNatClampNeg).toNatClampNeg) + (M.1 181 s.2.2.2.2.toNatClampNeg)) < (M.1 177 x15.toNatClampNeg) then (M.1 177 x15.toNatClampNeg) else ((M.1 181 (M.1 163 v7.toNatClampNeg).toNatClampNeg) + (M.1 181 s.2.2.2.2.toNatClampNeg))) + (M.1 182 x15.toNatClampNeg)) < s.1 then
  some (.inl (((if ((M.1 181 (M.1 163 v7.toNatClampNeg).toNatClampNeg) + (M.1 181 s.2.2.2.2.toNatClampNeg)) < (M.1 177 x15.toNatClampNeg) then (M.1 177 x15.toNatClampNeg) else ((M.1 181 (M.1 163 v7.toNatClampNeg).toNatClampNeg) + (M.1 181 s.2.2.2.2.toNatClampNeg))) + (M.1 182 x15.toNatClampNeg)), v7, v8, s.2.2.2.2, (s.2.2.2.2 + (1 : Int32))))
  else
  some (.inl (s.1, s.2.1, s.2.2.1, s.2.2.2.1, (s.2.2.2.2 + (1 : Int32))))
  else none
  else none
  else none
  else none
  else none
  else
  some (.inl (s.1, s.2.1, s.2.2.1, s.2.2.2.1, (s.2.2.2.2 + (1 : Int32))))
  else none
  else none
  else none
  else
  some (.inl (s.1, s.2.1, s.2.2.1, s.2.2.2.1, (s.2.2.2.2 + (1 : Int32))))
  else none
theorem lb_Mod_errand_177_ok {E : Ev} {G : Gw} {d : Nat} {post : Int32 → Mem → Prop} (X : Cx E G b_Mod_errand "WomenByTheRoofsModel" 12 d (some .int)) (hD : 7 ≤ d)  (v7 : Int32) (v8 : Int32)  (M : Mem) (s : Int32 × Int32 × Int32 × Int32 × Int32) (o : (Int32 × Int32 × Int32 × Int32 × Int32) ⊕ ((Int32 × Int32 × Int32 × Int32))) (h : lb_Mod_errand_177 v7 v8 M s = some o) (kc : ∀ s9 : Int32 × Int32 × Int32 × Int32 × Int32, o = .inl s9 → V E (0, 0) G 12 (QI E G post) M 177 [(0, .ref (G.2.2 + 162)), (3, .int s9.1), (4, .int s9.2.1), (5, .int s9.2.2.1), (6, .int s9.2.2.2.1), (7, .int v7), (8, .int v8), (9, .int s9.2.2.2.2)] []) (kx0 : ∀ x9 : Int32 × Int32 × Int32 × Int32, o = .inr x9 → V E (0, 0) G 12 (QI E G post) M 317 [(0, .ref (G.2.2 + 162)), (3, .int x9.1), (4, .int x9.2.1), (5, .int x9.2.2.1), (6, .int x9.2.2.2), (7, .int v7), (8, .int v8)] []) : V E (0, 0) G 12 (QI E G post) M 177 [(0, .ref (G.2.2 + 162)), (3, .int s.1), (4, .int s.2.1), (5, .int s.2.2.1), (6, .int s.2.2.2.1), (7, .int v7), (8, .int v8), (9, .int s.2.2.2.2)] [] := by
  unfold lb_Mod_errand_177 at h
  refine V_iload (n := 7) X d_Mod_errand_177 rfl rfl ?_
  refine V_aload_n (n := 0) X d_Mod_errand_179 rfl rfl rfl ?_
  obtain ⟨x14, hx14, h⟩ := ob_s h
  refine V_ci (As := []) X (Z0 E) ml_Mod_115 yq_Mod_cells (c_Mod_cells E.2.1 G  M x14 hx14 _ (Nat.le_refl _)) kd_162 rfl rfl (by omega) rfl (Nat.le_of_ble_eq_true rfl) d_Mod_errand_180 rfl (fun r9 M9 hq => ?_)
  rw [hq.1, hq.2]
  refine V_icmp_ge (tgt := 317) X d_Mod_errand_183 (by decide) rfl (fun c21 => ?_) (fun c21 => ?_)
  · rw [if_pos c21] at h
    refine V_sub (lv' := [(0, .ref (G.2.2 + 162)), (3, .int s.1), (4, .int s.2.1), (5, .int s.2.2.1), (6, .int s.2.2.2.1), (7, .int v7), (8, .int v8)]) [0, 1, 2, 3, 4, 5, 6] rfl ?_
    exact kx0 (s.1, s.2.1, s.2.2.1, s.2.2.2.1) (Option.some.inj h).symm
  · rw [if_neg c21] at h
    refine V_iconst (v := 1) X d_Mod_errand_186 (by decide) rfl ?_
    refine V_iload (n := 7) X d_Mod_errand_187 rfl rfl ?_
    obtain ⟨x15, hx15, h⟩ := ob_s h
    refine V_si (As := [.int (1 : Int32), .int s.2.2.2.2]) X (Z0 E) ml_Mod_154 yq_Mod_placeOf (c_Mod_placeOf E.2.1 G (1 : Int32) s.2.2.2.2 M x15 hx15 _ (Nat.le_refl _)) rfl (by omega) rfl (Nat.le_of_ble_eq_true rfl) d_Mod_errand_189 rfl (fun r9 M9 hq => ?_)
    rw [hq.1, hq.2]
    refine V_istore (lv' := [(10, .int x15), (0, .ref (G.2.2 + 162)), (3, .int s.1), (4, .int s.2.1), (5, .int s.2.2.1), (6, .int s.2.2.2.1), (7, .int v7), (8, .int v8), (9, .int s.2.2.2.2)]) X d_Mod_errand_192 (by decide) rfl rfl ?_
    refine V_aload_n (n := 1) X d_Mod_errand_194 rfl rfl rfl ?_
    refine V_getr (k2 := 164) X fo_Mod_13 kd_162 rfl rf_162_1 d_Mod_errand_195 rfl ?_
    refine V_iload (n := 8) X d_Mod_errand_198 rfl rfl ?_
    obtain ⟨hb, h⟩ := ifn h
    refine V_iald X kd_164 (inb_in ln_164 hb) d_Mod_errand_200 rfl ?_
    refine V_iconst (v := 3) X d_Mod_errand_201 (by decide) rfl ?_
    refine V_icmp_ne (tgt := 311) X d_Mod_errand_202 (by decide) rfl (fun c20 => ?_) (fun c20 => ?_)
    · rw [if_neg c20] at h
      refine V_iinc (n := 8) (v := (s.2.2.2.2 + (1 : Int32))) (lv' := [(9, .int (s.2.2.2.2 + (1 : Int32))), (10, .int x15), (0, .ref (G.2.2 + 162)), (3, .int s.1), (4, .int s.2.1), (5, .int s.2.2.1), (6, .int s.2.2.2.1), (7, .int v7), (8, .int v8)]) X d_Mod_errand_311 rfl rfl (by decide) rfl rfl ?_
      refine V_goto (pc' := 177) X d_Mod_errand_314 (by decide) ?_
      refine V_sub (lv' := [(0, .ref (G.2.2 + 162)), (3, .int s.1), (4, .int s.2.1), (5, .int s.2.2.1), (6, .int s.2.2.2.1), (7, .int v7), (8, .int v8), (9, .int (s.2.2.2.2 + (1 : Int32)))]) [2, 3, 4, 5, 6, 7, 8, 0] rfl ?_
      exact kc (s.1, s.2.1, s.2.2.1, s.2.2.2.1, (s.2.2.2.2 + (1 : Int32))) (Option.some.inj h).symm
    · rw [if_pos c20] at h
      refine V_aload_n (n := 1) X d_Mod_errand_205 rfl rfl rfl ?_
      refine V_getr (k2 := 181) X fo_Mod_76 kd_162 rfl rf_162_39 d_Mod_errand_206 rfl ?_
      refine V_iload (n := 8) X d_Mod_errand_209 rfl rfl ?_
      obtain ⟨hb, h⟩ := ifn h
      refine V_iald X kd_181 (inb_in ln_181 hb) d_Mod_errand_211 rfl ?_
      refine V_ldc_w (v := 1000000) X d_Mod_errand_212 kc_Mod_357 rfl ?_
      refine V_icmp_ge (tgt := 311) X d_Mod_errand_215 (by decide) rfl (fun c19 => ?_) (fun c19 => ?_)
      · rw [if_pos c19] at h
        refine V_iinc (n := 8) (v := (s.2.2.2.2 + (1 : Int32))) (lv' := [(9, .int (s.2.2.2.2 + (1 : Int32))), (10, .int x15), (0, .ref (G.2.2 + 162)), (3, .int s.1), (4, .int s.2.1), (5, .int s.2.2.1), (6, .int s.2.2.2.1), (7, .int v7), (8, .int v8)]) X d_Mod_errand_311 rfl rfl (by decide) rfl rfl ?_
        refine V_goto (pc' := 177) X d_Mod_errand_314 (by decide) ?_
        refine V_sub (lv' := [(0, .ref (G.2.2 + 162)), (3, .int s.1), (4, .int s.2.1), (5, .int s.2.2.1), (6, .int s.2.2.2.1), (7, .int v7), (8, .int v8), (9, .int (s.2.2.2.2 + (1 : Int32)))]) [2, 3, 4, 5, 6, 7, 8, 0] rfl ?_
        exact kc (s.1, s.2.1, s.2.2.1, s.2.2.2.1, (s.2.2.2.2 + (1 : Int32))) (Option.some.inj h).symm
      · rw [if_neg c19] at h
        refine V_aload_n (n := 1) X d_Mod_errand_218 rfl rfl rfl ?_
        refine V_getr (k2 := 177) X fo_Mod_63 kd_162 rfl rf_162_35 d_Mod_errand_219 rfl ?_
        refine V_iload (n := 0) X d_Mod_errand_222 rfl rfl ?_
        obtain ⟨hb, h⟩ := ifn h
        refine V_iald X kd_177 (inb_in ln_177 hb) d_Mod_errand_224 rfl ?_
        refine V_ldc_w (v := 1000000) X d_Mod_errand_225 kc_Mod_357 rfl ?_
        refine V_icmp_ge (tgt := 311) X d_Mod_errand_228 (by decide) rfl (fun c18 => ?_) (fun c18 => ?_)
        · rw [if_pos c18] at h
          refine V_iinc (n := 8) (v := (s.2.2.2.2 + (1 : Int32))) (lv' := [(9, .int (s.2.2.2.2 + (1 : Int32))), (10, .int x15), (0, .ref (G.2.2 + 162)), (3, .int s.1), (4, .int s.2.1), (5, .int s.2.2.1), (6, .int s.2.2.2.1), (7, .int v7), (8, .int v8)]) X d_Mod_errand_311 rfl rfl (by decide) rfl rfl ?_
          refine V_goto (pc' := 177) X d_Mod_errand_314 (by decide) ?_
          refine V_sub (lv' := [(0, .ref (G.2.2 + 162)), (3, .int s.1), (4, .int s.2.1), (5, .int s.2.2.1), (6, .int s.2.2.2.1), (7, .int v7), (8, .int v8), (9, .int (s.2.2.2.2 + (1 : Int32)))]) [2, 3, 4, 5, 6, 7, 8, 0] rfl ?_
          exact kc (s.1, s.2.1, s.2.2.1, s.2.2.2.1, (s.2.2.2.2 + (1 : Int32))) (Option.some.inj h).symm
        · rw [if_neg c18] at h
          refine V_aload_n (n := 1) X d_Mod_errand_231 rfl rfl rfl ?_
          refine V_getr (k2 := 182) X fo_Mod_79 kd_162 rfl rf_162_40 d_Mod_errand_232 rfl ?_
          refine V_iload (n := 0) X d_Mod_errand_235 rfl rfl ?_
          obtain ⟨hb, h⟩ := ifn h
          refine V_iald X kd_182 (inb_in ln_182 hb) d_Mod_errand_237 rfl ?_
          refine V_ldc_w (v := 1000000) X d_Mod_errand_238 kc_Mod_357 rfl ?_
          refine V_icmp_lt (tgt := 247) X d_Mod_errand_241 (by decide) rfl (fun c17 => ?_) (fun c17 => ?_)
          · rw [if_pos c17] at h
            refine V_aload_n (n := 1) X d_Mod_errand_247 rfl rfl rfl ?_
            refine V_getr (k2 := 181) X fo_Mod_76 kd_162 rfl rf_162_39 d_Mod_errand_248 rfl ?_
            refine V_aload_n (n := 1) X d_Mod_errand_251 rfl rfl rfl ?_
            refine V_getr (k2 := 163) X fo_Mod_9 kd_162 rfl rf_162_0 d_Mod_errand_252 rfl ?_
            refine V_iload (n := 6) X d_Mod_errand_255 rfl rfl ?_
            obtain ⟨hb, h⟩ := ifn h
            refine V_iald X kd_163 (inb_in ln_163 hb) d_Mod_errand_257 rfl ?_
            obtain ⟨hb, h⟩ := ifn h
            refine V_iald X kd_181 (inb_in ln_181 hb) d_Mod_errand_258 rfl ?_
            refine V_aload_n (n := 1) X d_Mod_errand_259 rfl rfl rfl ?_
            refine V_getr (k2 := 181) X fo_Mod_76 kd_162 rfl rf_162_39 d_Mod_errand_260 rfl ?_
            refine V_iload (n := 8) X d_Mod_errand_263 rfl rfl ?_
            obtain ⟨hb, h⟩ := ifn h
            refine V_iald X kd_181 (inb_in ln_181 hb) d_Mod_errand_265 rfl ?_
            refine V_iadd X d_Mod_errand_266 rfl ?_
            refine V_aload_n (n := 1) X d_Mod_errand_267 rfl rfl rfl ?_
            refine V_getr (k2 := 177) X fo_Mod_63 kd_162 rfl rf_162_35 d_Mod_errand_268 rfl ?_
            refine V_iload (n := 0) X d_Mod_errand_271 rfl rfl ?_
            obtain ⟨hb, h⟩ := ifn h
            refine V_iald X kd_177 (inb_in ln_177 hb) d_Mod_errand_273 rfl ?_
            refine V_mmax X (Z0 E) mm_Mod_304 (by omega) (Nat.le_of_ble_eq_true rfl) d_Mod_errand_274 rfl ?_
            refine V_aload_n (n := 1) X d_Mod_errand_277 rfl rfl rfl ?_
            refine V_getr (k2 := 182) X fo_Mod_79 kd_162 rfl rf_162_40 d_Mod_errand_278 rfl ?_
            refine V_iload (n := 0) X d_Mod_errand_281 rfl rfl ?_
            obtain ⟨hb, h⟩ := ifn h
            refine V_iald X kd_182 (inb_in ln_182 hb) d_Mod_errand_283 rfl ?_
            refine V_iadd X d_Mod_errand_284 rfl ?_
            refine V_istore (lv' := [(11, .int ((if ((M.1 181 (M.1 163 v7.toNatClampNeg).toNatClampNeg) + (M.1 181 s.2.2.2.2.toNatClampNeg)) < (M.1 177 x15.toNatClampNeg) then (M.1 177 x15.toNatClampNeg) else ((M.1 181 (M.1 163 v7.toNatClampNeg).toNatClampNeg) + (M.1 181 s.2.2.2.2.toNatClampNeg))) + (M.1 182 x15.toNatClampNeg))), (10, .int x15), (0, .ref (G.2.2 + 162)), (3, .int s.1), (4, .int s.2.1), (5, .int s.2.2.1), (6, .int s.2.2.2.1), (7, .int v7), (8, .int v8), (9, .int s.2.2.2.2)]) X d_Mod_errand_285 (by decide) rfl rfl ?_
            refine V_iload (n := 0) X d_Mod_errand_287 rfl rfl ?_
            refine V_iload_n (n := 3) X d_Mod_errand_289 rfl rfl rfl ?_
            refine V_icmp_lt (tgt := 296) X d_Mod_errand_290 (by decide) rfl (fun c16 => ?_) (fun c16 => ?_)
            · rw [if_pos c16] at h
              refine V_iload (n := 0) X d_Mod_errand_296 rfl rfl ?_
              refine V_istore_n (lv' := [(3, .int ((if ((M.1 181 (M.1 163 v7.toNatClampNeg).toNatClampNeg) + (M.1 181 s.2.2.2.2.toNatClampNeg)) < (M.1 177 x15.toNatClampNeg) then (M.1 177 x15.toNatClampNeg) else ((M.1 181 (M.1 163 v7.toNatClampNeg).toNatClampNeg) + (M.1 181 s.2.2.2.2.toNatClampNeg))) + (M.1 182 x15.toNatClampNeg))), (11, .int ((if ((M.1 181 (M.1 163 v7.toNatClampNeg).toNatClampNeg) + (M.1 181 s.2.2.2.2.toNatClampNeg)) < (M.1 177 x15.toNatClampNeg) then (M.1 177 x15.toNatClampNeg) else ((M.1 181 (M.1 163 v7.toNatClampNeg).toNatClampNeg) + (M.1 181 s.2.2.2.2.toNatClampNeg))) + (M.1 182 x15.toNatClampNeg))), (10, .int x15), (0, .ref (G.2.2 + 162)), (4, .int s.2.1), (5, .int s.2.2.1), (6, .int s.2.2.2.1), (7, .int v7), (8, .int v8), (9, .int s.2.2.2.2)]) X d_Mod_errand_298 rfl (by decide) rfl rfl ?_
              refine V_iload (n := 7) X d_Mod_errand_299 rfl rfl ?_
              refine V_istore (lv' := [(4, .int v7), (3, .int ((if ((M.1 181 (M.1 163 v7.toNatClampNeg).toNatClampNeg) + (M.1 181 s.2.2.2.2.toNatClampNeg)) < (M.1 177 x15.toNatClampNeg) then (M.1 177 x15.toNatClampNeg) else ((M.1 181 (M.1 163 v7.toNatClampNeg).toNatClampNeg) + (M.1 181 s.2.2.2.2.toNatClampNeg))) + (M.1 182 x15.toNatClampNeg))), (11, .int ((if ((M.1 181 (M.1 163 v7.toNatClampNeg).toNatClampNeg) + (M.1 181 s.2.2.2.2.toNatClampNeg)) < (M.1 177 x15.toNatClampNeg) then (M.1 177 x15.toNatClampNeg) else ((M.1 181 (M.1 163 v7.toNatClampNeg).toNatClampNeg) + (M.1 181 s.2.2.2.2.toNatClampNeg))) + (M.1 182 x15.toNatClampNeg))), (10, .int x15), (0, .ref (G.2.2 + 162)), (5, .int s.2.2.1), (6, .int s.2.2.2.1), (7, .int v7), (8, .int v8), (9, .int s.2.2.2.2)]) X d_Mod_errand_301 (by decide) rfl rfl ?_
              refine V_iload (n := 8) X d_Mod_errand_303 rfl rfl ?_
              refine V_istore (lv' := [(5, .int v8), (4, .int v7), (3, .int ((if ((M.1 181 (M.1 163 v7.toNatClampNeg).toNatClampNeg) + (M.1 181 s.2.2.2.2.toNatClampNeg)) < (M.1 177 x15.toNatClampNeg) then (M.1 177 x15.toNatClampNeg) else ((M.1 181 (M.1 163 v7.toNatClampNeg).toNatClampNeg) + (M.1 181 s.2.2.2.2.toNatClampNeg))) + (M.1 182 x15.toNatClampNeg))), (11, .int ((if ((M.1 181 (M.1 163 v7.toNatClampNeg).toNatClampNeg) + (M.1 181 s.2.2.2.2.toNatClampNeg)) < (M.1 177 x15.toNatClampNeg) then (M.1 177 x15.toNatClampNeg) else ((M.1 181 (M.1 163 v7.toNatClampNeg).toNatClampNeg) + (M.1 181 s.2.2.2.2.toNatClampNeg))) + (M.1 182 x15.toNatClampNeg))), (10, .int x15), (0, .ref (G.2.2 + 162)), (6, .int s.2.2.2.1), (7, .int v7), (8, .int v8), (9, .int s.2.2.2.2)]) X d_Mod_errand_305 (by decide) rfl rfl ?_
              refine V_iload (n := 9) X d_Mod_errand_307 rfl rfl ?_
              refine V_istore (lv' := [(6, .int s.2.2.2.2), (5, .int v8), (4, .int v7), (3, .int ((if ((M.1 181 (M.1 163 v7.toNatClampNeg).toNatClampNeg) + (M.1 181 s.2.2.2.2.toNatClampNeg)) < (M.1 177 x15.toNatClampNeg) then (M.1 177 x15.toNatClampNeg) else ((M.1 181 (M.1 163 v7.toNatClampNeg).toNatClampNeg) + (M.1 181 s.2.2.2.2.toNatClampNeg))) + (M.1 182 x15.toNatClampNeg))), (11, .int ((if ((M.1 181 (M.1 163 v7.toNatClampNeg).toNatClampNeg) + (M.1 181 s.2.2.2.2.toNatClampNeg)) < (M.1 177 x15.toNatClampNeg) then (M.1 177 x15.toNatClampNeg) else ((M.1 181 (M.1 163 v7.toNatClampNeg).toNatClampNeg) + (M.1 181 s.2.2.2.2.toNatClampNeg))) + (M.1 182 x15.toNatClampNeg))), (10, .int x15), (0, .ref (G.2.2 + 162)), (7, .int v7), (8, .int v8), (9, .int s.2.2.2.2)]) X d_Mod_errand_309 (by decide) rfl rfl ?_
              refine V_iinc (n := 9) (v := (s.2.2.2.2 + (1 : Int32))) (lv' := [(9, .int (s.2.2.2.2 + (1 : Int32))), (6, .int s.2.2.2.2), (5, .int v8), (4, .int v7), (3, .int ((if ((M.1 181 (M.1 163 v7.toNatClampNeg).toNatClampNeg) + (M.1 181 s.2.2.2.2.toNatClampNeg)) < (M.1 177 x15.toNatClampNeg) then (M.1 177 x15.toNatClampNeg) else ((M.1 181 (M.1 163 v7.toNatClampNeg).toNatClampNeg) + (M.1 181 s.2.2.2.2.toNatClampNeg))) + (M.1 182 x15.toNatClampNeg))), (11, .int ((if ((M.1 181 (M.1 163 v7.toNatClampNeg).toNatClampNeg) + (M.1 181 s.2.2.2.2.toNatClampNeg)) < (M.1 177 x15.toNatClampNeg) then (M.1 177 x15.toNatClampNeg) else ((M.1 181 (M.1 163 v7.toNatClampNeg).toNatClampNeg) + (M.1 181 s.2.2.2.2.toNatClampNeg))) + (M.1 182 x15.toNatClampNeg))), (10, .int x15), (0, .ref (G.2.2 + 162)), (7, .int v7), (8, .int v8)]) X d_Mod_errand_311 rfl rfl (by decide) rfl rfl ?_
              refine V_goto (pc' := 177) X d_Mod_errand_314 (by decide) ?_
              refine V_sub (lv' := [(0, .ref (G.2.2 + 162)), (3, .int ((if ((M.1 181 (M.1 163 v7.toNatClampNeg).toNatClampNeg) + (M.1 181 s.2.2.2.2.toNatClampNeg)) < (M.1 177 x15.toNatClampNeg) then (M.1 177 x15.toNatClampNeg) else ((M.1 181 (M.1 163 v7.toNatClampNeg).toNatClampNeg) + (M.1 181 s.2.2.2.2.toNatClampNeg))) + (M.1 182 x15.toNatClampNeg))), (4, .int v7), (5, .int v8), (6, .int s.2.2.2.2), (7, .int v7), (8, .int v8), (9, .int (s.2.2.2.2 + (1 : Int32)))]) [7, 4, 3, 2, 1, 8, 9, 0] rfl ?_
              exact kc (((if ((M.1 181 (M.1 163 v7.toNatClampNeg).toNatClampNeg) + (M.1 181 s.2.2.2.2.toNatClampNeg)) < (M.1 177 x15.toNatClampNeg) then (M.1 177 x15.toNatClampNeg) else ((M.1 181 (M.1 163 v7.toNatClampNeg).toNatClampNeg) + (M.1 181 s.2.2.2.2.toNatClampNeg))) + (M.1 182 x15.toNatClampNeg)), v7, v8, s.2.2.2.2, (s.2.2.2.2 + (1 : Int32))) (Option.some.inj h).symm
            · rw [if_neg c16] at h
              refine V_goto (pc' := 311) X d_Mod_errand_293 (by decide) ?_
              refine V_iinc (n := 9) (v := (s.2.2.2.2 + (1 : Int32))) (lv' := [(9, .int (s.2.2.2.2 + (1 : Int32))), (11, .int ((if ((M.1 181 (M.1 163 v7.toNatClampNeg).toNatClampNeg) + (M.1 181 s.2.2.2.2.toNatClampNeg)) < (M.1 177 x15.toNatClampNeg) then (M.1 177 x15.toNatClampNeg) else ((M.1 181 (M.1 163 v7.toNatClampNeg).toNatClampNeg) + (M.1 181 s.2.2.2.2.toNatClampNeg))) + (M.1 182 x15.toNatClampNeg))), (10, .int x15), (0, .ref (G.2.2 + 162)), (3, .int s.1), (4, .int s.2.1), (5, .int s.2.2.1), (6, .int s.2.2.2.1), (7, .int v7), (8, .int v8)]) X d_Mod_errand_311 rfl rfl (by decide) rfl rfl ?_
              refine V_goto (pc' := 177) X d_Mod_errand_314 (by decide) ?_
              refine V_sub (lv' := [(0, .ref (G.2.2 + 162)), (3, .int s.1), (4, .int s.2.1), (5, .int s.2.2.1), (6, .int s.2.2.2.1), (7, .int v7), (8, .int v8), (9, .int (s.2.2.2.2 + (1 : Int32)))]) [3, 4, 5, 6, 7, 8, 9, 0] rfl ?_
              exact kc (s.1, s.2.1, s.2.2.1, s.2.2.2.1, (s.2.2.2.2 + (1 : Int32))) (Option.some.inj h).symm
          · rw [if_neg c17] at h
            refine V_goto (pc' := 311) X d_Mod_errand_244 (by decide) ?_
            refine V_iinc (n := 8) (v := (s.2.2.2.2 + (1 : Int32))) (lv' := [(9, .int (s.2.2.2.2 + (1 : Int32))), (10, .int x15), (0, .ref (G.2.2 + 162)), (3, .int s.1), (4, .int s.2.1), (5, .int s.2.2.1), (6, .int s.2.2.2.1), (7, .int v7), (8, .int v8)]) X d_Mod_errand_311 rfl rfl (by decide) rfl rfl ?_
            refine V_goto (pc' := 177) X d_Mod_errand_314 (by decide) ?_
            refine V_sub (lv' := [(0, .ref (G.2.2 + 162)), (3, .int s.1), (4, .int s.2.1), (5, .int s.2.2.1), (6, .int s.2.2.2.1), (7, .int v7), (8, .int v8), (9, .int (s.2.2.2.2 + (1 : Int32)))]) [2, 3, 4, 5, 6, 7, 8, 0] rfl ?_
            exact kc (s.1, s.2.1, s.2.2.1, s.2.2.2.1, (s.2.2.2.2 + (1 : Int32))) (Option.some.inj h).symm
theorem lp_Mod_errand_177_ok {E : Ev} {G : Gw} {d : Nat} {post : Int32 → Mem → Prop} (X : Cx E G b_Mod_errand "WomenByTheRoofsModel" 12 d (some .int)) (hD : 7 ≤ d)  (v7 : Int32) (v8 : Int32)  (M : Mem) (n9 : Nat) (s : Int32 × Int32 × Int32 × Int32 × Int32) (x : (Int32 × Int32 × Int32 × Int32)) (h : iter (lb_Mod_errand_177 v7 v8 M) n9 s = some x) (kx0 : ∀ x9 : Int32 × Int32 × Int32 × Int32, x = x9 → V E (0, 0) G 12 (QI E G post) M 317 [(0, .ref (G.2.2 + 162)), (3, .int x9.1), (4, .int x9.2.1), (5, .int x9.2.2.1), (6, .int x9.2.2.2), (7, .int v7), (8, .int v8)] []) : V E (0, 0) G 12 (QI E G post) M 177 [(0, .ref (G.2.2 + 162)), (3, .int s.1), (4, .int s.2.1), (5, .int s.2.2.1), (6, .int s.2.2.2.1), (7, .int v7), (8, .int v8), (9, .int s.2.2.2.2)] [] :=
  iter_P (P := fun s : Int32 × Int32 × Int32 × Int32 × Int32 => V E (0, 0) G 12 (QI E G post) M 177 [(0, .ref (G.2.2 + 162)), (3, .int s.1), (4, .int s.2.1), (5, .int s.2.2.1), (6, .int s.2.2.2.1), (7, .int v7), (8, .int v8), (9, .int s.2.2.2.2)] []) (fun s o hb kc ky => lb_Mod_errand_177_ok X hD v7 v8 M s o hb kc (fun x9 e9 => kx0 x9 (ky _ e9).symm)) n9 s h
def lb_Mod_errand_126 (v7 : Int32) (s : Int32 × Int32 × Int32 × Int32 × Int32 × Mem) : Option ((Int32 × Int32 × Int32 × Int32 × Int32 × Mem) ⊕ ((Int32 × Int32 × Int32 × Int32 × Mem))) :=
  if (s.2.2.2.2.2.1 162 4) ≤ s.2.2.2.2.1 then
  some (.inr (s.1, s.2.1, s.2.2.1, s.2.2.2.1, s.2.2.2.2.2))
  else
  Option.bind (f_Mod_has (s.2.2.2.2.2.1 162 5) s.2.2.2.2.1) fun x11 =>
  if x11 = 0 then
  some (.inl (s.1, s.2.1, s.2.2.1, s.2.2.2.1, (s.2.2.2.2.1 + (1 : Int32)), s.2.2.2.2.2))
  else
  if inb s.2.2.2.2.1 96 = true then
  Option.bind (f_Mod_levelOf (s.2.2.2.2.2.1 163 s.2.2.2.2.1.toNatClampNeg)) fun x12 =>
  if x12 = 0 then
  some (.inl (s.1, s.2.1, s.2.2.1, s.2.2.2.1, (s.2.2.2.2.1 + (1 : Int32)), s.2.2.2.2.2))
  else
  if inb s.2.2.2.2.1 96 = true then
  Option.bind (f_Mod_findFar (s.2.2.2.2.2.1 163 s.2.2.2.2.1.toNatClampNeg) s.2.2.2.2.2) fun x13 =>
  Option.bind (iter (lb_Mod_errand_177 v7 s.2.2.2.2.1 x13) FU (s.1, s.2.1, s.2.2.1, s.2.2.2.1, (0 : Int32))) fun x22 =>
  some (.inl (x22.1, x22.2.1, x22.2.2.1, x22.2.2.2, (s.2.2.2.2.1 + (1 : Int32)), x13))
  else none
  else none
theorem lb_Mod_errand_126_ok {E : Ev} {G : Gw} {d : Nat} {post : Int32 → Mem → Prop} (X : Cx E G b_Mod_errand "WomenByTheRoofsModel" 12 d (some .int)) (hD : 7 ≤ d)  (v7 : Int32)   (s : Int32 × Int32 × Int32 × Int32 × Int32 × Mem) (o : (Int32 × Int32 × Int32 × Int32 × Int32 × Mem) ⊕ ((Int32 × Int32 × Int32 × Int32 × Mem))) (h : lb_Mod_errand_126 v7 s = some o) (kc : ∀ s9 : Int32 × Int32 × Int32 × Int32 × Int32 × Mem, o = .inl s9 → V E (0, 0) G 12 (QI E G post) s9.2.2.2.2.2 126 [(0, .ref (G.2.2 + 162)), (3, .int s9.1), (4, .int s9.2.1), (5, .int s9.2.2.1), (6, .int s9.2.2.2.1), (7, .int v7), (8, .int s9.2.2.2.2.1)] []) (kx0 : ∀ x9 : Int32 × Int32 × Int32 × Int32 × Mem, o = .inr x9 → V E (0, 0) G 12 (QI E G post) x9.2.2.2.2 323 [(0, .ref (G.2.2 + 162)), (3, .int x9.1), (4, .int x9.2.1), (5, .int x9.2.2.1), (6, .int x9.2.2.2.1), (7, .int v7)] []) : V E (0, 0) G 12 (QI E G post) s.2.2.2.2.2 126 [(0, .ref (G.2.2 + 162)), (3, .int s.1), (4, .int s.2.1), (5, .int s.2.2.1), (6, .int s.2.2.2.1), (7, .int v7), (8, .int s.2.2.2.2.1)] [] := by
  unfold lb_Mod_errand_126 at h
  refine V_iload (n := 6) X d_Mod_errand_126 rfl rfl ?_
  refine V_aload_n (n := 0) X d_Mod_errand_128 rfl rfl rfl ?_
  refine V_geti X fo_Mod_123 kd_162 rfl d_Mod_errand_129 rfl ?_
  refine V_icmp_ge (tgt := 323) X d_Mod_errand_132 (by decide) rfl (fun c25 => ?_) (fun c25 => ?_)
  · rw [if_pos c25] at h
    refine V_sub (lv' := [(0, .ref (G.2.2 + 162)), (3, .int s.1), (4, .int s.2.1), (5, .int s.2.2.1), (6, .int s.2.2.2.1), (7, .int v7)]) [0, 1, 2, 3, 4, 5] rfl ?_
    exact kx0 (s.1, s.2.1, s.2.2.1, s.2.2.2.1, s.2.2.2.2.2) (Option.some.inj h).symm
  · rw [if_neg c25] at h
    refine V_aload_n (n := 0) X d_Mod_errand_135 rfl rfl rfl ?_
    refine V_geti X fo_Mod_130 kd_162 rfl d_Mod_errand_136 rfl ?_
    refine V_iload (n := 6) X d_Mod_errand_139 rfl rfl ?_
    obtain ⟨x11, hx11, h⟩ := ob_s h
    refine V_si (As := [.int (s.2.2.2.2.2.1 162 5), .int s.2.2.2.2.1]) X (Z0 E) ml_Mod_133 yq_Mod_has (c_Mod_has E.2.1 G (s.2.2.2.2.2.1 162 5) s.2.2.2.2.1 s.2.2.2.2.2 x11 hx11 _ (Nat.le_refl _)) rfl (by omega) rfl (Nat.le_of_ble_eq_true rfl) d_Mod_errand_141 rfl (fun r9 M9 hq => ?_)
    rw [hq.1, hq.2]
    refine V_if_eq (tgt := 317) X d_Mod_errand_144 (by decide) rfl (fun c24 => ?_) (fun c24 => ?_)
    · rw [if_pos c24] at h
      refine V_iinc (n := 6) (v := (s.2.2.2.2.1 + (1 : Int32))) (lv' := [(8, .int (s.2.2.2.2.1 + (1 : Int32))), (0, .ref (G.2.2 + 162)), (3, .int s.1), (4, .int s.2.1), (5, .int s.2.2.1), (6, .int s.2.2.2.1), (7, .int v7)]) X d_Mod_errand_317 rfl rfl (by decide) rfl rfl ?_
      refine V_goto (pc' := 126) X d_Mod_errand_320 (by decide) ?_
      refine V_sub (lv' := [(0, .ref (G.2.2 + 162)), (3, .int s.1), (4, .int s.2.1), (5, .int s.2.2.1), (6, .int s.2.2.2.1), (7, .int v7), (8, .int (s.2.2.2.2.1 + (1 : Int32)))]) [1, 2, 3, 4, 5, 6, 0] rfl ?_
      exact kc (s.1, s.2.1, s.2.2.1, s.2.2.2.1, (s.2.2.2.2.1 + (1 : Int32)), s.2.2.2.2.2) (Option.some.inj h).symm
    · rw [if_neg c24] at h
      refine V_aload_n (n := 0) X d_Mod_errand_147 rfl rfl rfl ?_
      refine V_getr (k2 := 163) X fo_Mod_9 kd_162 rfl rf_162_0 d_Mod_errand_148 rfl ?_
      refine V_iload (n := 6) X d_Mod_errand_151 rfl rfl ?_
      obtain ⟨hb, h⟩ := ifn h
      refine V_iald X kd_163 (inb_in ln_163 hb) d_Mod_errand_153 rfl ?_
      obtain ⟨x12, hx12, h⟩ := ob_s h
      refine V_si (As := [.int (s.2.2.2.2.2.1 163 s.2.2.2.2.1.toNatClampNeg)]) X (Z0 E) ml_Mod_143 yq_Mod_levelOf (c_Mod_levelOf E.2.1 G (s.2.2.2.2.2.1 163 s.2.2.2.2.1.toNatClampNeg) s.2.2.2.2.2 x12 hx12 _ (Nat.le_refl _)) rfl (by omega) rfl (Nat.le_of_ble_eq_true rfl) d_Mod_errand_154 rfl (fun r9 M9 hq => ?_)
      rw [hq.1, hq.2]
      refine V_if_ne (tgt := 163) X d_Mod_errand_157 (by decide) rfl (fun c23 => ?_) (fun c23 => ?_)
      · rw [if_neg c23] at h
        refine V_aload_n (n := 0) X d_Mod_errand_163 rfl rfl rfl ?_
        refine V_aload_n (n := 0) X d_Mod_errand_164 rfl rfl rfl ?_
        refine V_getr (k2 := 163) X fo_Mod_9 kd_162 rfl rf_162_0 d_Mod_errand_165 rfl ?_
        refine V_iload (n := 6) X d_Mod_errand_168 rfl rfl ?_
        obtain ⟨hb, h⟩ := ifn h
        refine V_iald X kd_163 (inb_in ln_163 hb) d_Mod_errand_170 rfl ?_
        obtain ⟨x13, hx13, h⟩ := ob_s h
        refine V_cv (As := [.int (s.2.2.2.2.2.1 163 s.2.2.2.2.1.toNatClampNeg)]) X (Z0 E) ml_Mod_365 yq_Mod_findFar (c_Mod_findFar E.2.1 G (s.2.2.2.2.2.1 163 s.2.2.2.2.1.toNatClampNeg) s.2.2.2.2.2 x13 hx13 _ (Nat.le_refl _)) kd_162 rfl rfl (by omega) rfl (Nat.le_of_ble_eq_true rfl) d_Mod_errand_171 rfl (fun M9 hq => ?_)
        rw [hq]
        refine V_iconst (v := 0) X d_Mod_errand_174 (by decide) rfl ?_
        refine V_istore (lv' := [(9, .int (0 : Int32)), (0, .ref (G.2.2 + 162)), (3, .int s.1), (4, .int s.2.1), (5, .int s.2.2.1), (6, .int s.2.2.2.1), (7, .int v7), (8, .int s.2.2.2.2.1)]) X d_Mod_errand_175 (by decide) rfl rfl ?_
        refine V_sub (lv' := [(0, .ref (G.2.2 + 162)), (3, .int s.1), (4, .int s.2.1), (5, .int s.2.2.1), (6, .int s.2.2.2.1), (7, .int v7), (8, .int s.2.2.2.2.1), (9, .int (0 : Int32))]) [1, 2, 3, 4, 5, 6, 7, 0] rfl ?_
        obtain ⟨x22, hx22, h⟩ := ob_s h
        refine (lp_Mod_errand_177_ok X hD v7 s.2.2.2.2.1 x13 _ _ _ hx22 (fun x9 e9 => ?_) :)
        subst e9
        refine V_iinc (n := 6) (v := (s.2.2.2.2.1 + (1 : Int32))) (lv' := [(8, .int (s.2.2.2.2.1 + (1 : Int32))), (0, .ref (G.2.2 + 162)), (3, .int x22.1), (4, .int x22.2.1), (5, .int x22.2.2.1), (6, .int x22.2.2.2), (7, .int v7)]) X d_Mod_errand_317 rfl rfl (by decide) rfl rfl ?_
        refine V_goto (pc' := 126) X d_Mod_errand_320 (by decide) ?_
        refine V_sub (lv' := [(0, .ref (G.2.2 + 162)), (3, .int x22.1), (4, .int x22.2.1), (5, .int x22.2.2.1), (6, .int x22.2.2.2), (7, .int v7), (8, .int (s.2.2.2.2.1 + (1 : Int32)))]) [1, 2, 3, 4, 5, 6, 0] rfl ?_
        exact kc (x22.1, x22.2.1, x22.2.2.1, x22.2.2.2, (s.2.2.2.2.1 + (1 : Int32)), x13) (Option.some.inj h).symm
      · rw [if_pos c23] at h
        refine V_goto (pc' := 317) X d_Mod_errand_160 (by decide) ?_
        refine V_iinc (n := 6) (v := (s.2.2.2.2.1 + (1 : Int32))) (lv' := [(8, .int (s.2.2.2.2.1 + (1 : Int32))), (0, .ref (G.2.2 + 162)), (3, .int s.1), (4, .int s.2.1), (5, .int s.2.2.1), (6, .int s.2.2.2.1), (7, .int v7)]) X d_Mod_errand_317 rfl rfl (by decide) rfl rfl ?_
        refine V_goto (pc' := 126) X d_Mod_errand_320 (by decide) ?_
        refine V_sub (lv' := [(0, .ref (G.2.2 + 162)), (3, .int s.1), (4, .int s.2.1), (5, .int s.2.2.1), (6, .int s.2.2.2.1), (7, .int v7), (8, .int (s.2.2.2.2.1 + (1 : Int32)))]) [1, 2, 3, 4, 5, 6, 0] rfl ?_
        exact kc (s.1, s.2.1, s.2.2.1, s.2.2.2.1, (s.2.2.2.2.1 + (1 : Int32)), s.2.2.2.2.2) (Option.some.inj h).symm
theorem lp_Mod_errand_126_ok {E : Ev} {G : Gw} {d : Nat} {post : Int32 → Mem → Prop} (X : Cx E G b_Mod_errand "WomenByTheRoofsModel" 12 d (some .int)) (hD : 7 ≤ d)  (v7 : Int32)   (n9 : Nat) (s : Int32 × Int32 × Int32 × Int32 × Int32 × Mem) (x : (Int32 × Int32 × Int32 × Int32 × Mem)) (h : iter (lb_Mod_errand_126 v7) n9 s = some x) (kx0 : ∀ x9 : Int32 × Int32 × Int32 × Int32 × Mem, x = x9 → V E (0, 0) G 12 (QI E G post) x9.2.2.2.2 323 [(0, .ref (G.2.2 + 162)), (3, .int x9.1), (4, .int x9.2.1), (5, .int x9.2.2.1), (6, .int x9.2.2.2.1), (7, .int v7)] []) : V E (0, 0) G 12 (QI E G post) s.2.2.2.2.2 126 [(0, .ref (G.2.2 + 162)), (3, .int s.1), (4, .int s.2.1), (5, .int s.2.2.1), (6, .int s.2.2.2.1), (7, .int v7), (8, .int s.2.2.2.2.1)] [] :=
  iter_P (P := fun s : Int32 × Int32 × Int32 × Int32 × Int32 × Mem => V E (0, 0) G 12 (QI E G post) s.2.2.2.2.2 126 [(0, .ref (G.2.2 + 162)), (3, .int s.1), (4, .int s.2.1), (5, .int s.2.2.1), (6, .int s.2.2.2.1), (7, .int v7), (8, .int s.2.2.2.2.1)] []) (fun s o hb kc ky => lb_Mod_errand_126_ok X hD v7 s o hb kc (fun x9 e9 => kx0 x9 (ky _ e9).symm)) n9 s h
def lb_Mod_errand_81  (s : Int32 × Int32 × Int32 × Int32 × Int32 × Mem) : Option ((Int32 × Int32 × Int32 × Int32 × Int32 × Mem) ⊕ ((Int32 × Int32 × Int32 × Int32 × Mem))) :=
  if (s.2.2.2.2.2.1 162 4) ≤ s.2.2.2.2.1 then
  some (.inr (s.1, s.2.1, s.2.2.1, s.2.2.2.1, s.2.2.2.2.2))
  else
  Option.bind (f_Mod_has (s.2.2.2.2.2.1 162 5) s.2.2.2.2.1) fun x10 =>
  if x10 = 0 then
  if inb s.2.2.2.2.1 96 = true then
  if inb (s.2.2.2.2.2.1 163 s.2.2.2.2.1.toNatClampNeg) 72 = true then
  if (s.2.2.2.2.2.1 181 (s.2.2.2.2.2.1 163 s.2.2.2.2.1.toNatClampNeg).toNatClampNeg) < (1000000 : Int32) then
  Option.bind (iter (lb_Mod_errand_126 s.2.2.2.2.1) FU (s.1, s.2.1, s.2.2.1, s.2.2.2.1, (0 : Int32), s.2.2.2.2.2)) fun x26 =>
  some (.inl (x26.1, x26.2.1, x26.2.2.1, x26.2.2.2.1, (s.2.2.2.2.1 + (1 : Int32)), x26.2.2.2.2))
  else
  some (.inl (s.1, s.2.1, s.2.2.1, s.2.2.2.1, (s.2.2.2.2.1 + (1 : Int32)), s.2.2.2.2.2))
  else none
  else none
  else
  some (.inl (s.1, s.2.1, s.2.2.1, s.2.2.2.1, (s.2.2.2.2.1 + (1 : Int32)), s.2.2.2.2.2))
theorem lb_Mod_errand_81_ok {E : Ev} {G : Gw} {d : Nat} {post : Int32 → Mem → Prop} (X : Cx E G b_Mod_errand "WomenByTheRoofsModel" 12 d (some .int)) (hD : 7 ≤ d)     (s : Int32 × Int32 × Int32 × Int32 × Int32 × Mem) (o : (Int32 × Int32 × Int32 × Int32 × Int32 × Mem) ⊕ ((Int32 × Int32 × Int32 × Int32 × Mem))) (h : lb_Mod_errand_81 s = some o) (kc : ∀ s9 : Int32 × Int32 × Int32 × Int32 × Int32 × Mem, o = .inl s9 → V E (0, 0) G 12 (QI E G post) s9.2.2.2.2.2 81 [(0, .ref (G.2.2 + 162)), (3, .int s9.1), (4, .int s9.2.1), (5, .int s9.2.2.1), (6, .int s9.2.2.2.1), (7, .int s9.2.2.2.2.1)] []) (kx0 : ∀ x9 : Int32 × Int32 × Int32 × Int32 × Mem, o = .inr x9 → V E (0, 0) G 12 (QI E G post) x9.2.2.2.2 329 [(0, .ref (G.2.2 + 162)), (3, .int x9.1), (4, .int x9.2.1), (5, .int x9.2.2.1), (6, .int x9.2.2.2.1)] []) : V E (0, 0) G 12 (QI E G post) s.2.2.2.2.2 81 [(0, .ref (G.2.2 + 162)), (3, .int s.1), (4, .int s.2.1), (5, .int s.2.2.1), (6, .int s.2.2.2.1), (7, .int s.2.2.2.2.1)] [] := by
  unfold lb_Mod_errand_81 at h
  refine V_iload (n := 5) X d_Mod_errand_81 rfl rfl ?_
  refine V_aload_n (n := 0) X d_Mod_errand_83 rfl rfl rfl ?_
  refine V_geti X fo_Mod_123 kd_162 rfl d_Mod_errand_84 rfl ?_
  refine V_icmp_ge (tgt := 329) X d_Mod_errand_87 (by decide) rfl (fun c29 => ?_) (fun c29 => ?_)
  · rw [if_pos c29] at h
    refine V_sub (lv' := [(0, .ref (G.2.2 + 162)), (3, .int s.1), (4, .int s.2.1), (5, .int s.2.2.1), (6, .int s.2.2.2.1)]) [0, 1, 2, 3, 4] rfl ?_
    exact kx0 (s.1, s.2.1, s.2.2.1, s.2.2.2.1, s.2.2.2.2.2) (Option.some.inj h).symm
  · rw [if_neg c29] at h
    refine V_aload_n (n := 0) X d_Mod_errand_90 rfl rfl rfl ?_
    refine V_geti X fo_Mod_130 kd_162 rfl d_Mod_errand_91 rfl ?_
    refine V_iload (n := 5) X d_Mod_errand_94 rfl rfl ?_
    obtain ⟨x10, hx10, h⟩ := ob_s h
    refine V_si (As := [.int (s.2.2.2.2.2.1 162 5), .int s.2.2.2.2.1]) X (Z0 E) ml_Mod_133 yq_Mod_has (c_Mod_has E.2.1 G (s.2.2.2.2.2.1 162 5) s.2.2.2.2.1 s.2.2.2.2.2 x10 hx10 _ (Nat.le_refl _)) rfl (by omega) rfl (Nat.le_of_ble_eq_true rfl) d_Mod_errand_96 rfl (fun r9 M9 hq => ?_)
    rw [hq.1, hq.2]
    refine V_if_ne (tgt := 323) X d_Mod_errand_99 (by decide) rfl (fun c28 => ?_) (fun c28 => ?_)
    · rw [if_neg c28] at h
      refine V_iinc (n := 5) (v := (s.2.2.2.2.1 + (1 : Int32))) (lv' := [(7, .int (s.2.2.2.2.1 + (1 : Int32))), (0, .ref (G.2.2 + 162)), (3, .int s.1), (4, .int s.2.1), (5, .int s.2.2.1), (6, .int s.2.2.2.1)]) X d_Mod_errand_323 rfl rfl (by decide) rfl rfl ?_
      refine V_goto (pc' := 81) X d_Mod_errand_326 (by decide) ?_
      refine V_sub (lv' := [(0, .ref (G.2.2 + 162)), (3, .int s.1), (4, .int s.2.1), (5, .int s.2.2.1), (6, .int s.2.2.2.1), (7, .int (s.2.2.2.2.1 + (1 : Int32)))]) [1, 2, 3, 4, 5, 0] rfl ?_
      exact kc (s.1, s.2.1, s.2.2.1, s.2.2.2.1, (s.2.2.2.2.1 + (1 : Int32)), s.2.2.2.2.2) (Option.some.inj h).symm
    · rw [if_pos c28] at h
      refine V_aload_n (n := 0) X d_Mod_errand_102 rfl rfl rfl ?_
      refine V_getr (k2 := 181) X fo_Mod_76 kd_162 rfl rf_162_39 d_Mod_errand_103 rfl ?_
      refine V_aload_n (n := 0) X d_Mod_errand_106 rfl rfl rfl ?_
      refine V_getr (k2 := 163) X fo_Mod_9 kd_162 rfl rf_162_0 d_Mod_errand_107 rfl ?_
      refine V_iload (n := 5) X d_Mod_errand_110 rfl rfl ?_
      obtain ⟨hb, h⟩ := ifn h
      refine V_iald X kd_163 (inb_in ln_163 hb) d_Mod_errand_112 rfl ?_
      obtain ⟨hb, h⟩ := ifn h
      refine V_iald X kd_181 (inb_in ln_181 hb) d_Mod_errand_113 rfl ?_
      refine V_ldc_w (v := 1000000) X d_Mod_errand_114 kc_Mod_357 rfl ?_
      refine V_icmp_lt (tgt := 123) X d_Mod_errand_117 (by decide) rfl (fun c27 => ?_) (fun c27 => ?_)
      · rw [if_pos c27] at h
        refine V_iconst (v := 0) X d_Mod_errand_123 (by decide) rfl ?_
        refine V_istore (lv' := [(8, .int (0 : Int32)), (0, .ref (G.2.2 + 162)), (3, .int s.1), (4, .int s.2.1), (5, .int s.2.2.1), (6, .int s.2.2.2.1), (7, .int s.2.2.2.2.1)]) X d_Mod_errand_124 (by decide) rfl rfl ?_
        refine V_sub (lv' := [(0, .ref (G.2.2 + 162)), (3, .int s.1), (4, .int s.2.1), (5, .int s.2.2.1), (6, .int s.2.2.2.1), (7, .int s.2.2.2.2.1), (8, .int (0 : Int32))]) [1, 2, 3, 4, 5, 6, 0] rfl ?_
        obtain ⟨x26, hx26, h⟩ := ob_s h
        refine (lp_Mod_errand_126_ok X hD s.2.2.2.2.1 _ _ _ hx26 (fun x9 e9 => ?_) :)
        subst e9
        refine V_iinc (n := 5) (v := (s.2.2.2.2.1 + (1 : Int32))) (lv' := [(7, .int (s.2.2.2.2.1 + (1 : Int32))), (0, .ref (G.2.2 + 162)), (3, .int x26.1), (4, .int x26.2.1), (5, .int x26.2.2.1), (6, .int x26.2.2.2.1)]) X d_Mod_errand_323 rfl rfl (by decide) rfl rfl ?_
        refine V_goto (pc' := 81) X d_Mod_errand_326 (by decide) ?_
        refine V_sub (lv' := [(0, .ref (G.2.2 + 162)), (3, .int x26.1), (4, .int x26.2.1), (5, .int x26.2.2.1), (6, .int x26.2.2.2.1), (7, .int (s.2.2.2.2.1 + (1 : Int32)))]) [1, 2, 3, 4, 5, 0] rfl ?_
        exact kc (x26.1, x26.2.1, x26.2.2.1, x26.2.2.2.1, (s.2.2.2.2.1 + (1 : Int32)), x26.2.2.2.2) (Option.some.inj h).symm
      · rw [if_neg c27] at h
        refine V_goto (pc' := 323) X d_Mod_errand_120 (by decide) ?_
        refine V_iinc (n := 5) (v := (s.2.2.2.2.1 + (1 : Int32))) (lv' := [(7, .int (s.2.2.2.2.1 + (1 : Int32))), (0, .ref (G.2.2 + 162)), (3, .int s.1), (4, .int s.2.1), (5, .int s.2.2.1), (6, .int s.2.2.2.1)]) X d_Mod_errand_323 rfl rfl (by decide) rfl rfl ?_
        refine V_goto (pc' := 81) X d_Mod_errand_326 (by decide) ?_
        refine V_sub (lv' := [(0, .ref (G.2.2 + 162)), (3, .int s.1), (4, .int s.2.1), (5, .int s.2.2.1), (6, .int s.2.2.2.1), (7, .int (s.2.2.2.2.1 + (1 : Int32)))]) [1, 2, 3, 4, 5, 0] rfl ?_
        exact kc (s.1, s.2.1, s.2.2.1, s.2.2.2.1, (s.2.2.2.2.1 + (1 : Int32)), s.2.2.2.2.2) (Option.some.inj h).symm
theorem lp_Mod_errand_81_ok {E : Ev} {G : Gw} {d : Nat} {post : Int32 → Mem → Prop} (X : Cx E G b_Mod_errand "WomenByTheRoofsModel" 12 d (some .int)) (hD : 7 ≤ d)     (n9 : Nat) (s : Int32 × Int32 × Int32 × Int32 × Int32 × Mem) (x : (Int32 × Int32 × Int32 × Int32 × Mem)) (h : iter (lb_Mod_errand_81) n9 s = some x) (kx0 : ∀ x9 : Int32 × Int32 × Int32 × Int32 × Mem, x = x9 → V E (0, 0) G 12 (QI E G post) x9.2.2.2.2 329 [(0, .ref (G.2.2 + 162)), (3, .int x9.1), (4, .int x9.2.1), (5, .int x9.2.2.1), (6, .int x9.2.2.2.1)] []) : V E (0, 0) G 12 (QI E G post) s.2.2.2.2.2 81 [(0, .ref (G.2.2 + 162)), (3, .int s.1), (4, .int s.2.1), (5, .int s.2.2.1), (6, .int s.2.2.2.1), (7, .int s.2.2.2.2.1)] [] :=
  iter_P (P := fun s : Int32 × Int32 × Int32 × Int32 × Int32 × Mem => V E (0, 0) G 12 (QI E G post) s.2.2.2.2.2 81 [(0, .ref (G.2.2 + 162)), (3, .int s.1), (4, .int s.2.1), (5, .int s.2.2.1), (6, .int s.2.2.2.1), (7, .int s.2.2.2.2.1)] []) (fun s o hb kc ky => lb_Mod_errand_81_ok X hD  s o hb kc (fun x9 e9 => kx0 x9 (ky _ e9).symm)) n9 s h
def f_Mod_errand (v1 : Int32) (v2 : Int32) (M : Mem) : Option (Int32 × Mem) :=
  mem_ (s_i M 162 13 (0 : Int32)) fun M1 =>
  Option.bind (f_Mod_isPlaceOf (0 : Int32) v1 M1) fun x2 =>
  if x2 = 0 then
  some ((-1 : Int32), M1)
  else
  Option.bind (f_Mod_isPlaceOf (1 : Int32) v2 M1) fun x3 =>
  if x3 = 0 then
  some ((-1 : Int32), M1)
  else
  Option.bind (f_Mod_placeOf (0 : Int32) v1) fun x4 =>
  Option.bind (f_Mod_findFar x4 M1) fun x5 =>
  Option.bind (f_Mod_copy 177 181 x5) fun x6 =>
  Option.bind (f_Mod_placeOf (1 : Int32) v2) fun x7 =>
  Option.bind (f_Mod_findFar x7 x6) fun x8 =>
  Option.bind (f_Mod_copy 177 182 x8) fun x9 =>
  Option.bind (iter (lb_Mod_errand_81) FU ((1000000 : Int32), (0 : Int32), (0 : Int32), (0 : Int32), (0 : Int32), x9)) fun x30 =>
  if x30.1 = (1000000 : Int32) then
  some ((-2 : Int32), x30.2.2.2.2)
  else
  mem_ (s_i x30.2.2.2.2 162 12 (0 : Int32)) fun M31 =>
  Option.bind (f_Mod_put x30.2.1 M31) fun x32 =>
  Option.bind (f_Mod_put x30.2.2.1 x32) fun x33 =>
  Option.bind (f_Mod_put x30.2.2.2.1 x33) fun x34 =>
  some (x30.1, x34)
theorem c_Mod_errand (l : Launch) (G : Gw)  (v1 : Int32) (v2 : Int32) (M : Mem) (x : Int32 × Mem) (h : f_Mod_errand v1 v2 M = some x) (d : Nat) (hD : 7 ≤ d) : Ci l G y_Mod_errand b_Mod_errand 12 (some .int) d [.ref (G.2.2 + 162), .int v1, .int v2] M (fun r9 M9 => r9 = x.1 ∧ M9 = x.2) := by
  refine Ci_of (by decide) (Nat.le_of_ble_eq_true rfl) (fun E hE X => ?_)
  subst hE
  have kr : ∀ x9 : Int32 × Mem, x = x9 → (fun r9 M9 => r9 = x.1 ∧ M9 = x.2) x9.1 x9.2 := fun x9 e9 => by subst e9; exact ⟨rfl, rfl⟩
  unfold f_Mod_errand at h
  refine V_aload_n (n := 0) X d_Mod_errand_0 rfl rfl rfl ?_
  refine V_iconst (v := 0) X d_Mod_errand_1 (by decide) rfl ?_
  obtain ⟨M1, eM1, h⟩ := memS h
  refine V_putI X fp_Mod_109 kd_162 rfl d_Mod_errand_2 rfl ?_
  rw [← eM1]
  refine V_aload_n (n := 0) X d_Mod_errand_5 rfl rfl rfl ?_
  refine V_iconst (v := 0) X d_Mod_errand_6 (by decide) rfl ?_
  refine V_iload_n (n := 1) X d_Mod_errand_7 rfl rfl rfl ?_
  obtain ⟨x2, hx2, h⟩ := ob_s h
  refine V_ci (As := [.int (0 : Int32), .int v1]) X (Z0 E) ml_Mod_374 yq_Mod_isPlaceOf (c_Mod_isPlaceOf E.2.1 G (0 : Int32) v1 M1 x2 hx2 _ (Nat.le_refl _)) kd_162 rfl rfl (by omega) rfl (Nat.le_of_ble_eq_true rfl) d_Mod_errand_8 rfl (fun r9 M9 hq => ?_)
  rw [hq.1, hq.2]
  refine V_if_eq (tgt := 23) X d_Mod_errand_11 (by decide) rfl (fun c37 => ?_) (fun c37 => ?_)
  · rw [if_pos c37] at h
    refine V_iconst (v := -1) X d_Mod_errand_23 (by decide) rfl ?_
    exact V_iret X (kr ((-1 : Int32), M1) (Option.some.inj h).symm) d_Mod_errand_24
  · rw [if_neg c37] at h
    refine V_aload_n (n := 0) X d_Mod_errand_14 rfl rfl rfl ?_
    refine V_iconst (v := 1) X d_Mod_errand_15 (by decide) rfl ?_
    refine V_iload_n (n := 2) X d_Mod_errand_16 rfl rfl rfl ?_
    obtain ⟨x3, hx3, h⟩ := ob_s h
    refine V_ci (As := [.int (1 : Int32), .int v2]) X (Z0 E) ml_Mod_374 yq_Mod_isPlaceOf (c_Mod_isPlaceOf E.2.1 G (1 : Int32) v2 M1 x3 hx3 _ (Nat.le_refl _)) kd_162 rfl rfl (by omega) rfl (Nat.le_of_ble_eq_true rfl) d_Mod_errand_17 rfl (fun r9 M9 hq => ?_)
    rw [hq.1, hq.2]
    refine V_if_ne (tgt := 25) X d_Mod_errand_20 (by decide) rfl (fun c36 => ?_) (fun c36 => ?_)
    · rw [if_neg c36] at h
      refine V_aload_n (n := 0) X d_Mod_errand_25 rfl rfl rfl ?_
      refine V_iconst (v := 0) X d_Mod_errand_26 (by decide) rfl ?_
      refine V_iload_n (n := 1) X d_Mod_errand_27 rfl rfl rfl ?_
      obtain ⟨x4, hx4, h⟩ := ob_s h
      refine V_si (As := [.int (0 : Int32), .int v1]) X (Z0 E) ml_Mod_154 yq_Mod_placeOf (c_Mod_placeOf E.2.1 G (0 : Int32) v1 M1 x4 hx4 _ (Nat.le_refl _)) rfl (by omega) rfl (Nat.le_of_ble_eq_true rfl) d_Mod_errand_28 rfl (fun r9 M9 hq => ?_)
      rw [hq.1, hq.2]
      obtain ⟨x5, hx5, h⟩ := ob_s h
      refine V_cv (As := [.int x4]) X (Z0 E) ml_Mod_365 yq_Mod_findFar (c_Mod_findFar E.2.1 G x4 M1 x5 hx5 _ (Nat.le_refl _)) kd_162 rfl rfl (by omega) rfl (Nat.le_of_ble_eq_true rfl) d_Mod_errand_31 rfl (fun M9 hq => ?_)
      rw [hq]
      refine V_aload_n (n := 0) X d_Mod_errand_34 rfl rfl rfl ?_
      refine V_getr (k2 := 177) X fo_Mod_63 kd_162 rfl rf_162_35 d_Mod_errand_35 rfl ?_
      refine V_aload_n (n := 0) X d_Mod_errand_38 rfl rfl rfl ?_
      refine V_getr (k2 := 181) X fo_Mod_76 kd_162 rfl rf_162_39 d_Mod_errand_39 rfl ?_
      obtain ⟨x6, hx6, h⟩ := ob_s h
      refine V_sv (As := [.ref (G.2.2 + 177), .ref (G.2.2 + 181)]) X (Z0 E) ml_Mod_380 yq_Mod_copy (c_Mod_copy E.2.1 G 177 181 x5 x6 hx6 _ (Nat.le_refl _)) rfl (by omega) rfl (Nat.le_of_ble_eq_true rfl) d_Mod_errand_42 rfl (fun M9 hq => ?_)
      rw [hq]
      refine V_aload_n (n := 0) X d_Mod_errand_45 rfl rfl rfl ?_
      refine V_iconst (v := 1) X d_Mod_errand_46 (by decide) rfl ?_
      refine V_iload_n (n := 2) X d_Mod_errand_47 rfl rfl rfl ?_
      obtain ⟨x7, hx7, h⟩ := ob_s h
      refine V_si (As := [.int (1 : Int32), .int v2]) X (Z0 E) ml_Mod_154 yq_Mod_placeOf (c_Mod_placeOf E.2.1 G (1 : Int32) v2 x6 x7 hx7 _ (Nat.le_refl _)) rfl (by omega) rfl (Nat.le_of_ble_eq_true rfl) d_Mod_errand_48 rfl (fun r9 M9 hq => ?_)
      rw [hq.1, hq.2]
      obtain ⟨x8, hx8, h⟩ := ob_s h
      refine V_cv (As := [.int x7]) X (Z0 E) ml_Mod_365 yq_Mod_findFar (c_Mod_findFar E.2.1 G x7 x6 x8 hx8 _ (Nat.le_refl _)) kd_162 rfl rfl (by omega) rfl (Nat.le_of_ble_eq_true rfl) d_Mod_errand_51 rfl (fun M9 hq => ?_)
      rw [hq]
      refine V_aload_n (n := 0) X d_Mod_errand_54 rfl rfl rfl ?_
      refine V_getr (k2 := 177) X fo_Mod_63 kd_162 rfl rf_162_35 d_Mod_errand_55 rfl ?_
      refine V_aload_n (n := 0) X d_Mod_errand_58 rfl rfl rfl ?_
      refine V_getr (k2 := 182) X fo_Mod_79 kd_162 rfl rf_162_40 d_Mod_errand_59 rfl ?_
      obtain ⟨x9, hx9, h⟩ := ob_s h
      refine V_sv (As := [.ref (G.2.2 + 177), .ref (G.2.2 + 182)]) X (Z0 E) ml_Mod_380 yq_Mod_copy (c_Mod_copy E.2.1 G 177 182 x8 x9 hx9 _ (Nat.le_refl _)) rfl (by omega) rfl (Nat.le_of_ble_eq_true rfl) d_Mod_errand_62 rfl (fun M9 hq => ?_)
      rw [hq]
      refine V_ldc_w (v := 1000000) X d_Mod_errand_65 kc_Mod_357 rfl ?_
      refine V_istore_n (lv' := [(3, .int (1000000 : Int32)), (0, .ref (G.2.2 + 162)), (1, .int v1), (2, .int v2)]) X d_Mod_errand_68 rfl (by decide) rfl rfl ?_
      refine V_iconst (v := 0) X d_Mod_errand_69 (by decide) rfl ?_
      refine V_istore (lv' := [(4, .int (0 : Int32)), (3, .int (1000000 : Int32)), (0, .ref (G.2.2 + 162)), (1, .int v1), (2, .int v2)]) X d_Mod_errand_70 (by decide) rfl rfl ?_
      refine V_iconst (v := 0) X d_Mod_errand_72 (by decide) rfl ?_
      refine V_istore (lv' := [(5, .int (0 : Int32)), (4, .int (0 : Int32)), (3, .int (1000000 : Int32)), (0, .ref (G.2.2 + 162)), (1, .int v1), (2, .int v2)]) X d_Mod_errand_73 (by decide) rfl rfl ?_
      refine V_iconst (v := 0) X d_Mod_errand_75 (by decide) rfl ?_
      refine V_istore (lv' := [(6, .int (0 : Int32)), (5, .int (0 : Int32)), (4, .int (0 : Int32)), (3, .int (1000000 : Int32)), (0, .ref (G.2.2 + 162)), (1, .int v1), (2, .int v2)]) X d_Mod_errand_76 (by decide) rfl rfl ?_
      refine V_iconst (v := 0) X d_Mod_errand_78 (by decide) rfl ?_
      refine V_istore (lv' := [(7, .int (0 : Int32)), (6, .int (0 : Int32)), (5, .int (0 : Int32)), (4, .int (0 : Int32)), (3, .int (1000000 : Int32)), (0, .ref (G.2.2 + 162)), (1, .int v1), (2, .int v2)]) X d_Mod_errand_79 (by decide) rfl rfl ?_
      refine V_sub (lv' := [(0, .ref (G.2.2 + 162)), (3, .int (1000000 : Int32)), (4, .int (0 : Int32)), (5, .int (0 : Int32)), (6, .int (0 : Int32)), (7, .int (0 : Int32))]) [5, 4, 3, 2, 1, 0] rfl ?_
      obtain ⟨x30, hx30, h⟩ := ob_s h
      refine (lp_Mod_errand_81_ok X hD  _ _ _ hx30 (fun x9 e9 => ?_) :)
      subst e9
      refine V_iload_n (n := 1) X d_Mod_errand_329 rfl rfl rfl ?_
      refine V_ldc_w (v := 1000000) X d_Mod_errand_330 kc_Mod_357 rfl ?_
      refine V_icmp_ne (tgt := 339) X d_Mod_errand_333 (by decide) rfl (fun c35 => ?_) (fun c35 => ?_)
      · rw [if_neg c35] at h
        refine V_aload_n (n := 0) X d_Mod_errand_339 rfl rfl rfl ?_
        refine V_iconst (v := 0) X d_Mod_errand_340 (by decide) rfl ?_
        obtain ⟨M31, eM31, h⟩ := memS h
        refine V_putI X fp_Mod_112 kd_162 rfl d_Mod_errand_341 rfl ?_
        rw [← eM31]
        refine V_aload_n (n := 0) X d_Mod_errand_344 rfl rfl rfl ?_
        refine V_iload (n := 2) X d_Mod_errand_345 rfl rfl ?_
        obtain ⟨x32, hx32, h⟩ := ob_s h
        refine V_cv (As := [.int x30.2.1]) X (Z0 E) ml_Mod_342 yq_Mod_put (c_Mod_put E.2.1 G x30.2.1 M31 x32 hx32 _ (Nat.le_refl _)) kd_162 rfl rfl (by omega) rfl (Nat.le_of_ble_eq_true rfl) d_Mod_errand_347 rfl (fun M9 hq => ?_)
        rw [hq]
        refine V_aload_n (n := 0) X d_Mod_errand_350 rfl rfl rfl ?_
        refine V_iload (n := 3) X d_Mod_errand_351 rfl rfl ?_
        obtain ⟨x33, hx33, h⟩ := ob_s h
        refine V_cv (As := [.int x30.2.2.1]) X (Z0 E) ml_Mod_342 yq_Mod_put (c_Mod_put E.2.1 G x30.2.2.1 x32 x33 hx33 _ (Nat.le_refl _)) kd_162 rfl rfl (by omega) rfl (Nat.le_of_ble_eq_true rfl) d_Mod_errand_353 rfl (fun M9 hq => ?_)
        rw [hq]
        refine V_aload_n (n := 0) X d_Mod_errand_356 rfl rfl rfl ?_
        refine V_iload (n := 4) X d_Mod_errand_357 rfl rfl ?_
        obtain ⟨x34, hx34, h⟩ := ob_s h
        refine V_cv (As := [.int x30.2.2.2.1]) X (Z0 E) ml_Mod_342 yq_Mod_put (c_Mod_put E.2.1 G x30.2.2.2.1 x33 x34 hx34 _ (Nat.le_refl _)) kd_162 rfl rfl (by omega) rfl (Nat.le_of_ble_eq_true rfl) d_Mod_errand_359 rfl (fun M9 hq => ?_)
        rw [hq]
        refine V_iload_n (n := 1) X d_Mod_errand_362 rfl rfl rfl ?_
        exact V_iret X (kr (x30.1, x34) (Option.some.inj h).symm) d_Mod_errand_363
      · rw [if_pos c35] at h
        refine V_bipush (v := -2) X d_Mod_errand_336 (by decide) rfl ?_
        exact V_iret X (kr ((-2 : Int32), x30.2.2.2.2) (Option.some.inj h).symm) d_Mod_errand_338
    · rw [if_pos c36] at h
      refine V_iconst (v := -1) X d_Mod_errand_23 (by decide) rfl ?_
      exact V_iret X (kr ((-1 : Int32), M1) (Option.some.inj h).symm) d_Mod_errand_24
def lb_Mod_findTryst_38 (v1 : Int32) (v2 : Int32) (s : Int32 × Int32 × Mem) : Option ((Int32 × Int32 × Mem) ⊕ ((Int32 × Mem))) :=
  Option.bind (f_Mod_cells s.2.2) fun x4 =>
  if x4 ≤ s.2.1 then
  some (.inr (s.1, s.2.2))
  else
  if inb s.2.1 36 = true then
  if (s.2.2.1 164 s.2.1.toNatClampNeg) = (3 : Int32) then
  if inb v1 96 = true then
  Option.bind (f_Mod_levelOf (s.2.2.1 163 v1.toNatClampNeg)) fun x5 =>
  Option.bind (f_Mod_placeOf x5 s.2.1) fun x6 =>
  if inb x6 72 = true then
  if inb v2 96 = true then
  Option.bind (f_Mod_levelOf (s.2.2.1 163 v2.toNatClampNeg)) fun x7 =>
  Option.bind (f_Mod_placeOf x7 s.2.1) fun x8 =>
  if inb x8 72 = true then
  if (if (s.2.2.1 183 x6.toNatClampNeg) < (s.2.2.1 177 x8.toNatClampNeg) then (s.2.2.1 177 x8.toNatClampNeg) else (s.2.2.1 183 x6.toNatClampNeg)) < s.1 then
  mem_ (s_i s.2.2 162 42 s.2.1) fun M9 =>
  some (.inl ((if (s.2.2.1 183 x6.toNatClampNeg) < (s.2.2.1 177 x8.toNatClampNeg) then (s.2.2.1 177 x8.toNatClampNeg) else (s.2.2.1 183 x6.toNatClampNeg)), (s.2.1 + (1 : Int32)), M9))
  else
  some (.inl (s.1, (s.2.1 + (1 : Int32)), s.2.2))
  else none
  else none
  else none
  else none
  else
  some (.inl (s.1, (s.2.1 + (1 : Int32)), s.2.2))
  else none
theorem lb_Mod_findTryst_38_ok {E : Ev} {G : Gw} {d : Nat} {post : Int32 → Mem → Prop} (X : Cx E G b_Mod_findTryst "WomenByTheRoofsModel" 6 d (some .int)) (hD : 7 ≤ d)  (v1 : Int32) (v2 : Int32)   (s : Int32 × Int32 × Mem) (o : (Int32 × Int32 × Mem) ⊕ ((Int32 × Mem))) (h : lb_Mod_findTryst_38 v1 v2 s = some o) (kc : ∀ s9 : Int32 × Int32 × Mem, o = .inl s9 → V E (0, 0) G 6 (QI E G post) s9.2.2 38 [(0, .ref (G.2.2 + 162)), (1, .int v1), (2, .int v2), (3, .int s9.1), (4, .int s9.2.1)] []) (kx0 : ∀ x9 : Int32 × Mem, o = .inr x9 → V E (0, 0) G 6 (QI E G post) x9.2 128 [(3, .int x9.1)] []) : V E (0, 0) G 6 (QI E G post) s.2.2 38 [(0, .ref (G.2.2 + 162)), (1, .int v1), (2, .int v2), (3, .int s.1), (4, .int s.2.1)] [] := by
  unfold lb_Mod_findTryst_38 at h
  refine V_iload (n := 4) X d_Mod_findTryst_38 rfl rfl ?_
  refine V_aload_n (n := 0) X d_Mod_findTryst_40 rfl rfl rfl ?_
  obtain ⟨x4, hx4, h⟩ := ob_s h
  refine V_ci (As := []) X (Z0 E) ml_Mod_115 yq_Mod_cells (c_Mod_cells E.2.1 G  s.2.2 x4 hx4 _ (Nat.le_refl _)) kd_162 rfl rfl (by omega) rfl (Nat.le_of_ble_eq_true rfl) d_Mod_findTryst_41 rfl (fun r9 M9 hq => ?_)
  rw [hq.1, hq.2]
  refine V_icmp_ge (tgt := 128) X d_Mod_findTryst_44 (by decide) rfl (fun c12 => ?_) (fun c12 => ?_)
  · rw [if_pos c12] at h
    refine V_sub (lv' := [(3, .int s.1)]) [3] rfl ?_
    exact kx0 (s.1, s.2.2) (Option.some.inj h).symm
  · rw [if_neg c12] at h
    refine V_aload_n (n := 0) X d_Mod_findTryst_47 rfl rfl rfl ?_
    refine V_getr (k2 := 164) X fo_Mod_13 kd_162 rfl rf_162_1 d_Mod_findTryst_48 rfl ?_
    refine V_iload (n := 4) X d_Mod_findTryst_51 rfl rfl ?_
    obtain ⟨hb, h⟩ := ifn h
    refine V_iald X kd_164 (inb_in ln_164 hb) d_Mod_findTryst_53 rfl ?_
    refine V_iconst (v := 3) X d_Mod_findTryst_54 (by decide) rfl ?_
    refine V_icmp_eq (tgt := 61) X d_Mod_findTryst_55 (by decide) rfl (fun c11 => ?_) (fun c11 => ?_)
    · rw [if_pos c11] at h
      refine V_aload_n (n := 0) X d_Mod_findTryst_61 rfl rfl rfl ?_
      refine V_getr (k2 := 183) X fo_Mod_82 kd_162 rfl rf_162_41 d_Mod_findTryst_62 rfl ?_
      refine V_aload_n (n := 0) X d_Mod_findTryst_65 rfl rfl rfl ?_
      refine V_getr (k2 := 163) X fo_Mod_9 kd_162 rfl rf_162_0 d_Mod_findTryst_66 rfl ?_
      refine V_iload_n (n := 1) X d_Mod_findTryst_69 rfl rfl rfl ?_
      obtain ⟨hb, h⟩ := ifn h
      refine V_iald X kd_163 (inb_in ln_163 hb) d_Mod_findTryst_70 rfl ?_
      obtain ⟨x5, hx5, h⟩ := ob_s h
      refine V_si (As := [.int (s.2.2.1 163 v1.toNatClampNeg)]) X (Z0 E) ml_Mod_143 yq_Mod_levelOf (c_Mod_levelOf E.2.1 G (s.2.2.1 163 v1.toNatClampNeg) s.2.2 x5 hx5 _ (Nat.le_refl _)) rfl (by omega) rfl (Nat.le_of_ble_eq_true rfl) d_Mod_findTryst_71 rfl (fun r9 M9 hq => ?_)
      rw [hq.1, hq.2]
      refine V_iload (n := 4) X d_Mod_findTryst_74 rfl rfl ?_
      obtain ⟨x6, hx6, h⟩ := ob_s h
      refine V_si (As := [.int x5, .int s.2.1]) X (Z0 E) ml_Mod_154 yq_Mod_placeOf (c_Mod_placeOf E.2.1 G x5 s.2.1 s.2.2 x6 hx6 _ (Nat.le_refl _)) rfl (by omega) rfl (Nat.le_of_ble_eq_true rfl) d_Mod_findTryst_76 rfl (fun r9 M9 hq => ?_)
      rw [hq.1, hq.2]
      obtain ⟨hb, h⟩ := ifn h
      refine V_iald X kd_183 (inb_in ln_183 hb) d_Mod_findTryst_79 rfl ?_
      refine V_aload_n (n := 0) X d_Mod_findTryst_80 rfl rfl rfl ?_
      refine V_getr (k2 := 177) X fo_Mod_63 kd_162 rfl rf_162_35 d_Mod_findTryst_81 rfl ?_
      refine V_aload_n (n := 0) X d_Mod_findTryst_84 rfl rfl rfl ?_
      refine V_getr (k2 := 163) X fo_Mod_9 kd_162 rfl rf_162_0 d_Mod_findTryst_85 rfl ?_
      refine V_iload_n (n := 2) X d_Mod_findTryst_88 rfl rfl rfl ?_
      obtain ⟨hb, h⟩ := ifn h
      refine V_iald X kd_163 (inb_in ln_163 hb) d_Mod_findTryst_89 rfl ?_
      obtain ⟨x7, hx7, h⟩ := ob_s h
      refine V_si (As := [.int (s.2.2.1 163 v2.toNatClampNeg)]) X (Z0 E) ml_Mod_143 yq_Mod_levelOf (c_Mod_levelOf E.2.1 G (s.2.2.1 163 v2.toNatClampNeg) s.2.2 x7 hx7 _ (Nat.le_refl _)) rfl (by omega) rfl (Nat.le_of_ble_eq_true rfl) d_Mod_findTryst_90 rfl (fun r9 M9 hq => ?_)
      rw [hq.1, hq.2]
      refine V_iload (n := 4) X d_Mod_findTryst_93 rfl rfl ?_
      obtain ⟨x8, hx8, h⟩ := ob_s h
      refine V_si (As := [.int x7, .int s.2.1]) X (Z0 E) ml_Mod_154 yq_Mod_placeOf (c_Mod_placeOf E.2.1 G x7 s.2.1 s.2.2 x8 hx8 _ (Nat.le_refl _)) rfl (by omega) rfl (Nat.le_of_ble_eq_true rfl) d_Mod_findTryst_95 rfl (fun r9 M9 hq => ?_)
      rw [hq.1, hq.2]
      obtain ⟨hb, h⟩ := ifn h
      refine V_iald X kd_177 (inb_in ln_177 hb) d_Mod_findTryst_98 rfl ?_
      refine V_mmax X (Z0 E) mm_Mod_304 (by omega) (Nat.le_of_ble_eq_true rfl) d_Mod_findTryst_99 rfl ?_
      refine V_istore (lv' := [(5, .int (if (s.2.2.1 183 x6.toNatClampNeg) < (s.2.2.1 177 x8.toNatClampNeg) then (s.2.2.1 177 x8.toNatClampNeg) else (s.2.2.1 183 x6.toNatClampNeg))), (0, .ref (G.2.2 + 162)), (1, .int v1), (2, .int v2), (3, .int s.1), (4, .int s.2.1)]) X d_Mod_findTryst_102 (by decide) rfl rfl ?_
      refine V_iload (n := 0) X d_Mod_findTryst_104 rfl rfl ?_
      refine V_iload_n (n := 4) X d_Mod_findTryst_106 rfl rfl rfl ?_
      refine V_icmp_lt (tgt := 113) X d_Mod_findTryst_107 (by decide) rfl (fun c10 => ?_) (fun c10 => ?_)
      · rw [if_pos c10] at h
        refine V_iload (n := 0) X d_Mod_findTryst_113 rfl rfl ?_
        refine V_istore_n (lv' := [(3, .int (if (s.2.2.1 183 x6.toNatClampNeg) < (s.2.2.1 177 x8.toNatClampNeg) then (s.2.2.1 177 x8.toNatClampNeg) else (s.2.2.1 183 x6.toNatClampNeg))), (5, .int (if (s.2.2.1 183 x6.toNatClampNeg) < (s.2.2.1 177 x8.toNatClampNeg) then (s.2.2.1 177 x8.toNatClampNeg) else (s.2.2.1 183 x6.toNatClampNeg))), (0, .ref (G.2.2 + 162)), (1, .int v1), (2, .int v2), (4, .int s.2.1)]) X d_Mod_findTryst_115 rfl (by decide) rfl rfl ?_
        refine V_aload_n (n := 2) X d_Mod_findTryst_116 rfl rfl rfl ?_
        refine V_iload (n := 5) X d_Mod_findTryst_117 rfl rfl ?_
        obtain ⟨M9, eM9, h⟩ := memS h
        refine V_putI X fp_Mod_384 kd_162 rfl d_Mod_findTryst_119 rfl ?_
        rw [← eM9]
        refine V_iinc (n := 5) (v := (s.2.1 + (1 : Int32))) (lv' := [(4, .int (s.2.1 + (1 : Int32))), (3, .int (if (s.2.2.1 183 x6.toNatClampNeg) < (s.2.2.1 177 x8.toNatClampNeg) then (s.2.2.1 177 x8.toNatClampNeg) else (s.2.2.1 183 x6.toNatClampNeg))), (5, .int (if (s.2.2.1 183 x6.toNatClampNeg) < (s.2.2.1 177 x8.toNatClampNeg) then (s.2.2.1 177 x8.toNatClampNeg) else (s.2.2.1 183 x6.toNatClampNeg))), (0, .ref (G.2.2 + 162)), (1, .int v1), (2, .int v2)]) X d_Mod_findTryst_122 rfl rfl (by decide) rfl rfl ?_
        refine V_goto (pc' := 38) X d_Mod_findTryst_125 (by decide) ?_
        refine V_sub (lv' := [(0, .ref (G.2.2 + 162)), (1, .int v1), (2, .int v2), (3, .int (if (s.2.2.1 183 x6.toNatClampNeg) < (s.2.2.1 177 x8.toNatClampNeg) then (s.2.2.1 177 x8.toNatClampNeg) else (s.2.2.1 183 x6.toNatClampNeg))), (4, .int (s.2.1 + (1 : Int32)))]) [3, 4, 5, 1, 0] rfl ?_
        exact kc ((if (s.2.2.1 183 x6.toNatClampNeg) < (s.2.2.1 177 x8.toNatClampNeg) then (s.2.2.1 177 x8.toNatClampNeg) else (s.2.2.1 183 x6.toNatClampNeg)), (s.2.1 + (1 : Int32)), M9) (Option.some.inj h).symm
      · rw [if_neg c10] at h
        refine V_goto (pc' := 122) X d_Mod_findTryst_110 (by decide) ?_
        refine V_iinc (n := 5) (v := (s.2.1 + (1 : Int32))) (lv' := [(4, .int (s.2.1 + (1 : Int32))), (5, .int (if (s.2.2.1 183 x6.toNatClampNeg) < (s.2.2.1 177 x8.toNatClampNeg) then (s.2.2.1 177 x8.toNatClampNeg) else (s.2.2.1 183 x6.toNatClampNeg))), (0, .ref (G.2.2 + 162)), (1, .int v1), (2, .int v2), (3, .int s.1)]) X d_Mod_findTryst_122 rfl rfl (by decide) rfl rfl ?_
        refine V_goto (pc' := 38) X d_Mod_findTryst_125 (by decide) ?_
        refine V_sub (lv' := [(0, .ref (G.2.2 + 162)), (1, .int v1), (2, .int v2), (3, .int s.1), (4, .int (s.2.1 + (1 : Int32)))]) [2, 3, 4, 5, 0] rfl ?_
        exact kc (s.1, (s.2.1 + (1 : Int32)), s.2.2) (Option.some.inj h).symm
    · rw [if_neg c11] at h
      refine V_goto (pc' := 122) X d_Mod_findTryst_58 (by decide) ?_
      refine V_iinc (n := 4) (v := (s.2.1 + (1 : Int32))) (lv' := [(4, .int (s.2.1 + (1 : Int32))), (0, .ref (G.2.2 + 162)), (1, .int v1), (2, .int v2), (3, .int s.1)]) X d_Mod_findTryst_122 rfl rfl (by decide) rfl rfl ?_
      refine V_goto (pc' := 38) X d_Mod_findTryst_125 (by decide) ?_
      refine V_sub (lv' := [(0, .ref (G.2.2 + 162)), (1, .int v1), (2, .int v2), (3, .int s.1), (4, .int (s.2.1 + (1 : Int32)))]) [1, 2, 3, 4, 0] rfl ?_
      exact kc (s.1, (s.2.1 + (1 : Int32)), s.2.2) (Option.some.inj h).symm
theorem lp_Mod_findTryst_38_ok {E : Ev} {G : Gw} {d : Nat} {post : Int32 → Mem → Prop} (X : Cx E G b_Mod_findTryst "WomenByTheRoofsModel" 6 d (some .int)) (hD : 7 ≤ d)  (v1 : Int32) (v2 : Int32)   (n9 : Nat) (s : Int32 × Int32 × Mem) (x : (Int32 × Mem)) (h : iter (lb_Mod_findTryst_38 v1 v2) n9 s = some x) (kx0 : ∀ x9 : Int32 × Mem, x = x9 → V E (0, 0) G 6 (QI E G post) x9.2 128 [(3, .int x9.1)] []) : V E (0, 0) G 6 (QI E G post) s.2.2 38 [(0, .ref (G.2.2 + 162)), (1, .int v1), (2, .int v2), (3, .int s.1), (4, .int s.2.1)] [] :=
  iter_P (P := fun s : Int32 × Int32 × Mem => V E (0, 0) G 6 (QI E G post) s.2.2 38 [(0, .ref (G.2.2 + 162)), (1, .int v1), (2, .int v2), (3, .int s.1), (4, .int s.2.1)] []) (fun s o hb kc ky => lb_Mod_findTryst_38_ok X hD v1 v2 s o hb kc (fun x9 e9 => kx0 x9 (ky _ e9).symm)) n9 s h
def f_Mod_findTryst (v1 : Int32) (v2 : Int32) (M : Mem) : Option (Int32 × Mem) :=
  if inb v1 96 = true then
  Option.bind (f_Mod_findFar (M.1 163 v1.toNatClampNeg) M) fun x1 =>
  Option.bind (f_Mod_copy 177 183 x1) fun x2 =>
  if inb v2 96 = true then
  Option.bind (f_Mod_findFar (x2.1 163 v2.toNatClampNeg) x2) fun x3 =>
  Option.bind (iter (lb_Mod_findTryst_38 v1 v2) FU ((1000000 : Int32), (0 : Int32), x3)) fun x13 =>
  some (x13.1, x13.2)
  else none
  else none
theorem c_Mod_findTryst (l : Launch) (G : Gw)  (v1 : Int32) (v2 : Int32) (M : Mem) (x : Int32 × Mem) (h : f_Mod_findTryst v1 v2 M = some x) (d : Nat) (hD : 7 ≤ d) : Ci l G y_Mod_findTryst b_Mod_findTryst 6 (some .int) d [.ref (G.2.2 + 162), .int v1, .int v2] M (fun r9 M9 => r9 = x.1 ∧ M9 = x.2) := by
  refine Ci_of (by decide) (Nat.le_of_ble_eq_true rfl) (fun E hE X => ?_)
  subst hE
  have kr : ∀ x9 : Int32 × Mem, x = x9 → (fun r9 M9 => r9 = x.1 ∧ M9 = x.2) x9.1 x9.2 := fun x9 e9 => by subst e9; exact ⟨rfl, rfl⟩
  unfold f_Mod_findTryst at h
  refine V_aload_n (n := 0) X d_Mod_findTryst_0 rfl rfl rfl ?_
  refine V_aload_n (n := 0) X d_Mod_findTryst_1 rfl rfl rfl ?_
  refine V_getr (k2 := 163) X fo_Mod_9 kd_162 rfl rf_162_0 d_Mod_findTryst_2 rfl ?_
  refine V_iload_n (n := 1) X d_Mod_findTryst_5 rfl rfl rfl ?_
  obtain ⟨hb, h⟩ := ifn h
  refine V_iald X kd_163 (inb_in ln_163 hb) d_Mod_findTryst_6 rfl ?_
  obtain ⟨x1, hx1, h⟩ := ob_s h
  refine V_cv (As := [.int (M.1 163 v1.toNatClampNeg)]) X (Z0 E) ml_Mod_365 yq_Mod_findFar (c_Mod_findFar E.2.1 G (M.1 163 v1.toNatClampNeg) M x1 hx1 _ (Nat.le_refl _)) kd_162 rfl rfl (by omega) rfl (Nat.le_of_ble_eq_true rfl) d_Mod_findTryst_7 rfl (fun M9 hq => ?_)
  rw [hq]
  refine V_aload_n (n := 0) X d_Mod_findTryst_10 rfl rfl rfl ?_
  refine V_getr (k2 := 177) X fo_Mod_63 kd_162 rfl rf_162_35 d_Mod_findTryst_11 rfl ?_
  refine V_aload_n (n := 0) X d_Mod_findTryst_14 rfl rfl rfl ?_
  refine V_getr (k2 := 183) X fo_Mod_82 kd_162 rfl rf_162_41 d_Mod_findTryst_15 rfl ?_
  obtain ⟨x2, hx2, h⟩ := ob_s h
  refine V_sv (As := [.ref (G.2.2 + 177), .ref (G.2.2 + 183)]) X (Z0 E) ml_Mod_380 yq_Mod_copy (c_Mod_copy E.2.1 G 177 183 x1 x2 hx2 _ (Nat.le_refl _)) rfl (by omega) rfl (Nat.le_of_ble_eq_true rfl) d_Mod_findTryst_18 rfl (fun M9 hq => ?_)
  rw [hq]
  refine V_aload_n (n := 0) X d_Mod_findTryst_21 rfl rfl rfl ?_
  refine V_aload_n (n := 0) X d_Mod_findTryst_22 rfl rfl rfl ?_
  refine V_getr (k2 := 163) X fo_Mod_9 kd_162 rfl rf_162_0 d_Mod_findTryst_23 rfl ?_
  refine V_iload_n (n := 2) X d_Mod_findTryst_26 rfl rfl rfl ?_
  obtain ⟨hb, h⟩ := ifn h
  refine V_iald X kd_163 (inb_in ln_163 hb) d_Mod_findTryst_27 rfl ?_
  obtain ⟨x3, hx3, h⟩ := ob_s h
  refine V_cv (As := [.int (x2.1 163 v2.toNatClampNeg)]) X (Z0 E) ml_Mod_365 yq_Mod_findFar (c_Mod_findFar E.2.1 G (x2.1 163 v2.toNatClampNeg) x2 x3 hx3 _ (Nat.le_refl _)) kd_162 rfl rfl (by omega) rfl (Nat.le_of_ble_eq_true rfl) d_Mod_findTryst_28 rfl (fun M9 hq => ?_)
  rw [hq]
  refine V_ldc_w (v := 1000000) X d_Mod_findTryst_31 kc_Mod_357 rfl ?_
  refine V_istore_n (lv' := [(3, .int (1000000 : Int32)), (0, .ref (G.2.2 + 162)), (1, .int v1), (2, .int v2)]) X d_Mod_findTryst_34 rfl (by decide) rfl rfl ?_
  refine V_iconst (v := 0) X d_Mod_findTryst_35 (by decide) rfl ?_
  refine V_istore (lv' := [(4, .int (0 : Int32)), (3, .int (1000000 : Int32)), (0, .ref (G.2.2 + 162)), (1, .int v1), (2, .int v2)]) X d_Mod_findTryst_36 (by decide) rfl rfl ?_
  refine V_sub (lv' := [(0, .ref (G.2.2 + 162)), (1, .int v1), (2, .int v2), (3, .int (1000000 : Int32)), (4, .int (0 : Int32))]) [2, 3, 4, 1, 0] rfl ?_
  obtain ⟨x13, hx13, h⟩ := ob_s h
  refine (lp_Mod_findTryst_38_ok X hD v1 v2 _ _ _ hx13 (fun x9 e9 => ?_) :)
  subst e9
  refine V_iload_n (n := 0) X d_Mod_findTryst_128 rfl rfl rfl ?_
  exact V_iret X (kr (x13.1, x13.2) (Option.some.inj h).symm) d_Mod_findTryst_129
