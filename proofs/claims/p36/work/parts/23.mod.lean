theorem d_Mod_sheet_0 : decode b_Mod_sheet 0 = .ok (.aload_n 0, 1) := kq_42 byq_r (by decide +kernel)
theorem d_Mod_sheet_1 : decode b_Mod_sheet 1 = .ok (.iconst 0, 1) := kq_3 byq_r (by decide +kernel)
theorem d_Mod_sheet_2 : decode b_Mod_sheet 2 = .ok (.putfield 109, 3) := kq_181 byq_r (a := 0) (b := 109) (by decide +kernel)
theorem d_Mod_sheet_5 : decode b_Mod_sheet 5 = .ok (.iload_n 1, 1) := kq_27 byq_r (by decide +kernel)
theorem d_Mod_sheet_6 : decode b_Mod_sheet 6 = .ok (.iconst 0, 1) := kq_3 byq_r (by decide +kernel)
theorem d_Mod_sheet_7 : decode b_Mod_sheet 7 = .ok (.iconst 3, 1) := kq_6 byq_r (by decide +kernel)
theorem d_Mod_sheet_8 : decode b_Mod_sheet 8 = .ok (.invokestatic 119, 3) := kq_184 byq_r (a := 0) (b := 119) (by decide +kernel)
theorem d_Mod_sheet_11 : decode b_Mod_sheet 11 = .ok (.ifCond .eq 9, 3) := kq_153 byq_r (a := 0) (b := 9) (by decide +kernel)
theorem d_Mod_sheet_14 : decode b_Mod_sheet 14 = .ok (.iload_n 2, 1) := kq_28 byq_r (by decide +kernel)
theorem d_Mod_sheet_15 : decode b_Mod_sheet 15 = .ok (.bipush 8, 2) := kq_16 byq_r (b := 8) (by decide +kernel)
theorem d_Mod_sheet_17 : decode b_Mod_sheet 17 = .ok (.if_icmp .le 5, 3) := kq_164 byq_r (a := 0) (b := 5) (by decide +kernel)
theorem d_Mod_sheet_20 : decode b_Mod_sheet 20 = .ok (.iconst (-1), 1) := kq_2 byq_r (by decide +kernel)
theorem d_Mod_sheet_21 : decode b_Mod_sheet 21 = .ok (.ireturn, 1) := kq_172 byq_r (by decide +kernel)
theorem d_Mod_sheet_22 : decode b_Mod_sheet 22 = .ok (.iload_n 1, 1) := kq_27 byq_r (by decide +kernel)
theorem d_Mod_sheet_23 : decode b_Mod_sheet 23 = .ok (.iconst 3, 1) := kq_6 byq_r (by decide +kernel)
theorem d_Mod_sheet_24 : decode b_Mod_sheet 24 = .ok (.if_icmp .ge 10, 3) := kq_162 byq_r (a := 0) (b := 10) (by decide +kernel)
theorem d_Mod_sheet_27 : decode b_Mod_sheet 27 = .ok (.iload_n 2, 1) := kq_28 byq_r (by decide +kernel)
theorem d_Mod_sheet_28 : decode b_Mod_sheet 28 = .ok (.ifCond .ge 6, 3) := kq_156 byq_r (a := 0) (b := 6) (by decide +kernel)
theorem d_Mod_sheet_31 : decode b_Mod_sheet 31 = .ok (.bipush (-2), 2) := kq_16 byq_r (b := 254) (by decide +kernel)
theorem d_Mod_sheet_33 : decode b_Mod_sheet 33 = .ok (.ireturn, 1) := kq_172 byq_r (by decide +kernel)
theorem d_Mod_sheet_34 : decode b_Mod_sheet 34 = .ok (.iconst 0, 1) := kq_3 byq_r (by decide +kernel)
theorem d_Mod_sheet_35 : decode b_Mod_sheet 35 = .ok (.istore 5, 2) := kq_54 byq_r (by decide +kernel)
theorem d_Mod_sheet_37 : decode b_Mod_sheet 37 = .ok (.iload_n 3, 1) := kq_29 byq_r (by decide +kernel)
theorem d_Mod_sheet_38 : decode b_Mod_sheet 38 = .ok (.istore 6, 2) := kq_54 byq_r (by decide +kernel)
theorem d_Mod_sheet_40 : decode b_Mod_sheet 40 = .ok (.iconst 0, 1) := kq_3 byq_r (by decide +kernel)
theorem d_Mod_sheet_41 : decode b_Mod_sheet 41 = .ok (.istore 7, 2) := kq_54 byq_r (by decide +kernel)
theorem d_Mod_sheet_43 : decode b_Mod_sheet 43 = .ok (.iload 7, 2) := kq_21 byq_r (by decide +kernel)
theorem d_Mod_sheet_45 : decode b_Mod_sheet 45 = .ok (.aload_n 0, 1) := kq_42 byq_r (by decide +kernel)
theorem d_Mod_sheet_46 : decode b_Mod_sheet 46 = .ok (.getfield 123, 3) := kq_180 byq_r (a := 0) (b := 123) (by decide +kernel)
theorem d_Mod_sheet_49 : decode b_Mod_sheet 49 = .ok (.if_icmp .ge 99, 3) := kq_162 byq_r (a := 0) (b := 99) (by decide +kernel)
theorem d_Mod_sheet_52 : decode b_Mod_sheet 52 = .ok (.iload_n 1, 1) := kq_27 byq_r (by decide +kernel)
theorem d_Mod_sheet_53 : decode b_Mod_sheet 53 = .ok (.ifCond .ne 9, 3) := kq_154 byq_r (a := 0) (b := 9) (by decide +kernel)
theorem d_Mod_sheet_56 : decode b_Mod_sheet 56 = .ok (.iload 6, 2) := kq_21 byq_r (by decide +kernel)
theorem d_Mod_sheet_58 : decode b_Mod_sheet 58 = .ok (.i2b, 1) := kq_145 byq_r (by decide +kernel)
theorem d_Mod_sheet_59 : decode b_Mod_sheet 59 = .ok (.goto 16, 3) := kq_167 byq_r (a := 0) (b := 16) (by decide +kernel)
theorem d_Mod_sheet_62 : decode b_Mod_sheet 62 = .ok (.iload_n 1, 1) := kq_27 byq_r (by decide +kernel)
theorem d_Mod_sheet_63 : decode b_Mod_sheet 63 = .ok (.iconst 1, 1) := kq_4 byq_r (by decide +kernel)
theorem d_Mod_sheet_64 : decode b_Mod_sheet 64 = .ok (.if_icmp .ne 9, 3) := kq_160 byq_r (a := 0) (b := 9) (by decide +kernel)
theorem d_Mod_sheet_67 : decode b_Mod_sheet 67 = .ok (.iload 6, 2) := kq_21 byq_r (by decide +kernel)
theorem d_Mod_sheet_69 : decode b_Mod_sheet 69 = .ok (.i2s, 1) := kq_147 byq_r (by decide +kernel)
theorem d_Mod_sheet_70 : decode b_Mod_sheet 70 = .ok (.goto 5, 3) := kq_167 byq_r (a := 0) (b := 5) (by decide +kernel)
theorem d_Mod_sheet_73 : decode b_Mod_sheet 73 = .ok (.iload 6, 2) := kq_21 byq_r (by decide +kernel)
theorem d_Mod_sheet_75 : decode b_Mod_sheet 75 = .ok (.istore 8, 2) := kq_54 byq_r (by decide +kernel)
theorem d_Mod_sheet_77 : decode b_Mod_sheet 77 = .ok (.aload_n 0, 1) := kq_42 byq_r (by decide +kernel)
theorem d_Mod_sheet_78 : decode b_Mod_sheet 78 = .ok (.getfield 9, 3) := kq_180 byq_r (a := 0) (b := 9) (by decide +kernel)
theorem d_Mod_sheet_81 : decode b_Mod_sheet 81 = .ok (.bipush 8, 2) := kq_16 byq_r (b := 8) (by decide +kernel)
theorem d_Mod_sheet_83 : decode b_Mod_sheet 83 = .ok (.iload 7, 2) := kq_21 byq_r (by decide +kernel)
theorem d_Mod_sheet_85 : decode b_Mod_sheet 85 = .ok (.iadd, 1) := kq_96 byq_r (by decide +kernel)
theorem d_Mod_sheet_86 : decode b_Mod_sheet 86 = .ok (.iload_n 1, 1) := kq_27 byq_r (by decide +kernel)
theorem d_Mod_sheet_87 : decode b_Mod_sheet 87 = .ok (.iconst 3, 1) := kq_6 byq_r (by decide +kernel)
theorem d_Mod_sheet_88 : decode b_Mod_sheet 88 = .ok (.if_icmp .eq 9, 3) := kq_159 byq_r (a := 0) (b := 9) (by decide +kernel)
theorem d_Mod_sheet_91 : decode b_Mod_sheet 91 = .ok (.iload 7, 2) := kq_21 byq_r (by decide +kernel)
theorem d_Mod_sheet_93 : decode b_Mod_sheet 93 = .ok (.iload_n 2, 1) := kq_28 byq_r (by decide +kernel)
theorem d_Mod_sheet_94 : decode b_Mod_sheet 94 = .ok (.if_icmp .lt 7, 3) := kq_161 byq_r (a := 0) (b := 7) (by decide +kernel)
theorem d_Mod_sheet_97 : decode b_Mod_sheet 97 = .ok (.iconst 0, 1) := kq_3 byq_r (by decide +kernel)
theorem d_Mod_sheet_98 : decode b_Mod_sheet 98 = .ok (.goto 21, 3) := kq_167 byq_r (a := 0) (b := 21) (by decide +kernel)
theorem d_Mod_sheet_101 : decode b_Mod_sheet 101 = .ok (.iconst 0, 1) := kq_3 byq_r (by decide +kernel)
theorem d_Mod_sheet_102 : decode b_Mod_sheet 102 = .ok (.aload_n 0, 1) := kq_42 byq_r (by decide +kernel)
theorem d_Mod_sheet_103 : decode b_Mod_sheet 103 = .ok (.getfield 26, 3) := kq_180 byq_r (a := 0) (b := 26) (by decide +kernel)
theorem d_Mod_sheet_106 : decode b_Mod_sheet 106 = .ok (.iload 7, 2) := kq_21 byq_r (by decide +kernel)
theorem d_Mod_sheet_108 : decode b_Mod_sheet 108 = .ok (.iaload, 1) := kq_46 byq_r (by decide +kernel)
theorem d_Mod_sheet_109 : decode b_Mod_sheet 109 = .ok (.iconst 1, 1) := kq_4 byq_r (by decide +kernel)
theorem d_Mod_sheet_110 : decode b_Mod_sheet 110 = .ok (.isub, 1) := kq_100 byq_r (by decide +kernel)
theorem d_Mod_sheet_111 : decode b_Mod_sheet 111 = .ok (.iload 8, 2) := kq_21 byq_r (by decide +kernel)
theorem d_Mod_sheet_113 : decode b_Mod_sheet 113 = .ok (.invokestatic 301, 3) := kq_184 byq_r (a := 1) (b := 45) (by decide +kernel)
theorem d_Mod_sheet_116 : decode b_Mod_sheet 116 = .ok (.invokestatic 304, 3) := kq_184 byq_r (a := 1) (b := 48) (by decide +kernel)
theorem d_Mod_sheet_119 : decode b_Mod_sheet 119 = .ok (.iastore, 1) := kq_79 byq_r (by decide +kernel)
theorem d_Mod_sheet_120 : decode b_Mod_sheet 120 = .ok (.iload 5, 2) := kq_21 byq_r (by decide +kernel)
theorem d_Mod_sheet_122 : decode b_Mod_sheet 122 = .ok (.aload_n 0, 1) := kq_42 byq_r (by decide +kernel)
theorem d_Mod_sheet_123 : decode b_Mod_sheet 123 = .ok (.getfield 9, 3) := kq_180 byq_r (a := 0) (b := 9) (by decide +kernel)
theorem d_Mod_sheet_126 : decode b_Mod_sheet 126 = .ok (.bipush 8, 2) := kq_16 byq_r (b := 8) (by decide +kernel)
theorem d_Mod_sheet_128 : decode b_Mod_sheet 128 = .ok (.iload 7, 2) := kq_21 byq_r (by decide +kernel)
theorem d_Mod_sheet_130 : decode b_Mod_sheet 130 = .ok (.iadd, 1) := kq_96 byq_r (by decide +kernel)
theorem d_Mod_sheet_131 : decode b_Mod_sheet 131 = .ok (.iaload, 1) := kq_46 byq_r (by decide +kernel)
theorem d_Mod_sheet_132 : decode b_Mod_sheet 132 = .ok (.iadd, 1) := kq_96 byq_r (by decide +kernel)
theorem d_Mod_sheet_133 : decode b_Mod_sheet 133 = .ok (.istore 5, 2) := kq_54 byq_r (by decide +kernel)
theorem d_Mod_sheet_135 : decode b_Mod_sheet 135 = .ok (.iload 6, 2) := kq_21 byq_r (by decide +kernel)
theorem d_Mod_sheet_137 : decode b_Mod_sheet 137 = .ok (.iload 4, 2) := kq_21 byq_r (by decide +kernel)
theorem d_Mod_sheet_139 : decode b_Mod_sheet 139 = .ok (.iadd, 1) := kq_96 byq_r (by decide +kernel)
theorem d_Mod_sheet_140 : decode b_Mod_sheet 140 = .ok (.istore 6, 2) := kq_54 byq_r (by decide +kernel)
theorem d_Mod_sheet_142 : decode b_Mod_sheet 142 = .ok (.iinc 7 1, 3) := kq_132 byq_r (b := 1) (by decide +kernel)
theorem d_Mod_sheet_145 : decode b_Mod_sheet 145 = .ok (.goto (-102), 3) := kq_167 byq_r (a := 255) (b := 154) (by decide +kernel)
theorem d_Mod_sheet_148 : decode b_Mod_sheet 148 = .ok (.iload_n 1, 1) := kq_27 byq_r (by decide +kernel)
theorem d_Mod_sheet_149 : decode b_Mod_sheet 149 = .ok (.iconst 3, 1) := kq_6 byq_r (by decide +kernel)
theorem d_Mod_sheet_150 : decode b_Mod_sheet 150 = .ok (.if_icmp .ne 8, 3) := kq_160 byq_r (a := 0) (b := 8) (by decide +kernel)
theorem d_Mod_sheet_153 : decode b_Mod_sheet 153 = .ok (.bipush (-3), 2) := kq_16 byq_r (b := 253) (by decide +kernel)
theorem d_Mod_sheet_155 : decode b_Mod_sheet 155 = .ok (.goto 5, 3) := kq_167 byq_r (a := 0) (b := 5) (by decide +kernel)
theorem d_Mod_sheet_158 : decode b_Mod_sheet 158 = .ok (.iload 5, 2) := kq_21 byq_r (by decide +kernel)
theorem d_Mod_sheet_160 : decode b_Mod_sheet 160 = .ok (.ireturn, 1) := kq_172 byq_r (by decide +kernel)
theorem d_Mod_canTell_0 : decode b_Mod_canTell 0 = .ok (.aload_n 0, 1) := kq_42 byq_r (by decide +kernel)
theorem d_Mod_canTell_1 : decode b_Mod_canTell 1 = .ok (.iload_n 1, 1) := kq_27 byq_r (by decide +kernel)
theorem d_Mod_canTell_2 : decode b_Mod_canTell 2 = .ok (.invokevirtual 126, 3) := kq_182 byq_r (a := 0) (b := 126) (by decide +kernel)
theorem d_Mod_canTell_5 : decode b_Mod_canTell 5 = .ok (.ifCond .eq 21, 3) := kq_153 byq_r (a := 0) (b := 21) (by decide +kernel)
theorem d_Mod_canTell_8 : decode b_Mod_canTell 8 = .ok (.aload_n 0, 1) := kq_42 byq_r (by decide +kernel)
theorem d_Mod_canTell_9 : decode b_Mod_canTell 9 = .ok (.getfield 9, 3) := kq_180 byq_r (a := 0) (b := 9) (by decide +kernel)
theorem d_Mod_canTell_12 : decode b_Mod_canTell 12 = .ok (.bipush 93, 2) := kq_16 byq_r (b := 93) (by decide +kernel)
theorem d_Mod_canTell_14 : decode b_Mod_canTell 14 = .ok (.iaload, 1) := kq_46 byq_r (by decide +kernel)
theorem d_Mod_canTell_15 : decode b_Mod_canTell 15 = .ok (.iload_n 1, 1) := kq_27 byq_r (by decide +kernel)
theorem d_Mod_canTell_16 : decode b_Mod_canTell 16 = .ok (.invokestatic 133, 3) := kq_184 byq_r (a := 0) (b := 133) (by decide +kernel)
theorem d_Mod_canTell_19 : decode b_Mod_canTell 19 = .ok (.ifCond .ne 7, 3) := kq_154 byq_r (a := 0) (b := 7) (by decide +kernel)
theorem d_Mod_canTell_22 : decode b_Mod_canTell 22 = .ok (.iconst 1, 1) := kq_4 byq_r (by decide +kernel)
theorem d_Mod_canTell_23 : decode b_Mod_canTell 23 = .ok (.goto 4, 3) := kq_167 byq_r (a := 0) (b := 4) (by decide +kernel)
theorem d_Mod_canTell_26 : decode b_Mod_canTell 26 = .ok (.iconst 0, 1) := kq_3 byq_r (by decide +kernel)
theorem d_Mod_canTell_27 : decode b_Mod_canTell 27 = .ok (.ireturn, 1) := kq_172 byq_r (by decide +kernel)
theorem d_Mod_tell_0 : decode b_Mod_tell 0 = .ok (.aload_n 0, 1) := kq_42 byq_r (by decide +kernel)
theorem d_Mod_tell_1 : decode b_Mod_tell 1 = .ok (.iconst 0, 1) := kq_3 byq_r (by decide +kernel)
theorem d_Mod_tell_2 : decode b_Mod_tell 2 = .ok (.putfield 109, 3) := kq_181 byq_r (a := 0) (b := 109) (by decide +kernel)
theorem d_Mod_tell_5 : decode b_Mod_tell 5 = .ok (.aload_n 0, 1) := kq_42 byq_r (by decide +kernel)
theorem d_Mod_tell_6 : decode b_Mod_tell 6 = .ok (.iload_n 1, 1) := kq_27 byq_r (by decide +kernel)
theorem d_Mod_tell_7 : decode b_Mod_tell 7 = .ok (.invokevirtual 307, 3) := kq_182 byq_r (a := 1) (b := 51) (by decide +kernel)
theorem d_Mod_tell_10 : decode b_Mod_tell 10 = .ok (.ifCond .ne 5, 3) := kq_154 byq_r (a := 0) (b := 5) (by decide +kernel)
theorem d_Mod_tell_13 : decode b_Mod_tell 13 = .ok (.iconst (-1), 1) := kq_2 byq_r (by decide +kernel)
theorem d_Mod_tell_14 : decode b_Mod_tell 14 = .ok (.ireturn, 1) := kq_172 byq_r (by decide +kernel)
theorem d_Mod_tell_15 : decode b_Mod_tell 15 = .ok (.aload_n 0, 1) := kq_42 byq_r (by decide +kernel)
theorem d_Mod_tell_16 : decode b_Mod_tell 16 = .ok (.aload_n 0, 1) := kq_42 byq_r (by decide +kernel)
theorem d_Mod_tell_17 : decode b_Mod_tell 17 = .ok (.getfield 9, 3) := kq_180 byq_r (a := 0) (b := 9) (by decide +kernel)
theorem d_Mod_tell_20 : decode b_Mod_tell 20 = .ok (.invokevirtual 293, 3) := kq_182 byq_r (a := 1) (b := 37) (by decide +kernel)
theorem d_Mod_tell_23 : decode b_Mod_tell 23 = .ok (.aload_n 0, 1) := kq_42 byq_r (by decide +kernel)
theorem d_Mod_tell_24 : decode b_Mod_tell 24 = .ok (.getfield 9, 3) := kq_180 byq_r (a := 0) (b := 9) (by decide +kernel)
theorem d_Mod_tell_27 : decode b_Mod_tell 27 = .ok (.bipush 93, 2) := kq_16 byq_r (b := 93) (by decide +kernel)
theorem d_Mod_tell_29 : decode b_Mod_tell 29 = .ok (.dup2, 1) := kq_92 byq_r (by decide +kernel)
theorem d_Mod_tell_30 : decode b_Mod_tell 30 = .ok (.iaload, 1) := kq_46 byq_r (by decide +kernel)
theorem d_Mod_tell_31 : decode b_Mod_tell 31 = .ok (.iconst 1, 1) := kq_4 byq_r (by decide +kernel)
theorem d_Mod_tell_32 : decode b_Mod_tell 32 = .ok (.iload_n 1, 1) := kq_27 byq_r (by decide +kernel)
theorem d_Mod_tell_33 : decode b_Mod_tell 33 = .ok (.ishl, 1) := kq_120 byq_r (by decide +kernel)
theorem d_Mod_tell_34 : decode b_Mod_tell 34 = .ok (.ior, 1) := kq_128 byq_r (by decide +kernel)
theorem d_Mod_tell_35 : decode b_Mod_tell 35 = .ok (.iastore, 1) := kq_79 byq_r (by decide +kernel)
theorem d_Mod_tell_36 : decode b_Mod_tell 36 = .ok (.aload_n 0, 1) := kq_42 byq_r (by decide +kernel)
theorem d_Mod_tell_37 : decode b_Mod_tell 37 = .ok (.getfield 9, 3) := kq_180 byq_r (a := 0) (b := 9) (by decide +kernel)
theorem d_Mod_tell_40 : decode b_Mod_tell 40 = .ok (.bipush 93, 2) := kq_16 byq_r (b := 93) (by decide +kernel)
theorem d_Mod_tell_42 : decode b_Mod_tell 42 = .ok (.iaload, 1) := kq_46 byq_r (by decide +kernel)
theorem d_Mod_tell_43 : decode b_Mod_tell 43 = .ok (.invokestatic 310, 3) := kq_184 byq_r (a := 1) (b := 54) (by decide +kernel)
theorem d_Mod_tell_46 : decode b_Mod_tell 46 = .ok (.ireturn, 1) := kq_172 byq_r (by decide +kernel)
theorem d_Mod_womenBelow_0 : decode b_Mod_womenBelow 0 = .ok (.iconst 0, 1) := kq_3 byq_r (by decide +kernel)
theorem d_Mod_womenBelow_1 : decode b_Mod_womenBelow 1 = .ok (.istore_n 1, 1) := kq_60 byq_r (by decide +kernel)
theorem d_Mod_womenBelow_2 : decode b_Mod_womenBelow 2 = .ok (.iconst 0, 1) := kq_3 byq_r (by decide +kernel)
theorem d_Mod_womenBelow_3 : decode b_Mod_womenBelow 3 = .ok (.istore_n 2, 1) := kq_61 byq_r (by decide +kernel)
theorem d_Mod_womenBelow_4 : decode b_Mod_womenBelow 4 = .ok (.iload_n 2, 1) := kq_28 byq_r (by decide +kernel)
theorem d_Mod_womenBelow_5 : decode b_Mod_womenBelow 5 = .ok (.aload_n 0, 1) := kq_42 byq_r (by decide +kernel)
theorem d_Mod_womenBelow_6 : decode b_Mod_womenBelow 6 = .ok (.getfield 123, 3) := kq_180 byq_r (a := 0) (b := 123) (by decide +kernel)
theorem d_Mod_womenBelow_9 : decode b_Mod_womenBelow 9 = .ok (.if_icmp .ge 40, 3) := kq_162 byq_r (a := 0) (b := 40) (by decide +kernel)
theorem d_Mod_womenBelow_12 : decode b_Mod_womenBelow 12 = .ok (.iload_n 1, 1) := kq_27 byq_r (by decide +kernel)
theorem d_Mod_womenBelow_13 : decode b_Mod_womenBelow 13 = .ok (.aload_n 0, 1) := kq_42 byq_r (by decide +kernel)
theorem d_Mod_womenBelow_14 : decode b_Mod_womenBelow 14 = .ok (.getfield 130, 3) := kq_180 byq_r (a := 0) (b := 130) (by decide +kernel)
theorem d_Mod_womenBelow_17 : decode b_Mod_womenBelow 17 = .ok (.iload_n 2, 1) := kq_28 byq_r (by decide +kernel)
theorem d_Mod_womenBelow_18 : decode b_Mod_womenBelow 18 = .ok (.invokestatic 133, 3) := kq_184 byq_r (a := 0) (b := 133) (by decide +kernel)
theorem d_Mod_womenBelow_21 : decode b_Mod_womenBelow 21 = .ok (.ifCond .eq 19, 3) := kq_153 byq_r (a := 0) (b := 19) (by decide +kernel)
theorem d_Mod_womenBelow_24 : decode b_Mod_womenBelow 24 = .ok (.aload_n 0, 1) := kq_42 byq_r (by decide +kernel)
theorem d_Mod_womenBelow_25 : decode b_Mod_womenBelow 25 = .ok (.getfield 9, 3) := kq_180 byq_r (a := 0) (b := 9) (by decide +kernel)
theorem d_Mod_womenBelow_28 : decode b_Mod_womenBelow 28 = .ok (.iload_n 2, 1) := kq_28 byq_r (by decide +kernel)
theorem d_Mod_womenBelow_29 : decode b_Mod_womenBelow 29 = .ok (.iaload, 1) := kq_46 byq_r (by decide +kernel)
theorem d_Mod_womenBelow_30 : decode b_Mod_womenBelow 30 = .ok (.invokestatic 143, 3) := kq_184 byq_r (a := 0) (b := 143) (by decide +kernel)
theorem d_Mod_womenBelow_33 : decode b_Mod_womenBelow 33 = .ok (.ifCond .ne 7, 3) := kq_154 byq_r (a := 0) (b := 7) (by decide +kernel)
theorem d_Mod_womenBelow_36 : decode b_Mod_womenBelow 36 = .ok (.iconst 1, 1) := kq_4 byq_r (by decide +kernel)
theorem d_Mod_womenBelow_37 : decode b_Mod_womenBelow 37 = .ok (.goto 4, 3) := kq_167 byq_r (a := 0) (b := 4) (by decide +kernel)
theorem d_Mod_womenBelow_40 : decode b_Mod_womenBelow 40 = .ok (.iconst 0, 1) := kq_3 byq_r (by decide +kernel)
theorem d_Mod_womenBelow_41 : decode b_Mod_womenBelow 41 = .ok (.iadd, 1) := kq_96 byq_r (by decide +kernel)
theorem d_Mod_womenBelow_42 : decode b_Mod_womenBelow 42 = .ok (.istore_n 1, 1) := kq_60 byq_r (by decide +kernel)
theorem d_Mod_womenBelow_43 : decode b_Mod_womenBelow 43 = .ok (.iinc 2 1, 3) := kq_132 byq_r (b := 1) (by decide +kernel)
theorem d_Mod_womenBelow_46 : decode b_Mod_womenBelow 46 = .ok (.goto (-42), 3) := kq_167 byq_r (a := 255) (b := 214) (by decide +kernel)
theorem d_Mod_womenBelow_49 : decode b_Mod_womenBelow 49 = .ok (.iload_n 1, 1) := kq_27 byq_r (by decide +kernel)
theorem d_Mod_womenBelow_50 : decode b_Mod_womenBelow 50 = .ok (.ireturn, 1) := kq_172 byq_r (by decide +kernel)
theorem d_Mod_canFeast_0 : decode b_Mod_canFeast 0 = .ok (.iload_n 1, 1) := kq_27 byq_r (by decide +kernel)
theorem d_Mod_canFeast_1 : decode b_Mod_canFeast 1 = .ok (.iconst 0, 1) := kq_3 byq_r (by decide +kernel)
theorem d_Mod_canFeast_2 : decode b_Mod_canFeast 2 = .ok (.iconst 1, 1) := kq_4 byq_r (by decide +kernel)
theorem d_Mod_canFeast_3 : decode b_Mod_canFeast 3 = .ok (.invokestatic 119, 3) := kq_184 byq_r (a := 0) (b := 119) (by decide +kernel)
theorem d_Mod_canFeast_6 : decode b_Mod_canFeast 6 = .ok (.ifCond .eq 14, 3) := kq_153 byq_r (a := 0) (b := 14) (by decide +kernel)
theorem d_Mod_canFeast_9 : decode b_Mod_canFeast 9 = .ok (.aload_n 0, 1) := kq_42 byq_r (by decide +kernel)
theorem d_Mod_canFeast_10 : decode b_Mod_canFeast 10 = .ok (.getfield 9, 3) := kq_180 byq_r (a := 0) (b := 9) (by decide +kernel)
theorem d_Mod_canFeast_13 : decode b_Mod_canFeast 13 = .ok (.bipush 94, 2) := kq_16 byq_r (b := 94) (by decide +kernel)
theorem d_Mod_canFeast_15 : decode b_Mod_canFeast 15 = .ok (.iaload, 1) := kq_46 byq_r (by decide +kernel)
theorem d_Mod_canFeast_16 : decode b_Mod_canFeast 16 = .ok (.iload_n 1, 1) := kq_27 byq_r (by decide +kernel)
theorem d_Mod_canFeast_17 : decode b_Mod_canFeast 17 = .ok (.if_icmp .ne 5, 3) := kq_160 byq_r (a := 0) (b := 5) (by decide +kernel)
theorem d_Mod_canFeast_20 : decode b_Mod_canFeast 20 = .ok (.iconst 0, 1) := kq_3 byq_r (by decide +kernel)
theorem d_Mod_canFeast_21 : decode b_Mod_canFeast 21 = .ok (.ireturn, 1) := kq_172 byq_r (by decide +kernel)
theorem d_Mod_canFeast_22 : decode b_Mod_canFeast 22 = .ok (.iload_n 1, 1) := kq_27 byq_r (by decide +kernel)
theorem d_Mod_canFeast_23 : decode b_Mod_canFeast 23 = .ok (.iconst 1, 1) := kq_4 byq_r (by decide +kernel)
theorem d_Mod_canFeast_24 : decode b_Mod_canFeast 24 = .ok (.if_icmp .ne 5, 3) := kq_160 byq_r (a := 0) (b := 5) (by decide +kernel)
theorem d_Mod_canFeast_27 : decode b_Mod_canFeast 27 = .ok (.iconst 1, 1) := kq_4 byq_r (by decide +kernel)
theorem d_Mod_canFeast_28 : decode b_Mod_canFeast 28 = .ok (.ireturn, 1) := kq_172 byq_r (by decide +kernel)
theorem d_Mod_canFeast_29 : decode b_Mod_canFeast 29 = .ok (.iconst 0, 1) := kq_3 byq_r (by decide +kernel)
theorem d_Mod_canFeast_30 : decode b_Mod_canFeast 30 = .ok (.istore_n 2, 1) := kq_61 byq_r (by decide +kernel)
theorem d_Mod_canFeast_31 : decode b_Mod_canFeast 31 = .ok (.iload_n 2, 1) := kq_28 byq_r (by decide +kernel)
theorem d_Mod_canFeast_32 : decode b_Mod_canFeast 32 = .ok (.aload_n 0, 1) := kq_42 byq_r (by decide +kernel)
theorem d_Mod_canFeast_33 : decode b_Mod_canFeast 33 = .ok (.getfield 123, 3) := kq_180 byq_r (a := 0) (b := 123) (by decide +kernel)
theorem d_Mod_canFeast_36 : decode b_Mod_canFeast 36 = .ok (.if_icmp .ge 52, 3) := kq_162 byq_r (a := 0) (b := 52) (by decide +kernel)
theorem d_Mod_canFeast_39 : decode b_Mod_canFeast 39 = .ok (.aload_n 0, 1) := kq_42 byq_r (by decide +kernel)
theorem d_Mod_canFeast_40 : decode b_Mod_canFeast 40 = .ok (.getfield 130, 3) := kq_180 byq_r (a := 0) (b := 130) (by decide +kernel)
theorem d_Mod_canFeast_43 : decode b_Mod_canFeast 43 = .ok (.iload_n 2, 1) := kq_28 byq_r (by decide +kernel)
theorem d_Mod_canFeast_44 : decode b_Mod_canFeast 44 = .ok (.invokestatic 133, 3) := kq_184 byq_r (a := 0) (b := 133) (by decide +kernel)
theorem d_Mod_canFeast_47 : decode b_Mod_canFeast 47 = .ok (.ifCond .eq 35, 3) := kq_153 byq_r (a := 0) (b := 35) (by decide +kernel)
theorem d_Mod_canFeast_50 : decode b_Mod_canFeast 50 = .ok (.aload_n 0, 1) := kq_42 byq_r (by decide +kernel)
theorem d_Mod_canFeast_51 : decode b_Mod_canFeast 51 = .ok (.getfield 9, 3) := kq_180 byq_r (a := 0) (b := 9) (by decide +kernel)
theorem d_Mod_canFeast_54 : decode b_Mod_canFeast 54 = .ok (.iload_n 2, 1) := kq_28 byq_r (by decide +kernel)
theorem d_Mod_canFeast_55 : decode b_Mod_canFeast 55 = .ok (.iaload, 1) := kq_46 byq_r (by decide +kernel)
theorem d_Mod_canFeast_56 : decode b_Mod_canFeast 56 = .ok (.invokestatic 143, 3) := kq_184 byq_r (a := 0) (b := 143) (by decide +kernel)
theorem d_Mod_canFeast_59 : decode b_Mod_canFeast 59 = .ok (.ifCond .ne 23, 3) := kq_154 byq_r (a := 0) (b := 23) (by decide +kernel)
theorem d_Mod_canFeast_62 : decode b_Mod_canFeast 62 = .ok (.aload_n 0, 1) := kq_42 byq_r (by decide +kernel)
theorem d_Mod_canFeast_63 : decode b_Mod_canFeast 63 = .ok (.getfield 13, 3) := kq_180 byq_r (a := 0) (b := 13) (by decide +kernel)
theorem d_Mod_canFeast_66 : decode b_Mod_canFeast 66 = .ok (.aload_n 0, 1) := kq_42 byq_r (by decide +kernel)
theorem d_Mod_canFeast_67 : decode b_Mod_canFeast 67 = .ok (.getfield 9, 3) := kq_180 byq_r (a := 0) (b := 9) (by decide +kernel)
theorem d_Mod_canFeast_70 : decode b_Mod_canFeast 70 = .ok (.iload_n 2, 1) := kq_28 byq_r (by decide +kernel)
theorem d_Mod_canFeast_71 : decode b_Mod_canFeast 71 = .ok (.iaload, 1) := kq_46 byq_r (by decide +kernel)
theorem d_Mod_canFeast_72 : decode b_Mod_canFeast 72 = .ok (.invokestatic 147, 3) := kq_184 byq_r (a := 0) (b := 147) (by decide +kernel)
theorem d_Mod_canFeast_75 : decode b_Mod_canFeast 75 = .ok (.iaload, 1) := kq_46 byq_r (by decide +kernel)
theorem d_Mod_canFeast_76 : decode b_Mod_canFeast 76 = .ok (.iconst 3, 1) := kq_6 byq_r (by decide +kernel)
theorem d_Mod_canFeast_77 : decode b_Mod_canFeast 77 = .ok (.if_icmp .eq 5, 3) := kq_159 byq_r (a := 0) (b := 5) (by decide +kernel)
theorem d_Mod_canFeast_80 : decode b_Mod_canFeast 80 = .ok (.iconst 0, 1) := kq_3 byq_r (by decide +kernel)
theorem d_Mod_canFeast_81 : decode b_Mod_canFeast 81 = .ok (.ireturn, 1) := kq_172 byq_r (by decide +kernel)
theorem d_Mod_canFeast_82 : decode b_Mod_canFeast 82 = .ok (.iinc 2 1, 3) := kq_132 byq_r (b := 1) (by decide +kernel)
theorem d_Mod_canFeast_85 : decode b_Mod_canFeast 85 = .ok (.goto (-54), 3) := kq_167 byq_r (a := 255) (b := 202) (by decide +kernel)
theorem d_Mod_canFeast_88 : decode b_Mod_canFeast 88 = .ok (.iconst 1, 1) := kq_4 byq_r (by decide +kernel)
theorem d_Mod_canFeast_89 : decode b_Mod_canFeast 89 = .ok (.ireturn, 1) := kq_172 byq_r (by decide +kernel)
theorem d_Mod_goFeast_0 : decode b_Mod_goFeast 0 = .ok (.aload_n 0, 1) := kq_42 byq_r (by decide +kernel)
theorem d_Mod_goFeast_1 : decode b_Mod_goFeast 1 = .ok (.getfield 9, 3) := kq_180 byq_r (a := 0) (b := 9) (by decide +kernel)
theorem d_Mod_goFeast_4 : decode b_Mod_goFeast 4 = .ok (.bipush 94, 2) := kq_16 byq_r (b := 94) (by decide +kernel)
theorem d_Mod_goFeast_6 : decode b_Mod_goFeast 6 = .ok (.iload_n 1, 1) := kq_27 byq_r (by decide +kernel)
theorem d_Mod_goFeast_7 : decode b_Mod_goFeast 7 = .ok (.iastore, 1) := kq_79 byq_r (by decide +kernel)
theorem d_Mod_goFeast_8 : decode b_Mod_goFeast 8 = .ok (.iconst 0, 1) := kq_3 byq_r (by decide +kernel)
theorem d_Mod_goFeast_9 : decode b_Mod_goFeast 9 = .ok (.istore_n 2, 1) := kq_61 byq_r (by decide +kernel)
theorem d_Mod_goFeast_10 : decode b_Mod_goFeast 10 = .ok (.iload_n 2, 1) := kq_28 byq_r (by decide +kernel)
theorem d_Mod_goFeast_11 : decode b_Mod_goFeast 11 = .ok (.aload_n 0, 1) := kq_42 byq_r (by decide +kernel)
theorem d_Mod_goFeast_12 : decode b_Mod_goFeast 12 = .ok (.getfield 123, 3) := kq_180 byq_r (a := 0) (b := 123) (by decide +kernel)
theorem d_Mod_goFeast_15 : decode b_Mod_goFeast 15 = .ok (.if_icmp .ge 59, 3) := kq_162 byq_r (a := 0) (b := 59) (by decide +kernel)
theorem d_Mod_goFeast_18 : decode b_Mod_goFeast 18 = .ok (.aload_n 0, 1) := kq_42 byq_r (by decide +kernel)
theorem d_Mod_goFeast_19 : decode b_Mod_goFeast 19 = .ok (.getfield 130, 3) := kq_180 byq_r (a := 0) (b := 130) (by decide +kernel)
theorem d_Mod_goFeast_22 : decode b_Mod_goFeast 22 = .ok (.iload_n 2, 1) := kq_28 byq_r (by decide +kernel)
theorem d_Mod_goFeast_23 : decode b_Mod_goFeast 23 = .ok (.invokestatic 133, 3) := kq_184 byq_r (a := 0) (b := 133) (by decide +kernel)
theorem d_Mod_goFeast_26 : decode b_Mod_goFeast 26 = .ok (.ifCond .eq 42, 3) := kq_153 byq_r (a := 0) (b := 42) (by decide +kernel)
theorem d_Mod_goFeast_29 : decode b_Mod_goFeast 29 = .ok (.aload_n 0, 1) := kq_42 byq_r (by decide +kernel)
theorem d_Mod_goFeast_30 : decode b_Mod_goFeast 30 = .ok (.getfield 13, 3) := kq_180 byq_r (a := 0) (b := 13) (by decide +kernel)
theorem d_Mod_goFeast_33 : decode b_Mod_goFeast 33 = .ok (.aload_n 0, 1) := kq_42 byq_r (by decide +kernel)
theorem d_Mod_goFeast_34 : decode b_Mod_goFeast 34 = .ok (.getfield 9, 3) := kq_180 byq_r (a := 0) (b := 9) (by decide +kernel)
theorem d_Mod_goFeast_37 : decode b_Mod_goFeast 37 = .ok (.iload_n 2, 1) := kq_28 byq_r (by decide +kernel)
theorem d_Mod_goFeast_38 : decode b_Mod_goFeast 38 = .ok (.iaload, 1) := kq_46 byq_r (by decide +kernel)
theorem d_Mod_goFeast_39 : decode b_Mod_goFeast 39 = .ok (.invokestatic 147, 3) := kq_184 byq_r (a := 0) (b := 147) (by decide +kernel)
theorem d_Mod_goFeast_42 : decode b_Mod_goFeast 42 = .ok (.iaload, 1) := kq_46 byq_r (by decide +kernel)
theorem d_Mod_goFeast_43 : decode b_Mod_goFeast 43 = .ok (.iconst 3, 1) := kq_6 byq_r (by decide +kernel)
theorem d_Mod_goFeast_44 : decode b_Mod_goFeast 44 = .ok (.if_icmp .ne 24, 3) := kq_160 byq_r (a := 0) (b := 24) (by decide +kernel)
theorem d_Mod_goFeast_47 : decode b_Mod_goFeast 47 = .ok (.aload_n 0, 1) := kq_42 byq_r (by decide +kernel)
theorem d_Mod_goFeast_48 : decode b_Mod_goFeast 48 = .ok (.getfield 9, 3) := kq_180 byq_r (a := 0) (b := 9) (by decide +kernel)
theorem d_Mod_goFeast_51 : decode b_Mod_goFeast 51 = .ok (.iload_n 2, 1) := kq_28 byq_r (by decide +kernel)
theorem d_Mod_goFeast_52 : decode b_Mod_goFeast 52 = .ok (.iconst 1, 1) := kq_4 byq_r (by decide +kernel)
theorem d_Mod_goFeast_53 : decode b_Mod_goFeast 53 = .ok (.iload_n 1, 1) := kq_27 byq_r (by decide +kernel)
theorem d_Mod_goFeast_54 : decode b_Mod_goFeast 54 = .ok (.isub, 1) := kq_100 byq_r (by decide +kernel)
theorem d_Mod_goFeast_55 : decode b_Mod_goFeast 55 = .ok (.aload_n 0, 1) := kq_42 byq_r (by decide +kernel)
theorem d_Mod_goFeast_56 : decode b_Mod_goFeast 56 = .ok (.getfield 9, 3) := kq_180 byq_r (a := 0) (b := 9) (by decide +kernel)
theorem d_Mod_goFeast_59 : decode b_Mod_goFeast 59 = .ok (.iload_n 2, 1) := kq_28 byq_r (by decide +kernel)
theorem d_Mod_goFeast_60 : decode b_Mod_goFeast 60 = .ok (.iaload, 1) := kq_46 byq_r (by decide +kernel)
theorem d_Mod_goFeast_61 : decode b_Mod_goFeast 61 = .ok (.invokestatic 147, 3) := kq_184 byq_r (a := 0) (b := 147) (by decide +kernel)
theorem d_Mod_goFeast_64 : decode b_Mod_goFeast 64 = .ok (.invokestatic 154, 3) := kq_184 byq_r (a := 0) (b := 154) (by decide +kernel)
theorem d_Mod_goFeast_67 : decode b_Mod_goFeast 67 = .ok (.iastore, 1) := kq_79 byq_r (by decide +kernel)
theorem d_Mod_goFeast_68 : decode b_Mod_goFeast 68 = .ok (.iinc 2 1, 3) := kq_132 byq_r (b := 1) (by decide +kernel)
theorem d_Mod_goFeast_71 : decode b_Mod_goFeast 71 = .ok (.goto (-61), 3) := kq_167 byq_r (a := 255) (b := 195) (by decide +kernel)
theorem d_Mod_goFeast_74 : decode b_Mod_goFeast 74 = .ok (.return_, 1) := kq_177 byq_r (by decide +kernel)
theorem d_Mod_feast_0 : decode b_Mod_feast 0 = .ok (.aload_n 0, 1) := kq_42 byq_r (by decide +kernel)
theorem d_Mod_feast_1 : decode b_Mod_feast 1 = .ok (.iconst 0, 1) := kq_3 byq_r (by decide +kernel)
theorem d_Mod_feast_2 : decode b_Mod_feast 2 = .ok (.putfield 109, 3) := kq_181 byq_r (a := 0) (b := 109) (by decide +kernel)
theorem d_Mod_feast_5 : decode b_Mod_feast 5 = .ok (.aload_n 0, 1) := kq_42 byq_r (by decide +kernel)
theorem d_Mod_feast_6 : decode b_Mod_feast 6 = .ok (.iload_n 1, 1) := kq_27 byq_r (by decide +kernel)
theorem d_Mod_feast_7 : decode b_Mod_feast 7 = .ok (.invokevirtual 315, 3) := kq_182 byq_r (a := 1) (b := 59) (by decide +kernel)
theorem d_Mod_feast_10 : decode b_Mod_feast 10 = .ok (.ifCond .ne 5, 3) := kq_154 byq_r (a := 0) (b := 5) (by decide +kernel)
theorem d_Mod_feast_13 : decode b_Mod_feast 13 = .ok (.iconst (-1), 1) := kq_2 byq_r (by decide +kernel)
theorem d_Mod_feast_14 : decode b_Mod_feast 14 = .ok (.ireturn, 1) := kq_172 byq_r (by decide +kernel)
theorem d_Mod_feast_15 : decode b_Mod_feast 15 = .ok (.aload_n 0, 1) := kq_42 byq_r (by decide +kernel)
theorem d_Mod_feast_16 : decode b_Mod_feast 16 = .ok (.aload_n 0, 1) := kq_42 byq_r (by decide +kernel)
theorem d_Mod_feast_17 : decode b_Mod_feast 17 = .ok (.getfield 9, 3) := kq_180 byq_r (a := 0) (b := 9) (by decide +kernel)
theorem d_Mod_feast_20 : decode b_Mod_feast 20 = .ok (.invokevirtual 293, 3) := kq_182 byq_r (a := 1) (b := 37) (by decide +kernel)
theorem d_Mod_feast_23 : decode b_Mod_feast 23 = .ok (.aload_n 0, 1) := kq_42 byq_r (by decide +kernel)
theorem d_Mod_feast_24 : decode b_Mod_feast 24 = .ok (.iload_n 1, 1) := kq_27 byq_r (by decide +kernel)
theorem d_Mod_feast_25 : decode b_Mod_feast 25 = .ok (.invokevirtual 318, 3) := kq_182 byq_r (a := 1) (b := 62) (by decide +kernel)
theorem d_Mod_feast_28 : decode b_Mod_feast 28 = .ok (.aload_n 0, 1) := kq_42 byq_r (by decide +kernel)
theorem d_Mod_feast_29 : decode b_Mod_feast 29 = .ok (.invokevirtual 321, 3) := kq_182 byq_r (a := 1) (b := 65) (by decide +kernel)
theorem d_Mod_feast_32 : decode b_Mod_feast 32 = .ok (.ireturn, 1) := kq_172 byq_r (by decide +kernel)
theorem d_Mod_areMeeting_0 : decode b_Mod_areMeeting 0 = .ok (.aload_n 1, 1) := kq_43 byq_r (by decide +kernel)
theorem d_Mod_areMeeting_1 : decode b_Mod_areMeeting 1 = .ok (.iload_n 2, 1) := kq_28 byq_r (by decide +kernel)
theorem d_Mod_areMeeting_2 : decode b_Mod_areMeeting 2 = .ok (.iaload, 1) := kq_46 byq_r (by decide +kernel)
theorem d_Mod_areMeeting_3 : decode b_Mod_areMeeting 3 = .ok (.invokestatic 147, 3) := kq_184 byq_r (a := 0) (b := 147) (by decide +kernel)
theorem d_Mod_areMeeting_6 : decode b_Mod_areMeeting 6 = .ok (.aload_n 1, 1) := kq_43 byq_r (by decide +kernel)
theorem d_Mod_areMeeting_7 : decode b_Mod_areMeeting 7 = .ok (.iload_n 3, 1) := kq_29 byq_r (by decide +kernel)
theorem d_Mod_areMeeting_8 : decode b_Mod_areMeeting 8 = .ok (.iaload, 1) := kq_46 byq_r (by decide +kernel)
theorem d_Mod_areMeeting_9 : decode b_Mod_areMeeting 9 = .ok (.invokestatic 147, 3) := kq_184 byq_r (a := 0) (b := 147) (by decide +kernel)
theorem d_Mod_areMeeting_12 : decode b_Mod_areMeeting 12 = .ok (.if_icmp .ne 22, 3) := kq_160 byq_r (a := 0) (b := 22) (by decide +kernel)
theorem d_Mod_areMeeting_15 : decode b_Mod_areMeeting 15 = .ok (.aload_n 0, 1) := kq_42 byq_r (by decide +kernel)
theorem d_Mod_areMeeting_16 : decode b_Mod_areMeeting 16 = .ok (.getfield 13, 3) := kq_180 byq_r (a := 0) (b := 13) (by decide +kernel)
theorem d_Mod_areMeeting_19 : decode b_Mod_areMeeting 19 = .ok (.aload_n 1, 1) := kq_43 byq_r (by decide +kernel)
theorem d_Mod_areMeeting_20 : decode b_Mod_areMeeting 20 = .ok (.iload_n 2, 1) := kq_28 byq_r (by decide +kernel)
theorem d_Mod_areMeeting_21 : decode b_Mod_areMeeting 21 = .ok (.iaload, 1) := kq_46 byq_r (by decide +kernel)
theorem d_Mod_areMeeting_22 : decode b_Mod_areMeeting 22 = .ok (.invokestatic 147, 3) := kq_184 byq_r (a := 0) (b := 147) (by decide +kernel)
theorem d_Mod_areMeeting_25 : decode b_Mod_areMeeting 25 = .ok (.iaload, 1) := kq_46 byq_r (by decide +kernel)
theorem d_Mod_areMeeting_26 : decode b_Mod_areMeeting 26 = .ok (.iconst 3, 1) := kq_6 byq_r (by decide +kernel)
theorem d_Mod_areMeeting_27 : decode b_Mod_areMeeting 27 = .ok (.if_icmp .ne 7, 3) := kq_160 byq_r (a := 0) (b := 7) (by decide +kernel)
theorem d_Mod_areMeeting_30 : decode b_Mod_areMeeting 30 = .ok (.iconst 1, 1) := kq_4 byq_r (by decide +kernel)
theorem d_Mod_areMeeting_31 : decode b_Mod_areMeeting 31 = .ok (.goto 4, 3) := kq_167 byq_r (a := 0) (b := 4) (by decide +kernel)
theorem d_Mod_areMeeting_34 : decode b_Mod_areMeeting 34 = .ok (.iconst 0, 1) := kq_3 byq_r (by decide +kernel)
theorem d_Mod_areMeeting_35 : decode b_Mod_areMeeting 35 = .ok (.ireturn, 1) := kq_172 byq_r (by decide +kernel)
theorem d_Mod_hears_0 : decode b_Mod_hears 0 = .ok (.aload_n 0, 1) := kq_42 byq_r (by decide +kernel)
theorem d_Mod_hears_1 : decode b_Mod_hears 1 = .ok (.aload_n 1, 1) := kq_43 byq_r (by decide +kernel)
theorem d_Mod_hears_2 : decode b_Mod_hears 2 = .ok (.aload_n 1, 1) := kq_43 byq_r (by decide +kernel)
theorem d_Mod_hears_3 : decode b_Mod_hears 3 = .ok (.iload_n 2, 1) := kq_28 byq_r (by decide +kernel)
theorem d_Mod_hears_4 : decode b_Mod_hears 4 = .ok (.iaload, 1) := kq_46 byq_r (by decide +kernel)
theorem d_Mod_hears_5 : decode b_Mod_hears 5 = .ok (.invokevirtual 259, 3) := kq_182 byq_r (a := 1) (b := 3) (by decide +kernel)
theorem d_Mod_hears_8 : decode b_Mod_hears 8 = .ok (.istore_n 3, 1) := kq_62 byq_r (by decide +kernel)
theorem d_Mod_hears_9 : decode b_Mod_hears 9 = .ok (.aload_n 1, 1) := kq_43 byq_r (by decide +kernel)
theorem d_Mod_hears_10 : decode b_Mod_hears 10 = .ok (.iload_n 2, 1) := kq_28 byq_r (by decide +kernel)
theorem d_Mod_hears_11 : decode b_Mod_hears 11 = .ok (.iaload, 1) := kq_46 byq_r (by decide +kernel)
theorem d_Mod_hears_12 : decode b_Mod_hears 12 = .ok (.invokestatic 147, 3) := kq_184 byq_r (a := 0) (b := 147) (by decide +kernel)
theorem d_Mod_hears_15 : decode b_Mod_hears 15 = .ok (.istore 4, 2) := kq_54 byq_r (by decide +kernel)
theorem d_Mod_hears_17 : decode b_Mod_hears 17 = .ok (.aload_n 0, 1) := kq_42 byq_r (by decide +kernel)
theorem d_Mod_hears_18 : decode b_Mod_hears 18 = .ok (.getfield 13, 3) := kq_180 byq_r (a := 0) (b := 13) (by decide +kernel)
theorem d_Mod_hears_21 : decode b_Mod_hears 21 = .ok (.iload 4, 2) := kq_21 byq_r (by decide +kernel)
theorem d_Mod_hears_23 : decode b_Mod_hears 23 = .ok (.iaload, 1) := kq_46 byq_r (by decide +kernel)
theorem d_Mod_hears_24 : decode b_Mod_hears 24 = .ok (.iconst 3, 1) := kq_6 byq_r (by decide +kernel)
theorem d_Mod_hears_25 : decode b_Mod_hears 25 = .ok (.if_icmp .ne 25, 3) := kq_160 byq_r (a := 0) (b := 25) (by decide +kernel)
theorem d_Mod_hears_28 : decode b_Mod_hears 28 = .ok (.iload_n 3, 1) := kq_29 byq_r (by decide +kernel)
theorem d_Mod_hears_29 : decode b_Mod_hears 29 = .ok (.aload_n 0, 1) := kq_42 byq_r (by decide +kernel)
theorem d_Mod_hears_30 : decode b_Mod_hears 30 = .ok (.aload_n 1, 1) := kq_43 byq_r (by decide +kernel)
theorem d_Mod_hears_31 : decode b_Mod_hears 31 = .ok (.iload 4, 2) := kq_21 byq_r (by decide +kernel)
theorem d_Mod_hears_33 : decode b_Mod_hears 33 = .ok (.invokevirtual 259, 3) := kq_182 byq_r (a := 1) (b := 3) (by decide +kernel)
theorem d_Mod_hears_36 : decode b_Mod_hears 36 = .ok (.aload_n 0, 1) := kq_42 byq_r (by decide +kernel)
theorem d_Mod_hears_37 : decode b_Mod_hears 37 = .ok (.aload_n 1, 1) := kq_43 byq_r (by decide +kernel)
theorem d_Mod_hears_38 : decode b_Mod_hears 38 = .ok (.iconst 1, 1) := kq_4 byq_r (by decide +kernel)
theorem d_Mod_hears_39 : decode b_Mod_hears 39 = .ok (.iload 4, 2) := kq_21 byq_r (by decide +kernel)
theorem d_Mod_hears_41 : decode b_Mod_hears 41 = .ok (.invokestatic 154, 3) := kq_184 byq_r (a := 0) (b := 154) (by decide +kernel)
theorem d_Mod_hears_44 : decode b_Mod_hears 44 = .ok (.invokevirtual 259, 3) := kq_182 byq_r (a := 1) (b := 3) (by decide +kernel)
theorem d_Mod_hears_47 : decode b_Mod_hears 47 = .ok (.ior, 1) := kq_128 byq_r (by decide +kernel)
theorem d_Mod_hears_48 : decode b_Mod_hears 48 = .ok (.ior, 1) := kq_128 byq_r (by decide +kernel)
theorem d_Mod_hears_49 : decode b_Mod_hears 49 = .ok (.istore_n 3, 1) := kq_62 byq_r (by decide +kernel)
theorem d_Mod_hears_50 : decode b_Mod_hears 50 = .ok (.aload_n 1, 1) := kq_43 byq_r (by decide +kernel)
theorem d_Mod_hears_51 : decode b_Mod_hears 51 = .ok (.iload_n 2, 1) := kq_28 byq_r (by decide +kernel)
theorem d_Mod_hears_52 : decode b_Mod_hears 52 = .ok (.iaload, 1) := kq_46 byq_r (by decide +kernel)
theorem d_Mod_hears_53 : decode b_Mod_hears 53 = .ok (.invokestatic 143, 3) := kq_184 byq_r (a := 0) (b := 143) (by decide +kernel)
theorem d_Mod_hears_56 : decode b_Mod_hears 56 = .ok (.ifCond .ne 5, 3) := kq_154 byq_r (a := 0) (b := 5) (by decide +kernel)
theorem d_Mod_hears_59 : decode b_Mod_hears 59 = .ok (.iload_n 3, 1) := kq_29 byq_r (by decide +kernel)
theorem d_Mod_hears_60 : decode b_Mod_hears 60 = .ok (.ireturn, 1) := kq_172 byq_r (by decide +kernel)
theorem d_Mod_hears_61 : decode b_Mod_hears 61 = .ok (.iconst 0, 1) := kq_3 byq_r (by decide +kernel)
theorem d_Mod_hears_62 : decode b_Mod_hears 62 = .ok (.istore 5, 2) := kq_54 byq_r (by decide +kernel)
theorem d_Mod_hears_64 : decode b_Mod_hears 64 = .ok (.iload 5, 2) := kq_21 byq_r (by decide +kernel)
theorem d_Mod_hears_66 : decode b_Mod_hears 66 = .ok (.iconst 4, 1) := kq_7 byq_r (by decide +kernel)
theorem d_Mod_hears_67 : decode b_Mod_hears 67 = .ok (.if_icmp .ge 37, 3) := kq_162 byq_r (a := 0) (b := 37) (by decide +kernel)
theorem d_Mod_hears_70 : decode b_Mod_hears 70 = .ok (.aload_n 0, 1) := kq_42 byq_r (by decide +kernel)
theorem d_Mod_hears_71 : decode b_Mod_hears 71 = .ok (.iload 4, 2) := kq_21 byq_r (by decide +kernel)
theorem d_Mod_hears_73 : decode b_Mod_hears 73 = .ok (.iload 5, 2) := kq_21 byq_r (by decide +kernel)
theorem d_Mod_hears_75 : decode b_Mod_hears 75 = .ok (.invokevirtual 150, 3) := kq_182 byq_r (a := 0) (b := 150) (by decide +kernel)
theorem d_Mod_hears_78 : decode b_Mod_hears 78 = .ok (.iconst (-1), 1) := kq_2 byq_r (by decide +kernel)
theorem d_Mod_hears_79 : decode b_Mod_hears 79 = .ok (.if_icmp .eq 19, 3) := kq_159 byq_r (a := 0) (b := 19) (by decide +kernel)
theorem d_Mod_hears_82 : decode b_Mod_hears 82 = .ok (.iload_n 3, 1) := kq_29 byq_r (by decide +kernel)
theorem d_Mod_hears_83 : decode b_Mod_hears 83 = .ok (.aload_n 0, 1) := kq_42 byq_r (by decide +kernel)
theorem d_Mod_hears_84 : decode b_Mod_hears 84 = .ok (.aload_n 1, 1) := kq_43 byq_r (by decide +kernel)
theorem d_Mod_hears_85 : decode b_Mod_hears 85 = .ok (.aload_n 0, 1) := kq_42 byq_r (by decide +kernel)
theorem d_Mod_hears_86 : decode b_Mod_hears 86 = .ok (.iload 4, 2) := kq_21 byq_r (by decide +kernel)
theorem d_Mod_hears_88 : decode b_Mod_hears 88 = .ok (.iload 5, 2) := kq_21 byq_r (by decide +kernel)
theorem d_Mod_hears_90 : decode b_Mod_hears 90 = .ok (.invokevirtual 150, 3) := kq_182 byq_r (a := 0) (b := 150) (by decide +kernel)
theorem d_Mod_hears_93 : decode b_Mod_hears 93 = .ok (.invokevirtual 259, 3) := kq_182 byq_r (a := 1) (b := 3) (by decide +kernel)
theorem d_Mod_hears_96 : decode b_Mod_hears 96 = .ok (.ior, 1) := kq_128 byq_r (by decide +kernel)
theorem d_Mod_hears_97 : decode b_Mod_hears 97 = .ok (.istore_n 3, 1) := kq_62 byq_r (by decide +kernel)
theorem d_Mod_hears_98 : decode b_Mod_hears 98 = .ok (.iinc 5 1, 3) := kq_132 byq_r (b := 1) (by decide +kernel)
theorem d_Mod_hears_101 : decode b_Mod_hears 101 = .ok (.goto (-37), 3) := kq_167 byq_r (a := 255) (b := 219) (by decide +kernel)
theorem d_Mod_hears_104 : decode b_Mod_hears 104 = .ok (.iload_n 3, 1) := kq_29 byq_r (by decide +kernel)
theorem d_Mod_hears_105 : decode b_Mod_hears 105 = .ok (.ireturn, 1) := kq_172 byq_r (by decide +kernel)
theorem d_Mod_goMinute_0 : decode b_Mod_goMinute 0 = .ok (.aload_n 0, 1) := kq_42 byq_r (by decide +kernel)
theorem d_Mod_goMinute_1 : decode b_Mod_goMinute 1 = .ok (.iconst 0, 1) := kq_3 byq_r (by decide +kernel)
theorem d_Mod_goMinute_2 : decode b_Mod_goMinute 2 = .ok (.putfield 324, 3) := kq_181 byq_r (a := 1) (b := 68) (by decide +kernel)
theorem d_Mod_goMinute_5 : decode b_Mod_goMinute 5 = .ok (.aload_n 0, 1) := kq_42 byq_r (by decide +kernel)
theorem d_Mod_goMinute_6 : decode b_Mod_goMinute 6 = .ok (.iconst 0, 1) := kq_3 byq_r (by decide +kernel)
theorem d_Mod_goMinute_7 : decode b_Mod_goMinute 7 = .ok (.putfield 327, 3) := kq_181 byq_r (a := 1) (b := 71) (by decide +kernel)
theorem d_Mod_goMinute_10 : decode b_Mod_goMinute 10 = .ok (.iconst 0, 1) := kq_3 byq_r (by decide +kernel)
theorem d_Mod_goMinute_11 : decode b_Mod_goMinute 11 = .ok (.istore_n 2, 1) := kq_61 byq_r (by decide +kernel)
theorem d_Mod_goMinute_12 : decode b_Mod_goMinute 12 = .ok (.iload_n 2, 1) := kq_28 byq_r (by decide +kernel)
theorem d_Mod_goMinute_13 : decode b_Mod_goMinute 13 = .ok (.aload_n 0, 1) := kq_42 byq_r (by decide +kernel)
theorem d_Mod_goMinute_14 : decode b_Mod_goMinute 14 = .ok (.getfield 123, 3) := kq_180 byq_r (a := 0) (b := 123) (by decide +kernel)
theorem d_Mod_goMinute_17 : decode b_Mod_goMinute 17 = .ok (.if_icmp .ge 95, 3) := kq_162 byq_r (a := 0) (b := 95) (by decide +kernel)
theorem d_Mod_goMinute_20 : decode b_Mod_goMinute 20 = .ok (.aload_n 0, 1) := kq_42 byq_r (by decide +kernel)
theorem d_Mod_goMinute_21 : decode b_Mod_goMinute 21 = .ok (.aload_n 1, 1) := kq_43 byq_r (by decide +kernel)
theorem d_Mod_goMinute_22 : decode b_Mod_goMinute 22 = .ok (.iload_n 2, 1) := kq_28 byq_r (by decide +kernel)
theorem d_Mod_goMinute_23 : decode b_Mod_goMinute 23 = .ok (.invokevirtual 268, 3) := kq_182 byq_r (a := 1) (b := 12) (by decide +kernel)
theorem d_Mod_goMinute_26 : decode b_Mod_goMinute 26 = .ok (.ifCond .ne 6, 3) := kq_154 byq_r (a := 0) (b := 6) (by decide +kernel)
theorem d_Mod_goMinute_29 : decode b_Mod_goMinute 29 = .ok (.goto 77, 3) := kq_167 byq_r (a := 0) (b := 77) (by decide +kernel)
theorem d_Mod_goMinute_32 : decode b_Mod_goMinute 32 = .ok (.aload_n 0, 1) := kq_42 byq_r (by decide +kernel)
theorem d_Mod_goMinute_33 : decode b_Mod_goMinute 33 = .ok (.aload_n 1, 1) := kq_43 byq_r (by decide +kernel)
theorem d_Mod_goMinute_34 : decode b_Mod_goMinute 34 = .ok (.aload_n 1, 1) := kq_43 byq_r (by decide +kernel)
theorem d_Mod_goMinute_35 : decode b_Mod_goMinute 35 = .ok (.iload_n 2, 1) := kq_28 byq_r (by decide +kernel)
theorem d_Mod_goMinute_36 : decode b_Mod_goMinute 36 = .ok (.iaload, 1) := kq_46 byq_r (by decide +kernel)
theorem d_Mod_goMinute_37 : decode b_Mod_goMinute 37 = .ok (.aload_n 0, 1) := kq_42 byq_r (by decide +kernel)
theorem d_Mod_goMinute_38 : decode b_Mod_goMinute 38 = .ok (.getfield 23, 3) := kq_180 byq_r (a := 0) (b := 23) (by decide +kernel)
theorem d_Mod_goMinute_41 : decode b_Mod_goMinute 41 = .ok (.bipush 9, 2) := kq_16 byq_r (b := 9) (by decide +kernel)
theorem d_Mod_goMinute_43 : decode b_Mod_goMinute 43 = .ok (.iload_n 2, 1) := kq_28 byq_r (by decide +kernel)
theorem d_Mod_goMinute_44 : decode b_Mod_goMinute 44 = .ok (.imul, 1) := kq_104 byq_r (by decide +kernel)
theorem d_Mod_goMinute_45 : decode b_Mod_goMinute 45 = .ok (.aload_n 1, 1) := kq_43 byq_r (by decide +kernel)
theorem d_Mod_goMinute_46 : decode b_Mod_goMinute 46 = .ok (.bipush 8, 2) := kq_16 byq_r (b := 8) (by decide +kernel)
theorem d_Mod_goMinute_48 : decode b_Mod_goMinute 48 = .ok (.iload_n 2, 1) := kq_28 byq_r (by decide +kernel)
theorem d_Mod_goMinute_49 : decode b_Mod_goMinute 49 = .ok (.iadd, 1) := kq_96 byq_r (by decide +kernel)
theorem d_Mod_goMinute_50 : decode b_Mod_goMinute 50 = .ok (.iaload, 1) := kq_46 byq_r (by decide +kernel)
theorem d_Mod_goMinute_51 : decode b_Mod_goMinute 51 = .ok (.iadd, 1) := kq_96 byq_r (by decide +kernel)
theorem d_Mod_goMinute_52 : decode b_Mod_goMinute 52 = .ok (.iaload, 1) := kq_46 byq_r (by decide +kernel)
theorem d_Mod_goMinute_53 : decode b_Mod_goMinute 53 = .ok (.invokevirtual 252, 3) := kq_182 byq_r (a := 0) (b := 252) (by decide +kernel)
theorem d_Mod_goMinute_56 : decode b_Mod_goMinute 56 = .ok (.istore_n 3, 1) := kq_62 byq_r (by decide +kernel)
theorem d_Mod_goMinute_57 : decode b_Mod_goMinute 57 = .ok (.iload_n 3, 1) := kq_29 byq_r (by decide +kernel)
theorem d_Mod_goMinute_58 : decode b_Mod_goMinute 58 = .ok (.iconst (-1), 1) := kq_2 byq_r (by decide +kernel)
theorem d_Mod_goMinute_59 : decode b_Mod_goMinute 59 = .ok (.if_icmp .eq 26, 3) := kq_159 byq_r (a := 0) (b := 26) (by decide +kernel)
theorem d_Mod_goMinute_62 : decode b_Mod_goMinute 62 = .ok (.iload_n 3, 1) := kq_29 byq_r (by decide +kernel)
theorem d_Mod_goMinute_63 : decode b_Mod_goMinute 63 = .ok (.aload_n 1, 1) := kq_43 byq_r (by decide +kernel)
theorem d_Mod_goMinute_64 : decode b_Mod_goMinute 64 = .ok (.iload_n 2, 1) := kq_28 byq_r (by decide +kernel)
theorem d_Mod_goMinute_65 : decode b_Mod_goMinute 65 = .ok (.iaload, 1) := kq_46 byq_r (by decide +kernel)
theorem d_Mod_goMinute_66 : decode b_Mod_goMinute 66 = .ok (.if_icmp .eq 19, 3) := kq_159 byq_r (a := 0) (b := 19) (by decide +kernel)
theorem d_Mod_goMinute_69 : decode b_Mod_goMinute 69 = .ok (.aload_n 1, 1) := kq_43 byq_r (by decide +kernel)
theorem d_Mod_goMinute_70 : decode b_Mod_goMinute 70 = .ok (.iload_n 2, 1) := kq_28 byq_r (by decide +kernel)
theorem d_Mod_goMinute_71 : decode b_Mod_goMinute 71 = .ok (.iload_n 3, 1) := kq_29 byq_r (by decide +kernel)
theorem d_Mod_goMinute_72 : decode b_Mod_goMinute 72 = .ok (.iastore, 1) := kq_79 byq_r (by decide +kernel)
theorem d_Mod_goMinute_73 : decode b_Mod_goMinute 73 = .ok (.aload_n 0, 1) := kq_42 byq_r (by decide +kernel)
theorem d_Mod_goMinute_74 : decode b_Mod_goMinute 74 = .ok (.dup, 1) := kq_89 byq_r (by decide +kernel)
theorem d_Mod_goMinute_75 : decode b_Mod_goMinute 75 = .ok (.getfield 324, 3) := kq_180 byq_r (a := 1) (b := 68) (by decide +kernel)
theorem d_Mod_goMinute_78 : decode b_Mod_goMinute 78 = .ok (.iconst 1, 1) := kq_4 byq_r (by decide +kernel)
theorem d_Mod_goMinute_79 : decode b_Mod_goMinute 79 = .ok (.iload_n 2, 1) := kq_28 byq_r (by decide +kernel)
theorem d_Mod_goMinute_80 : decode b_Mod_goMinute 80 = .ok (.ishl, 1) := kq_120 byq_r (by decide +kernel)
theorem d_Mod_goMinute_81 : decode b_Mod_goMinute 81 = .ok (.ior, 1) := kq_128 byq_r (by decide +kernel)
theorem d_Mod_goMinute_82 : decode b_Mod_goMinute 82 = .ok (.putfield 324, 3) := kq_181 byq_r (a := 1) (b := 68) (by decide +kernel)
theorem d_Mod_goMinute_85 : decode b_Mod_goMinute 85 = .ok (.aload_n 1, 1) := kq_43 byq_r (by decide +kernel)
theorem d_Mod_goMinute_86 : decode b_Mod_goMinute 86 = .ok (.bipush 8, 2) := kq_16 byq_r (b := 8) (by decide +kernel)
theorem d_Mod_goMinute_88 : decode b_Mod_goMinute 88 = .ok (.iload_n 2, 1) := kq_28 byq_r (by decide +kernel)
theorem d_Mod_goMinute_89 : decode b_Mod_goMinute 89 = .ok (.iadd, 1) := kq_96 byq_r (by decide +kernel)
theorem d_Mod_goMinute_90 : decode b_Mod_goMinute 90 = .ok (.aload_n 1, 1) := kq_43 byq_r (by decide +kernel)
theorem d_Mod_goMinute_91 : decode b_Mod_goMinute 91 = .ok (.bipush 8, 2) := kq_16 byq_r (b := 8) (by decide +kernel)
theorem d_Mod_goMinute_93 : decode b_Mod_goMinute 93 = .ok (.iload_n 2, 1) := kq_28 byq_r (by decide +kernel)
theorem d_Mod_goMinute_94 : decode b_Mod_goMinute 94 = .ok (.iadd, 1) := kq_96 byq_r (by decide +kernel)
theorem d_Mod_goMinute_95 : decode b_Mod_goMinute 95 = .ok (.iaload, 1) := kq_46 byq_r (by decide +kernel)
theorem d_Mod_goMinute_96 : decode b_Mod_goMinute 96 = .ok (.iconst 1, 1) := kq_4 byq_r (by decide +kernel)
theorem d_Mod_goMinute_97 : decode b_Mod_goMinute 97 = .ok (.iadd, 1) := kq_96 byq_r (by decide +kernel)
theorem d_Mod_goMinute_98 : decode b_Mod_goMinute 98 = .ok (.aload_n 0, 1) := kq_42 byq_r (by decide +kernel)
theorem d_Mod_goMinute_99 : decode b_Mod_goMinute 99 = .ok (.getfield 26, 3) := kq_180 byq_r (a := 0) (b := 26) (by decide +kernel)
theorem d_Mod_goMinute_102 : decode b_Mod_goMinute 102 = .ok (.iload_n 2, 1) := kq_28 byq_r (by decide +kernel)
theorem d_Mod_goMinute_103 : decode b_Mod_goMinute 103 = .ok (.iaload, 1) := kq_46 byq_r (by decide +kernel)
theorem d_Mod_goMinute_104 : decode b_Mod_goMinute 104 = .ok (.irem, 1) := kq_112 byq_r (by decide +kernel)
theorem d_Mod_goMinute_105 : decode b_Mod_goMinute 105 = .ok (.iastore, 1) := kq_79 byq_r (by decide +kernel)
theorem d_Mod_goMinute_106 : decode b_Mod_goMinute 106 = .ok (.iinc 2 1, 3) := kq_132 byq_r (b := 1) (by decide +kernel)
theorem d_Mod_goMinute_109 : decode b_Mod_goMinute 109 = .ok (.goto (-97), 3) := kq_167 byq_r (a := 255) (b := 159) (by decide +kernel)
theorem d_Mod_goMinute_112 : decode b_Mod_goMinute 112 = .ok (.iconst 0, 1) := kq_3 byq_r (by decide +kernel)
theorem d_Mod_goMinute_113 : decode b_Mod_goMinute 113 = .ok (.istore_n 2, 1) := kq_61 byq_r (by decide +kernel)
theorem d_Mod_goMinute_114 : decode b_Mod_goMinute 114 = .ok (.iload_n 2, 1) := kq_28 byq_r (by decide +kernel)
theorem d_Mod_goMinute_115 : decode b_Mod_goMinute 115 = .ok (.aload_n 0, 1) := kq_42 byq_r (by decide +kernel)
theorem d_Mod_goMinute_116 : decode b_Mod_goMinute 116 = .ok (.getfield 123, 3) := kq_180 byq_r (a := 0) (b := 123) (by decide +kernel)
theorem d_Mod_goMinute_119 : decode b_Mod_goMinute 119 = .ok (.if_icmp .ge 100, 3) := kq_162 byq_r (a := 0) (b := 100) (by decide +kernel)
theorem d_Mod_goMinute_122 : decode b_Mod_goMinute 122 = .ok (.iconst 0, 1) := kq_3 byq_r (by decide +kernel)
theorem d_Mod_goMinute_123 : decode b_Mod_goMinute 123 = .ok (.istore_n 3, 1) := kq_62 byq_r (by decide +kernel)
theorem d_Mod_goMinute_124 : decode b_Mod_goMinute 124 = .ok (.iload_n 3, 1) := kq_29 byq_r (by decide +kernel)
theorem d_Mod_goMinute_125 : decode b_Mod_goMinute 125 = .ok (.aload_n 0, 1) := kq_42 byq_r (by decide +kernel)
theorem d_Mod_goMinute_126 : decode b_Mod_goMinute 126 = .ok (.getfield 123, 3) := kq_180 byq_r (a := 0) (b := 123) (by decide +kernel)
theorem d_Mod_goMinute_129 : decode b_Mod_goMinute 129 = .ok (.if_icmp .ge 84, 3) := kq_162 byq_r (a := 0) (b := 84) (by decide +kernel)
theorem d_Mod_goMinute_132 : decode b_Mod_goMinute 132 = .ok (.aload_n 0, 1) := kq_42 byq_r (by decide +kernel)
theorem d_Mod_goMinute_133 : decode b_Mod_goMinute 133 = .ok (.getfield 130, 3) := kq_180 byq_r (a := 0) (b := 130) (by decide +kernel)
theorem d_Mod_goMinute_136 : decode b_Mod_goMinute 136 = .ok (.iload_n 2, 1) := kq_28 byq_r (by decide +kernel)
theorem d_Mod_goMinute_137 : decode b_Mod_goMinute 137 = .ok (.invokestatic 133, 3) := kq_184 byq_r (a := 0) (b := 133) (by decide +kernel)
theorem d_Mod_goMinute_140 : decode b_Mod_goMinute 140 = .ok (.ifCond .ne 67, 3) := kq_154 byq_r (a := 0) (b := 67) (by decide +kernel)
theorem d_Mod_goMinute_143 : decode b_Mod_goMinute 143 = .ok (.aload_n 0, 1) := kq_42 byq_r (by decide +kernel)
theorem d_Mod_goMinute_144 : decode b_Mod_goMinute 144 = .ok (.getfield 130, 3) := kq_180 byq_r (a := 0) (b := 130) (by decide +kernel)
theorem d_Mod_goMinute_147 : decode b_Mod_goMinute 147 = .ok (.iload_n 3, 1) := kq_29 byq_r (by decide +kernel)
theorem d_Mod_goMinute_148 : decode b_Mod_goMinute 148 = .ok (.invokestatic 133, 3) := kq_184 byq_r (a := 0) (b := 133) (by decide +kernel)
theorem d_Mod_goMinute_151 : decode b_Mod_goMinute 151 = .ok (.ifCond .eq 56, 3) := kq_153 byq_r (a := 0) (b := 56) (by decide +kernel)
theorem d_Mod_goMinute_154 : decode b_Mod_goMinute 154 = .ok (.aload_n 0, 1) := kq_42 byq_r (by decide +kernel)
theorem d_Mod_goMinute_155 : decode b_Mod_goMinute 155 = .ok (.aload_n 1, 1) := kq_43 byq_r (by decide +kernel)
theorem d_Mod_goMinute_156 : decode b_Mod_goMinute 156 = .ok (.iload_n 2, 1) := kq_28 byq_r (by decide +kernel)
theorem d_Mod_goMinute_157 : decode b_Mod_goMinute 157 = .ok (.iload_n 3, 1) := kq_29 byq_r (by decide +kernel)
theorem d_Mod_goMinute_158 : decode b_Mod_goMinute 158 = .ok (.invokevirtual 330, 3) := kq_182 byq_r (a := 1) (b := 74) (by decide +kernel)
theorem d_Mod_goMinute_161 : decode b_Mod_goMinute 161 = .ok (.ifCond .ne 6, 3) := kq_154 byq_r (a := 0) (b := 6) (by decide +kernel)
theorem d_Mod_goMinute_164 : decode b_Mod_goMinute 164 = .ok (.goto 43, 3) := kq_167 byq_r (a := 0) (b := 43) (by decide +kernel)
theorem d_Mod_goMinute_167 : decode b_Mod_goMinute 167 = .ok (.aload_n 1, 1) := kq_43 byq_r (by decide +kernel)
theorem d_Mod_goMinute_168 : decode b_Mod_goMinute 168 = .ok (.bipush 16, 2) := kq_16 byq_r (b := 16) (by decide +kernel)
theorem d_Mod_goMinute_170 : decode b_Mod_goMinute 170 = .ok (.bipush 8, 2) := kq_16 byq_r (b := 8) (by decide +kernel)
theorem d_Mod_goMinute_172 : decode b_Mod_goMinute 172 = .ok (.iload_n 2, 1) := kq_28 byq_r (by decide +kernel)
theorem d_Mod_goMinute_173 : decode b_Mod_goMinute 173 = .ok (.imul, 1) := kq_104 byq_r (by decide +kernel)
theorem d_Mod_goMinute_174 : decode b_Mod_goMinute 174 = .ok (.iadd, 1) := kq_96 byq_r (by decide +kernel)
theorem d_Mod_goMinute_175 : decode b_Mod_goMinute 175 = .ok (.iload_n 3, 1) := kq_29 byq_r (by decide +kernel)
theorem d_Mod_goMinute_176 : decode b_Mod_goMinute 176 = .ok (.iadd, 1) := kq_96 byq_r (by decide +kernel)
theorem d_Mod_goMinute_177 : decode b_Mod_goMinute 177 = .ok (.dup2, 1) := kq_92 byq_r (by decide +kernel)
theorem d_Mod_goMinute_178 : decode b_Mod_goMinute 178 = .ok (.iaload, 1) := kq_46 byq_r (by decide +kernel)
theorem d_Mod_goMinute_179 : decode b_Mod_goMinute 179 = .ok (.iconst 1, 1) := kq_4 byq_r (by decide +kernel)
theorem d_Mod_goMinute_180 : decode b_Mod_goMinute 180 = .ok (.iadd, 1) := kq_96 byq_r (by decide +kernel)
theorem d_Mod_goMinute_181 : decode b_Mod_goMinute 181 = .ok (.iastore, 1) := kq_79 byq_r (by decide +kernel)
theorem d_Mod_goMinute_182 : decode b_Mod_goMinute 182 = .ok (.aload_n 1, 1) := kq_43 byq_r (by decide +kernel)
theorem d_Mod_goMinute_183 : decode b_Mod_goMinute 183 = .ok (.bipush 16, 2) := kq_16 byq_r (b := 16) (by decide +kernel)
theorem d_Mod_goMinute_185 : decode b_Mod_goMinute 185 = .ok (.bipush 8, 2) := kq_16 byq_r (b := 8) (by decide +kernel)
theorem d_Mod_goMinute_187 : decode b_Mod_goMinute 187 = .ok (.iload_n 3, 1) := kq_29 byq_r (by decide +kernel)
theorem d_Mod_goMinute_188 : decode b_Mod_goMinute 188 = .ok (.imul, 1) := kq_104 byq_r (by decide +kernel)
theorem d_Mod_goMinute_189 : decode b_Mod_goMinute 189 = .ok (.iadd, 1) := kq_96 byq_r (by decide +kernel)
theorem d_Mod_goMinute_190 : decode b_Mod_goMinute 190 = .ok (.iload_n 2, 1) := kq_28 byq_r (by decide +kernel)
theorem d_Mod_goMinute_191 : decode b_Mod_goMinute 191 = .ok (.iadd, 1) := kq_96 byq_r (by decide +kernel)
theorem d_Mod_goMinute_192 : decode b_Mod_goMinute 192 = .ok (.dup2, 1) := kq_92 byq_r (by decide +kernel)
theorem d_Mod_goMinute_193 : decode b_Mod_goMinute 193 = .ok (.iaload, 1) := kq_46 byq_r (by decide +kernel)
theorem d_Mod_goMinute_194 : decode b_Mod_goMinute 194 = .ok (.iconst 1, 1) := kq_4 byq_r (by decide +kernel)
theorem d_Mod_goMinute_195 : decode b_Mod_goMinute 195 = .ok (.iadd, 1) := kq_96 byq_r (by decide +kernel)
theorem d_Mod_goMinute_196 : decode b_Mod_goMinute 196 = .ok (.iastore, 1) := kq_79 byq_r (by decide +kernel)
theorem d_Mod_goMinute_197 : decode b_Mod_goMinute 197 = .ok (.aload_n 0, 1) := kq_42 byq_r (by decide +kernel)
theorem d_Mod_goMinute_198 : decode b_Mod_goMinute 198 = .ok (.dup, 1) := kq_89 byq_r (by decide +kernel)
theorem d_Mod_goMinute_199 : decode b_Mod_goMinute 199 = .ok (.getfield 327, 3) := kq_180 byq_r (a := 1) (b := 71) (by decide +kernel)
theorem d_Mod_goMinute_202 : decode b_Mod_goMinute 202 = .ok (.iconst 1, 1) := kq_4 byq_r (by decide +kernel)
theorem d_Mod_goMinute_203 : decode b_Mod_goMinute 203 = .ok (.iadd, 1) := kq_96 byq_r (by decide +kernel)
theorem d_Mod_goMinute_204 : decode b_Mod_goMinute 204 = .ok (.putfield 327, 3) := kq_181 byq_r (a := 1) (b := 71) (by decide +kernel)
theorem d_Mod_goMinute_207 : decode b_Mod_goMinute 207 = .ok (.iinc 3 1, 3) := kq_132 byq_r (b := 1) (by decide +kernel)
theorem d_Mod_goMinute_210 : decode b_Mod_goMinute 210 = .ok (.goto (-86), 3) := kq_167 byq_r (a := 255) (b := 170) (by decide +kernel)
theorem d_Mod_goMinute_213 : decode b_Mod_goMinute 213 = .ok (.iinc 2 1, 3) := kq_132 byq_r (b := 1) (by decide +kernel)
theorem d_Mod_goMinute_216 : decode b_Mod_goMinute 216 = .ok (.goto (-102), 3) := kq_167 byq_r (a := 255) (b := 154) (by decide +kernel)
theorem d_Mod_goMinute_219 : decode b_Mod_goMinute 219 = .ok (.aload_n 1, 1) := kq_43 byq_r (by decide +kernel)
theorem d_Mod_goMinute_220 : decode b_Mod_goMinute 220 = .ok (.bipush 93, 2) := kq_16 byq_r (b := 93) (by decide +kernel)
theorem d_Mod_goMinute_222 : decode b_Mod_goMinute 222 = .ok (.iaload, 1) := kq_46 byq_r (by decide +kernel)
theorem d_Mod_goMinute_223 : decode b_Mod_goMinute 223 = .ok (.istore_n 2, 1) := kq_61 byq_r (by decide +kernel)
theorem d_Mod_goMinute_224 : decode b_Mod_goMinute 224 = .ok (.iconst 0, 1) := kq_3 byq_r (by decide +kernel)
theorem d_Mod_goMinute_225 : decode b_Mod_goMinute 225 = .ok (.istore_n 3, 1) := kq_62 byq_r (by decide +kernel)
theorem d_Mod_goMinute_226 : decode b_Mod_goMinute 226 = .ok (.iload_n 3, 1) := kq_29 byq_r (by decide +kernel)
theorem d_Mod_goMinute_227 : decode b_Mod_goMinute 227 = .ok (.aload_n 0, 1) := kq_42 byq_r (by decide +kernel)
theorem d_Mod_goMinute_228 : decode b_Mod_goMinute 228 = .ok (.getfield 123, 3) := kq_180 byq_r (a := 0) (b := 123) (by decide +kernel)
theorem d_Mod_goMinute_231 : decode b_Mod_goMinute 231 = .ok (.if_icmp .ge 30, 3) := kq_162 byq_r (a := 0) (b := 30) (by decide +kernel)
theorem d_Mod_goMinute_234 : decode b_Mod_goMinute 234 = .ok (.iload_n 2, 1) := kq_28 byq_r (by decide +kernel)
theorem d_Mod_goMinute_235 : decode b_Mod_goMinute 235 = .ok (.iload_n 3, 1) := kq_29 byq_r (by decide +kernel)
theorem d_Mod_goMinute_236 : decode b_Mod_goMinute 236 = .ok (.invokestatic 133, 3) := kq_184 byq_r (a := 0) (b := 133) (by decide +kernel)
theorem d_Mod_goMinute_239 : decode b_Mod_goMinute 239 = .ok (.ifCond .eq 16, 3) := kq_153 byq_r (a := 0) (b := 16) (by decide +kernel)
theorem d_Mod_goMinute_242 : decode b_Mod_goMinute 242 = .ok (.aload_n 1, 1) := kq_43 byq_r (by decide +kernel)
theorem d_Mod_goMinute_243 : decode b_Mod_goMinute 243 = .ok (.bipush 93, 2) := kq_16 byq_r (b := 93) (by decide +kernel)
theorem d_Mod_goMinute_245 : decode b_Mod_goMinute 245 = .ok (.dup2, 1) := kq_92 byq_r (by decide +kernel)
theorem d_Mod_goMinute_246 : decode b_Mod_goMinute 246 = .ok (.iaload, 1) := kq_46 byq_r (by decide +kernel)
theorem d_Mod_goMinute_247 : decode b_Mod_goMinute 247 = .ok (.aload_n 0, 1) := kq_42 byq_r (by decide +kernel)
theorem d_Mod_goMinute_248 : decode b_Mod_goMinute 248 = .ok (.aload_n 1, 1) := kq_43 byq_r (by decide +kernel)
theorem d_Mod_goMinute_249 : decode b_Mod_goMinute 249 = .ok (.iload_n 3, 1) := kq_29 byq_r (by decide +kernel)
theorem d_Mod_goMinute_250 : decode b_Mod_goMinute 250 = .ok (.invokevirtual 333, 3) := kq_182 byq_r (a := 1) (b := 77) (by decide +kernel)
theorem d_Mod_goMinute_253 : decode b_Mod_goMinute 253 = .ok (.ior, 1) := kq_128 byq_r (by decide +kernel)
theorem d_Mod_goMinute_254 : decode b_Mod_goMinute 254 = .ok (.iastore, 1) := kq_79 byq_r (by decide +kernel)
theorem d_Mod_goMinute_255 : decode b_Mod_goMinute 255 = .ok (.iinc 3 1, 3) := kq_132 byq_r (b := 1) (by decide +kernel)
theorem d_Mod_goMinute_258 : decode b_Mod_goMinute 258 = .ok (.goto (-32), 3) := kq_167 byq_r (a := 255) (b := 224) (by decide +kernel)
theorem d_Mod_goMinute_261 : decode b_Mod_goMinute 261 = .ok (.aload_n 0, 1) := kq_42 byq_r (by decide +kernel)
theorem d_Mod_goMinute_262 : decode b_Mod_goMinute 262 = .ok (.aload_n 1, 1) := kq_43 byq_r (by decide +kernel)
theorem d_Mod_goMinute_263 : decode b_Mod_goMinute 263 = .ok (.bipush 93, 2) := kq_16 byq_r (b := 93) (by decide +kernel)
theorem d_Mod_goMinute_265 : decode b_Mod_goMinute 265 = .ok (.iaload, 1) := kq_46 byq_r (by decide +kernel)
theorem d_Mod_goMinute_266 : decode b_Mod_goMinute 266 = .ok (.iload_n 2, 1) := kq_28 byq_r (by decide +kernel)
theorem d_Mod_goMinute_267 : decode b_Mod_goMinute 267 = .ok (.iconst (-1), 1) := kq_2 byq_r (by decide +kernel)
theorem d_Mod_goMinute_268 : decode b_Mod_goMinute 268 = .ok (.ixor, 1) := kq_130 byq_r (by decide +kernel)
theorem d_Mod_goMinute_269 : decode b_Mod_goMinute 269 = .ok (.iand, 1) := kq_126 byq_r (by decide +kernel)
theorem d_Mod_goMinute_270 : decode b_Mod_goMinute 270 = .ok (.putfield 336, 3) := kq_181 byq_r (a := 1) (b := 80) (by decide +kernel)
theorem d_Mod_goMinute_273 : decode b_Mod_goMinute 273 = .ok (.aload_n 1, 1) := kq_43 byq_r (by decide +kernel)
theorem d_Mod_goMinute_274 : decode b_Mod_goMinute 274 = .ok (.bipush 95, 2) := kq_16 byq_r (b := 95) (by decide +kernel)
theorem d_Mod_goMinute_276 : decode b_Mod_goMinute 276 = .ok (.dup2, 1) := kq_92 byq_r (by decide +kernel)
theorem d_Mod_goMinute_277 : decode b_Mod_goMinute 277 = .ok (.iaload, 1) := kq_46 byq_r (by decide +kernel)
theorem d_Mod_goMinute_278 : decode b_Mod_goMinute 278 = .ok (.iconst 1, 1) := kq_4 byq_r (by decide +kernel)
theorem d_Mod_goMinute_279 : decode b_Mod_goMinute 279 = .ok (.iadd, 1) := kq_96 byq_r (by decide +kernel)
theorem d_Mod_goMinute_280 : decode b_Mod_goMinute 280 = .ok (.iastore, 1) := kq_79 byq_r (by decide +kernel)
theorem d_Mod_goMinute_281 : decode b_Mod_goMinute 281 = .ok (.return_, 1) := kq_177 byq_r (by decide +kernel)
theorem d_Mod_minute_0 : decode b_Mod_minute 0 = .ok (.aload_n 0, 1) := kq_42 byq_r (by decide +kernel)
theorem d_Mod_minute_1 : decode b_Mod_minute 1 = .ok (.iconst 0, 1) := kq_3 byq_r (by decide +kernel)
theorem d_Mod_minute_2 : decode b_Mod_minute 2 = .ok (.putfield 109, 3) := kq_181 byq_r (a := 0) (b := 109) (by decide +kernel)
theorem d_Mod_minute_5 : decode b_Mod_minute 5 = .ok (.aload_n 0, 1) := kq_42 byq_r (by decide +kernel)
theorem d_Mod_minute_6 : decode b_Mod_minute 6 = .ok (.aload_n 0, 1) := kq_42 byq_r (by decide +kernel)
theorem d_Mod_minute_7 : decode b_Mod_minute 7 = .ok (.getfield 9, 3) := kq_180 byq_r (a := 0) (b := 9) (by decide +kernel)
theorem d_Mod_minute_10 : decode b_Mod_minute 10 = .ok (.invokevirtual 293, 3) := kq_182 byq_r (a := 1) (b := 37) (by decide +kernel)
theorem d_Mod_minute_13 : decode b_Mod_minute 13 = .ok (.aload_n 0, 1) := kq_42 byq_r (by decide +kernel)
theorem d_Mod_minute_14 : decode b_Mod_minute 14 = .ok (.aload_n 0, 1) := kq_42 byq_r (by decide +kernel)
theorem d_Mod_minute_15 : decode b_Mod_minute 15 = .ok (.getfield 9, 3) := kq_180 byq_r (a := 0) (b := 9) (by decide +kernel)
theorem d_Mod_minute_18 : decode b_Mod_minute 18 = .ok (.invokevirtual 339, 3) := kq_182 byq_r (a := 1) (b := 83) (by decide +kernel)
theorem d_Mod_minute_21 : decode b_Mod_minute 21 = .ok (.aload_n 0, 1) := kq_42 byq_r (by decide +kernel)
theorem d_Mod_minute_22 : decode b_Mod_minute 22 = .ok (.iconst 0, 1) := kq_3 byq_r (by decide +kernel)
theorem d_Mod_minute_23 : decode b_Mod_minute 23 = .ok (.putfield 112, 3) := kq_181 byq_r (a := 0) (b := 112) (by decide +kernel)
theorem d_Mod_minute_26 : decode b_Mod_minute 26 = .ok (.aload_n 0, 1) := kq_42 byq_r (by decide +kernel)
theorem d_Mod_minute_27 : decode b_Mod_minute 27 = .ok (.aload_n 0, 1) := kq_42 byq_r (by decide +kernel)
theorem d_Mod_minute_28 : decode b_Mod_minute 28 = .ok (.getfield 324, 3) := kq_180 byq_r (a := 1) (b := 68) (by decide +kernel)
theorem d_Mod_minute_31 : decode b_Mod_minute 31 = .ok (.invokevirtual 342, 3) := kq_182 byq_r (a := 1) (b := 86) (by decide +kernel)
theorem d_Mod_minute_34 : decode b_Mod_minute 34 = .ok (.aload_n 0, 1) := kq_42 byq_r (by decide +kernel)
theorem d_Mod_minute_35 : decode b_Mod_minute 35 = .ok (.aload_n 0, 1) := kq_42 byq_r (by decide +kernel)
theorem d_Mod_minute_36 : decode b_Mod_minute 36 = .ok (.getfield 336, 3) := kq_180 byq_r (a := 1) (b := 80) (by decide +kernel)
theorem d_Mod_minute_39 : decode b_Mod_minute 39 = .ok (.invokevirtual 342, 3) := kq_182 byq_r (a := 1) (b := 86) (by decide +kernel)
theorem d_Mod_minute_42 : decode b_Mod_minute 42 = .ok (.aload_n 0, 1) := kq_42 byq_r (by decide +kernel)
theorem d_Mod_minute_43 : decode b_Mod_minute 43 = .ok (.getfield 327, 3) := kq_180 byq_r (a := 1) (b := 71) (by decide +kernel)
theorem d_Mod_minute_46 : decode b_Mod_minute 46 = .ok (.ireturn, 1) := kq_172 byq_r (by decide +kernel)
theorem d_Mod_minutes_0 : decode b_Mod_minutes 0 = .ok (.aload_n 0, 1) := kq_42 byq_r (by decide +kernel)
theorem d_Mod_minutes_1 : decode b_Mod_minutes 1 = .ok (.iconst 0, 1) := kq_3 byq_r (by decide +kernel)
theorem d_Mod_minutes_2 : decode b_Mod_minutes 2 = .ok (.putfield 109, 3) := kq_181 byq_r (a := 0) (b := 109) (by decide +kernel)
theorem d_Mod_minutes_5 : decode b_Mod_minutes 5 = .ok (.iload_n 1, 1) := kq_27 byq_r (by decide +kernel)
theorem d_Mod_minutes_6 : decode b_Mod_minutes 6 = .ok (.iconst 0, 1) := kq_3 byq_r (by decide +kernel)
theorem d_Mod_minutes_7 : decode b_Mod_minutes 7 = .ok (.bipush 60, 2) := kq_16 byq_r (b := 60) (by decide +kernel)
theorem d_Mod_minutes_9 : decode b_Mod_minutes 9 = .ok (.invokestatic 119, 3) := kq_184 byq_r (a := 0) (b := 119) (by decide +kernel)
theorem d_Mod_minutes_12 : decode b_Mod_minutes 12 = .ok (.ifCond .ne 5, 3) := kq_154 byq_r (a := 0) (b := 5) (by decide +kernel)
theorem d_Mod_minutes_15 : decode b_Mod_minutes 15 = .ok (.iconst (-1), 1) := kq_2 byq_r (by decide +kernel)
theorem d_Mod_minutes_16 : decode b_Mod_minutes 16 = .ok (.ireturn, 1) := kq_172 byq_r (by decide +kernel)
theorem d_Mod_minutes_17 : decode b_Mod_minutes 17 = .ok (.iload_n 1, 1) := kq_27 byq_r (by decide +kernel)
theorem d_Mod_minutes_18 : decode b_Mod_minutes 18 = .ok (.ifCond .le 11, 3) := kq_158 byq_r (a := 0) (b := 11) (by decide +kernel)
theorem d_Mod_minutes_21 : decode b_Mod_minutes 21 = .ok (.aload_n 0, 1) := kq_42 byq_r (by decide +kernel)
theorem d_Mod_minutes_22 : decode b_Mod_minutes 22 = .ok (.aload_n 0, 1) := kq_42 byq_r (by decide +kernel)
theorem d_Mod_minutes_23 : decode b_Mod_minutes 23 = .ok (.getfield 9, 3) := kq_180 byq_r (a := 0) (b := 9) (by decide +kernel)
theorem d_Mod_minutes_26 : decode b_Mod_minutes 26 = .ok (.invokevirtual 293, 3) := kq_182 byq_r (a := 1) (b := 37) (by decide +kernel)
theorem d_Mod_minutes_29 : decode b_Mod_minutes 29 = .ok (.iconst 0, 1) := kq_3 byq_r (by decide +kernel)
theorem d_Mod_minutes_30 : decode b_Mod_minutes 30 = .ok (.istore_n 2, 1) := kq_61 byq_r (by decide +kernel)
theorem d_Mod_minutes_31 : decode b_Mod_minutes 31 = .ok (.iconst 0, 1) := kq_3 byq_r (by decide +kernel)
theorem d_Mod_minutes_32 : decode b_Mod_minutes 32 = .ok (.istore_n 3, 1) := kq_62 byq_r (by decide +kernel)
theorem d_Mod_minutes_33 : decode b_Mod_minutes 33 = .ok (.iconst 0, 1) := kq_3 byq_r (by decide +kernel)
theorem d_Mod_minutes_34 : decode b_Mod_minutes 34 = .ok (.istore 4, 2) := kq_54 byq_r (by decide +kernel)
theorem d_Mod_minutes_36 : decode b_Mod_minutes 36 = .ok (.iload 4, 2) := kq_21 byq_r (by decide +kernel)
theorem d_Mod_minutes_38 : decode b_Mod_minutes 38 = .ok (.iload_n 1, 1) := kq_27 byq_r (by decide +kernel)
theorem d_Mod_minutes_39 : decode b_Mod_minutes 39 = .ok (.if_icmp .ge 34, 3) := kq_162 byq_r (a := 0) (b := 34) (by decide +kernel)
theorem d_Mod_minutes_42 : decode b_Mod_minutes 42 = .ok (.aload_n 0, 1) := kq_42 byq_r (by decide +kernel)
theorem d_Mod_minutes_43 : decode b_Mod_minutes 43 = .ok (.aload_n 0, 1) := kq_42 byq_r (by decide +kernel)
theorem d_Mod_minutes_44 : decode b_Mod_minutes 44 = .ok (.getfield 9, 3) := kq_180 byq_r (a := 0) (b := 9) (by decide +kernel)
theorem d_Mod_minutes_47 : decode b_Mod_minutes 47 = .ok (.invokevirtual 339, 3) := kq_182 byq_r (a := 1) (b := 83) (by decide +kernel)
theorem d_Mod_minutes_50 : decode b_Mod_minutes 50 = .ok (.iload_n 2, 1) := kq_28 byq_r (by decide +kernel)
theorem d_Mod_minutes_51 : decode b_Mod_minutes 51 = .ok (.aload_n 0, 1) := kq_42 byq_r (by decide +kernel)
theorem d_Mod_minutes_52 : decode b_Mod_minutes 52 = .ok (.getfield 327, 3) := kq_180 byq_r (a := 1) (b := 71) (by decide +kernel)
theorem d_Mod_minutes_55 : decode b_Mod_minutes 55 = .ok (.iadd, 1) := kq_96 byq_r (by decide +kernel)
theorem d_Mod_minutes_56 : decode b_Mod_minutes 56 = .ok (.istore_n 2, 1) := kq_61 byq_r (by decide +kernel)
theorem d_Mod_minutes_57 : decode b_Mod_minutes 57 = .ok (.iload_n 3, 1) := kq_29 byq_r (by decide +kernel)
theorem d_Mod_minutes_58 : decode b_Mod_minutes 58 = .ok (.aload_n 0, 1) := kq_42 byq_r (by decide +kernel)
theorem d_Mod_minutes_59 : decode b_Mod_minutes 59 = .ok (.getfield 324, 3) := kq_180 byq_r (a := 1) (b := 68) (by decide +kernel)
theorem d_Mod_minutes_62 : decode b_Mod_minutes 62 = .ok (.invokestatic 310, 3) := kq_184 byq_r (a := 1) (b := 54) (by decide +kernel)
theorem d_Mod_minutes_65 : decode b_Mod_minutes 65 = .ok (.iadd, 1) := kq_96 byq_r (by decide +kernel)
theorem d_Mod_minutes_66 : decode b_Mod_minutes 66 = .ok (.istore_n 3, 1) := kq_62 byq_r (by decide +kernel)
theorem d_Mod_minutes_67 : decode b_Mod_minutes 67 = .ok (.iinc 4 1, 3) := kq_132 byq_r (b := 1) (by decide +kernel)
theorem d_Mod_minutes_70 : decode b_Mod_minutes 70 = .ok (.goto (-34), 3) := kq_167 byq_r (a := 255) (b := 222) (by decide +kernel)
theorem d_Mod_minutes_73 : decode b_Mod_minutes 73 = .ok (.aload_n 0, 1) := kq_42 byq_r (by decide +kernel)
theorem d_Mod_minutes_74 : decode b_Mod_minutes 74 = .ok (.iconst 0, 1) := kq_3 byq_r (by decide +kernel)
theorem d_Mod_minutes_75 : decode b_Mod_minutes 75 = .ok (.putfield 112, 3) := kq_181 byq_r (a := 0) (b := 112) (by decide +kernel)
theorem d_Mod_minutes_78 : decode b_Mod_minutes 78 = .ok (.aload_n 0, 1) := kq_42 byq_r (by decide +kernel)
theorem d_Mod_minutes_79 : decode b_Mod_minutes 79 = .ok (.iload_n 3, 1) := kq_29 byq_r (by decide +kernel)
theorem d_Mod_minutes_80 : decode b_Mod_minutes 80 = .ok (.invokevirtual 342, 3) := kq_182 byq_r (a := 1) (b := 86) (by decide +kernel)
theorem d_Mod_minutes_83 : decode b_Mod_minutes 83 = .ok (.aload_n 0, 1) := kq_42 byq_r (by decide +kernel)
theorem d_Mod_minutes_84 : decode b_Mod_minutes 84 = .ok (.aload_n 0, 1) := kq_42 byq_r (by decide +kernel)
theorem d_Mod_minutes_85 : decode b_Mod_minutes 85 = .ok (.getfield 9, 3) := kq_180 byq_r (a := 0) (b := 9) (by decide +kernel)
theorem d_Mod_minutes_88 : decode b_Mod_minutes 88 = .ok (.bipush 93, 2) := kq_16 byq_r (b := 93) (by decide +kernel)
theorem d_Mod_minutes_90 : decode b_Mod_minutes 90 = .ok (.iaload, 1) := kq_46 byq_r (by decide +kernel)
theorem d_Mod_minutes_91 : decode b_Mod_minutes 91 = .ok (.invokevirtual 342, 3) := kq_182 byq_r (a := 1) (b := 86) (by decide +kernel)
theorem d_Mod_minutes_94 : decode b_Mod_minutes 94 = .ok (.iload_n 2, 1) := kq_28 byq_r (by decide +kernel)
theorem d_Mod_minutes_95 : decode b_Mod_minutes 95 = .ok (.ireturn, 1) := kq_172 byq_r (by decide +kernel)
theorem d_Mod_readAct_0 : decode b_Mod_readAct 0 = .ok (.aload_n 0, 1) := kq_42 byq_r (by decide +kernel)
theorem d_Mod_readAct_1 : decode b_Mod_readAct 1 = .ok (.invokevirtual 183, 3) := kq_182 byq_r (a := 0) (b := 183) (by decide +kernel)
theorem d_Mod_readAct_4 : decode b_Mod_readAct 4 = .ok (.istore_n 2, 1) := kq_61 byq_r (by decide +kernel)
theorem d_Mod_readAct_5 : decode b_Mod_readAct 5 = .ok (.iload_n 2, 1) := kq_28 byq_r (by decide +kernel)
theorem d_Mod_readAct_6 : decode b_Mod_readAct 6 = .ok (.bipush 109, 2) := kq_16 byq_r (b := 109) (by decide +kernel)
theorem d_Mod_readAct_8 : decode b_Mod_readAct 8 = .ok (.if_icmp .eq 35, 3) := kq_159 byq_r (a := 0) (b := 35) (by decide +kernel)
theorem d_Mod_readAct_11 : decode b_Mod_readAct 11 = .ok (.iload_n 2, 1) := kq_28 byq_r (by decide +kernel)
theorem d_Mod_readAct_12 : decode b_Mod_readAct 12 = .ok (.bipush 110, 2) := kq_16 byq_r (b := 110) (by decide +kernel)
theorem d_Mod_readAct_14 : decode b_Mod_readAct 14 = .ok (.if_icmp .eq 29, 3) := kq_159 byq_r (a := 0) (b := 29) (by decide +kernel)
theorem d_Mod_readAct_17 : decode b_Mod_readAct 17 = .ok (.iload_n 2, 1) := kq_28 byq_r (by decide +kernel)
theorem d_Mod_readAct_18 : decode b_Mod_readAct 18 = .ok (.bipush 112, 2) := kq_16 byq_r (b := 112) (by decide +kernel)
theorem d_Mod_readAct_20 : decode b_Mod_readAct 20 = .ok (.if_icmp .eq 23, 3) := kq_159 byq_r (a := 0) (b := 23) (by decide +kernel)
theorem d_Mod_readAct_23 : decode b_Mod_readAct 23 = .ok (.iload_n 2, 1) := kq_28 byq_r (by decide +kernel)
theorem d_Mod_readAct_24 : decode b_Mod_readAct 24 = .ok (.bipush 120, 2) := kq_16 byq_r (b := 120) (by decide +kernel)
theorem d_Mod_readAct_26 : decode b_Mod_readAct 26 = .ok (.if_icmp .eq 17, 3) := kq_159 byq_r (a := 0) (b := 17) (by decide +kernel)
theorem d_Mod_readAct_29 : decode b_Mod_readAct 29 = .ok (.iload_n 2, 1) := kq_28 byq_r (by decide +kernel)
theorem d_Mod_readAct_30 : decode b_Mod_readAct 30 = .ok (.bipush 102, 2) := kq_16 byq_r (b := 102) (by decide +kernel)
theorem d_Mod_readAct_32 : decode b_Mod_readAct 32 = .ok (.if_icmp .eq 11, 3) := kq_159 byq_r (a := 0) (b := 11) (by decide +kernel)
theorem d_Mod_readAct_35 : decode b_Mod_readAct 35 = .ok (.aload_n 0, 1) := kq_42 byq_r (by decide +kernel)
theorem d_Mod_readAct_36 : decode b_Mod_readAct 36 = .ok (.aload_n 0, 1) := kq_42 byq_r (by decide +kernel)
theorem d_Mod_readAct_37 : decode b_Mod_readAct 37 = .ok (.getfield 173, 3) := kq_180 byq_r (a := 0) (b := 173) (by decide +kernel)
theorem d_Mod_readAct_40 : decode b_Mod_readAct 40 = .ok (.invokevirtual 190, 3) := kq_182 byq_r (a := 0) (b := 190) (by decide +kernel)
theorem d_Mod_readAct_43 : decode b_Mod_readAct 43 = .ok (.aload_n 0, 1) := kq_42 byq_r (by decide +kernel)
theorem d_Mod_readAct_44 : decode b_Mod_readAct 44 = .ok (.dup, 1) := kq_89 byq_r (by decide +kernel)
theorem d_Mod_readAct_45 : decode b_Mod_readAct 45 = .ok (.getfield 173, 3) := kq_180 byq_r (a := 0) (b := 173) (by decide +kernel)
theorem d_Mod_readAct_48 : decode b_Mod_readAct 48 = .ok (.iconst 1, 1) := kq_4 byq_r (by decide +kernel)
theorem d_Mod_readAct_49 : decode b_Mod_readAct 49 = .ok (.iadd, 1) := kq_96 byq_r (by decide +kernel)
theorem d_Mod_readAct_50 : decode b_Mod_readAct 50 = .ok (.putfield 173, 3) := kq_181 byq_r (a := 0) (b := 173) (by decide +kernel)
theorem d_Mod_readAct_53 : decode b_Mod_readAct 53 = .ok (.aload_n 0, 1) := kq_42 byq_r (by decide +kernel)
theorem d_Mod_readAct_54 : decode b_Mod_readAct 54 = .ok (.getfield 57, 3) := kq_180 byq_r (a := 0) (b := 57) (by decide +kernel)
theorem d_Mod_readAct_57 : decode b_Mod_readAct 57 = .ok (.iload_n 1, 1) := kq_27 byq_r (by decide +kernel)
theorem d_Mod_readAct_58 : decode b_Mod_readAct 58 = .ok (.iload_n 2, 1) := kq_28 byq_r (by decide +kernel)
theorem d_Mod_readAct_59 : decode b_Mod_readAct 59 = .ok (.iastore, 1) := kq_79 byq_r (by decide +kernel)
theorem d_Mod_readAct_60 : decode b_Mod_readAct 60 = .ok (.iload_n 2, 1) := kq_28 byq_r (by decide +kernel)
theorem d_Mod_readAct_61 : decode b_Mod_readAct 61 = .ok (.bipush 109, 2) := kq_16 byq_r (b := 109) (by decide +kernel)
theorem d_Mod_readAct_63 : decode b_Mod_readAct 63 = .ok (.if_icmp .eq 9, 3) := kq_159 byq_r (a := 0) (b := 9) (by decide +kernel)
theorem d_Mod_readAct_66 : decode b_Mod_readAct 66 = .ok (.iload_n 2, 1) := kq_28 byq_r (by decide +kernel)
theorem d_Mod_readAct_67 : decode b_Mod_readAct 67 = .ok (.bipush 112, 2) := kq_16 byq_r (b := 112) (by decide +kernel)
theorem d_Mod_readAct_69 : decode b_Mod_readAct 69 = .ok (.if_icmp .ne 16, 3) := kq_160 byq_r (a := 0) (b := 16) (by decide +kernel)
theorem d_Mod_readAct_72 : decode b_Mod_readAct 72 = .ok (.aload_n 0, 1) := kq_42 byq_r (by decide +kernel)
theorem d_Mod_readAct_73 : decode b_Mod_readAct 73 = .ok (.getfield 57, 3) := kq_180 byq_r (a := 0) (b := 57) (by decide +kernel)
theorem d_Mod_readAct_76 : decode b_Mod_readAct 76 = .ok (.iload_n 1, 1) := kq_27 byq_r (by decide +kernel)
theorem d_Mod_readAct_77 : decode b_Mod_readAct 77 = .ok (.iconst 1, 1) := kq_4 byq_r (by decide +kernel)
theorem d_Mod_readAct_78 : decode b_Mod_readAct 78 = .ok (.iadd, 1) := kq_96 byq_r (by decide +kernel)
theorem d_Mod_readAct_79 : decode b_Mod_readAct 79 = .ok (.aload_n 0, 1) := kq_42 byq_r (by decide +kernel)
theorem d_Mod_readAct_80 : decode b_Mod_readAct 80 = .ok (.iconst 2, 1) := kq_5 byq_r (by decide +kernel)
theorem d_Mod_readAct_81 : decode b_Mod_readAct 81 = .ok (.invokevirtual 213, 3) := kq_182 byq_r (a := 0) (b := 213) (by decide +kernel)
theorem d_Mod_readAct_84 : decode b_Mod_readAct 84 = .ok (.iastore, 1) := kq_79 byq_r (by decide +kernel)
theorem d_Mod_readAct_85 : decode b_Mod_readAct 85 = .ok (.iload_n 2, 1) := kq_28 byq_r (by decide +kernel)
theorem d_Mod_readAct_86 : decode b_Mod_readAct 86 = .ok (.bipush 112, 2) := kq_16 byq_r (b := 112) (by decide +kernel)
theorem d_Mod_readAct_88 : decode b_Mod_readAct 88 = .ok (.if_icmp .ne 22, 3) := kq_160 byq_r (a := 0) (b := 22) (by decide +kernel)
theorem d_Mod_readAct_91 : decode b_Mod_readAct 91 = .ok (.aload_n 0, 1) := kq_42 byq_r (by decide +kernel)
theorem d_Mod_readAct_92 : decode b_Mod_readAct 92 = .ok (.bipush 45, 2) := kq_16 byq_r (b := 45) (by decide +kernel)
theorem d_Mod_readAct_94 : decode b_Mod_readAct 94 = .ok (.invokevirtual 216, 3) := kq_182 byq_r (a := 0) (b := 216) (by decide +kernel)
theorem d_Mod_readAct_97 : decode b_Mod_readAct 97 = .ok (.aload_n 0, 1) := kq_42 byq_r (by decide +kernel)
theorem d_Mod_readAct_98 : decode b_Mod_readAct 98 = .ok (.getfield 57, 3) := kq_180 byq_r (a := 0) (b := 57) (by decide +kernel)
theorem d_Mod_readAct_101 : decode b_Mod_readAct 101 = .ok (.iload_n 1, 1) := kq_27 byq_r (by decide +kernel)
theorem d_Mod_readAct_102 : decode b_Mod_readAct 102 = .ok (.iconst 2, 1) := kq_5 byq_r (by decide +kernel)
theorem d_Mod_readAct_103 : decode b_Mod_readAct 103 = .ok (.iadd, 1) := kq_96 byq_r (by decide +kernel)
theorem d_Mod_readAct_104 : decode b_Mod_readAct 104 = .ok (.aload_n 0, 1) := kq_42 byq_r (by decide +kernel)
theorem d_Mod_readAct_105 : decode b_Mod_readAct 105 = .ok (.iconst 2, 1) := kq_5 byq_r (by decide +kernel)
theorem d_Mod_readAct_106 : decode b_Mod_readAct 106 = .ok (.invokevirtual 213, 3) := kq_182 byq_r (a := 0) (b := 213) (by decide +kernel)
theorem d_Mod_readAct_109 : decode b_Mod_readAct 109 = .ok (.iastore, 1) := kq_79 byq_r (by decide +kernel)
theorem d_Mod_readAct_110 : decode b_Mod_readAct 110 = .ok (.iload_n 2, 1) := kq_28 byq_r (by decide +kernel)
theorem d_Mod_readAct_111 : decode b_Mod_readAct 111 = .ok (.bipush 110, 2) := kq_16 byq_r (b := 110) (by decide +kernel)
theorem d_Mod_readAct_113 : decode b_Mod_readAct 113 = .ok (.if_icmp .ne 50, 3) := kq_160 byq_r (a := 0) (b := 50) (by decide +kernel)
theorem d_Mod_readAct_116 : decode b_Mod_readAct 116 = .ok (.aload_n 0, 1) := kq_42 byq_r (by decide +kernel)
theorem d_Mod_readAct_117 : decode b_Mod_readAct 117 = .ok (.getfield 57, 3) := kq_180 byq_r (a := 0) (b := 57) (by decide +kernel)
theorem d_Mod_readAct_120 : decode b_Mod_readAct 120 = .ok (.iload_n 1, 1) := kq_27 byq_r (by decide +kernel)
theorem d_Mod_readAct_121 : decode b_Mod_readAct 121 = .ok (.iconst 1, 1) := kq_4 byq_r (by decide +kernel)
theorem d_Mod_readAct_122 : decode b_Mod_readAct 122 = .ok (.iadd, 1) := kq_96 byq_r (by decide +kernel)
theorem d_Mod_readAct_123 : decode b_Mod_readAct 123 = .ok (.aload_n 0, 1) := kq_42 byq_r (by decide +kernel)
theorem d_Mod_readAct_124 : decode b_Mod_readAct 124 = .ok (.invokevirtual 183, 3) := kq_182 byq_r (a := 0) (b := 183) (by decide +kernel)
theorem d_Mod_readAct_127 : decode b_Mod_readAct 127 = .ok (.bipush 97, 2) := kq_16 byq_r (b := 97) (by decide +kernel)
theorem d_Mod_readAct_129 : decode b_Mod_readAct 129 = .ok (.isub, 1) := kq_100 byq_r (by decide +kernel)
theorem d_Mod_readAct_130 : decode b_Mod_readAct 130 = .ok (.iastore, 1) := kq_79 byq_r (by decide +kernel)
theorem d_Mod_readAct_131 : decode b_Mod_readAct 131 = .ok (.aload_n 0, 1) := kq_42 byq_r (by decide +kernel)
theorem d_Mod_readAct_132 : decode b_Mod_readAct 132 = .ok (.invokevirtual 183, 3) := kq_182 byq_r (a := 0) (b := 183) (by decide +kernel)
theorem d_Mod_readAct_135 : decode b_Mod_readAct 135 = .ok (.bipush 97, 2) := kq_16 byq_r (b := 97) (by decide +kernel)
theorem d_Mod_readAct_137 : decode b_Mod_readAct 137 = .ok (.bipush 104, 2) := kq_16 byq_r (b := 104) (by decide +kernel)
theorem d_Mod_readAct_139 : decode b_Mod_readAct 139 = .ok (.invokestatic 119, 3) := kq_184 byq_r (a := 0) (b := 119) (by decide +kernel)
theorem d_Mod_readAct_142 : decode b_Mod_readAct 142 = .ok (.ifCond .ne 11, 3) := kq_154 byq_r (a := 0) (b := 11) (by decide +kernel)
theorem d_Mod_readAct_145 : decode b_Mod_readAct 145 = .ok (.aload_n 0, 1) := kq_42 byq_r (by decide +kernel)
theorem d_Mod_readAct_146 : decode b_Mod_readAct 146 = .ok (.aload_n 0, 1) := kq_42 byq_r (by decide +kernel)
theorem d_Mod_readAct_147 : decode b_Mod_readAct 147 = .ok (.getfield 173, 3) := kq_180 byq_r (a := 0) (b := 173) (by decide +kernel)
theorem d_Mod_readAct_150 : decode b_Mod_readAct 150 = .ok (.invokevirtual 190, 3) := kq_182 byq_r (a := 0) (b := 190) (by decide +kernel)
theorem d_Mod_readAct_153 : decode b_Mod_readAct 153 = .ok (.aload_n 0, 1) := kq_42 byq_r (by decide +kernel)
theorem d_Mod_readAct_154 : decode b_Mod_readAct 154 = .ok (.dup, 1) := kq_89 byq_r (by decide +kernel)
theorem d_Mod_readAct_155 : decode b_Mod_readAct 155 = .ok (.getfield 173, 3) := kq_180 byq_r (a := 0) (b := 173) (by decide +kernel)
theorem d_Mod_readAct_158 : decode b_Mod_readAct 158 = .ok (.iconst 1, 1) := kq_4 byq_r (by decide +kernel)
theorem d_Mod_readAct_159 : decode b_Mod_readAct 159 = .ok (.iadd, 1) := kq_96 byq_r (by decide +kernel)
theorem d_Mod_readAct_160 : decode b_Mod_readAct 160 = .ok (.putfield 173, 3) := kq_181 byq_r (a := 0) (b := 173) (by decide +kernel)
theorem d_Mod_readAct_163 : decode b_Mod_readAct 163 = .ok (.return_, 1) := kq_177 byq_r (by decide +kernel)
def j_Mod_sheet_119_43 (v1 : Int32) (v2 : Int32) (v4 : Int32) (v5 : Int32) (v6 : Int32) (v7 : Int32) (w0 : Int32) (w1 : Int32) (M : Mem) : Option ((Int32 × Int32 × Int32 × Mem) ⊕ ((Int32 × Mem))) :=
  if inb w1 96 = true then
  mem_ (s_i M 163 w1.toNatClampNeg w0) fun M3 =>
  if inb ((8 : Int32) + v7) 96 = true then
  some (.inl ((v5 + (M3.1 163 ((8 : Int32) + v7).toNatClampNeg)), (v6 + v4), (v7 + (1 : Int32)), M3))
  else none
  else none
theorem j_Mod_sheet_119_43_ok {E : Ev} {G : Gw} {d : Nat} {post : Int32 → Mem → Prop} (X : Cx E G b_Mod_sheet "WomenByTheRoofsModel" 9 d (some .int)) (hD : 2 ≤ d)  (v1 : Int32) (v2 : Int32) (v4 : Int32) (v5 : Int32) (v6 : Int32) (v7 : Int32) (w0 : Int32) (w1 : Int32)  (M : Mem)  (o : (Int32 × Int32 × Int32 × Mem) ⊕ ((Int32 × Mem))) (h : j_Mod_sheet_119_43 v1 v2 v4 v5 v6 v7 w0 w1 M = some o) (kc : ∀ s9 : Int32 × Int32 × Int32 × Mem, o = .inl s9 → V E (0, 0) G 9 (QI E G post) s9.2.2.2 43 [(0, .ref (G.2.2 + 162)), (1, .int v1), (2, .int v2), (4, .int v4), (5, .int s9.1), (6, .int s9.2.1), (7, .int s9.2.2.1)] []) (kx0 : ∀ x9 : Int32 × Mem, o = .inr x9 → V E (0, 0) G 9 (QI E G post) x9.2 148 [(1, .int v1), (5, .int x9.1)] []) : V E (0, 0) G 9 (QI E G post) M 119 [(0, .ref (G.2.2 + 162)), (1, .int v1), (2, .int v2), (4, .int v4), (5, .int v5), (6, .int v6), (7, .int v7)] [.int w0, .int w1, .ref (G.2.2 + 163)] := by
  unfold j_Mod_sheet_119_43 at h
  obtain ⟨hb, h⟩ := ifn h
  obtain ⟨M3, eM3, h⟩ := memS h
  refine V_iast X kd_163 (inb_in ln_163 hb) d_Mod_sheet_119 rfl ?_
  rw [← eM3]
  refine V_iload (n := 4) X d_Mod_sheet_120 rfl rfl ?_
  refine V_aload_n (n := 0) X d_Mod_sheet_122 rfl rfl rfl ?_
  refine V_getr (k2 := 163) X fo_Mod_9 kd_162 rfl rf_162_0 d_Mod_sheet_123 rfl ?_
  refine V_bipush (v := 8) X d_Mod_sheet_126 (by decide) rfl ?_
  refine V_iload (n := 6) X d_Mod_sheet_128 rfl rfl ?_
  refine V_iadd X d_Mod_sheet_130 rfl ?_
  obtain ⟨hb, h⟩ := ifn h
  refine V_iald X kd_163 (inb_in ln_163 hb) d_Mod_sheet_131 rfl ?_
  refine V_iadd X d_Mod_sheet_132 rfl ?_
  refine V_istore (lv' := [(5, .int (v5 + (M3.1 163 ((8 : Int32) + v7).toNatClampNeg))), (0, .ref (G.2.2 + 162)), (1, .int v1), (2, .int v2), (4, .int v4), (6, .int v6), (7, .int v7)]) X d_Mod_sheet_133 (by decide) rfl rfl ?_
  refine V_iload (n := 5) X d_Mod_sheet_135 rfl rfl ?_
  refine V_iload (n := 4) X d_Mod_sheet_137 rfl rfl ?_
  refine V_iadd X d_Mod_sheet_139 rfl ?_
  refine V_istore (lv' := [(6, .int (v6 + v4)), (5, .int (v5 + (M3.1 163 ((8 : Int32) + v7).toNatClampNeg))), (0, .ref (G.2.2 + 162)), (1, .int v1), (2, .int v2), (4, .int v4), (7, .int v7)]) X d_Mod_sheet_140 (by decide) rfl rfl ?_
  refine V_iinc (n := 6) (v := (v7 + (1 : Int32))) (lv' := [(7, .int (v7 + (1 : Int32))), (6, .int (v6 + v4)), (5, .int (v5 + (M3.1 163 ((8 : Int32) + v7).toNatClampNeg))), (0, .ref (G.2.2 + 162)), (1, .int v1), (2, .int v2), (4, .int v4)]) X d_Mod_sheet_142 rfl rfl (by decide) rfl rfl ?_
  refine V_goto (pc' := 43) X d_Mod_sheet_145 (by decide) ?_
  refine V_sub (lv' := [(0, .ref (G.2.2 + 162)), (1, .int v1), (2, .int v2), (4, .int v4), (5, .int (v5 + (M3.1 163 ((8 : Int32) + v7).toNatClampNeg))), (6, .int (v6 + v4)), (7, .int (v7 + (1 : Int32)))]) [3, 4, 5, 6, 2, 1, 0] rfl ?_
  exact kc ((v5 + (M3.1 163 ((8 : Int32) + v7).toNatClampNeg)), (v6 + v4), (v7 + (1 : Int32)), M3) (Option.some.inj h).symm
def j_Mod_sheet_75_43 (v1 : Int32) (v2 : Int32) (v4 : Int32) (v5 : Int32) (v6 : Int32) (v7 : Int32) (w0 : Int32) (M : Mem) : Option ((Int32 × Int32 × Int32 × Mem) ⊕ ((Int32 × Mem))) :=
  if v1 = (3 : Int32) then
  j_Mod_sheet_119_43 v1 v2 v4 v5 v6 v7 (0 : Int32) ((8 : Int32) + v7) M
  else
  if v7 < v2 then
  if inb v7 8 = true then
  j_Mod_sheet_119_43 v1 v2 v4 v5 v6 v7 (if (0 : Int32) < (if w0 < ((M.1 166 v7.toNatClampNeg) - (1 : Int32)) then w0 else ((M.1 166 v7.toNatClampNeg) - (1 : Int32))) then (if w0 < ((M.1 166 v7.toNatClampNeg) - (1 : Int32)) then w0 else ((M.1 166 v7.toNatClampNeg) - (1 : Int32))) else (0 : Int32)) ((8 : Int32) + v7) M
  else none
  else
  j_Mod_sheet_119_43 v1 v2 v4 v5 v6 v7 (0 : Int32) ((8 : Int32) + v7) M
theorem j_Mod_sheet_75_43_ok {E : Ev} {G : Gw} {d : Nat} {post : Int32 → Mem → Prop} (X : Cx E G b_Mod_sheet "WomenByTheRoofsModel" 9 d (some .int)) (hD : 2 ≤ d)  (v1 : Int32) (v2 : Int32) (v4 : Int32) (v5 : Int32) (v6 : Int32) (v7 : Int32) (w0 : Int32)  (M : Mem)  (o : (Int32 × Int32 × Int32 × Mem) ⊕ ((Int32 × Mem))) (h : j_Mod_sheet_75_43 v1 v2 v4 v5 v6 v7 w0 M = some o) (kc : ∀ s9 : Int32 × Int32 × Int32 × Mem, o = .inl s9 → V E (0, 0) G 9 (QI E G post) s9.2.2.2 43 [(0, .ref (G.2.2 + 162)), (1, .int v1), (2, .int v2), (4, .int v4), (5, .int s9.1), (6, .int s9.2.1), (7, .int s9.2.2.1)] []) (kx0 : ∀ x9 : Int32 × Mem, o = .inr x9 → V E (0, 0) G 9 (QI E G post) x9.2 148 [(1, .int v1), (5, .int x9.1)] []) : V E (0, 0) G 9 (QI E G post) M 75 [(0, .ref (G.2.2 + 162)), (1, .int v1), (2, .int v2), (4, .int v4), (5, .int v5), (6, .int v6), (7, .int v7)] [.int w0] := by
  unfold j_Mod_sheet_75_43 at h
  refine V_istore (lv' := [(8, .int w0), (0, .ref (G.2.2 + 162)), (1, .int v1), (2, .int v2), (4, .int v4), (5, .int v5), (6, .int v6), (7, .int v7)]) X d_Mod_sheet_75 (by decide) rfl rfl ?_
  refine V_aload_n (n := 1) X d_Mod_sheet_77 rfl rfl rfl ?_
  refine V_getr (k2 := 163) X fo_Mod_9 kd_162 rfl rf_162_0 d_Mod_sheet_78 rfl ?_
  refine V_bipush (v := 8) X d_Mod_sheet_81 (by decide) rfl ?_
  refine V_iload (n := 7) X d_Mod_sheet_83 rfl rfl ?_
  refine V_iadd X d_Mod_sheet_85 rfl ?_
  refine V_iload_n (n := 2) X d_Mod_sheet_86 rfl rfl rfl ?_
  refine V_iconst (v := 3) X d_Mod_sheet_87 (by decide) rfl ?_
  refine V_icmp_eq (tgt := 97) X d_Mod_sheet_88 (by decide) rfl (fun c5 => ?_) (fun c5 => ?_)
  · rw [if_pos c5] at h
    refine V_iconst (v := 0) X d_Mod_sheet_97 (by decide) rfl ?_
    refine V_goto (pc' := 119) X d_Mod_sheet_98 (by decide) ?_
    refine V_sub (lv' := [(0, .ref (G.2.2 + 162)), (1, .int v1), (2, .int v2), (4, .int v4), (5, .int v5), (6, .int v6), (7, .int v7)]) [1, 2, 3, 4, 5, 6, 7] rfl ?_
    exact j_Mod_sheet_119_43_ok X hD v1 v2 v4 v5 v6 v7 (0 : Int32) ((8 : Int32) + v7) M _ h kc kx0
  · rw [if_neg c5] at h
    refine V_iload (n := 7) X d_Mod_sheet_91 rfl rfl ?_
    refine V_iload_n (n := 3) X d_Mod_sheet_93 rfl rfl rfl ?_
    refine V_icmp_lt (tgt := 101) X d_Mod_sheet_94 (by decide) rfl (fun c4 => ?_) (fun c4 => ?_)
    · rw [if_pos c4] at h
      refine V_iconst (v := 0) X d_Mod_sheet_101 (by decide) rfl ?_
      refine V_aload_n (n := 1) X d_Mod_sheet_102 rfl rfl rfl ?_
      refine V_getr (k2 := 166) X fo_Mod_26 kd_162 rfl rf_162_7 d_Mod_sheet_103 rfl ?_
      refine V_iload (n := 7) X d_Mod_sheet_106 rfl rfl ?_
      obtain ⟨hb, h⟩ := ifn h
      refine V_iald X kd_166 (inb_in ln_166 hb) d_Mod_sheet_108 rfl ?_
      refine V_iconst (v := 1) X d_Mod_sheet_109 (by decide) rfl ?_
      refine V_isub X d_Mod_sheet_110 rfl ?_
      refine V_iload (n := 0) X d_Mod_sheet_111 rfl rfl ?_
      refine V_mmin X (Z0 E) mm_Mod_301 (by omega) (Nat.le_of_ble_eq_true rfl) d_Mod_sheet_113 rfl ?_
      refine V_mmax X (Z0 E) mm_Mod_304 (by omega) (Nat.le_of_ble_eq_true rfl) d_Mod_sheet_116 rfl ?_
      refine V_sub (lv' := [(0, .ref (G.2.2 + 162)), (1, .int v1), (2, .int v2), (4, .int v4), (5, .int v5), (6, .int v6), (7, .int v7)]) [1, 2, 3, 4, 5, 6, 7] rfl ?_
      exact j_Mod_sheet_119_43_ok X hD v1 v2 v4 v5 v6 v7 (if (0 : Int32) < (if w0 < ((M.1 166 v7.toNatClampNeg) - (1 : Int32)) then w0 else ((M.1 166 v7.toNatClampNeg) - (1 : Int32))) then (if w0 < ((M.1 166 v7.toNatClampNeg) - (1 : Int32)) then w0 else ((M.1 166 v7.toNatClampNeg) - (1 : Int32))) else (0 : Int32)) ((8 : Int32) + v7) M _ h kc kx0
    · rw [if_neg c4] at h
      refine V_iconst (v := 0) X d_Mod_sheet_97 (by decide) rfl ?_
      refine V_goto (pc' := 119) X d_Mod_sheet_98 (by decide) ?_
      refine V_sub (lv' := [(0, .ref (G.2.2 + 162)), (1, .int v1), (2, .int v2), (4, .int v4), (5, .int v5), (6, .int v6), (7, .int v7)]) [1, 2, 3, 4, 5, 6, 7] rfl ?_
      exact j_Mod_sheet_119_43_ok X hD v1 v2 v4 v5 v6 v7 (0 : Int32) ((8 : Int32) + v7) M _ h kc kx0
def lb_Mod_sheet_43 (v1 : Int32) (v2 : Int32) (v4 : Int32) (s : Int32 × Int32 × Int32 × Mem) : Option ((Int32 × Int32 × Int32 × Mem) ⊕ ((Int32 × Mem))) :=
  if (s.2.2.2.1 162 4) ≤ s.2.2.1 then
  some (.inr (s.1, s.2.2.2))
  else
  if v1 = 0 then
  j_Mod_sheet_75_43 v1 v2 v4 s.1 s.2.1 s.2.2.1 s.2.1.toInt8.toInt32 s.2.2.2
  else
  if v1 = (1 : Int32) then
  j_Mod_sheet_75_43 v1 v2 v4 s.1 s.2.1 s.2.2.1 s.2.1.toInt16.toInt32 s.2.2.2
  else
  j_Mod_sheet_75_43 v1 v2 v4 s.1 s.2.1 s.2.2.1 s.2.1 s.2.2.2
theorem lb_Mod_sheet_43_ok {E : Ev} {G : Gw} {d : Nat} {post : Int32 → Mem → Prop} (X : Cx E G b_Mod_sheet "WomenByTheRoofsModel" 9 d (some .int)) (hD : 2 ≤ d)  (v1 : Int32) (v2 : Int32) (v4 : Int32)   (s : Int32 × Int32 × Int32 × Mem) (o : (Int32 × Int32 × Int32 × Mem) ⊕ ((Int32 × Mem))) (h : lb_Mod_sheet_43 v1 v2 v4 s = some o) (kc : ∀ s9 : Int32 × Int32 × Int32 × Mem, o = .inl s9 → V E (0, 0) G 9 (QI E G post) s9.2.2.2 43 [(0, .ref (G.2.2 + 162)), (1, .int v1), (2, .int v2), (4, .int v4), (5, .int s9.1), (6, .int s9.2.1), (7, .int s9.2.2.1)] []) (kx0 : ∀ x9 : Int32 × Mem, o = .inr x9 → V E (0, 0) G 9 (QI E G post) x9.2 148 [(1, .int v1), (5, .int x9.1)] []) : V E (0, 0) G 9 (QI E G post) s.2.2.2 43 [(0, .ref (G.2.2 + 162)), (1, .int v1), (2, .int v2), (4, .int v4), (5, .int s.1), (6, .int s.2.1), (7, .int s.2.2.1)] [] := by
  unfold lb_Mod_sheet_43 at h
  refine V_iload (n := 6) X d_Mod_sheet_43 rfl rfl ?_
  refine V_aload_n (n := 0) X d_Mod_sheet_45 rfl rfl rfl ?_
  refine V_geti X fo_Mod_123 kd_162 rfl d_Mod_sheet_46 rfl ?_
  refine V_icmp_ge (tgt := 148) X d_Mod_sheet_49 (by decide) rfl (fun c8 => ?_) (fun c8 => ?_)
  · rw [if_pos c8] at h
    refine V_sub (lv' := [(1, .int v1), (5, .int s.1)]) [1, 4] rfl ?_
    exact kx0 (s.1, s.2.2.2) (Option.some.inj h).symm
  · rw [if_neg c8] at h
    refine V_iload_n (n := 1) X d_Mod_sheet_52 rfl rfl rfl ?_
    refine V_if_ne (tgt := 62) X d_Mod_sheet_53 (by decide) rfl (fun c7 => ?_) (fun c7 => ?_)
    · rw [if_neg c7] at h
      refine V_iload_n (n := 1) X d_Mod_sheet_62 rfl rfl rfl ?_
      refine V_iconst (v := 1) X d_Mod_sheet_63 (by decide) rfl ?_
      refine V_icmp_ne (tgt := 73) X d_Mod_sheet_64 (by decide) rfl (fun c6 => ?_) (fun c6 => ?_)
      · rw [if_neg c6] at h
        refine V_iload (n := 5) X d_Mod_sheet_73 rfl rfl ?_
        exact j_Mod_sheet_75_43_ok X hD v1 v2 v4 s.1 s.2.1 s.2.2.1 s.2.1 s.2.2.2 _ h kc kx0
      · rw [if_pos c6] at h
        refine V_iload (n := 5) X d_Mod_sheet_67 rfl rfl ?_
        refine V_i2s X d_Mod_sheet_69 rfl ?_
        refine V_goto (pc' := 75) X d_Mod_sheet_70 (by decide) ?_
        exact j_Mod_sheet_75_43_ok X hD v1 v2 v4 s.1 s.2.1 s.2.2.1 s.2.1.toInt16.toInt32 s.2.2.2 _ h kc kx0
    · rw [if_pos c7] at h
      refine V_iload (n := 5) X d_Mod_sheet_56 rfl rfl ?_
      refine V_i2b X d_Mod_sheet_58 rfl ?_
      refine V_goto (pc' := 75) X d_Mod_sheet_59 (by decide) ?_
      exact j_Mod_sheet_75_43_ok X hD v1 v2 v4 s.1 s.2.1 s.2.2.1 s.2.1.toInt8.toInt32 s.2.2.2 _ h kc kx0
theorem lp_Mod_sheet_43_ok {E : Ev} {G : Gw} {d : Nat} {post : Int32 → Mem → Prop} (X : Cx E G b_Mod_sheet "WomenByTheRoofsModel" 9 d (some .int)) (hD : 2 ≤ d)  (v1 : Int32) (v2 : Int32) (v4 : Int32)   (n9 : Nat) (s : Int32 × Int32 × Int32 × Mem) (x : (Int32 × Mem)) (h : iter (lb_Mod_sheet_43 v1 v2 v4) n9 s = some x) (kx0 : ∀ x9 : Int32 × Mem, x = x9 → V E (0, 0) G 9 (QI E G post) x9.2 148 [(1, .int v1), (5, .int x9.1)] []) : V E (0, 0) G 9 (QI E G post) s.2.2.2 43 [(0, .ref (G.2.2 + 162)), (1, .int v1), (2, .int v2), (4, .int v4), (5, .int s.1), (6, .int s.2.1), (7, .int s.2.2.1)] [] :=
  iter_P (P := fun s : Int32 × Int32 × Int32 × Mem => V E (0, 0) G 9 (QI E G post) s.2.2.2 43 [(0, .ref (G.2.2 + 162)), (1, .int v1), (2, .int v2), (4, .int v4), (5, .int s.1), (6, .int s.2.1), (7, .int s.2.2.1)] []) (fun s o hb kc ky => lb_Mod_sheet_43_ok X hD v1 v2 v4 s o hb kc (fun x9 e9 => kx0 x9 (ky _ e9).symm)) n9 s h
def f_Mod_sheet (v1 : Int32) (v2 : Int32) (v3 : Int32) (v4 : Int32) (M : Mem) : Option (Int32 × Mem) :=
  mem_ (s_i M 162 13 (0 : Int32)) fun M1 =>
  Option.bind (f_Mod_in v1 (0 : Int32) (3 : Int32)) fun x2 =>
  if x2 = 0 then
  some ((-1 : Int32), M1)
  else
  if v2 ≤ (8 : Int32) then
  if (3 : Int32) ≤ v1 then
  Option.bind (iter (lb_Mod_sheet_43 v1 v2 v4) FU ((0 : Int32), v3, (0 : Int32), M1)) fun x9 =>
  if v1 = (3 : Int32) then
  some ((-3 : Int32), x9.2)
  else
  some (x9.1, x9.2)
  else
  if 0 ≤ v2 then
  Option.bind (iter (lb_Mod_sheet_43 v1 v2 v4) FU ((0 : Int32), v3, (0 : Int32), M1)) fun x11 =>
  if v1 = (3 : Int32) then
  some ((-3 : Int32), x11.2)
  else
  some (x11.1, x11.2)
  else
  some ((-2 : Int32), M1)
  else
  some ((-1 : Int32), M1)
theorem c_Mod_sheet (l : Launch) (G : Gw)  (v1 : Int32) (v2 : Int32) (v3 : Int32) (v4 : Int32) (M : Mem) (x : Int32 × Mem) (h : f_Mod_sheet v1 v2 v3 v4 M = some x) (d : Nat) (hD : 2 ≤ d) : Ci l G y_Mod_sheet b_Mod_sheet 9 (some .int) d [.ref (G.2.2 + 162), .int v1, .int v2, .int v3, .int v4] M (fun r9 M9 => r9 = x.1 ∧ M9 = x.2) := by
  refine Ci_of (by decide) (Nat.le_of_ble_eq_true rfl) (fun E hE X => ?_)
  subst hE
  have kr : ∀ x9 : Int32 × Mem, x = x9 → (fun r9 M9 => r9 = x.1 ∧ M9 = x.2) x9.1 x9.2 := fun x9 e9 => by subst e9; exact ⟨rfl, rfl⟩
  unfold f_Mod_sheet at h
  refine V_aload_n (n := 0) X d_Mod_sheet_0 rfl rfl rfl ?_
  refine V_iconst (v := 0) X d_Mod_sheet_1 (by decide) rfl ?_
  obtain ⟨M1, eM1, h⟩ := memS h
  refine V_putI X fp_Mod_109 kd_162 rfl d_Mod_sheet_2 rfl ?_
  rw [← eM1]
  refine V_iload_n (n := 1) X d_Mod_sheet_5 rfl rfl rfl ?_
  refine V_iconst (v := 0) X d_Mod_sheet_6 (by decide) rfl ?_
  refine V_iconst (v := 3) X d_Mod_sheet_7 (by decide) rfl ?_
  obtain ⟨x2, hx2, h⟩ := ob_s h
  refine V_si (As := [.int v1, .int (0 : Int32), .int (3 : Int32)]) X (Z0 E) ml_Mod_119 yq_Mod_in (c_Mod_in E.2.1 G v1 (0 : Int32) (3 : Int32) M1 x2 hx2 _ (Nat.le_refl _)) rfl (by omega) rfl (Nat.le_of_ble_eq_true rfl) d_Mod_sheet_8 rfl (fun r9 M9 hq => ?_)
  rw [hq.1, hq.2]
  refine V_if_eq (tgt := 20) X d_Mod_sheet_11 (by decide) rfl (fun c16 => ?_) (fun c16 => ?_)
  · rw [if_pos c16] at h
    refine V_iconst (v := -1) X d_Mod_sheet_20 (by decide) rfl ?_
    exact V_iret X (kr ((-1 : Int32), M1) (Option.some.inj h).symm) d_Mod_sheet_21
  · rw [if_neg c16] at h
    refine V_iload_n (n := 2) X d_Mod_sheet_14 rfl rfl rfl ?_
    refine V_bipush (v := 8) X d_Mod_sheet_15 (by decide) rfl ?_
    refine V_icmp_le (tgt := 22) X d_Mod_sheet_17 (by decide) rfl (fun c15 => ?_) (fun c15 => ?_)
    · rw [if_pos c15] at h
      refine V_iload_n (n := 1) X d_Mod_sheet_22 rfl rfl rfl ?_
      refine V_iconst (v := 3) X d_Mod_sheet_23 (by decide) rfl ?_
      refine V_icmp_ge (tgt := 34) X d_Mod_sheet_24 (by decide) rfl (fun c14 => ?_) (fun c14 => ?_)
      · rw [if_pos c14] at h
        refine V_iconst (v := 0) X d_Mod_sheet_34 (by decide) rfl ?_
        refine V_istore (lv' := [(5, .int (0 : Int32)), (0, .ref (G.2.2 + 162)), (1, .int v1), (2, .int v2), (3, .int v3), (4, .int v4)]) X d_Mod_sheet_35 (by decide) rfl rfl ?_
        refine V_iload_n (n := 4) X d_Mod_sheet_37 rfl rfl rfl ?_
        refine V_istore (lv' := [(6, .int v3), (5, .int (0 : Int32)), (0, .ref (G.2.2 + 162)), (1, .int v1), (2, .int v2), (3, .int v3), (4, .int v4)]) X d_Mod_sheet_38 (by decide) rfl rfl ?_
        refine V_iconst (v := 0) X d_Mod_sheet_40 (by decide) rfl ?_
        refine V_istore (lv' := [(7, .int (0 : Int32)), (6, .int v3), (5, .int (0 : Int32)), (0, .ref (G.2.2 + 162)), (1, .int v1), (2, .int v2), (3, .int v3), (4, .int v4)]) X d_Mod_sheet_41 (by decide) rfl rfl ?_
        refine V_sub (lv' := [(0, .ref (G.2.2 + 162)), (1, .int v1), (2, .int v2), (4, .int v4), (5, .int (0 : Int32)), (6, .int v3), (7, .int (0 : Int32))]) [3, 4, 5, 7, 2, 1, 0] rfl ?_
        obtain ⟨x9, hx9, h⟩ := ob_s h
        refine (lp_Mod_sheet_43_ok X hD v1 v2 v4 _ _ _ hx9 (fun x9 e9 => ?_) :)
        subst e9
        refine V_iload_n (n := 0) X d_Mod_sheet_148 rfl rfl rfl ?_
        refine V_iconst (v := 3) X d_Mod_sheet_149 (by decide) rfl ?_
        refine V_icmp_ne (tgt := 158) X d_Mod_sheet_150 (by decide) rfl (fun c10 => ?_) (fun c10 => ?_)
        · rw [if_neg c10] at h
          refine V_iload (n := 1) X d_Mod_sheet_158 rfl rfl ?_
          exact V_iret X (kr (x9.1, x9.2) (Option.some.inj h).symm) d_Mod_sheet_160
        · rw [if_pos c10] at h
          refine V_bipush (v := -3) X d_Mod_sheet_153 (by decide) rfl ?_
          refine V_goto (pc' := 160) X d_Mod_sheet_155 (by decide) ?_
          exact V_iret X (kr ((-3 : Int32), x9.2) (Option.some.inj h).symm) d_Mod_sheet_160
      · rw [if_neg c14] at h
        refine V_iload_n (n := 2) X d_Mod_sheet_27 rfl rfl rfl ?_
        refine V_if_ge (tgt := 34) X d_Mod_sheet_28 (by decide) rfl (fun c13 => ?_) (fun c13 => ?_)
        · rw [if_pos c13] at h
          refine V_iconst (v := 0) X d_Mod_sheet_34 (by decide) rfl ?_
          refine V_istore (lv' := [(5, .int (0 : Int32)), (0, .ref (G.2.2 + 162)), (1, .int v1), (2, .int v2), (3, .int v3), (4, .int v4)]) X d_Mod_sheet_35 (by decide) rfl rfl ?_
          refine V_iload_n (n := 4) X d_Mod_sheet_37 rfl rfl rfl ?_
          refine V_istore (lv' := [(6, .int v3), (5, .int (0 : Int32)), (0, .ref (G.2.2 + 162)), (1, .int v1), (2, .int v2), (3, .int v3), (4, .int v4)]) X d_Mod_sheet_38 (by decide) rfl rfl ?_
          refine V_iconst (v := 0) X d_Mod_sheet_40 (by decide) rfl ?_
          refine V_istore (lv' := [(7, .int (0 : Int32)), (6, .int v3), (5, .int (0 : Int32)), (0, .ref (G.2.2 + 162)), (1, .int v1), (2, .int v2), (3, .int v3), (4, .int v4)]) X d_Mod_sheet_41 (by decide) rfl rfl ?_
          refine V_sub (lv' := [(0, .ref (G.2.2 + 162)), (1, .int v1), (2, .int v2), (4, .int v4), (5, .int (0 : Int32)), (6, .int v3), (7, .int (0 : Int32))]) [3, 4, 5, 7, 2, 1, 0] rfl ?_
          obtain ⟨x11, hx11, h⟩ := ob_s h
          refine (lp_Mod_sheet_43_ok X hD v1 v2 v4 _ _ _ hx11 (fun x9 e9 => ?_) :)
          subst e9
          refine V_iload_n (n := 0) X d_Mod_sheet_148 rfl rfl rfl ?_
          refine V_iconst (v := 3) X d_Mod_sheet_149 (by decide) rfl ?_
          refine V_icmp_ne (tgt := 158) X d_Mod_sheet_150 (by decide) rfl (fun c12 => ?_) (fun c12 => ?_)
          · rw [if_neg c12] at h
            refine V_iload (n := 1) X d_Mod_sheet_158 rfl rfl ?_
            exact V_iret X (kr (x11.1, x11.2) (Option.some.inj h).symm) d_Mod_sheet_160
          · rw [if_pos c12] at h
            refine V_bipush (v := -3) X d_Mod_sheet_153 (by decide) rfl ?_
            refine V_goto (pc' := 160) X d_Mod_sheet_155 (by decide) ?_
            exact V_iret X (kr ((-3 : Int32), x11.2) (Option.some.inj h).symm) d_Mod_sheet_160
        · rw [if_neg c13] at h
          refine V_bipush (v := -2) X d_Mod_sheet_31 (by decide) rfl ?_
          exact V_iret X (kr ((-2 : Int32), M1) (Option.some.inj h).symm) d_Mod_sheet_33
    · rw [if_neg c15] at h
      refine V_iconst (v := -1) X d_Mod_sheet_20 (by decide) rfl ?_
      exact V_iret X (kr ((-1 : Int32), M1) (Option.some.inj h).symm) d_Mod_sheet_21
def f_Mod_canTell (v1 : Int32) (M : Mem) : Option (Int32) :=
  Option.bind (f_Mod_isOne v1 M) fun x1 =>
  if x1 = 0 then
  some (0 : Int32)
  else
  Option.bind (f_Mod_has (M.1 163 (93 : Int32).toNatClampNeg) v1) fun x2 =>
  if x2 = 0 then
  some (1 : Int32)
  else
  some (0 : Int32)
theorem c_Mod_canTell (l : Launch) (G : Gw)  (v1 : Int32) (M : Mem) (x : Int32) (h : f_Mod_canTell v1 M = some x) (d : Nat) (hD : 3 ≤ d) : Ci l G y_Mod_canTell b_Mod_canTell 2 (some .boolean) d [.ref (G.2.2 + 162), .int v1] M (fun r9 M9 => r9 = x ∧ M9 = M) := by
  refine Ci_of (by decide) (Nat.le_of_ble_eq_true rfl) (fun E hE X => ?_)
  subst hE
  have kr : ∀ x9 : Int32, x = x9 → (fun r9 M9 => r9 = x ∧ M9 = M) x9 M := fun x9 e9 => by subst e9; exact ⟨rfl, rfl⟩
  unfold f_Mod_canTell at h
  refine V_aload_n (n := 0) X d_Mod_canTell_0 rfl rfl rfl ?_
  refine V_iload_n (n := 1) X d_Mod_canTell_1 rfl rfl rfl ?_
  obtain ⟨x1, hx1, h⟩ := ob_s h
  refine V_ci (As := [.int v1]) X (Z0 E) ml_Mod_126 yq_Mod_isOne (c_Mod_isOne E.2.1 G v1 M x1 hx1 _ (Nat.le_refl _)) kd_162 rfl rfl (by omega) rfl (Nat.le_of_ble_eq_true rfl) d_Mod_canTell_2 rfl (fun r9 M9 hq => ?_)
  rw [hq.1, hq.2]
  refine V_if_eq (tgt := 26) X d_Mod_canTell_5 (by decide) rfl (fun c4 => ?_) (fun c4 => ?_)
  · rw [if_pos c4] at h
    refine V_iconst (v := 0) X d_Mod_canTell_26 (by decide) rfl ?_
    exact V_zret X (kr (0 : Int32) (Option.some.inj h).symm) (by decide) d_Mod_canTell_27
  · rw [if_neg c4] at h
    refine V_aload_n (n := 0) X d_Mod_canTell_8 rfl rfl rfl ?_
    refine V_getr (k2 := 163) X fo_Mod_9 kd_162 rfl rf_162_0 d_Mod_canTell_9 rfl ?_
    refine V_bipush (v := 93) X d_Mod_canTell_12 (by decide) rfl ?_
    refine V_iald X kd_163 (inb_in ln_163 (by decide)) d_Mod_canTell_14 rfl ?_
    refine V_iload_n (n := 1) X d_Mod_canTell_15 rfl rfl rfl ?_
    obtain ⟨x2, hx2, h⟩ := ob_s h
    refine V_si (As := [.int (M.1 163 (93 : Int32).toNatClampNeg), .int v1]) X (Z0 E) ml_Mod_133 yq_Mod_has (c_Mod_has E.2.1 G (M.1 163 (93 : Int32).toNatClampNeg) v1 M x2 hx2 _ (Nat.le_refl _)) rfl (by omega) rfl (Nat.le_of_ble_eq_true rfl) d_Mod_canTell_16 rfl (fun r9 M9 hq => ?_)
    rw [hq.1, hq.2]
    refine V_if_ne (tgt := 26) X d_Mod_canTell_19 (by decide) rfl (fun c3 => ?_) (fun c3 => ?_)
    · rw [if_neg c3] at h
      refine V_iconst (v := 0) X d_Mod_canTell_26 (by decide) rfl ?_
      exact V_zret X (kr (0 : Int32) (Option.some.inj h).symm) (by decide) d_Mod_canTell_27
    · rw [if_pos c3] at h
      refine V_iconst (v := 1) X d_Mod_canTell_22 (by decide) rfl ?_
      refine V_goto (pc' := 27) X d_Mod_canTell_23 (by decide) ?_
      exact V_zret X (kr (1 : Int32) (Option.some.inj h).symm) (by decide) d_Mod_canTell_27
def f_Mod_tell (v1 : Int32) (M : Mem) : Option (Int32 × Mem) :=
  mem_ (s_i M 162 13 (0 : Int32)) fun M1 =>
  Option.bind (f_Mod_canTell v1 M1) fun x2 =>
  if x2 = 0 then
  some ((-1 : Int32), M1)
  else
  Option.bind (f_Mod_remember 163 M1) fun x3 =>
  mem_ (s_i x3 163 (93 : Int32).toNatClampNeg ((x3.1 163 (93 : Int32).toNatClampNeg) ||| ((1 : Int32) <<< (v1 &&& 31)))) fun M4 =>
  Option.bind (f_JInteger_bitCount (M4.1 163 (93 : Int32).toNatClampNeg)) fun x5 =>
  some (x5, M4)
theorem c_Mod_tell (l : Launch) (G : Gw)  (v1 : Int32) (M : Mem) (x : Int32 × Mem) (h : f_Mod_tell v1 M = some x) (d : Nat) (hD : 4 ≤ d) : Ci l G y_Mod_tell b_Mod_tell 2 (some .int) d [.ref (G.2.2 + 162), .int v1] M (fun r9 M9 => r9 = x.1 ∧ M9 = x.2) := by
  refine Ci_of (by decide) (Nat.le_of_ble_eq_true rfl) (fun E hE X => ?_)
  subst hE
  have kr : ∀ x9 : Int32 × Mem, x = x9 → (fun r9 M9 => r9 = x.1 ∧ M9 = x.2) x9.1 x9.2 := fun x9 e9 => by subst e9; exact ⟨rfl, rfl⟩
  unfold f_Mod_tell at h
  refine V_aload_n (n := 0) X d_Mod_tell_0 rfl rfl rfl ?_
  refine V_iconst (v := 0) X d_Mod_tell_1 (by decide) rfl ?_
  obtain ⟨M1, eM1, h⟩ := memS h
  refine V_putI X fp_Mod_109 kd_162 rfl d_Mod_tell_2 rfl ?_
  rw [← eM1]
  refine V_aload_n (n := 0) X d_Mod_tell_5 rfl rfl rfl ?_
  refine V_iload_n (n := 1) X d_Mod_tell_6 rfl rfl rfl ?_
  obtain ⟨x2, hx2, h⟩ := ob_s h
  refine V_ci (As := [.int v1]) X (Z0 E) ml_Mod_307 yq_Mod_canTell (c_Mod_canTell E.2.1 G v1 M1 x2 hx2 _ (Nat.le_refl _)) kd_162 rfl rfl (by omega) rfl (Nat.le_of_ble_eq_true rfl) d_Mod_tell_7 rfl (fun r9 M9 hq => ?_)
  rw [hq.1, hq.2]
  refine V_if_ne (tgt := 15) X d_Mod_tell_10 (by decide) rfl (fun c6 => ?_) (fun c6 => ?_)
  · rw [if_neg c6] at h
    refine V_aload_n (n := 0) X d_Mod_tell_15 rfl rfl rfl ?_
    refine V_aload_n (n := 0) X d_Mod_tell_16 rfl rfl rfl ?_
    refine V_getr (k2 := 163) X fo_Mod_9 kd_162 rfl rf_162_0 d_Mod_tell_17 rfl ?_
    obtain ⟨x3, hx3, h⟩ := ob_s h
    refine V_cv (As := [.ref (G.2.2 + 163)]) X (Z0 E) ml_Mod_293 yq_Mod_remember (c_Mod_remember E.2.1 G 163 M1 x3 hx3 _ (Nat.le_refl _)) kd_162 rfl rfl (by omega) rfl (Nat.le_of_ble_eq_true rfl) d_Mod_tell_20 rfl (fun M9 hq => ?_)
    rw [hq]
    refine V_aload_n (n := 0) X d_Mod_tell_23 rfl rfl rfl ?_
    refine V_getr (k2 := 163) X fo_Mod_9 kd_162 rfl rf_162_0 d_Mod_tell_24 rfl ?_
    refine V_bipush (v := 93) X d_Mod_tell_27 (by decide) rfl ?_
    refine V_dup2 X d_Mod_tell_29 rfl rfl rfl ?_
    refine V_iald X kd_163 (inb_in ln_163 (by decide)) d_Mod_tell_30 rfl ?_
    refine V_iconst (v := 1) X d_Mod_tell_31 (by decide) rfl ?_
    refine V_iload_n (n := 1) X d_Mod_tell_32 rfl rfl rfl ?_
    refine V_ishl X d_Mod_tell_33 rfl ?_
    refine V_ior X d_Mod_tell_34 rfl ?_
    obtain ⟨M4, eM4, h⟩ := memS h
    refine V_iast X kd_163 (inb_in ln_163 (by decide)) d_Mod_tell_35 rfl ?_
    rw [← eM4]
    refine V_aload_n (n := 0) X d_Mod_tell_36 rfl rfl rfl ?_
    refine V_getr (k2 := 163) X fo_Mod_9 kd_162 rfl rf_162_0 d_Mod_tell_37 rfl ?_
    refine V_bipush (v := 93) X d_Mod_tell_40 (by decide) rfl ?_
    refine V_iald X kd_163 (inb_in ln_163 (by decide)) d_Mod_tell_42 rfl ?_
    obtain ⟨x5, hx5, h⟩ := ob_s h
    refine V_si (As := [.int (M4.1 163 (93 : Int32).toNatClampNeg)]) X (Z0 E) ml_Mod_310 yq_JInteger_bitCount (c_JInteger_bitCount E.2.1 G (M4.1 163 (93 : Int32).toNatClampNeg) M4 x5 hx5 _ (Nat.le_refl _)) rfl (by omega) rfl (Nat.le_of_ble_eq_true rfl) d_Mod_tell_43 rfl (fun r9 M9 hq => ?_)
    rw [hq.1, hq.2]
    exact V_iret X (kr (x5, M4) (Option.some.inj h).symm) d_Mod_tell_46
  · rw [if_pos c6] at h
    refine V_iconst (v := -1) X d_Mod_tell_13 (by decide) rfl ?_
    exact V_iret X (kr ((-1 : Int32), M1) (Option.some.inj h).symm) d_Mod_tell_14
def lb_Mod_womenBelow_4 (M : Mem) (s : Int32 × Int32) : Option ((Int32 × Int32) ⊕ ((Int32))) :=
  if (M.1 162 4) ≤ s.2 then
  some (.inr s.1)
  else
  Option.bind (f_Mod_has (M.1 162 5) s.2) fun x1 =>
  if x1 = 0 then
  some (.inl ((s.1 + (0 : Int32)), (s.2 + (1 : Int32))))
  else
  if inb s.2 96 = true then
  Option.bind (f_Mod_levelOf (M.1 163 s.2.toNatClampNeg)) fun x2 =>
  if x2 = 0 then
  some (.inl ((s.1 + (1 : Int32)), (s.2 + (1 : Int32))))
  else
  some (.inl ((s.1 + (0 : Int32)), (s.2 + (1 : Int32))))
  else none
theorem lb_Mod_womenBelow_4_ok {E : Ev} {G : Gw} {d : Nat} {post : Int32 → Mem → Prop} (X : Cx E G b_Mod_womenBelow "WomenByTheRoofsModel" 3 d (some .int)) (hD : 2 ≤ d)    (M : Mem) (s : Int32 × Int32) (o : (Int32 × Int32) ⊕ ((Int32))) (h : lb_Mod_womenBelow_4 M s = some o) (kc : ∀ s9 : Int32 × Int32, o = .inl s9 → V E (0, 0) G 3 (QI E G post) M 4 [(0, .ref (G.2.2 + 162)), (1, .int s9.1), (2, .int s9.2)] []) (kx0 : ∀ x9 : Int32, o = .inr x9 → V E (0, 0) G 3 (QI E G post) M 49 [(1, .int x9)] []) : V E (0, 0) G 3 (QI E G post) M 4 [(0, .ref (G.2.2 + 162)), (1, .int s.1), (2, .int s.2)] [] := by
  unfold lb_Mod_womenBelow_4 at h
  refine V_iload_n (n := 2) X d_Mod_womenBelow_4 rfl rfl rfl ?_
  refine V_aload_n (n := 0) X d_Mod_womenBelow_5 rfl rfl rfl ?_
  refine V_geti X fo_Mod_123 kd_162 rfl d_Mod_womenBelow_6 rfl ?_
  refine V_icmp_ge (tgt := 49) X d_Mod_womenBelow_9 (by decide) rfl (fun c5 => ?_) (fun c5 => ?_)
  · rw [if_pos c5] at h
    refine V_sub (lv' := [(1, .int s.1)]) [1] rfl ?_
    exact kx0 s.1 (Option.some.inj h).symm
  · rw [if_neg c5] at h
    refine V_iload_n (n := 1) X d_Mod_womenBelow_12 rfl rfl rfl ?_
    refine V_aload_n (n := 0) X d_Mod_womenBelow_13 rfl rfl rfl ?_
    refine V_geti X fo_Mod_130 kd_162 rfl d_Mod_womenBelow_14 rfl ?_
    refine V_iload_n (n := 2) X d_Mod_womenBelow_17 rfl rfl rfl ?_
    obtain ⟨x1, hx1, h⟩ := ob_s h
    refine V_si (As := [.int (M.1 162 5), .int s.2]) X (Z0 E) ml_Mod_133 yq_Mod_has (c_Mod_has E.2.1 G (M.1 162 5) s.2 M x1 hx1 _ (Nat.le_refl _)) rfl (by omega) rfl (Nat.le_of_ble_eq_true rfl) d_Mod_womenBelow_18 rfl (fun r9 M9 hq => ?_)
    rw [hq.1, hq.2]
    refine V_if_eq (tgt := 40) X d_Mod_womenBelow_21 (by decide) rfl (fun c4 => ?_) (fun c4 => ?_)
    · rw [if_pos c4] at h
      refine V_iconst (v := 0) X d_Mod_womenBelow_40 (by decide) rfl ?_
      refine V_iadd X d_Mod_womenBelow_41 rfl ?_
      refine V_istore_n (lv' := [(1, .int (s.1 + (0 : Int32))), (0, .ref (G.2.2 + 162)), (2, .int s.2)]) X d_Mod_womenBelow_42 rfl (by decide) rfl rfl ?_
      refine V_iinc (n := 2) (v := (s.2 + (1 : Int32))) (lv' := [(2, .int (s.2 + (1 : Int32))), (1, .int (s.1 + (0 : Int32))), (0, .ref (G.2.2 + 162))]) X d_Mod_womenBelow_43 rfl rfl (by decide) rfl rfl ?_
      refine V_goto (pc' := 4) X d_Mod_womenBelow_46 (by decide) ?_
      refine V_sub (lv' := [(0, .ref (G.2.2 + 162)), (1, .int (s.1 + (0 : Int32))), (2, .int (s.2 + (1 : Int32)))]) [2, 1, 0] rfl ?_
      exact kc ((s.1 + (0 : Int32)), (s.2 + (1 : Int32))) (Option.some.inj h).symm
    · rw [if_neg c4] at h
      refine V_aload_n (n := 0) X d_Mod_womenBelow_24 rfl rfl rfl ?_
      refine V_getr (k2 := 163) X fo_Mod_9 kd_162 rfl rf_162_0 d_Mod_womenBelow_25 rfl ?_
      refine V_iload_n (n := 2) X d_Mod_womenBelow_28 rfl rfl rfl ?_
      obtain ⟨hb, h⟩ := ifn h
      refine V_iald X kd_163 (inb_in ln_163 hb) d_Mod_womenBelow_29 rfl ?_
      obtain ⟨x2, hx2, h⟩ := ob_s h
      refine V_si (As := [.int (M.1 163 s.2.toNatClampNeg)]) X (Z0 E) ml_Mod_143 yq_Mod_levelOf (c_Mod_levelOf E.2.1 G (M.1 163 s.2.toNatClampNeg) M x2 hx2 _ (Nat.le_refl _)) rfl (by omega) rfl (Nat.le_of_ble_eq_true rfl) d_Mod_womenBelow_30 rfl (fun r9 M9 hq => ?_)
      rw [hq.1, hq.2]
      refine V_if_ne (tgt := 40) X d_Mod_womenBelow_33 (by decide) rfl (fun c3 => ?_) (fun c3 => ?_)
      · rw [if_neg c3] at h
        refine V_iconst (v := 0) X d_Mod_womenBelow_40 (by decide) rfl ?_
        refine V_iadd X d_Mod_womenBelow_41 rfl ?_
        refine V_istore_n (lv' := [(1, .int (s.1 + (0 : Int32))), (0, .ref (G.2.2 + 162)), (2, .int s.2)]) X d_Mod_womenBelow_42 rfl (by decide) rfl rfl ?_
        refine V_iinc (n := 2) (v := (s.2 + (1 : Int32))) (lv' := [(2, .int (s.2 + (1 : Int32))), (1, .int (s.1 + (0 : Int32))), (0, .ref (G.2.2 + 162))]) X d_Mod_womenBelow_43 rfl rfl (by decide) rfl rfl ?_
        refine V_goto (pc' := 4) X d_Mod_womenBelow_46 (by decide) ?_
        refine V_sub (lv' := [(0, .ref (G.2.2 + 162)), (1, .int (s.1 + (0 : Int32))), (2, .int (s.2 + (1 : Int32)))]) [2, 1, 0] rfl ?_
        exact kc ((s.1 + (0 : Int32)), (s.2 + (1 : Int32))) (Option.some.inj h).symm
      · rw [if_pos c3] at h
        refine V_iconst (v := 1) X d_Mod_womenBelow_36 (by decide) rfl ?_
        refine V_goto (pc' := 41) X d_Mod_womenBelow_37 (by decide) ?_
        refine V_iadd X d_Mod_womenBelow_41 rfl ?_
        refine V_istore_n (lv' := [(1, .int (s.1 + (1 : Int32))), (0, .ref (G.2.2 + 162)), (2, .int s.2)]) X d_Mod_womenBelow_42 rfl (by decide) rfl rfl ?_
        refine V_iinc (n := 2) (v := (s.2 + (1 : Int32))) (lv' := [(2, .int (s.2 + (1 : Int32))), (1, .int (s.1 + (1 : Int32))), (0, .ref (G.2.2 + 162))]) X d_Mod_womenBelow_43 rfl rfl (by decide) rfl rfl ?_
        refine V_goto (pc' := 4) X d_Mod_womenBelow_46 (by decide) ?_
        refine V_sub (lv' := [(0, .ref (G.2.2 + 162)), (1, .int (s.1 + (1 : Int32))), (2, .int (s.2 + (1 : Int32)))]) [2, 1, 0] rfl ?_
        exact kc ((s.1 + (1 : Int32)), (s.2 + (1 : Int32))) (Option.some.inj h).symm
theorem lp_Mod_womenBelow_4_ok {E : Ev} {G : Gw} {d : Nat} {post : Int32 → Mem → Prop} (X : Cx E G b_Mod_womenBelow "WomenByTheRoofsModel" 3 d (some .int)) (hD : 2 ≤ d)    (M : Mem) (n9 : Nat) (s : Int32 × Int32) (x : (Int32)) (h : iter (lb_Mod_womenBelow_4 M) n9 s = some x) (kx0 : ∀ x9 : Int32, x = x9 → V E (0, 0) G 3 (QI E G post) M 49 [(1, .int x9)] []) : V E (0, 0) G 3 (QI E G post) M 4 [(0, .ref (G.2.2 + 162)), (1, .int s.1), (2, .int s.2)] [] :=
  iter_P (P := fun s : Int32 × Int32 => V E (0, 0) G 3 (QI E G post) M 4 [(0, .ref (G.2.2 + 162)), (1, .int s.1), (2, .int s.2)] []) (fun s o hb kc ky => lb_Mod_womenBelow_4_ok X hD M s o hb kc (fun x9 e9 => kx0 x9 (ky _ e9).symm)) n9 s h
def f_Mod_womenBelow (M : Mem) : Option (Int32) :=
  Option.bind (iter (lb_Mod_womenBelow_4 M) FU ((0 : Int32), (0 : Int32))) fun x6 =>
  some x6
theorem c_Mod_womenBelow (l : Launch) (G : Gw)   (M : Mem) (x : Int32) (h : f_Mod_womenBelow M = some x) (d : Nat) (hD : 2 ≤ d) : Ci l G y_Mod_womenBelow b_Mod_womenBelow 3 (some .int) d [.ref (G.2.2 + 162)] M (fun r9 M9 => r9 = x ∧ M9 = M) := by
  refine Ci_of (by decide) (Nat.le_of_ble_eq_true rfl) (fun E hE X => ?_)
  subst hE
  have kr : ∀ x9 : Int32, x = x9 → (fun r9 M9 => r9 = x ∧ M9 = M) x9 M := fun x9 e9 => by subst e9; exact ⟨rfl, rfl⟩
  unfold f_Mod_womenBelow at h
  refine V_iconst (v := 0) X d_Mod_womenBelow_0 (by decide) rfl ?_
  refine V_istore_n (lv' := [(1, .int (0 : Int32)), (0, .ref (G.2.2 + 162))]) X d_Mod_womenBelow_1 rfl (by decide) rfl rfl ?_
  refine V_iconst (v := 0) X d_Mod_womenBelow_2 (by decide) rfl ?_
  refine V_istore_n (lv' := [(2, .int (0 : Int32)), (1, .int (0 : Int32)), (0, .ref (G.2.2 + 162))]) X d_Mod_womenBelow_3 rfl (by decide) rfl rfl ?_
  refine V_sub (lv' := [(0, .ref (G.2.2 + 162)), (1, .int (0 : Int32)), (2, .int (0 : Int32))]) [2, 1, 0] rfl ?_
  obtain ⟨x6, hx6, h⟩ := ob_s h
  refine (lp_Mod_womenBelow_4_ok X hD M _ _ _ hx6 (fun x9 e9 => ?_) :)
  subst e9
  refine V_iload_n (n := 0) X d_Mod_womenBelow_49 rfl rfl rfl ?_
  exact V_iret X (kr x6 (Option.some.inj h).symm) d_Mod_womenBelow_50
def lb_Mod_canFeast_31 (M : Mem) (s : Int32) : Option ((Int32) ⊕ ((Unit) ⊕ (Unit))) :=
  if (M.1 162 4) ≤ s then
  some (.inr (Sum.inl ()))
  else
  Option.bind (f_Mod_has (M.1 162 5) s) fun x2 =>
  if x2 = 0 then
  some (.inl (s + (1 : Int32)))
  else
  if inb s 96 = true then
  Option.bind (f_Mod_levelOf (M.1 163 s.toNatClampNeg)) fun x3 =>
  if x3 = 0 then
  if inb s 96 = true then
  Option.bind (f_Mod_cellOf (M.1 163 s.toNatClampNeg)) fun x4 =>
  if inb x4 36 = true then
  if (M.1 164 x4.toNatClampNeg) = (3 : Int32) then
  some (.inl (s + (1 : Int32)))
  else
  some (.inr (Sum.inr ()))
  else none
  else none
  else
  some (.inl (s + (1 : Int32)))
  else none
theorem lb_Mod_canFeast_31_ok {E : Ev} {G : Gw} {d : Nat} {post : Int32 → Mem → Prop} (X : Cx E G b_Mod_canFeast "WomenByTheRoofsModel" 3 d (some .boolean)) (hD : 2 ≤ d)    (M : Mem) (s : Int32) (o : (Int32) ⊕ ((Unit) ⊕ (Unit))) (h : lb_Mod_canFeast_31 M s = some o) (kc : ∀ s9 : Int32, o = .inl s9 → V E (0, 0) G 3 (QI E G post) M 31 [(0, .ref (G.2.2 + 162)), (2, .int s9)] []) (kx0 : ∀ x9 : Unit, o = .inr (Sum.inl x9) → V E (0, 0) G 3 (QI E G post) M 88 [] []) (kx1 : ∀ x9 : Unit, o = .inr (Sum.inr x9) → V E (0, 0) G 3 (QI E G post) M 80 [] []) : V E (0, 0) G 3 (QI E G post) M 31 [(0, .ref (G.2.2 + 162)), (2, .int s)] [] := by
  unfold lb_Mod_canFeast_31 at h
  refine V_iload_n (n := 1) X d_Mod_canFeast_31 rfl rfl rfl ?_
  refine V_aload_n (n := 0) X d_Mod_canFeast_32 rfl rfl rfl ?_
  refine V_geti X fo_Mod_123 kd_162 rfl d_Mod_canFeast_33 rfl ?_
  refine V_icmp_ge (tgt := 88) X d_Mod_canFeast_36 (by decide) rfl (fun c8 => ?_) (fun c8 => ?_)
  · rw [if_pos c8] at h
    refine V_sub (lv' := []) [] rfl ?_
    exact kx0 () (Option.some.inj h).symm
  · rw [if_neg c8] at h
    refine V_aload_n (n := 0) X d_Mod_canFeast_39 rfl rfl rfl ?_
    refine V_geti X fo_Mod_130 kd_162 rfl d_Mod_canFeast_40 rfl ?_
    refine V_iload_n (n := 1) X d_Mod_canFeast_43 rfl rfl rfl ?_
    obtain ⟨x2, hx2, h⟩ := ob_s h
    refine V_si (As := [.int (M.1 162 5), .int s]) X (Z0 E) ml_Mod_133 yq_Mod_has (c_Mod_has E.2.1 G (M.1 162 5) s M x2 hx2 _ (Nat.le_refl _)) rfl (by omega) rfl (Nat.le_of_ble_eq_true rfl) d_Mod_canFeast_44 rfl (fun r9 M9 hq => ?_)
    rw [hq.1, hq.2]
    refine V_if_eq (tgt := 82) X d_Mod_canFeast_47 (by decide) rfl (fun c7 => ?_) (fun c7 => ?_)
    · rw [if_pos c7] at h
      refine V_iinc (n := 1) (v := (s + (1 : Int32))) (lv' := [(2, .int (s + (1 : Int32))), (0, .ref (G.2.2 + 162))]) X d_Mod_canFeast_82 rfl rfl (by decide) rfl rfl ?_
      refine V_goto (pc' := 31) X d_Mod_canFeast_85 (by decide) ?_
      refine V_sub (lv' := [(0, .ref (G.2.2 + 162)), (2, .int (s + (1 : Int32)))]) [1, 0] rfl ?_
      exact kc (s + (1 : Int32)) (Option.some.inj h).symm
    · rw [if_neg c7] at h
      refine V_aload_n (n := 0) X d_Mod_canFeast_50 rfl rfl rfl ?_
      refine V_getr (k2 := 163) X fo_Mod_9 kd_162 rfl rf_162_0 d_Mod_canFeast_51 rfl ?_
      refine V_iload_n (n := 1) X d_Mod_canFeast_54 rfl rfl rfl ?_
      obtain ⟨hb, h⟩ := ifn h
      refine V_iald X kd_163 (inb_in ln_163 hb) d_Mod_canFeast_55 rfl ?_
      obtain ⟨x3, hx3, h⟩ := ob_s h
      refine V_si (As := [.int (M.1 163 s.toNatClampNeg)]) X (Z0 E) ml_Mod_143 yq_Mod_levelOf (c_Mod_levelOf E.2.1 G (M.1 163 s.toNatClampNeg) M x3 hx3 _ (Nat.le_refl _)) rfl (by omega) rfl (Nat.le_of_ble_eq_true rfl) d_Mod_canFeast_56 rfl (fun r9 M9 hq => ?_)
      rw [hq.1, hq.2]
      refine V_if_ne (tgt := 82) X d_Mod_canFeast_59 (by decide) rfl (fun c6 => ?_) (fun c6 => ?_)
      · rw [if_neg c6] at h
        refine V_iinc (n := 1) (v := (s + (1 : Int32))) (lv' := [(2, .int (s + (1 : Int32))), (0, .ref (G.2.2 + 162))]) X d_Mod_canFeast_82 rfl rfl (by decide) rfl rfl ?_
        refine V_goto (pc' := 31) X d_Mod_canFeast_85 (by decide) ?_
        refine V_sub (lv' := [(0, .ref (G.2.2 + 162)), (2, .int (s + (1 : Int32)))]) [1, 0] rfl ?_
        exact kc (s + (1 : Int32)) (Option.some.inj h).symm
      · rw [if_pos c6] at h
        refine V_aload_n (n := 0) X d_Mod_canFeast_62 rfl rfl rfl ?_
        refine V_getr (k2 := 164) X fo_Mod_13 kd_162 rfl rf_162_1 d_Mod_canFeast_63 rfl ?_
        refine V_aload_n (n := 0) X d_Mod_canFeast_66 rfl rfl rfl ?_
        refine V_getr (k2 := 163) X fo_Mod_9 kd_162 rfl rf_162_0 d_Mod_canFeast_67 rfl ?_
        refine V_iload_n (n := 1) X d_Mod_canFeast_70 rfl rfl rfl ?_
        obtain ⟨hb, h⟩ := ifn h
        refine V_iald X kd_163 (inb_in ln_163 hb) d_Mod_canFeast_71 rfl ?_
        obtain ⟨x4, hx4, h⟩ := ob_s h
        refine V_si (As := [.int (M.1 163 s.toNatClampNeg)]) X (Z0 E) ml_Mod_147 yq_Mod_cellOf (c_Mod_cellOf E.2.1 G (M.1 163 s.toNatClampNeg) M x4 hx4 _ (Nat.le_refl _)) rfl (by omega) rfl (Nat.le_of_ble_eq_true rfl) d_Mod_canFeast_72 rfl (fun r9 M9 hq => ?_)
        rw [hq.1, hq.2]
        obtain ⟨hb, h⟩ := ifn h
        refine V_iald X kd_164 (inb_in ln_164 hb) d_Mod_canFeast_75 rfl ?_
        refine V_iconst (v := 3) X d_Mod_canFeast_76 (by decide) rfl ?_
        refine V_icmp_eq (tgt := 82) X d_Mod_canFeast_77 (by decide) rfl (fun c5 => ?_) (fun c5 => ?_)
        · rw [if_pos c5] at h
          refine V_iinc (n := 1) (v := (s + (1 : Int32))) (lv' := [(2, .int (s + (1 : Int32))), (0, .ref (G.2.2 + 162))]) X d_Mod_canFeast_82 rfl rfl (by decide) rfl rfl ?_
          refine V_goto (pc' := 31) X d_Mod_canFeast_85 (by decide) ?_
          refine V_sub (lv' := [(0, .ref (G.2.2 + 162)), (2, .int (s + (1 : Int32)))]) [1, 0] rfl ?_
          exact kc (s + (1 : Int32)) (Option.some.inj h).symm
        · rw [if_neg c5] at h
          refine V_sub (lv' := []) [] rfl ?_
          exact kx1 () (Option.some.inj h).symm
theorem lp_Mod_canFeast_31_ok {E : Ev} {G : Gw} {d : Nat} {post : Int32 → Mem → Prop} (X : Cx E G b_Mod_canFeast "WomenByTheRoofsModel" 3 d (some .boolean)) (hD : 2 ≤ d)    (M : Mem) (n9 : Nat) (s : Int32) (x : (Unit) ⊕ (Unit)) (h : iter (lb_Mod_canFeast_31 M) n9 s = some x) (kx0 : ∀ x9 : Unit, x = (Sum.inl x9) → V E (0, 0) G 3 (QI E G post) M 88 [] []) (kx1 : ∀ x9 : Unit, x = (Sum.inr x9) → V E (0, 0) G 3 (QI E G post) M 80 [] []) : V E (0, 0) G 3 (QI E G post) M 31 [(0, .ref (G.2.2 + 162)), (2, .int s)] [] :=
  iter_P (P := fun s : Int32 => V E (0, 0) G 3 (QI E G post) M 31 [(0, .ref (G.2.2 + 162)), (2, .int s)] []) (fun s o hb kc ky => lb_Mod_canFeast_31_ok X hD M s o hb kc (fun x9 e9 => kx0 x9 (ky _ e9).symm) (fun x9 e9 => kx1 x9 (ky _ e9).symm)) n9 s h
def f_Mod_canFeast (v1 : Int32) (M : Mem) : Option (Int32) :=
  Option.bind (f_Mod_in v1 (0 : Int32) (1 : Int32)) fun x1 =>
  if x1 = 0 then
  some (0 : Int32)
  else
  if (M.1 163 (94 : Int32).toNatClampNeg) = v1 then
  some (0 : Int32)
  else
  if v1 = (1 : Int32) then
  some (1 : Int32)
  else
  Option.bind (iter (lb_Mod_canFeast_31 M) FU (0 : Int32)) (Sum.elim (fun y10 => some (1 : Int32)) (fun y11 => some (0 : Int32)))
theorem c_Mod_canFeast (l : Launch) (G : Gw)  (v1 : Int32) (M : Mem) (x : Int32) (h : f_Mod_canFeast v1 M = some x) (d : Nat) (hD : 2 ≤ d) : Ci l G y_Mod_canFeast b_Mod_canFeast 3 (some .boolean) d [.ref (G.2.2 + 162), .int v1] M (fun r9 M9 => r9 = x ∧ M9 = M) := by
  refine Ci_of (by decide) (Nat.le_of_ble_eq_true rfl) (fun E hE X => ?_)
  subst hE
  have kr : ∀ x9 : Int32, x = x9 → (fun r9 M9 => r9 = x ∧ M9 = M) x9 M := fun x9 e9 => by subst e9; exact ⟨rfl, rfl⟩
  unfold f_Mod_canFeast at h
  refine V_iload_n (n := 1) X d_Mod_canFeast_0 rfl rfl rfl ?_
  refine V_iconst (v := 0) X d_Mod_canFeast_1 (by decide) rfl ?_
  refine V_iconst (v := 1) X d_Mod_canFeast_2 (by decide) rfl ?_
  obtain ⟨x1, hx1, h⟩ := ob_s h
  refine V_si (As := [.int v1, .int (0 : Int32), .int (1 : Int32)]) X (Z0 E) ml_Mod_119 yq_Mod_in (c_Mod_in E.2.1 G v1 (0 : Int32) (1 : Int32) M x1 hx1 _ (Nat.le_refl _)) rfl (by omega) rfl (Nat.le_of_ble_eq_true rfl) d_Mod_canFeast_3 rfl (fun r9 M9 hq => ?_)
  rw [hq.1, hq.2]
  refine V_if_eq (tgt := 20) X d_Mod_canFeast_6 (by decide) rfl (fun c14 => ?_) (fun c14 => ?_)
  · rw [if_pos c14] at h
    refine V_iconst (v := 0) X d_Mod_canFeast_20 (by decide) rfl ?_
    exact V_zret X (kr (0 : Int32) (Option.some.inj h).symm) (by decide) d_Mod_canFeast_21
  · rw [if_neg c14] at h
    refine V_aload_n (n := 0) X d_Mod_canFeast_9 rfl rfl rfl ?_
    refine V_getr (k2 := 163) X fo_Mod_9 kd_162 rfl rf_162_0 d_Mod_canFeast_10 rfl ?_
    refine V_bipush (v := 94) X d_Mod_canFeast_13 (by decide) rfl ?_
    refine V_iald X kd_163 (inb_in ln_163 (by decide)) d_Mod_canFeast_15 rfl ?_
    refine V_iload_n (n := 1) X d_Mod_canFeast_16 rfl rfl rfl ?_
    refine V_icmp_ne (tgt := 22) X d_Mod_canFeast_17 (by decide) rfl (fun c13 => ?_) (fun c13 => ?_)
    · rw [if_neg c13] at h
      refine V_iload_n (n := 1) X d_Mod_canFeast_22 rfl rfl rfl ?_
      refine V_iconst (v := 1) X d_Mod_canFeast_23 (by decide) rfl ?_
      refine V_icmp_ne (tgt := 29) X d_Mod_canFeast_24 (by decide) rfl (fun c12 => ?_) (fun c12 => ?_)
      · rw [if_neg c12] at h
        refine V_iconst (v := 0) X d_Mod_canFeast_29 (by decide) rfl ?_
        refine V_istore_n (lv' := [(2, .int (0 : Int32)), (0, .ref (G.2.2 + 162)), (1, .int v1)]) X d_Mod_canFeast_30 rfl (by decide) rfl rfl ?_
        refine V_sub (lv' := [(0, .ref (G.2.2 + 162)), (2, .int (0 : Int32))]) [1, 0] rfl ?_
        obtain ⟨x9, hx9, h⟩ := ob_s h
        rcases x9 with y10 | y11
        · simp only [Sum.elim_inl, Sum.elim_inr] at h
          refine (lp_Mod_canFeast_31_ok X hD M _ _ _ hx9 (fun x9 e9 => ?_) (fun x9 e9 => by cases e9) :)
          cases e9
          refine V_iconst (v := 1) X d_Mod_canFeast_88 (by decide) rfl ?_
          exact V_zret X (kr (1 : Int32) (Option.some.inj h).symm) (by decide) d_Mod_canFeast_89
        · simp only [Sum.elim_inl, Sum.elim_inr] at h
          refine (lp_Mod_canFeast_31_ok X hD M _ _ _ hx9 (fun x9 e9 => by cases e9) (fun x9 e9 => ?_) :)
          cases e9
          refine V_iconst (v := 0) X d_Mod_canFeast_80 (by decide) rfl ?_
          exact V_zret X (kr (0 : Int32) (Option.some.inj h).symm) (by decide) d_Mod_canFeast_81
      · rw [if_pos c12] at h
        refine V_iconst (v := 1) X d_Mod_canFeast_27 (by decide) rfl ?_
        exact V_zret X (kr (1 : Int32) (Option.some.inj h).symm) (by decide) d_Mod_canFeast_28
    · rw [if_pos c13] at h
      refine V_iconst (v := 0) X d_Mod_canFeast_20 (by decide) rfl ?_
      exact V_zret X (kr (0 : Int32) (Option.some.inj h).symm) (by decide) d_Mod_canFeast_21
def lb_Mod_goFeast_10 (v1 : Int32) (s : Int32 × Mem) : Option ((Int32 × Mem) ⊕ ((Mem))) :=
  if (s.2.1 162 4) ≤ s.1 then
  some (.inr s.2)
  else
  Option.bind (f_Mod_has (s.2.1 162 5) s.1) fun x2 =>
  if x2 = 0 then
  some (.inl ((s.1 + (1 : Int32)), s.2))
  else
  if inb s.1 96 = true then
  Option.bind (f_Mod_cellOf (s.2.1 163 s.1.toNatClampNeg)) fun x3 =>
  if inb x3 36 = true then
  if (s.2.1 164 x3.toNatClampNeg) = (3 : Int32) then
  if inb s.1 96 = true then
  Option.bind (f_Mod_cellOf (s.2.1 163 s.1.toNatClampNeg)) fun x4 =>
  Option.bind (f_Mod_placeOf ((1 : Int32) - v1) x4) fun x5 =>
  if inb s.1 96 = true then
  mem_ (s_i s.2 163 s.1.toNatClampNeg x5) fun M6 =>
  some (.inl ((s.1 + (1 : Int32)), M6))
  else none
  else none
  else
  some (.inl ((s.1 + (1 : Int32)), s.2))
  else none
  else none
theorem lb_Mod_goFeast_10_ok {E : Ev} {G : Gw} {d : Nat} {post : Mem → Prop} (X : Cx E G b_Mod_goFeast "WomenByTheRoofsModel" 3 d none) (hD : 2 ≤ d)  (v1 : Int32)   (s : Int32 × Mem) (o : (Int32 × Mem) ⊕ ((Mem))) (h : lb_Mod_goFeast_10 v1 s = some o) (kc : ∀ s9 : Int32 × Mem, o = .inl s9 → V E (0, 0) G 3 (QV E G post) s9.2 10 [(0, .ref (G.2.2 + 162)), (1, .int v1), (2, .int s9.1)] []) (kx0 : ∀ x9 : Mem, o = .inr x9 → V E (0, 0) G 3 (QV E G post) x9 74 [] []) : V E (0, 0) G 3 (QV E G post) s.2 10 [(0, .ref (G.2.2 + 162)), (1, .int v1), (2, .int s.1)] [] := by
  unfold lb_Mod_goFeast_10 at h
  refine V_iload_n (n := 2) X d_Mod_goFeast_10 rfl rfl rfl ?_
  refine V_aload_n (n := 0) X d_Mod_goFeast_11 rfl rfl rfl ?_
  refine V_geti X fo_Mod_123 kd_162 rfl d_Mod_goFeast_12 rfl ?_
  refine V_icmp_ge (tgt := 74) X d_Mod_goFeast_15 (by decide) rfl (fun c9 => ?_) (fun c9 => ?_)
  · rw [if_pos c9] at h
    refine V_sub (lv' := []) [] rfl ?_
    exact kx0 s.2 (Option.some.inj h).symm
  · rw [if_neg c9] at h
    refine V_aload_n (n := 0) X d_Mod_goFeast_18 rfl rfl rfl ?_
    refine V_geti X fo_Mod_130 kd_162 rfl d_Mod_goFeast_19 rfl ?_
    refine V_iload_n (n := 2) X d_Mod_goFeast_22 rfl rfl rfl ?_
    obtain ⟨x2, hx2, h⟩ := ob_s h
    refine V_si (As := [.int (s.2.1 162 5), .int s.1]) X (Z0 E) ml_Mod_133 yq_Mod_has (c_Mod_has E.2.1 G (s.2.1 162 5) s.1 s.2 x2 hx2 _ (Nat.le_refl _)) rfl (by omega) rfl (Nat.le_of_ble_eq_true rfl) d_Mod_goFeast_23 rfl (fun r9 M9 hq => ?_)
    rw [hq.1, hq.2]
    refine V_if_eq (tgt := 68) X d_Mod_goFeast_26 (by decide) rfl (fun c8 => ?_) (fun c8 => ?_)
    · rw [if_pos c8] at h
      refine V_iinc (n := 2) (v := (s.1 + (1 : Int32))) (lv' := [(2, .int (s.1 + (1 : Int32))), (0, .ref (G.2.2 + 162)), (1, .int v1)]) X d_Mod_goFeast_68 rfl rfl (by decide) rfl rfl ?_
      refine V_goto (pc' := 10) X d_Mod_goFeast_71 (by decide) ?_
      refine V_sub (lv' := [(0, .ref (G.2.2 + 162)), (1, .int v1), (2, .int (s.1 + (1 : Int32)))]) [1, 2, 0] rfl ?_
      exact kc ((s.1 + (1 : Int32)), s.2) (Option.some.inj h).symm
    · rw [if_neg c8] at h
      refine V_aload_n (n := 0) X d_Mod_goFeast_29 rfl rfl rfl ?_
      refine V_getr (k2 := 164) X fo_Mod_13 kd_162 rfl rf_162_1 d_Mod_goFeast_30 rfl ?_
      refine V_aload_n (n := 0) X d_Mod_goFeast_33 rfl rfl rfl ?_
      refine V_getr (k2 := 163) X fo_Mod_9 kd_162 rfl rf_162_0 d_Mod_goFeast_34 rfl ?_
      refine V_iload_n (n := 2) X d_Mod_goFeast_37 rfl rfl rfl ?_
      obtain ⟨hb, h⟩ := ifn h
      refine V_iald X kd_163 (inb_in ln_163 hb) d_Mod_goFeast_38 rfl ?_
      obtain ⟨x3, hx3, h⟩ := ob_s h
      refine V_si (As := [.int (s.2.1 163 s.1.toNatClampNeg)]) X (Z0 E) ml_Mod_147 yq_Mod_cellOf (c_Mod_cellOf E.2.1 G (s.2.1 163 s.1.toNatClampNeg) s.2 x3 hx3 _ (Nat.le_refl _)) rfl (by omega) rfl (Nat.le_of_ble_eq_true rfl) d_Mod_goFeast_39 rfl (fun r9 M9 hq => ?_)
      rw [hq.1, hq.2]
      obtain ⟨hb, h⟩ := ifn h
      refine V_iald X kd_164 (inb_in ln_164 hb) d_Mod_goFeast_42 rfl ?_
      refine V_iconst (v := 3) X d_Mod_goFeast_43 (by decide) rfl ?_
      refine V_icmp_ne (tgt := 68) X d_Mod_goFeast_44 (by decide) rfl (fun c7 => ?_) (fun c7 => ?_)
      · rw [if_neg c7] at h
        refine V_iinc (n := 2) (v := (s.1 + (1 : Int32))) (lv' := [(2, .int (s.1 + (1 : Int32))), (0, .ref (G.2.2 + 162)), (1, .int v1)]) X d_Mod_goFeast_68 rfl rfl (by decide) rfl rfl ?_
        refine V_goto (pc' := 10) X d_Mod_goFeast_71 (by decide) ?_
        refine V_sub (lv' := [(0, .ref (G.2.2 + 162)), (1, .int v1), (2, .int (s.1 + (1 : Int32)))]) [1, 2, 0] rfl ?_
        exact kc ((s.1 + (1 : Int32)), s.2) (Option.some.inj h).symm
      · rw [if_pos c7] at h
        refine V_aload_n (n := 0) X d_Mod_goFeast_47 rfl rfl rfl ?_
        refine V_getr (k2 := 163) X fo_Mod_9 kd_162 rfl rf_162_0 d_Mod_goFeast_48 rfl ?_
        refine V_iload_n (n := 2) X d_Mod_goFeast_51 rfl rfl rfl ?_
        refine V_iconst (v := 1) X d_Mod_goFeast_52 (by decide) rfl ?_
        refine V_iload_n (n := 1) X d_Mod_goFeast_53 rfl rfl rfl ?_
        refine V_isub X d_Mod_goFeast_54 rfl ?_
        refine V_aload_n (n := 0) X d_Mod_goFeast_55 rfl rfl rfl ?_
        refine V_getr (k2 := 163) X fo_Mod_9 kd_162 rfl rf_162_0 d_Mod_goFeast_56 rfl ?_
        refine V_iload_n (n := 2) X d_Mod_goFeast_59 rfl rfl rfl ?_
        obtain ⟨hb, h⟩ := ifn h
        refine V_iald X kd_163 (inb_in ln_163 hb) d_Mod_goFeast_60 rfl ?_
        obtain ⟨x4, hx4, h⟩ := ob_s h
        refine V_si (As := [.int (s.2.1 163 s.1.toNatClampNeg)]) X (Z0 E) ml_Mod_147 yq_Mod_cellOf (c_Mod_cellOf E.2.1 G (s.2.1 163 s.1.toNatClampNeg) s.2 x4 hx4 _ (Nat.le_refl _)) rfl (by omega) rfl (Nat.le_of_ble_eq_true rfl) d_Mod_goFeast_61 rfl (fun r9 M9 hq => ?_)
        rw [hq.1, hq.2]
        obtain ⟨x5, hx5, h⟩ := ob_s h
        refine V_si (As := [.int ((1 : Int32) - v1), .int x4]) X (Z0 E) ml_Mod_154 yq_Mod_placeOf (c_Mod_placeOf E.2.1 G ((1 : Int32) - v1) x4 s.2 x5 hx5 _ (Nat.le_refl _)) rfl (by omega) rfl (Nat.le_of_ble_eq_true rfl) d_Mod_goFeast_64 rfl (fun r9 M9 hq => ?_)
        rw [hq.1, hq.2]
        obtain ⟨hb, h⟩ := ifn h
        obtain ⟨M6, eM6, h⟩ := memS h
        refine V_iast X kd_163 (inb_in ln_163 hb) d_Mod_goFeast_67 rfl ?_
        rw [← eM6]
        refine V_iinc (n := 2) (v := (s.1 + (1 : Int32))) (lv' := [(2, .int (s.1 + (1 : Int32))), (0, .ref (G.2.2 + 162)), (1, .int v1)]) X d_Mod_goFeast_68 rfl rfl (by decide) rfl rfl ?_
        refine V_goto (pc' := 10) X d_Mod_goFeast_71 (by decide) ?_
        refine V_sub (lv' := [(0, .ref (G.2.2 + 162)), (1, .int v1), (2, .int (s.1 + (1 : Int32)))]) [1, 2, 0] rfl ?_
        exact kc ((s.1 + (1 : Int32)), M6) (Option.some.inj h).symm
theorem lp_Mod_goFeast_10_ok {E : Ev} {G : Gw} {d : Nat} {post : Mem → Prop} (X : Cx E G b_Mod_goFeast "WomenByTheRoofsModel" 3 d none) (hD : 2 ≤ d)  (v1 : Int32)   (n9 : Nat) (s : Int32 × Mem) (x : (Mem)) (h : iter (lb_Mod_goFeast_10 v1) n9 s = some x) (kx0 : ∀ x9 : Mem, x = x9 → V E (0, 0) G 3 (QV E G post) x9 74 [] []) : V E (0, 0) G 3 (QV E G post) s.2 10 [(0, .ref (G.2.2 + 162)), (1, .int v1), (2, .int s.1)] [] :=
  iter_P (P := fun s : Int32 × Mem => V E (0, 0) G 3 (QV E G post) s.2 10 [(0, .ref (G.2.2 + 162)), (1, .int v1), (2, .int s.1)] []) (fun s o hb kc ky => lb_Mod_goFeast_10_ok X hD v1 s o hb kc (fun x9 e9 => kx0 x9 (ky _ e9).symm)) n9 s h
def f_Mod_goFeast (v1 : Int32) (M : Mem) : Option (Mem) :=
  mem_ (s_i M 163 (94 : Int32).toNatClampNeg v1) fun M1 =>
  Option.bind (iter (lb_Mod_goFeast_10 v1) FU ((0 : Int32), M1)) fun x10 =>
  some x10
theorem c_Mod_goFeast (l : Launch) (G : Gw)  (v1 : Int32) (M : Mem) (x : Mem) (h : f_Mod_goFeast v1 M = some x) (d : Nat) (hD : 2 ≤ d) : Cv l G y_Mod_goFeast b_Mod_goFeast 3 none d [.ref (G.2.2 + 162), .int v1] M (fun M9 => M9 = x) := by
  refine Cv_of (by decide) (Nat.le_of_ble_eq_true rfl) (fun E hE X => ?_)
  subst hE
  have kr : ∀ x9 : Mem, x = x9 → (fun M9 => M9 = x) x9 := fun x9 e9 => by subst e9; exact rfl
  unfold f_Mod_goFeast at h
  refine V_aload_n (n := 0) X d_Mod_goFeast_0 rfl rfl rfl ?_
  refine V_getr (k2 := 163) X fo_Mod_9 kd_162 rfl rf_162_0 d_Mod_goFeast_1 rfl ?_
  refine V_bipush (v := 94) X d_Mod_goFeast_4 (by decide) rfl ?_
  refine V_iload_n (n := 1) X d_Mod_goFeast_6 rfl rfl rfl ?_
  obtain ⟨M1, eM1, h⟩ := memS h
  refine V_iast X kd_163 (inb_in ln_163 (by decide)) d_Mod_goFeast_7 rfl ?_
  rw [← eM1]
  refine V_iconst (v := 0) X d_Mod_goFeast_8 (by decide) rfl ?_
  refine V_istore_n (lv' := [(2, .int (0 : Int32)), (0, .ref (G.2.2 + 162)), (1, .int v1)]) X d_Mod_goFeast_9 rfl (by decide) rfl rfl ?_
  refine V_sub (lv' := [(0, .ref (G.2.2 + 162)), (1, .int v1), (2, .int (0 : Int32))]) [1, 2, 0] rfl ?_
  obtain ⟨x10, hx10, h⟩ := ob_s h
  refine (lp_Mod_goFeast_10_ok X hD v1 _ _ _ hx10 (fun x9 e9 => ?_) :)
  subst e9
  exact V_vret X (kr x10 (Option.some.inj h).symm) d_Mod_goFeast_74
def f_Mod_feast (v1 : Int32) (M : Mem) : Option (Int32 × Mem) :=
  mem_ (s_i M 162 13 (0 : Int32)) fun M1 =>
  Option.bind (f_Mod_canFeast v1 M1) fun x2 =>
  if x2 = 0 then
  some ((-1 : Int32), M1)
  else
  Option.bind (f_Mod_remember 163 M1) fun x3 =>
  Option.bind (f_Mod_goFeast v1 x3) fun x4 =>
  Option.bind (f_Mod_womenBelow x4) fun x5 =>
  some (x5, x4)
theorem c_Mod_feast (l : Launch) (G : Gw)  (v1 : Int32) (M : Mem) (x : Int32 × Mem) (h : f_Mod_feast v1 M = some x) (d : Nat) (hD : 3 ≤ d) : Ci l G y_Mod_feast b_Mod_feast 2 (some .int) d [.ref (G.2.2 + 162), .int v1] M (fun r9 M9 => r9 = x.1 ∧ M9 = x.2) := by
  refine Ci_of (by decide) (Nat.le_of_ble_eq_true rfl) (fun E hE X => ?_)
  subst hE
  have kr : ∀ x9 : Int32 × Mem, x = x9 → (fun r9 M9 => r9 = x.1 ∧ M9 = x.2) x9.1 x9.2 := fun x9 e9 => by subst e9; exact ⟨rfl, rfl⟩
  unfold f_Mod_feast at h
  refine V_aload_n (n := 0) X d_Mod_feast_0 rfl rfl rfl ?_
  refine V_iconst (v := 0) X d_Mod_feast_1 (by decide) rfl ?_
  obtain ⟨M1, eM1, h⟩ := memS h
  refine V_putI X fp_Mod_109 kd_162 rfl d_Mod_feast_2 rfl ?_
  rw [← eM1]
  refine V_aload_n (n := 0) X d_Mod_feast_5 rfl rfl rfl ?_
  refine V_iload_n (n := 1) X d_Mod_feast_6 rfl rfl rfl ?_
  obtain ⟨x2, hx2, h⟩ := ob_s h
  refine V_ci (As := [.int v1]) X (Z0 E) ml_Mod_315 yq_Mod_canFeast (c_Mod_canFeast E.2.1 G v1 M1 x2 hx2 _ (Nat.le_refl _)) kd_162 rfl rfl (by omega) rfl (Nat.le_of_ble_eq_true rfl) d_Mod_feast_7 rfl (fun r9 M9 hq => ?_)
  rw [hq.1, hq.2]
  refine V_if_ne (tgt := 15) X d_Mod_feast_10 (by decide) rfl (fun c6 => ?_) (fun c6 => ?_)
  · rw [if_neg c6] at h
    refine V_aload_n (n := 0) X d_Mod_feast_15 rfl rfl rfl ?_
    refine V_aload_n (n := 0) X d_Mod_feast_16 rfl rfl rfl ?_
    refine V_getr (k2 := 163) X fo_Mod_9 kd_162 rfl rf_162_0 d_Mod_feast_17 rfl ?_
    obtain ⟨x3, hx3, h⟩ := ob_s h
    refine V_cv (As := [.ref (G.2.2 + 163)]) X (Z0 E) ml_Mod_293 yq_Mod_remember (c_Mod_remember E.2.1 G 163 M1 x3 hx3 _ (Nat.le_refl _)) kd_162 rfl rfl (by omega) rfl (Nat.le_of_ble_eq_true rfl) d_Mod_feast_20 rfl (fun M9 hq => ?_)
    rw [hq]
    refine V_aload_n (n := 0) X d_Mod_feast_23 rfl rfl rfl ?_
    refine V_iload_n (n := 1) X d_Mod_feast_24 rfl rfl rfl ?_
    obtain ⟨x4, hx4, h⟩ := ob_s h
    refine V_cv (As := [.int v1]) X (Z0 E) ml_Mod_318 yq_Mod_goFeast (c_Mod_goFeast E.2.1 G v1 x3 x4 hx4 _ (Nat.le_refl _)) kd_162 rfl rfl (by omega) rfl (Nat.le_of_ble_eq_true rfl) d_Mod_feast_25 rfl (fun M9 hq => ?_)
    rw [hq]
    refine V_aload_n (n := 0) X d_Mod_feast_28 rfl rfl rfl ?_
    obtain ⟨x5, hx5, h⟩ := ob_s h
    refine V_ci (As := []) X (Z0 E) ml_Mod_321 yq_Mod_womenBelow (c_Mod_womenBelow E.2.1 G  x4 x5 hx5 _ (Nat.le_refl _)) kd_162 rfl rfl (by omega) rfl (Nat.le_of_ble_eq_true rfl) d_Mod_feast_29 rfl (fun r9 M9 hq => ?_)
    rw [hq.1, hq.2]
    exact V_iret X (kr (x5, x4) (Option.some.inj h).symm) d_Mod_feast_32
  · rw [if_pos c6] at h
    refine V_iconst (v := -1) X d_Mod_feast_13 (by decide) rfl ?_
    exact V_iret X (kr ((-1 : Int32), M1) (Option.some.inj h).symm) d_Mod_feast_14
def f_Mod_areMeeting (v1 : Nat) (v2 : Int32) (v3 : Int32) (M : Mem) : Option (Int32) :=
  if kd v1 = 1 then
  if inb v2 (ln v1) = true then
  Option.bind (f_Mod_cellOf (M.1 v1 v2.toNatClampNeg)) fun x1 =>
  if inb v3 (ln v1) = true then
  Option.bind (f_Mod_cellOf (M.1 v1 v3.toNatClampNeg)) fun x2 =>
  if x1 = x2 then
  if inb v2 (ln v1) = true then
  Option.bind (f_Mod_cellOf (M.1 v1 v2.toNatClampNeg)) fun x3 =>
  if inb x3 36 = true then
  if (M.1 164 x3.toNatClampNeg) = (3 : Int32) then
  some (1 : Int32)
  else
  some (0 : Int32)
  else none
  else none
  else
  some (0 : Int32)
  else none
  else none
  else none
theorem c_Mod_areMeeting (l : Launch) (G : Gw)  (v1 : Nat) (v2 : Int32) (v3 : Int32) (M : Mem) (x : Int32) (h : f_Mod_areMeeting v1 v2 v3 M = some x) (d : Nat) (hD : 2 ≤ d) : Ci l G y_Mod_areMeeting b_Mod_areMeeting 4 (some .boolean) d [.ref (G.2.2 + 162), .ref (G.2.2 + v1), .int v2, .int v3] M (fun r9 M9 => r9 = x ∧ M9 = M) := by
  refine Ci_of (by decide) (Nat.le_of_ble_eq_true rfl) (fun E hE X => ?_)
  subst hE
  have kr : ∀ x9 : Int32, x = x9 → (fun r9 M9 => r9 = x ∧ M9 = M) x9 M := fun x9 e9 => by subst e9; exact ⟨rfl, rfl⟩
  unfold f_Mod_areMeeting at h
  obtain ⟨hk_v1, h⟩ := ifn h
  refine V_aload_n (n := 1) X d_Mod_areMeeting_0 rfl rfl rfl ?_
  refine V_iload_n (n := 2) X d_Mod_areMeeting_1 rfl rfl rfl ?_
  obtain ⟨hb, h⟩ := ifn h
  refine V_iald X hk_v1 (inb_in rfl hb) d_Mod_areMeeting_2 rfl ?_
  obtain ⟨x1, hx1, h⟩ := ob_s h
  refine V_si (As := [.int (M.1 v1 v2.toNatClampNeg)]) X (Z0 E) ml_Mod_147 yq_Mod_cellOf (c_Mod_cellOf E.2.1 G (M.1 v1 v2.toNatClampNeg) M x1 hx1 _ (Nat.le_refl _)) rfl (by omega) rfl (Nat.le_of_ble_eq_true rfl) d_Mod_areMeeting_3 rfl (fun r9 M9 hq => ?_)
  rw [hq.1, hq.2]
  refine V_aload_n (n := 1) X d_Mod_areMeeting_6 rfl rfl rfl ?_
  refine V_iload_n (n := 3) X d_Mod_areMeeting_7 rfl rfl rfl ?_
  obtain ⟨hb, h⟩ := ifn h
  refine V_iald X hk_v1 (inb_in rfl hb) d_Mod_areMeeting_8 rfl ?_
  obtain ⟨x2, hx2, h⟩ := ob_s h
  refine V_si (As := [.int (M.1 v1 v3.toNatClampNeg)]) X (Z0 E) ml_Mod_147 yq_Mod_cellOf (c_Mod_cellOf E.2.1 G (M.1 v1 v3.toNatClampNeg) M x2 hx2 _ (Nat.le_refl _)) rfl (by omega) rfl (Nat.le_of_ble_eq_true rfl) d_Mod_areMeeting_9 rfl (fun r9 M9 hq => ?_)
  rw [hq.1, hq.2]
  refine V_icmp_ne (tgt := 34) X d_Mod_areMeeting_12 (by decide) rfl (fun c5 => ?_) (fun c5 => ?_)
  · rw [if_neg c5] at h
    refine V_iconst (v := 0) X d_Mod_areMeeting_34 (by decide) rfl ?_
    exact V_zret X (kr (0 : Int32) (Option.some.inj h).symm) (by decide) d_Mod_areMeeting_35
  · rw [if_pos c5] at h
    refine V_aload_n (n := 0) X d_Mod_areMeeting_15 rfl rfl rfl ?_
    refine V_getr (k2 := 164) X fo_Mod_13 kd_162 rfl rf_162_1 d_Mod_areMeeting_16 rfl ?_
    refine V_aload_n (n := 1) X d_Mod_areMeeting_19 rfl rfl rfl ?_
    refine V_iload_n (n := 2) X d_Mod_areMeeting_20 rfl rfl rfl ?_
    obtain ⟨hb, h⟩ := ifn h
    refine V_iald X hk_v1 (inb_in rfl hb) d_Mod_areMeeting_21 rfl ?_
    obtain ⟨x3, hx3, h⟩ := ob_s h
    refine V_si (As := [.int (M.1 v1 v2.toNatClampNeg)]) X (Z0 E) ml_Mod_147 yq_Mod_cellOf (c_Mod_cellOf E.2.1 G (M.1 v1 v2.toNatClampNeg) M x3 hx3 _ (Nat.le_refl _)) rfl (by omega) rfl (Nat.le_of_ble_eq_true rfl) d_Mod_areMeeting_22 rfl (fun r9 M9 hq => ?_)
    rw [hq.1, hq.2]
    obtain ⟨hb, h⟩ := ifn h
    refine V_iald X kd_164 (inb_in ln_164 hb) d_Mod_areMeeting_25 rfl ?_
    refine V_iconst (v := 3) X d_Mod_areMeeting_26 (by decide) rfl ?_
    refine V_icmp_ne (tgt := 34) X d_Mod_areMeeting_27 (by decide) rfl (fun c4 => ?_) (fun c4 => ?_)
    · rw [if_neg c4] at h
      refine V_iconst (v := 0) X d_Mod_areMeeting_34 (by decide) rfl ?_
      exact V_zret X (kr (0 : Int32) (Option.some.inj h).symm) (by decide) d_Mod_areMeeting_35
    · rw [if_pos c4] at h
      refine V_iconst (v := 1) X d_Mod_areMeeting_30 (by decide) rfl ?_
      refine V_goto (pc' := 35) X d_Mod_areMeeting_31 (by decide) ?_
      exact V_zret X (kr (1 : Int32) (Option.some.inj h).symm) (by decide) d_Mod_areMeeting_35
def lb_Mod_hears_64 (v1 : Nat) (v4 : Int32) (M : Mem) (s : Int32 × Int32) : Option ((Int32 × Int32) ⊕ ((Int32))) :=
  if (4 : Int32) ≤ s.2 then
  some (.inr s.1)
  else
  Option.bind (f_Mod_beside v4 s.2 M) fun x4 =>
  if x4 = (-1 : Int32) then
  some (.inl (s.1, (s.2 + (1 : Int32))))
  else
  Option.bind (f_Mod_beside v4 s.2 M) fun x5 =>
  Option.bind (f_Mod_onPlace v1 x5 M) fun x6 =>
  some (.inl ((s.1 ||| x6), (s.2 + (1 : Int32))))
theorem lb_Mod_hears_64_ok {E : Ev} {G : Gw} {d : Nat} {post : Int32 → Mem → Prop} (X : Cx E G b_Mod_hears "WomenByTheRoofsModel" 6 d (some .int)) (hD : 3 ≤ d)  (v1 : Nat) (v4 : Int32) (hk_v1 : kd v1 = 1) (M : Mem) (s : Int32 × Int32) (o : (Int32 × Int32) ⊕ ((Int32))) (h : lb_Mod_hears_64 v1 v4 M s = some o) (kc : ∀ s9 : Int32 × Int32, o = .inl s9 → V E (0, 0) G 6 (QI E G post) M 64 [(0, .ref (G.2.2 + 162)), (1, .ref (G.2.2 + v1)), (3, .int s9.1), (4, .int v4), (5, .int s9.2)] []) (kx0 : ∀ x9 : Int32, o = .inr x9 → V E (0, 0) G 6 (QI E G post) M 104 [(3, .int x9)] []) : V E (0, 0) G 6 (QI E G post) M 64 [(0, .ref (G.2.2 + 162)), (1, .ref (G.2.2 + v1)), (3, .int s.1), (4, .int v4), (5, .int s.2)] [] := by
  unfold lb_Mod_hears_64 at h
  refine V_iload (n := 4) X d_Mod_hears_64 rfl rfl ?_
  refine V_iconst (v := 4) X d_Mod_hears_66 (by decide) rfl ?_
  refine V_icmp_ge (tgt := 104) X d_Mod_hears_67 (by decide) rfl (fun c8 => ?_) (fun c8 => ?_)
  · rw [if_pos c8] at h
    refine V_sub (lv' := [(3, .int s.1)]) [2] rfl ?_
    exact kx0 s.1 (Option.some.inj h).symm
  · rw [if_neg c8] at h
    refine V_aload_n (n := 0) X d_Mod_hears_70 rfl rfl rfl ?_
    refine V_iload (n := 3) X d_Mod_hears_71 rfl rfl ?_
    refine V_iload (n := 4) X d_Mod_hears_73 rfl rfl ?_
    obtain ⟨x4, hx4, h⟩ := ob_s h
    refine V_ci (As := [.int v4, .int s.2]) X (Z0 E) ml_Mod_150 yq_Mod_beside (c_Mod_beside E.2.1 G v4 s.2 M x4 hx4 _ (Nat.le_refl _)) kd_162 rfl rfl (by omega) rfl (Nat.le_of_ble_eq_true rfl) d_Mod_hears_75 rfl (fun r9 M9 hq => ?_)
    rw [hq.1, hq.2]
    refine V_iconst (v := -1) X d_Mod_hears_78 (by decide) rfl ?_
    refine V_icmp_eq (tgt := 98) X d_Mod_hears_79 (by decide) rfl (fun c7 => ?_) (fun c7 => ?_)
    · rw [if_pos c7] at h
      refine V_iinc (n := 4) (v := (s.2 + (1 : Int32))) (lv' := [(5, .int (s.2 + (1 : Int32))), (0, .ref (G.2.2 + 162)), (1, .ref (G.2.2 + v1)), (3, .int s.1), (4, .int v4)]) X d_Mod_hears_98 rfl rfl (by decide) rfl rfl ?_
      refine V_goto (pc' := 64) X d_Mod_hears_101 (by decide) ?_
      refine V_sub (lv' := [(0, .ref (G.2.2 + 162)), (1, .ref (G.2.2 + v1)), (3, .int s.1), (4, .int v4), (5, .int (s.2 + (1 : Int32)))]) [1, 2, 3, 4, 0] rfl ?_
      exact kc (s.1, (s.2 + (1 : Int32))) (Option.some.inj h).symm
    · rw [if_neg c7] at h
      refine V_iload_n (n := 2) X d_Mod_hears_82 rfl rfl rfl ?_
      refine V_aload_n (n := 0) X d_Mod_hears_83 rfl rfl rfl ?_
      refine V_aload_n (n := 1) X d_Mod_hears_84 rfl rfl rfl ?_
      refine V_aload_n (n := 0) X d_Mod_hears_85 rfl rfl rfl ?_
      refine V_iload (n := 3) X d_Mod_hears_86 rfl rfl ?_
      refine V_iload (n := 4) X d_Mod_hears_88 rfl rfl ?_
      obtain ⟨x5, hx5, h⟩ := ob_s h
      refine V_ci (As := [.int v4, .int s.2]) X (Z0 E) ml_Mod_150 yq_Mod_beside (c_Mod_beside E.2.1 G v4 s.2 M x5 hx5 _ (Nat.le_refl _)) kd_162 rfl rfl (by omega) rfl (Nat.le_of_ble_eq_true rfl) d_Mod_hears_90 rfl (fun r9 M9 hq => ?_)
      rw [hq.1, hq.2]
      obtain ⟨x6, hx6, h⟩ := ob_s h
      refine V_ci (As := [.ref (G.2.2 + v1), .int x5]) X (Z0 E) ml_Mod_259 yq_Mod_onPlace (c_Mod_onPlace E.2.1 G v1 x5 M x6 hx6 _ (Nat.le_refl _)) kd_162 rfl rfl (by omega) rfl (Nat.le_of_ble_eq_true rfl) d_Mod_hears_93 rfl (fun r9 M9 hq => ?_)
      rw [hq.1, hq.2]
      refine V_ior X d_Mod_hears_96 rfl ?_
      refine V_istore_n (lv' := [(3, .int (s.1 ||| x6)), (0, .ref (G.2.2 + 162)), (1, .ref (G.2.2 + v1)), (4, .int v4), (5, .int s.2)]) X d_Mod_hears_97 rfl (by decide) rfl rfl ?_
      refine V_iinc (n := 4) (v := (s.2 + (1 : Int32))) (lv' := [(5, .int (s.2 + (1 : Int32))), (3, .int (s.1 ||| x6)), (0, .ref (G.2.2 + 162)), (1, .ref (G.2.2 + v1)), (4, .int v4)]) X d_Mod_hears_98 rfl rfl (by decide) rfl rfl ?_
      refine V_goto (pc' := 64) X d_Mod_hears_101 (by decide) ?_
      refine V_sub (lv' := [(0, .ref (G.2.2 + 162)), (1, .ref (G.2.2 + v1)), (3, .int (s.1 ||| x6)), (4, .int v4), (5, .int (s.2 + (1 : Int32)))]) [2, 3, 1, 4, 0] rfl ?_
      exact kc ((s.1 ||| x6), (s.2 + (1 : Int32))) (Option.some.inj h).symm
theorem lp_Mod_hears_64_ok {E : Ev} {G : Gw} {d : Nat} {post : Int32 → Mem → Prop} (X : Cx E G b_Mod_hears "WomenByTheRoofsModel" 6 d (some .int)) (hD : 3 ≤ d)  (v1 : Nat) (v4 : Int32) (hk_v1 : kd v1 = 1) (M : Mem) (n9 : Nat) (s : Int32 × Int32) (x : (Int32)) (h : iter (lb_Mod_hears_64 v1 v4 M) n9 s = some x) (kx0 : ∀ x9 : Int32, x = x9 → V E (0, 0) G 6 (QI E G post) M 104 [(3, .int x9)] []) : V E (0, 0) G 6 (QI E G post) M 64 [(0, .ref (G.2.2 + 162)), (1, .ref (G.2.2 + v1)), (3, .int s.1), (4, .int v4), (5, .int s.2)] [] :=
  iter_P (P := fun s : Int32 × Int32 => V E (0, 0) G 6 (QI E G post) M 64 [(0, .ref (G.2.2 + 162)), (1, .ref (G.2.2 + v1)), (3, .int s.1), (4, .int v4), (5, .int s.2)] []) (fun s o hb kc ky => lb_Mod_hears_64_ok X hD v1 v4 hk_v1 M s o hb kc (fun x9 e9 => kx0 x9 (ky _ e9).symm)) n9 s h
def j_Mod_hears_50 (v1 : Nat) (v2 : Int32) (v3 : Int32) (v4 : Int32) (M : Mem) : Option (Int32) :=
  if inb v2 (ln v1) = true then
  Option.bind (f_Mod_levelOf (M.1 v1 v2.toNatClampNeg)) fun x3 =>
  if x3 = 0 then
  some v3
  else
  Option.bind (iter (lb_Mod_hears_64 v1 v4 M) FU (v3, (0 : Int32))) fun x9 =>
  some x9
  else none
theorem j_Mod_hears_50_ok {E : Ev} {G : Gw} {d : Nat} {post : Int32 → Mem → Prop} (X : Cx E G b_Mod_hears "WomenByTheRoofsModel" 6 d (some .int)) (hD : 3 ≤ d)  (v1 : Nat) (v2 : Int32) (v3 : Int32) (v4 : Int32) (hk_v1 : kd v1 = 1)  (M : Mem)  (o : Int32) (h : j_Mod_hears_50 v1 v2 v3 v4 M = some o) (kr : ∀ x9 : Int32, o = x9 → post x9 M) : V E (0, 0) G 6 (QI E G post) M 50 [(0, .ref (G.2.2 + 162)), (1, .ref (G.2.2 + v1)), (2, .int v2), (3, .int v3), (4, .int v4)] [] := by
  unfold j_Mod_hears_50 at h
  refine V_aload_n (n := 1) X d_Mod_hears_50 rfl rfl rfl ?_
  refine V_iload_n (n := 2) X d_Mod_hears_51 rfl rfl rfl ?_
  obtain ⟨hb, h⟩ := ifn h
  refine V_iald X hk_v1 (inb_in rfl hb) d_Mod_hears_52 rfl ?_
  obtain ⟨x3, hx3, h⟩ := ob_s h
  refine V_si (As := [.int (M.1 v1 v2.toNatClampNeg)]) X (Z0 E) ml_Mod_143 yq_Mod_levelOf (c_Mod_levelOf E.2.1 G (M.1 v1 v2.toNatClampNeg) M x3 hx3 _ (Nat.le_refl _)) rfl (by omega) rfl (Nat.le_of_ble_eq_true rfl) d_Mod_hears_53 rfl (fun r9 M9 hq => ?_)
  rw [hq.1, hq.2]
  refine V_if_ne (tgt := 61) X d_Mod_hears_56 (by decide) rfl (fun c10 => ?_) (fun c10 => ?_)
  · rw [if_neg c10] at h
    refine V_iconst (v := 0) X d_Mod_hears_61 (by decide) rfl ?_
    refine V_istore (lv' := [(5, .int (0 : Int32)), (0, .ref (G.2.2 + 162)), (1, .ref (G.2.2 + v1)), (2, .int v2), (3, .int v3), (4, .int v4)]) X d_Mod_hears_62 (by decide) rfl rfl ?_
    refine V_sub (lv' := [(0, .ref (G.2.2 + 162)), (1, .ref (G.2.2 + v1)), (3, .int v3), (4, .int v4), (5, .int (0 : Int32))]) [1, 2, 4, 5, 0] rfl ?_
    obtain ⟨x9, hx9, h⟩ := ob_s h
    refine (lp_Mod_hears_64_ok X hD v1 v4 hk_v1 M _ _ _ hx9 (fun x9 e9 => ?_) :)
    subst e9
    refine V_iload_n (n := 0) X d_Mod_hears_104 rfl rfl rfl ?_
    exact V_iret X (kr x9 (Option.some.inj h).symm) d_Mod_hears_105
  · rw [if_pos c10] at h
    refine V_iload_n (n := 3) X d_Mod_hears_59 rfl rfl rfl ?_
    exact V_iret X (kr v3 (Option.some.inj h).symm) d_Mod_hears_60
def f_Mod_hears (v1 : Nat) (v2 : Int32) (M : Mem) : Option (Int32) :=
  if kd v1 = 1 then
  if inb v2 (ln v1) = true then
  Option.bind (f_Mod_onPlace v1 (M.1 v1 v2.toNatClampNeg) M) fun x1 =>
  if inb v2 (ln v1) = true then
  Option.bind (f_Mod_cellOf (M.1 v1 v2.toNatClampNeg)) fun x2 =>
  if inb x2 36 = true then
  if (M.1 164 x2.toNatClampNeg) = (3 : Int32) then
  Option.bind (f_Mod_onPlace v1 x2 M) fun x11 =>
  Option.bind (f_Mod_placeOf (1 : Int32) x2) fun x12 =>
  Option.bind (f_Mod_onPlace v1 x12 M) fun x13 =>
  j_Mod_hears_50 v1 v2 (x1 ||| (x11 ||| x13)) x2 M
  else
  j_Mod_hears_50 v1 v2 x1 x2 M
  else none
  else none
  else none
  else none
theorem c_Mod_hears (l : Launch) (G : Gw)  (v1 : Nat) (v2 : Int32) (M : Mem) (x : Int32) (h : f_Mod_hears v1 v2 M = some x) (d : Nat) (hD : 3 ≤ d) : Ci l G y_Mod_hears b_Mod_hears 6 (some .int) d [.ref (G.2.2 + 162), .ref (G.2.2 + v1), .int v2] M (fun r9 M9 => r9 = x ∧ M9 = M) := by
  refine Ci_of (by decide) (Nat.le_of_ble_eq_true rfl) (fun E hE X => ?_)
  subst hE
  have kr : ∀ x9 : Int32, x = x9 → (fun r9 M9 => r9 = x ∧ M9 = M) x9 M := fun x9 e9 => by subst e9; exact ⟨rfl, rfl⟩
  unfold f_Mod_hears at h
  obtain ⟨hk_v1, h⟩ := ifn h
  refine V_aload_n (n := 0) X d_Mod_hears_0 rfl rfl rfl ?_
  refine V_aload_n (n := 1) X d_Mod_hears_1 rfl rfl rfl ?_
  refine V_aload_n (n := 1) X d_Mod_hears_2 rfl rfl rfl ?_
  refine V_iload_n (n := 2) X d_Mod_hears_3 rfl rfl rfl ?_
  obtain ⟨hb, h⟩ := ifn h
  refine V_iald X hk_v1 (inb_in rfl hb) d_Mod_hears_4 rfl ?_
  obtain ⟨x1, hx1, h⟩ := ob_s h
  refine V_ci (As := [.ref (G.2.2 + v1), .int (M.1 v1 v2.toNatClampNeg)]) X (Z0 E) ml_Mod_259 yq_Mod_onPlace (c_Mod_onPlace E.2.1 G v1 (M.1 v1 v2.toNatClampNeg) M x1 hx1 _ (Nat.le_refl _)) kd_162 rfl rfl (by omega) rfl (Nat.le_of_ble_eq_true rfl) d_Mod_hears_5 rfl (fun r9 M9 hq => ?_)
  rw [hq.1, hq.2]
  refine V_istore_n (lv' := [(3, .int x1), (0, .ref (G.2.2 + 162)), (1, .ref (G.2.2 + v1)), (2, .int v2)]) X d_Mod_hears_8 rfl (by decide) rfl rfl ?_
  refine V_aload_n (n := 2) X d_Mod_hears_9 rfl rfl rfl ?_
  refine V_iload_n (n := 3) X d_Mod_hears_10 rfl rfl rfl ?_
  obtain ⟨hb, h⟩ := ifn h
  refine V_iald X hk_v1 (inb_in rfl hb) d_Mod_hears_11 rfl ?_
  obtain ⟨x2, hx2, h⟩ := ob_s h
  refine V_si (As := [.int (M.1 v1 v2.toNatClampNeg)]) X (Z0 E) ml_Mod_147 yq_Mod_cellOf (c_Mod_cellOf E.2.1 G (M.1 v1 v2.toNatClampNeg) M x2 hx2 _ (Nat.le_refl _)) rfl (by omega) rfl (Nat.le_of_ble_eq_true rfl) d_Mod_hears_12 rfl (fun r9 M9 hq => ?_)
  rw [hq.1, hq.2]
  refine V_istore (lv' := [(4, .int x2), (3, .int x1), (0, .ref (G.2.2 + 162)), (1, .ref (G.2.2 + v1)), (2, .int v2)]) X d_Mod_hears_15 (by decide) rfl rfl ?_
  refine V_aload_n (n := 2) X d_Mod_hears_17 rfl rfl rfl ?_
  refine V_getr (k2 := 164) X fo_Mod_13 kd_162 rfl rf_162_1 d_Mod_hears_18 rfl ?_
  refine V_iload (n := 0) X d_Mod_hears_21 rfl rfl ?_
  obtain ⟨hb, h⟩ := ifn h
  refine V_iald X kd_164 (inb_in ln_164 hb) d_Mod_hears_23 rfl ?_
  refine V_iconst (v := 3) X d_Mod_hears_24 (by decide) rfl ?_
  refine V_icmp_ne (tgt := 50) X d_Mod_hears_25 (by decide) rfl (fun c14 => ?_) (fun c14 => ?_)
  · rw [if_neg c14] at h
    refine V_sub (lv' := [(0, .ref (G.2.2 + 162)), (1, .ref (G.2.2 + v1)), (2, .int v2), (3, .int x1), (4, .int x2)]) [2, 3, 4, 1, 0] rfl ?_
    exact j_Mod_hears_50_ok X hD v1 v2 x1 x2 hk_v1 M _ h kr
  · rw [if_pos c14] at h
    refine V_iload_n (n := 1) X d_Mod_hears_28 rfl rfl rfl ?_
    refine V_aload_n (n := 2) X d_Mod_hears_29 rfl rfl rfl ?_
    refine V_aload_n (n := 3) X d_Mod_hears_30 rfl rfl rfl ?_
    refine V_iload (n := 0) X d_Mod_hears_31 rfl rfl ?_
    obtain ⟨x11, hx11, h⟩ := ob_s h
    refine V_ci (As := [.ref (G.2.2 + v1), .int x2]) X (Z0 E) ml_Mod_259 yq_Mod_onPlace (c_Mod_onPlace E.2.1 G v1 x2 M x11 hx11 _ (Nat.le_refl _)) kd_162 rfl rfl (by omega) rfl (Nat.le_of_ble_eq_true rfl) d_Mod_hears_33 rfl (fun r9 M9 hq => ?_)
    rw [hq.1, hq.2]
    refine V_aload_n (n := 2) X d_Mod_hears_36 rfl rfl rfl ?_
    refine V_aload_n (n := 3) X d_Mod_hears_37 rfl rfl rfl ?_
    refine V_iconst (v := 1) X d_Mod_hears_38 (by decide) rfl ?_
    refine V_iload (n := 0) X d_Mod_hears_39 rfl rfl ?_
    obtain ⟨x12, hx12, h⟩ := ob_s h
    refine V_si (As := [.int (1 : Int32), .int x2]) X (Z0 E) ml_Mod_154 yq_Mod_placeOf (c_Mod_placeOf E.2.1 G (1 : Int32) x2 M x12 hx12 _ (Nat.le_refl _)) rfl (by omega) rfl (Nat.le_of_ble_eq_true rfl) d_Mod_hears_41 rfl (fun r9 M9 hq => ?_)
    rw [hq.1, hq.2]
    obtain ⟨x13, hx13, h⟩ := ob_s h
    refine V_ci (As := [.ref (G.2.2 + v1), .int x12]) X (Z0 E) ml_Mod_259 yq_Mod_onPlace (c_Mod_onPlace E.2.1 G v1 x12 M x13 hx13 _ (Nat.le_refl _)) kd_162 rfl rfl (by omega) rfl (Nat.le_of_ble_eq_true rfl) d_Mod_hears_44 rfl (fun r9 M9 hq => ?_)
    rw [hq.1, hq.2]
    refine V_ior X d_Mod_hears_47 rfl ?_
    refine V_ior X d_Mod_hears_48 rfl ?_
    refine V_istore_n (lv' := [(3, .int (x1 ||| (x11 ||| x13))), (4, .int x2), (0, .ref (G.2.2 + 162)), (1, .ref (G.2.2 + v1)), (2, .int v2)]) X d_Mod_hears_49 rfl (by decide) rfl rfl ?_
    refine V_sub (lv' := [(0, .ref (G.2.2 + 162)), (1, .ref (G.2.2 + v1)), (2, .int v2), (3, .int (x1 ||| (x11 ||| x13))), (4, .int x2)]) [2, 3, 4, 0, 1] rfl ?_
    exact j_Mod_hears_50_ok X hD v1 v2 (x1 ||| (x11 ||| x13)) x2 hk_v1 M _ h kr
def j_Mod_goMinute_85_12 (v1 : Nat) (v2 : Int32) (M : Mem) : Option ((Int32 × Mem) ⊕ ((Mem))) :=
  if inb ((8 : Int32) + v2) (ln v1) = true then
  if inb v2 8 = true then
  if (M.1 166 v2.toNatClampNeg) = 0 then none else
  if inb ((8 : Int32) + v2) (ln v1) = true then
  mem_ (s_i M v1 ((8 : Int32) + v2).toNatClampNeg (((M.1 v1 ((8 : Int32) + v2).toNatClampNeg) + (1 : Int32)) - ((M.1 v1 ((8 : Int32) + v2).toNatClampNeg) + (1 : Int32)) / (M.1 166 v2.toNatClampNeg) * (M.1 166 v2.toNatClampNeg))) fun M5 =>
  some (.inl ((v2 + (1 : Int32)), M5))
  else none
  else none
  else none
theorem j_Mod_goMinute_85_12_ok {E : Ev} {G : Gw} {d : Nat} {post : Mem → Prop} (X : Cx E G b_Mod_goMinute "WomenByTheRoofsModel" 4 d none) (hD : 402 ≤ d)  (v1 : Nat) (v2 : Int32) (hk_v1 : kd v1 = 1)  (M : Mem)  (o : (Int32 × Mem) ⊕ ((Mem))) (h : j_Mod_goMinute_85_12 v1 v2 M = some o) (kc : ∀ s9 : Int32 × Mem, o = .inl s9 → V E (0, 0) G 4 (QV E G post) s9.2 12 [(0, .ref (G.2.2 + 162)), (1, .ref (G.2.2 + v1)), (2, .int s9.1)] []) (kx0 : ∀ x9 : Mem, o = .inr x9 → V E (0, 0) G 4 (QV E G post) x9 112 [(0, .ref (G.2.2 + 162)), (1, .ref (G.2.2 + v1))] []) : V E (0, 0) G 4 (QV E G post) M 85 [(0, .ref (G.2.2 + 162)), (1, .ref (G.2.2 + v1)), (2, .int v2)] [] := by
  unfold j_Mod_goMinute_85_12 at h
  refine V_aload_n (n := 1) X d_Mod_goMinute_85 rfl rfl rfl ?_
  refine V_bipush (v := 8) X d_Mod_goMinute_86 (by decide) rfl ?_
  refine V_iload_n (n := 2) X d_Mod_goMinute_88 rfl rfl rfl ?_
  refine V_iadd X d_Mod_goMinute_89 rfl ?_
  refine V_aload_n (n := 1) X d_Mod_goMinute_90 rfl rfl rfl ?_
  refine V_bipush (v := 8) X d_Mod_goMinute_91 (by decide) rfl ?_
  refine V_iload_n (n := 2) X d_Mod_goMinute_93 rfl rfl rfl ?_
  refine V_iadd X d_Mod_goMinute_94 rfl ?_
  obtain ⟨hb, h⟩ := ifn h
  refine V_iald X hk_v1 (inb_in rfl hb) d_Mod_goMinute_95 rfl ?_
  refine V_iconst (v := 1) X d_Mod_goMinute_96 (by decide) rfl ?_
  refine V_iadd X d_Mod_goMinute_97 rfl ?_
  refine V_aload_n (n := 0) X d_Mod_goMinute_98 rfl rfl rfl ?_
  refine V_getr (k2 := 166) X fo_Mod_26 kd_162 rfl rf_162_7 d_Mod_goMinute_99 rfl ?_
  refine V_iload_n (n := 2) X d_Mod_goMinute_102 rfl rfl rfl ?_
  obtain ⟨hb, h⟩ := ifn h
  refine V_iald X kd_166 (inb_in ln_166 hb) d_Mod_goMinute_103 rfl ?_
  obtain ⟨hq, h⟩ := ifz h
  refine V_irem X d_Mod_goMinute_104 hq rfl ?_
  obtain ⟨hb, h⟩ := ifn h
  obtain ⟨M5, eM5, h⟩ := memS h
  refine V_iast X hk_v1 (inb_in rfl hb) d_Mod_goMinute_105 rfl ?_
  rw [← eM5]
  refine V_iinc (n := 2) (v := (v2 + (1 : Int32))) (lv' := [(2, .int (v2 + (1 : Int32))), (0, .ref (G.2.2 + 162)), (1, .ref (G.2.2 + v1))]) X d_Mod_goMinute_106 rfl rfl (by decide) rfl rfl ?_
  refine V_goto (pc' := 12) X d_Mod_goMinute_109 (by decide) ?_
  refine V_sub (lv' := [(0, .ref (G.2.2 + 162)), (1, .ref (G.2.2 + v1)), (2, .int (v2 + (1 : Int32)))]) [1, 2, 0] rfl ?_
  exact kc ((v2 + (1 : Int32)), M5) (Option.some.inj h).symm
def lb_Mod_goMinute_12 (v1 : Nat) (s : Int32 × Mem) : Option ((Int32 × Mem) ⊕ ((Mem))) :=
  if (s.2.1 162 4) ≤ s.1 then
  some (.inr s.2)
  else
  Option.bind (f_Mod_goes v1 s.1 s.2) fun x3 =>
  if x3.1 = 0 then
  some (.inl ((s.1 + (1 : Int32)), x3.2))
  else
  if inb s.1 (ln v1) = true then
  if inb ((8 : Int32) + s.1) (ln v1) = true then
  if inb (((9 : Int32) * s.1) + (x3.2.1 v1 ((8 : Int32) + s.1).toNatClampNeg)) 72 = true then
  Option.bind (f_Mod_go v1 (x3.2.1 v1 s.1.toNatClampNeg) (x3.2.1 165 (((9 : Int32) * s.1) + (x3.2.1 v1 ((8 : Int32) + s.1).toNatClampNeg)).toNatClampNeg) x3.2) fun x4 =>
  if x4 = (-1 : Int32) then
  j_Mod_goMinute_85_12 v1 s.1 x3.2
  else
  if inb s.1 (ln v1) = true then
  if x4 = (x3.2.1 v1 s.1.toNatClampNeg) then
  j_Mod_goMinute_85_12 v1 s.1 x3.2
  else
  if inb s.1 (ln v1) = true then
  mem_ (s_i x3.2 v1 s.1.toNatClampNeg x4) fun M6 =>
  mem_ (s_i M6 162 29 ((M6.1 162 29) ||| ((1 : Int32) <<< (s.1 &&& 31)))) fun M7 =>
  j_Mod_goMinute_85_12 v1 s.1 M7
  else none
  else none
  else none
  else none
  else none
theorem lb_Mod_goMinute_12_ok {E : Ev} {G : Gw} {d : Nat} {post : Mem → Prop} (X : Cx E G b_Mod_goMinute "WomenByTheRoofsModel" 4 d none) (hD : 402 ≤ d)  (v1 : Nat) (hk_v1 : kd v1 = 1)  (s : Int32 × Mem) (o : (Int32 × Mem) ⊕ ((Mem))) (h : lb_Mod_goMinute_12 v1 s = some o) (kc : ∀ s9 : Int32 × Mem, o = .inl s9 → V E (0, 0) G 4 (QV E G post) s9.2 12 [(0, .ref (G.2.2 + 162)), (1, .ref (G.2.2 + v1)), (2, .int s9.1)] []) (kx0 : ∀ x9 : Mem, o = .inr x9 → V E (0, 0) G 4 (QV E G post) x9 112 [(0, .ref (G.2.2 + 162)), (1, .ref (G.2.2 + v1))] []) : V E (0, 0) G 4 (QV E G post) s.2 12 [(0, .ref (G.2.2 + 162)), (1, .ref (G.2.2 + v1)), (2, .int s.1)] [] := by
  unfold lb_Mod_goMinute_12 at h
  refine V_iload_n (n := 2) X d_Mod_goMinute_12 rfl rfl rfl ?_
  refine V_aload_n (n := 0) X d_Mod_goMinute_13 rfl rfl rfl ?_
  refine V_geti X fo_Mod_123 kd_162 rfl d_Mod_goMinute_14 rfl ?_
  refine V_icmp_ge (tgt := 112) X d_Mod_goMinute_17 (by decide) rfl (fun c11 => ?_) (fun c11 => ?_)
  · rw [if_pos c11] at h
    refine V_sub (lv' := [(0, .ref (G.2.2 + 162)), (1, .ref (G.2.2 + v1))]) [0, 1] rfl ?_
    exact kx0 s.2 (Option.some.inj h).symm
  · rw [if_neg c11] at h
    refine V_aload_n (n := 0) X d_Mod_goMinute_20 rfl rfl rfl ?_
    refine V_aload_n (n := 1) X d_Mod_goMinute_21 rfl rfl rfl ?_
    refine V_iload_n (n := 2) X d_Mod_goMinute_22 rfl rfl rfl ?_
    obtain ⟨x3, hx3, h⟩ := ob_s h
    refine V_ci (As := [.ref (G.2.2 + v1), .int s.1]) X (Z0 E) ml_Mod_268 yq_Mod_goes (c_Mod_goes E.2.1 G v1 s.1 s.2 x3 hx3 _ (Nat.le_refl _)) kd_162 rfl rfl (by omega) rfl (Nat.le_of_ble_eq_true rfl) d_Mod_goMinute_23 rfl (fun r9 M9 hq => ?_)
    rw [hq.1, hq.2]
    refine V_if_ne (tgt := 32) X d_Mod_goMinute_26 (by decide) rfl (fun c10 => ?_) (fun c10 => ?_)
    · rw [if_neg c10] at h
      refine V_aload_n (n := 0) X d_Mod_goMinute_32 rfl rfl rfl ?_
      refine V_aload_n (n := 1) X d_Mod_goMinute_33 rfl rfl rfl ?_
      refine V_aload_n (n := 1) X d_Mod_goMinute_34 rfl rfl rfl ?_
      refine V_iload_n (n := 2) X d_Mod_goMinute_35 rfl rfl rfl ?_
      obtain ⟨hb, h⟩ := ifn h
      refine V_iald X hk_v1 (inb_in rfl hb) d_Mod_goMinute_36 rfl ?_
      refine V_aload_n (n := 0) X d_Mod_goMinute_37 rfl rfl rfl ?_
      refine V_getr (k2 := 165) X fo_Mod_23 kd_162 rfl rf_162_6 d_Mod_goMinute_38 rfl ?_
      refine V_bipush (v := 9) X d_Mod_goMinute_41 (by decide) rfl ?_
      refine V_iload_n (n := 2) X d_Mod_goMinute_43 rfl rfl rfl ?_
      refine V_imul X d_Mod_goMinute_44 rfl ?_
      refine V_aload_n (n := 1) X d_Mod_goMinute_45 rfl rfl rfl ?_
      refine V_bipush (v := 8) X d_Mod_goMinute_46 (by decide) rfl ?_
      refine V_iload_n (n := 2) X d_Mod_goMinute_48 rfl rfl rfl ?_
      refine V_iadd X d_Mod_goMinute_49 rfl ?_
      obtain ⟨hb, h⟩ := ifn h
      refine V_iald X hk_v1 (inb_in rfl hb) d_Mod_goMinute_50 rfl ?_
      refine V_iadd X d_Mod_goMinute_51 rfl ?_
      obtain ⟨hb, h⟩ := ifn h
      refine V_iald X kd_165 (inb_in ln_165 hb) d_Mod_goMinute_52 rfl ?_
      obtain ⟨x4, hx4, h⟩ := ob_s h
      refine V_ci (As := [.ref (G.2.2 + v1), .int (x3.2.1 v1 s.1.toNatClampNeg), .int (x3.2.1 165 (((9 : Int32) * s.1) + (x3.2.1 v1 ((8 : Int32) + s.1).toNatClampNeg)).toNatClampNeg)]) X (Z0 E) ml_Mod_252 yq_Mod_go (c_Mod_go E.2.1 G v1 (x3.2.1 v1 s.1.toNatClampNeg) (x3.2.1 165 (((9 : Int32) * s.1) + (x3.2.1 v1 ((8 : Int32) + s.1).toNatClampNeg)).toNatClampNeg) x3.2 x4 hx4 _ (Nat.le_refl _)) kd_162 rfl rfl (by omega) rfl (Nat.le_of_ble_eq_true rfl) d_Mod_goMinute_53 rfl (fun r9 M9 hq => ?_)
      rw [hq.1, hq.2]
      refine V_istore_n (lv' := [(3, .int x4), (0, .ref (G.2.2 + 162)), (1, .ref (G.2.2 + v1)), (2, .int s.1)]) X d_Mod_goMinute_56 rfl (by decide) rfl rfl ?_
      refine V_iload_n (n := 0) X d_Mod_goMinute_57 rfl rfl rfl ?_
      refine V_iconst (v := -1) X d_Mod_goMinute_58 (by decide) rfl ?_
      refine V_icmp_eq (tgt := 85) X d_Mod_goMinute_59 (by decide) rfl (fun c9 => ?_) (fun c9 => ?_)
      · rw [if_pos c9] at h
        refine V_sub (lv' := [(0, .ref (G.2.2 + 162)), (1, .ref (G.2.2 + v1)), (2, .int s.1)]) [1, 2, 3] rfl ?_
        exact j_Mod_goMinute_85_12_ok X hD v1 s.1 hk_v1 x3.2 _ h kc kx0
      · rw [if_neg c9] at h
        refine V_iload_n (n := 0) X d_Mod_goMinute_62 rfl rfl rfl ?_
        refine V_aload_n (n := 2) X d_Mod_goMinute_63 rfl rfl rfl ?_
        refine V_iload_n (n := 3) X d_Mod_goMinute_64 rfl rfl rfl ?_
        obtain ⟨hb, h⟩ := ifn h
        refine V_iald X hk_v1 (inb_in rfl hb) d_Mod_goMinute_65 rfl ?_
        refine V_icmp_eq (tgt := 85) X d_Mod_goMinute_66 (by decide) rfl (fun c8 => ?_) (fun c8 => ?_)
        · rw [if_pos c8] at h
          refine V_sub (lv' := [(0, .ref (G.2.2 + 162)), (1, .ref (G.2.2 + v1)), (2, .int s.1)]) [1, 2, 3] rfl ?_
          exact j_Mod_goMinute_85_12_ok X hD v1 s.1 hk_v1 x3.2 _ h kc kx0
        · rw [if_neg c8] at h
          refine V_aload_n (n := 2) X d_Mod_goMinute_69 rfl rfl rfl ?_
          refine V_iload_n (n := 3) X d_Mod_goMinute_70 rfl rfl rfl ?_
          refine V_iload_n (n := 0) X d_Mod_goMinute_71 rfl rfl rfl ?_
          obtain ⟨hb, h⟩ := ifn h
          obtain ⟨M6, eM6, h⟩ := memS h
          refine V_iast X hk_v1 (inb_in rfl hb) d_Mod_goMinute_72 rfl ?_
          rw [← eM6]
          refine V_aload_n (n := 1) X d_Mod_goMinute_73 rfl rfl rfl ?_
          refine V_dup X d_Mod_goMinute_74 rfl rfl ?_
          refine V_geti X fo_Mod_324 kd_162 rfl d_Mod_goMinute_75 rfl ?_
          refine V_iconst (v := 1) X d_Mod_goMinute_78 (by decide) rfl ?_
          refine V_iload_n (n := 3) X d_Mod_goMinute_79 rfl rfl rfl ?_
          refine V_ishl X d_Mod_goMinute_80 rfl ?_
          refine V_ior X d_Mod_goMinute_81 rfl ?_
          obtain ⟨M7, eM7, h⟩ := memS h
          refine V_putI X fp_Mod_324 kd_162 rfl d_Mod_goMinute_82 rfl ?_
          rw [← eM7]
          refine V_sub (lv' := [(0, .ref (G.2.2 + 162)), (1, .ref (G.2.2 + v1)), (2, .int s.1)]) [1, 2, 3] rfl ?_
          exact j_Mod_goMinute_85_12_ok X hD v1 s.1 hk_v1 M7 _ h kc kx0
    · rw [if_pos c10] at h
      refine V_goto (pc' := 106) X d_Mod_goMinute_29 (by decide) ?_
      refine V_iinc (n := 2) (v := (s.1 + (1 : Int32))) (lv' := [(2, .int (s.1 + (1 : Int32))), (0, .ref (G.2.2 + 162)), (1, .ref (G.2.2 + v1))]) X d_Mod_goMinute_106 rfl rfl (by decide) rfl rfl ?_
      refine V_goto (pc' := 12) X d_Mod_goMinute_109 (by decide) ?_
      refine V_sub (lv' := [(0, .ref (G.2.2 + 162)), (1, .ref (G.2.2 + v1)), (2, .int (s.1 + (1 : Int32)))]) [1, 2, 0] rfl ?_
      exact kc ((s.1 + (1 : Int32)), x3.2) (Option.some.inj h).symm
theorem lp_Mod_goMinute_12_ok {E : Ev} {G : Gw} {d : Nat} {post : Mem → Prop} (X : Cx E G b_Mod_goMinute "WomenByTheRoofsModel" 4 d none) (hD : 402 ≤ d)  (v1 : Nat) (hk_v1 : kd v1 = 1)  (n9 : Nat) (s : Int32 × Mem) (x : (Mem)) (h : iter (lb_Mod_goMinute_12 v1) n9 s = some x) (kx0 : ∀ x9 : Mem, x = x9 → V E (0, 0) G 4 (QV E G post) x9 112 [(0, .ref (G.2.2 + 162)), (1, .ref (G.2.2 + v1))] []) : V E (0, 0) G 4 (QV E G post) s.2 12 [(0, .ref (G.2.2 + 162)), (1, .ref (G.2.2 + v1)), (2, .int s.1)] [] :=
  iter_P (P := fun s : Int32 × Mem => V E (0, 0) G 4 (QV E G post) s.2 12 [(0, .ref (G.2.2 + 162)), (1, .ref (G.2.2 + v1)), (2, .int s.1)] []) (fun s o hb kc ky => lb_Mod_goMinute_12_ok X hD v1 hk_v1 s o hb kc (fun x9 e9 => kx0 x9 (ky _ e9).symm)) n9 s h
def lb_Mod_goMinute_124 (v1 : Nat) (v2 : Int32) (s : Int32 × Mem) : Option ((Int32 × Mem) ⊕ ((Mem))) :=
  if (s.2.1 162 4) ≤ s.1 then
  some (.inr s.2)
  else
  Option.bind (f_Mod_has (s.2.1 162 5) v2) fun x13 =>
  if x13 = 0 then
  Option.bind (f_Mod_has (s.2.1 162 5) s.1) fun x14 =>
  if x14 = 0 then
  some (.inl ((s.1 + (1 : Int32)), s.2))
  else
  Option.bind (f_Mod_areMeeting v1 v2 s.1 s.2) fun x15 =>
  if x15 = 0 then
  some (.inl ((s.1 + (1 : Int32)), s.2))
  else
  if inb (((16 : Int32) + ((8 : Int32) * v2)) + s.1) (ln v1) = true then
  if inb (((16 : Int32) + ((8 : Int32) * v2)) + s.1) (ln v1) = true then
  mem_ (s_i s.2 v1 (((16 : Int32) + ((8 : Int32) * v2)) + s.1).toNatClampNeg ((s.2.1 v1 (((16 : Int32) + ((8 : Int32) * v2)) + s.1).toNatClampNeg) + (1 : Int32))) fun M16 =>
  if inb (((16 : Int32) + ((8 : Int32) * s.1)) + v2) (ln v1) = true then
  if inb (((16 : Int32) + ((8 : Int32) * s.1)) + v2) (ln v1) = true then
  mem_ (s_i M16 v1 (((16 : Int32) + ((8 : Int32) * s.1)) + v2).toNatClampNeg ((M16.1 v1 (((16 : Int32) + ((8 : Int32) * s.1)) + v2).toNatClampNeg) + (1 : Int32))) fun M17 =>
  mem_ (s_i M17 162 31 ((M17.1 162 31) + (1 : Int32))) fun M18 =>
  some (.inl ((s.1 + (1 : Int32)), M18))
  else none
  else none
  else none
  else none
  else
  some (.inl ((s.1 + (1 : Int32)), s.2))
theorem lb_Mod_goMinute_124_ok {E : Ev} {G : Gw} {d : Nat} {post : Mem → Prop} (X : Cx E G b_Mod_goMinute "WomenByTheRoofsModel" 4 d none) (hD : 402 ≤ d)  (v1 : Nat) (v2 : Int32) (hk_v1 : kd v1 = 1)  (s : Int32 × Mem) (o : (Int32 × Mem) ⊕ ((Mem))) (h : lb_Mod_goMinute_124 v1 v2 s = some o) (kc : ∀ s9 : Int32 × Mem, o = .inl s9 → V E (0, 0) G 4 (QV E G post) s9.2 124 [(0, .ref (G.2.2 + 162)), (1, .ref (G.2.2 + v1)), (2, .int v2), (3, .int s9.1)] []) (kx0 : ∀ x9 : Mem, o = .inr x9 → V E (0, 0) G 4 (QV E G post) x9 213 [(0, .ref (G.2.2 + 162)), (1, .ref (G.2.2 + v1)), (2, .int v2)] []) : V E (0, 0) G 4 (QV E G post) s.2 124 [(0, .ref (G.2.2 + 162)), (1, .ref (G.2.2 + v1)), (2, .int v2), (3, .int s.1)] [] := by
  unfold lb_Mod_goMinute_124 at h
  refine V_iload_n (n := 3) X d_Mod_goMinute_124 rfl rfl rfl ?_
  refine V_aload_n (n := 0) X d_Mod_goMinute_125 rfl rfl rfl ?_
  refine V_geti X fo_Mod_123 kd_162 rfl d_Mod_goMinute_126 rfl ?_
  refine V_icmp_ge (tgt := 213) X d_Mod_goMinute_129 (by decide) rfl (fun c22 => ?_) (fun c22 => ?_)
  · rw [if_pos c22] at h
    refine V_sub (lv' := [(0, .ref (G.2.2 + 162)), (1, .ref (G.2.2 + v1)), (2, .int v2)]) [0, 1, 2] rfl ?_
    exact kx0 s.2 (Option.some.inj h).symm
  · rw [if_neg c22] at h
    refine V_aload_n (n := 0) X d_Mod_goMinute_132 rfl rfl rfl ?_
    refine V_geti X fo_Mod_130 kd_162 rfl d_Mod_goMinute_133 rfl ?_
    refine V_iload_n (n := 2) X d_Mod_goMinute_136 rfl rfl rfl ?_
    obtain ⟨x13, hx13, h⟩ := ob_s h
    refine V_si (As := [.int (s.2.1 162 5), .int v2]) X (Z0 E) ml_Mod_133 yq_Mod_has (c_Mod_has E.2.1 G (s.2.1 162 5) v2 s.2 x13 hx13 _ (Nat.le_refl _)) rfl (by omega) rfl (Nat.le_of_ble_eq_true rfl) d_Mod_goMinute_137 rfl (fun r9 M9 hq => ?_)
    rw [hq.1, hq.2]
    refine V_if_ne (tgt := 207) X d_Mod_goMinute_140 (by decide) rfl (fun c21 => ?_) (fun c21 => ?_)
    · rw [if_neg c21] at h
      refine V_iinc (n := 3) (v := (s.1 + (1 : Int32))) (lv' := [(3, .int (s.1 + (1 : Int32))), (0, .ref (G.2.2 + 162)), (1, .ref (G.2.2 + v1)), (2, .int v2)]) X d_Mod_goMinute_207 rfl rfl (by decide) rfl rfl ?_
      refine V_goto (pc' := 124) X d_Mod_goMinute_210 (by decide) ?_
      refine V_sub (lv' := [(0, .ref (G.2.2 + 162)), (1, .ref (G.2.2 + v1)), (2, .int v2), (3, .int (s.1 + (1 : Int32)))]) [1, 2, 3, 0] rfl ?_
      exact kc ((s.1 + (1 : Int32)), s.2) (Option.some.inj h).symm
    · rw [if_pos c21] at h
      refine V_aload_n (n := 0) X d_Mod_goMinute_143 rfl rfl rfl ?_
      refine V_geti X fo_Mod_130 kd_162 rfl d_Mod_goMinute_144 rfl ?_
      refine V_iload_n (n := 3) X d_Mod_goMinute_147 rfl rfl rfl ?_
      obtain ⟨x14, hx14, h⟩ := ob_s h
      refine V_si (As := [.int (s.2.1 162 5), .int s.1]) X (Z0 E) ml_Mod_133 yq_Mod_has (c_Mod_has E.2.1 G (s.2.1 162 5) s.1 s.2 x14 hx14 _ (Nat.le_refl _)) rfl (by omega) rfl (Nat.le_of_ble_eq_true rfl) d_Mod_goMinute_148 rfl (fun r9 M9 hq => ?_)
      rw [hq.1, hq.2]
      refine V_if_eq (tgt := 207) X d_Mod_goMinute_151 (by decide) rfl (fun c20 => ?_) (fun c20 => ?_)
      · rw [if_pos c20] at h
        refine V_iinc (n := 3) (v := (s.1 + (1 : Int32))) (lv' := [(3, .int (s.1 + (1 : Int32))), (0, .ref (G.2.2 + 162)), (1, .ref (G.2.2 + v1)), (2, .int v2)]) X d_Mod_goMinute_207 rfl rfl (by decide) rfl rfl ?_
        refine V_goto (pc' := 124) X d_Mod_goMinute_210 (by decide) ?_
        refine V_sub (lv' := [(0, .ref (G.2.2 + 162)), (1, .ref (G.2.2 + v1)), (2, .int v2), (3, .int (s.1 + (1 : Int32)))]) [1, 2, 3, 0] rfl ?_
        exact kc ((s.1 + (1 : Int32)), s.2) (Option.some.inj h).symm
      · rw [if_neg c20] at h
        refine V_aload_n (n := 0) X d_Mod_goMinute_154 rfl rfl rfl ?_
        refine V_aload_n (n := 1) X d_Mod_goMinute_155 rfl rfl rfl ?_
        refine V_iload_n (n := 2) X d_Mod_goMinute_156 rfl rfl rfl ?_
        refine V_iload_n (n := 3) X d_Mod_goMinute_157 rfl rfl rfl ?_
        obtain ⟨x15, hx15, h⟩ := ob_s h
        refine V_ci (As := [.ref (G.2.2 + v1), .int v2, .int s.1]) X (Z0 E) ml_Mod_330 yq_Mod_areMeeting (c_Mod_areMeeting E.2.1 G v1 v2 s.1 s.2 x15 hx15 _ (Nat.le_refl _)) kd_162 rfl rfl (by omega) rfl (Nat.le_of_ble_eq_true rfl) d_Mod_goMinute_158 rfl (fun r9 M9 hq => ?_)
        rw [hq.1, hq.2]
        refine V_if_ne (tgt := 167) X d_Mod_goMinute_161 (by decide) rfl (fun c19 => ?_) (fun c19 => ?_)
        · rw [if_neg c19] at h
          refine V_aload_n (n := 1) X d_Mod_goMinute_167 rfl rfl rfl ?_
          refine V_bipush (v := 16) X d_Mod_goMinute_168 (by decide) rfl ?_
          refine V_bipush (v := 8) X d_Mod_goMinute_170 (by decide) rfl ?_
          refine V_iload_n (n := 2) X d_Mod_goMinute_172 rfl rfl rfl ?_
          refine V_imul X d_Mod_goMinute_173 rfl ?_
          refine V_iadd X d_Mod_goMinute_174 rfl ?_
          refine V_iload_n (n := 3) X d_Mod_goMinute_175 rfl rfl rfl ?_
          refine V_iadd X d_Mod_goMinute_176 rfl ?_
          refine V_dup2 X d_Mod_goMinute_177 rfl rfl rfl ?_
          obtain ⟨hb, h⟩ := ifn h
          refine V_iald X hk_v1 (inb_in rfl hb) d_Mod_goMinute_178 rfl ?_
          refine V_iconst (v := 1) X d_Mod_goMinute_179 (by decide) rfl ?_
          refine V_iadd X d_Mod_goMinute_180 rfl ?_
          obtain ⟨hb, h⟩ := ifn h
          obtain ⟨M16, eM16, h⟩ := memS h
          refine V_iast X hk_v1 (inb_in rfl hb) d_Mod_goMinute_181 rfl ?_
          rw [← eM16]
          refine V_aload_n (n := 1) X d_Mod_goMinute_182 rfl rfl rfl ?_
          refine V_bipush (v := 16) X d_Mod_goMinute_183 (by decide) rfl ?_
          refine V_bipush (v := 8) X d_Mod_goMinute_185 (by decide) rfl ?_
          refine V_iload_n (n := 3) X d_Mod_goMinute_187 rfl rfl rfl ?_
          refine V_imul X d_Mod_goMinute_188 rfl ?_
          refine V_iadd X d_Mod_goMinute_189 rfl ?_
          refine V_iload_n (n := 2) X d_Mod_goMinute_190 rfl rfl rfl ?_
          refine V_iadd X d_Mod_goMinute_191 rfl ?_
          refine V_dup2 X d_Mod_goMinute_192 rfl rfl rfl ?_
          obtain ⟨hb, h⟩ := ifn h
          refine V_iald X hk_v1 (inb_in rfl hb) d_Mod_goMinute_193 rfl ?_
          refine V_iconst (v := 1) X d_Mod_goMinute_194 (by decide) rfl ?_
          refine V_iadd X d_Mod_goMinute_195 rfl ?_
          obtain ⟨hb, h⟩ := ifn h
          obtain ⟨M17, eM17, h⟩ := memS h
          refine V_iast X hk_v1 (inb_in rfl hb) d_Mod_goMinute_196 rfl ?_
          rw [← eM17]
          refine V_aload_n (n := 0) X d_Mod_goMinute_197 rfl rfl rfl ?_
          refine V_dup X d_Mod_goMinute_198 rfl rfl ?_
          refine V_geti X fo_Mod_327 kd_162 rfl d_Mod_goMinute_199 rfl ?_
          refine V_iconst (v := 1) X d_Mod_goMinute_202 (by decide) rfl ?_
          refine V_iadd X d_Mod_goMinute_203 rfl ?_
          obtain ⟨M18, eM18, h⟩ := memS h
          refine V_putI X fp_Mod_327 kd_162 rfl d_Mod_goMinute_204 rfl ?_
          rw [← eM18]
          refine V_iinc (n := 3) (v := (s.1 + (1 : Int32))) (lv' := [(3, .int (s.1 + (1 : Int32))), (0, .ref (G.2.2 + 162)), (1, .ref (G.2.2 + v1)), (2, .int v2)]) X d_Mod_goMinute_207 rfl rfl (by decide) rfl rfl ?_
          refine V_goto (pc' := 124) X d_Mod_goMinute_210 (by decide) ?_
          refine V_sub (lv' := [(0, .ref (G.2.2 + 162)), (1, .ref (G.2.2 + v1)), (2, .int v2), (3, .int (s.1 + (1 : Int32)))]) [1, 2, 3, 0] rfl ?_
          exact kc ((s.1 + (1 : Int32)), M18) (Option.some.inj h).symm
        · rw [if_pos c19] at h
          refine V_goto (pc' := 207) X d_Mod_goMinute_164 (by decide) ?_
          refine V_iinc (n := 3) (v := (s.1 + (1 : Int32))) (lv' := [(3, .int (s.1 + (1 : Int32))), (0, .ref (G.2.2 + 162)), (1, .ref (G.2.2 + v1)), (2, .int v2)]) X d_Mod_goMinute_207 rfl rfl (by decide) rfl rfl ?_
          refine V_goto (pc' := 124) X d_Mod_goMinute_210 (by decide) ?_
          refine V_sub (lv' := [(0, .ref (G.2.2 + 162)), (1, .ref (G.2.2 + v1)), (2, .int v2), (3, .int (s.1 + (1 : Int32)))]) [1, 2, 3, 0] rfl ?_
          exact kc ((s.1 + (1 : Int32)), s.2) (Option.some.inj h).symm
theorem lp_Mod_goMinute_124_ok {E : Ev} {G : Gw} {d : Nat} {post : Mem → Prop} (X : Cx E G b_Mod_goMinute "WomenByTheRoofsModel" 4 d none) (hD : 402 ≤ d)  (v1 : Nat) (v2 : Int32) (hk_v1 : kd v1 = 1)  (n9 : Nat) (s : Int32 × Mem) (x : (Mem)) (h : iter (lb_Mod_goMinute_124 v1 v2) n9 s = some x) (kx0 : ∀ x9 : Mem, x = x9 → V E (0, 0) G 4 (QV E G post) x9 213 [(0, .ref (G.2.2 + 162)), (1, .ref (G.2.2 + v1)), (2, .int v2)] []) : V E (0, 0) G 4 (QV E G post) s.2 124 [(0, .ref (G.2.2 + 162)), (1, .ref (G.2.2 + v1)), (2, .int v2), (3, .int s.1)] [] :=
  iter_P (P := fun s : Int32 × Mem => V E (0, 0) G 4 (QV E G post) s.2 124 [(0, .ref (G.2.2 + 162)), (1, .ref (G.2.2 + v1)), (2, .int v2), (3, .int s.1)] []) (fun s o hb kc ky => lb_Mod_goMinute_124_ok X hD v1 v2 hk_v1 s o hb kc (fun x9 e9 => kx0 x9 (ky _ e9).symm)) n9 s h
def lb_Mod_goMinute_114 (v1 : Nat) (s : Int32 × Mem) : Option ((Int32 × Mem) ⊕ ((Mem))) :=
  if (s.2.1 162 4) ≤ s.1 then
  some (.inr s.2)
  else
  Option.bind (iter (lb_Mod_goMinute_124 v1 s.1) FU ((0 : Int32), s.2)) fun x23 =>
  some (.inl ((s.1 + (1 : Int32)), x23))
theorem lb_Mod_goMinute_114_ok {E : Ev} {G : Gw} {d : Nat} {post : Mem → Prop} (X : Cx E G b_Mod_goMinute "WomenByTheRoofsModel" 4 d none) (hD : 402 ≤ d)  (v1 : Nat) (hk_v1 : kd v1 = 1)  (s : Int32 × Mem) (o : (Int32 × Mem) ⊕ ((Mem))) (h : lb_Mod_goMinute_114 v1 s = some o) (kc : ∀ s9 : Int32 × Mem, o = .inl s9 → V E (0, 0) G 4 (QV E G post) s9.2 114 [(0, .ref (G.2.2 + 162)), (1, .ref (G.2.2 + v1)), (2, .int s9.1)] []) (kx0 : ∀ x9 : Mem, o = .inr x9 → V E (0, 0) G 4 (QV E G post) x9 219 [(0, .ref (G.2.2 + 162)), (1, .ref (G.2.2 + v1))] []) : V E (0, 0) G 4 (QV E G post) s.2 114 [(0, .ref (G.2.2 + 162)), (1, .ref (G.2.2 + v1)), (2, .int s.1)] [] := by
  unfold lb_Mod_goMinute_114 at h
  refine V_iload_n (n := 2) X d_Mod_goMinute_114 rfl rfl rfl ?_
  refine V_aload_n (n := 0) X d_Mod_goMinute_115 rfl rfl rfl ?_
  refine V_geti X fo_Mod_123 kd_162 rfl d_Mod_goMinute_116 rfl ?_
  refine V_icmp_ge (tgt := 219) X d_Mod_goMinute_119 (by decide) rfl (fun c24 => ?_) (fun c24 => ?_)
  · rw [if_pos c24] at h
    refine V_sub (lv' := [(0, .ref (G.2.2 + 162)), (1, .ref (G.2.2 + v1))]) [0, 1] rfl ?_
    exact kx0 s.2 (Option.some.inj h).symm
  · rw [if_neg c24] at h
    refine V_iconst (v := 0) X d_Mod_goMinute_122 (by decide) rfl ?_
    refine V_istore_n (lv' := [(3, .int (0 : Int32)), (0, .ref (G.2.2 + 162)), (1, .ref (G.2.2 + v1)), (2, .int s.1)]) X d_Mod_goMinute_123 rfl (by decide) rfl rfl ?_
    refine V_sub (lv' := [(0, .ref (G.2.2 + 162)), (1, .ref (G.2.2 + v1)), (2, .int s.1), (3, .int (0 : Int32))]) [1, 2, 3, 0] rfl ?_
    obtain ⟨x23, hx23, h⟩ := ob_s h
    refine (lp_Mod_goMinute_124_ok X hD v1 s.1 hk_v1 _ _ _ hx23 (fun x9 e9 => ?_) :)
    subst e9
    refine V_iinc (n := 2) (v := (s.1 + (1 : Int32))) (lv' := [(2, .int (s.1 + (1 : Int32))), (0, .ref (G.2.2 + 162)), (1, .ref (G.2.2 + v1))]) X d_Mod_goMinute_213 rfl rfl (by decide) rfl rfl ?_
    refine V_goto (pc' := 114) X d_Mod_goMinute_216 (by decide) ?_
    refine V_sub (lv' := [(0, .ref (G.2.2 + 162)), (1, .ref (G.2.2 + v1)), (2, .int (s.1 + (1 : Int32)))]) [1, 2, 0] rfl ?_
    exact kc ((s.1 + (1 : Int32)), x23) (Option.some.inj h).symm
theorem lp_Mod_goMinute_114_ok {E : Ev} {G : Gw} {d : Nat} {post : Mem → Prop} (X : Cx E G b_Mod_goMinute "WomenByTheRoofsModel" 4 d none) (hD : 402 ≤ d)  (v1 : Nat) (hk_v1 : kd v1 = 1)  (n9 : Nat) (s : Int32 × Mem) (x : (Mem)) (h : iter (lb_Mod_goMinute_114 v1) n9 s = some x) (kx0 : ∀ x9 : Mem, x = x9 → V E (0, 0) G 4 (QV E G post) x9 219 [(0, .ref (G.2.2 + 162)), (1, .ref (G.2.2 + v1))] []) : V E (0, 0) G 4 (QV E G post) s.2 114 [(0, .ref (G.2.2 + 162)), (1, .ref (G.2.2 + v1)), (2, .int s.1)] [] :=
  iter_P (P := fun s : Int32 × Mem => V E (0, 0) G 4 (QV E G post) s.2 114 [(0, .ref (G.2.2 + 162)), (1, .ref (G.2.2 + v1)), (2, .int s.1)] []) (fun s o hb kc ky => lb_Mod_goMinute_114_ok X hD v1 hk_v1 s o hb kc (fun x9 e9 => kx0 x9 (ky _ e9).symm)) n9 s h
def lb_Mod_goMinute_226 (v1 : Nat) (v2 : Int32) (s : Int32 × Mem) : Option ((Int32 × Mem) ⊕ ((Mem))) :=
  if (s.2.1 162 4) ≤ s.1 then
  some (.inr s.2)
  else
  Option.bind (f_Mod_has v2 s.1) fun x26 =>
  if x26 = 0 then
  some (.inl ((s.1 + (1 : Int32)), s.2))
  else
  if inb (93 : Int32) (ln v1) = true then
  Option.bind (f_Mod_hears v1 s.1 s.2) fun x27 =>
  if inb (93 : Int32) (ln v1) = true then
  mem_ (s_i s.2 v1 (93 : Int32).toNatClampNeg ((s.2.1 v1 (93 : Int32).toNatClampNeg) ||| x27)) fun M28 =>
  some (.inl ((s.1 + (1 : Int32)), M28))
  else none
  else none
theorem lb_Mod_goMinute_226_ok {E : Ev} {G : Gw} {d : Nat} {post : Mem → Prop} (X : Cx E G b_Mod_goMinute "WomenByTheRoofsModel" 4 d none) (hD : 402 ≤ d)  (v1 : Nat) (v2 : Int32) (hk_v1 : kd v1 = 1)  (s : Int32 × Mem) (o : (Int32 × Mem) ⊕ ((Mem))) (h : lb_Mod_goMinute_226 v1 v2 s = some o) (kc : ∀ s9 : Int32 × Mem, o = .inl s9 → V E (0, 0) G 4 (QV E G post) s9.2 226 [(0, .ref (G.2.2 + 162)), (1, .ref (G.2.2 + v1)), (2, .int v2), (3, .int s9.1)] []) (kx0 : ∀ x9 : Mem, o = .inr x9 → V E (0, 0) G 4 (QV E G post) x9 261 [(0, .ref (G.2.2 + 162)), (1, .ref (G.2.2 + v1)), (2, .int v2)] []) : V E (0, 0) G 4 (QV E G post) s.2 226 [(0, .ref (G.2.2 + 162)), (1, .ref (G.2.2 + v1)), (2, .int v2), (3, .int s.1)] [] := by
  unfold lb_Mod_goMinute_226 at h
  refine V_iload_n (n := 3) X d_Mod_goMinute_226 rfl rfl rfl ?_
  refine V_aload_n (n := 0) X d_Mod_goMinute_227 rfl rfl rfl ?_
  refine V_geti X fo_Mod_123 kd_162 rfl d_Mod_goMinute_228 rfl ?_
  refine V_icmp_ge (tgt := 261) X d_Mod_goMinute_231 (by decide) rfl (fun c30 => ?_) (fun c30 => ?_)
  · rw [if_pos c30] at h
    refine V_sub (lv' := [(0, .ref (G.2.2 + 162)), (1, .ref (G.2.2 + v1)), (2, .int v2)]) [0, 1, 2] rfl ?_
    exact kx0 s.2 (Option.some.inj h).symm
  · rw [if_neg c30] at h
    refine V_iload_n (n := 2) X d_Mod_goMinute_234 rfl rfl rfl ?_
    refine V_iload_n (n := 3) X d_Mod_goMinute_235 rfl rfl rfl ?_
    obtain ⟨x26, hx26, h⟩ := ob_s h
    refine V_si (As := [.int v2, .int s.1]) X (Z0 E) ml_Mod_133 yq_Mod_has (c_Mod_has E.2.1 G v2 s.1 s.2 x26 hx26 _ (Nat.le_refl _)) rfl (by omega) rfl (Nat.le_of_ble_eq_true rfl) d_Mod_goMinute_236 rfl (fun r9 M9 hq => ?_)
    rw [hq.1, hq.2]
    refine V_if_eq (tgt := 255) X d_Mod_goMinute_239 (by decide) rfl (fun c29 => ?_) (fun c29 => ?_)
    · rw [if_pos c29] at h
      refine V_iinc (n := 3) (v := (s.1 + (1 : Int32))) (lv' := [(3, .int (s.1 + (1 : Int32))), (0, .ref (G.2.2 + 162)), (1, .ref (G.2.2 + v1)), (2, .int v2)]) X d_Mod_goMinute_255 rfl rfl (by decide) rfl rfl ?_
      refine V_goto (pc' := 226) X d_Mod_goMinute_258 (by decide) ?_
      refine V_sub (lv' := [(0, .ref (G.2.2 + 162)), (1, .ref (G.2.2 + v1)), (2, .int v2), (3, .int (s.1 + (1 : Int32)))]) [1, 2, 3, 0] rfl ?_
      exact kc ((s.1 + (1 : Int32)), s.2) (Option.some.inj h).symm
    · rw [if_neg c29] at h
      refine V_aload_n (n := 1) X d_Mod_goMinute_242 rfl rfl rfl ?_
      refine V_bipush (v := 93) X d_Mod_goMinute_243 (by decide) rfl ?_
      refine V_dup2 X d_Mod_goMinute_245 rfl rfl rfl ?_
      obtain ⟨hb, h⟩ := ifn h
      refine V_iald X hk_v1 (inb_in rfl hb) d_Mod_goMinute_246 rfl ?_
      refine V_aload_n (n := 0) X d_Mod_goMinute_247 rfl rfl rfl ?_
      refine V_aload_n (n := 1) X d_Mod_goMinute_248 rfl rfl rfl ?_
      refine V_iload_n (n := 3) X d_Mod_goMinute_249 rfl rfl rfl ?_
      obtain ⟨x27, hx27, h⟩ := ob_s h
      refine V_ci (As := [.ref (G.2.2 + v1), .int s.1]) X (Z0 E) ml_Mod_333 yq_Mod_hears (c_Mod_hears E.2.1 G v1 s.1 s.2 x27 hx27 _ (Nat.le_refl _)) kd_162 rfl rfl (by omega) rfl (Nat.le_of_ble_eq_true rfl) d_Mod_goMinute_250 rfl (fun r9 M9 hq => ?_)
      rw [hq.1, hq.2]
      refine V_ior X d_Mod_goMinute_253 rfl ?_
      obtain ⟨hb, h⟩ := ifn h
      obtain ⟨M28, eM28, h⟩ := memS h
      refine V_iast X hk_v1 (inb_in rfl hb) d_Mod_goMinute_254 rfl ?_
      rw [← eM28]
      refine V_iinc (n := 3) (v := (s.1 + (1 : Int32))) (lv' := [(3, .int (s.1 + (1 : Int32))), (0, .ref (G.2.2 + 162)), (1, .ref (G.2.2 + v1)), (2, .int v2)]) X d_Mod_goMinute_255 rfl rfl (by decide) rfl rfl ?_
      refine V_goto (pc' := 226) X d_Mod_goMinute_258 (by decide) ?_
      refine V_sub (lv' := [(0, .ref (G.2.2 + 162)), (1, .ref (G.2.2 + v1)), (2, .int v2), (3, .int (s.1 + (1 : Int32)))]) [1, 2, 3, 0] rfl ?_
      exact kc ((s.1 + (1 : Int32)), M28) (Option.some.inj h).symm
theorem lp_Mod_goMinute_226_ok {E : Ev} {G : Gw} {d : Nat} {post : Mem → Prop} (X : Cx E G b_Mod_goMinute "WomenByTheRoofsModel" 4 d none) (hD : 402 ≤ d)  (v1 : Nat) (v2 : Int32) (hk_v1 : kd v1 = 1)  (n9 : Nat) (s : Int32 × Mem) (x : (Mem)) (h : iter (lb_Mod_goMinute_226 v1 v2) n9 s = some x) (kx0 : ∀ x9 : Mem, x = x9 → V E (0, 0) G 4 (QV E G post) x9 261 [(0, .ref (G.2.2 + 162)), (1, .ref (G.2.2 + v1)), (2, .int v2)] []) : V E (0, 0) G 4 (QV E G post) s.2 226 [(0, .ref (G.2.2 + 162)), (1, .ref (G.2.2 + v1)), (2, .int v2), (3, .int s.1)] [] :=
  iter_P (P := fun s : Int32 × Mem => V E (0, 0) G 4 (QV E G post) s.2 226 [(0, .ref (G.2.2 + 162)), (1, .ref (G.2.2 + v1)), (2, .int v2), (3, .int s.1)] []) (fun s o hb kc ky => lb_Mod_goMinute_226_ok X hD v1 v2 hk_v1 s o hb kc (fun x9 e9 => kx0 x9 (ky _ e9).symm)) n9 s h
def f_Mod_goMinute (v1 : Nat) (M : Mem) : Option (Mem) :=
  if kd v1 = 1 then
  mem_ (s_i M 162 29 (0 : Int32)) fun M1 =>
  mem_ (s_i M1 162 31 (0 : Int32)) fun M2 =>
  Option.bind (iter (lb_Mod_goMinute_12 v1) FU ((0 : Int32), M2)) fun x12 =>
  Option.bind (iter (lb_Mod_goMinute_114 v1) FU ((0 : Int32), x12)) fun x25 =>
  if inb (93 : Int32) (ln v1) = true then
  Option.bind (iter (lb_Mod_goMinute_226 v1 (x25.1 v1 (93 : Int32).toNatClampNeg)) FU ((0 : Int32), x25)) fun x31 =>
  if inb (93 : Int32) (ln v1) = true then
  mem_ (s_i x31 162 30 ((x31.1 v1 (93 : Int32).toNatClampNeg) &&& ((x25.1 v1 (93 : Int32).toNatClampNeg) ^^^ (-1 : Int32)))) fun M32 =>
  if inb (95 : Int32) (ln v1) = true then
  if inb (95 : Int32) (ln v1) = true then
  mem_ (s_i M32 v1 (95 : Int32).toNatClampNeg ((M32.1 v1 (95 : Int32).toNatClampNeg) + (1 : Int32))) fun M33 =>
  some M33
  else none
  else none
  else none
  else none
  else none
theorem c_Mod_goMinute (l : Launch) (G : Gw)  (v1 : Nat) (M : Mem) (x : Mem) (h : f_Mod_goMinute v1 M = some x) (d : Nat) (hD : 402 ≤ d) : Cv l G y_Mod_goMinute b_Mod_goMinute 4 none d [.ref (G.2.2 + 162), .ref (G.2.2 + v1)] M (fun M9 => M9 = x) := by
  refine Cv_of (by decide) (Nat.le_of_ble_eq_true rfl) (fun E hE X => ?_)
  subst hE
  have kr : ∀ x9 : Mem, x = x9 → (fun M9 => M9 = x) x9 := fun x9 e9 => by subst e9; exact rfl
  unfold f_Mod_goMinute at h
  obtain ⟨hk_v1, h⟩ := ifn h
  refine V_aload_n (n := 0) X d_Mod_goMinute_0 rfl rfl rfl ?_
  refine V_iconst (v := 0) X d_Mod_goMinute_1 (by decide) rfl ?_
  obtain ⟨M1, eM1, h⟩ := memS h
  refine V_putI X fp_Mod_324 kd_162 rfl d_Mod_goMinute_2 rfl ?_
  rw [← eM1]
  refine V_aload_n (n := 0) X d_Mod_goMinute_5 rfl rfl rfl ?_
  refine V_iconst (v := 0) X d_Mod_goMinute_6 (by decide) rfl ?_
  obtain ⟨M2, eM2, h⟩ := memS h
  refine V_putI X fp_Mod_327 kd_162 rfl d_Mod_goMinute_7 rfl ?_
  rw [← eM2]
  refine V_iconst (v := 0) X d_Mod_goMinute_10 (by decide) rfl ?_
  refine V_istore_n (lv' := [(2, .int (0 : Int32)), (0, .ref (G.2.2 + 162)), (1, .ref (G.2.2 + v1))]) X d_Mod_goMinute_11 rfl (by decide) rfl rfl ?_
  refine V_sub (lv' := [(0, .ref (G.2.2 + 162)), (1, .ref (G.2.2 + v1)), (2, .int (0 : Int32))]) [1, 2, 0] rfl ?_
  obtain ⟨x12, hx12, h⟩ := ob_s h
  refine (lp_Mod_goMinute_12_ok X hD v1 hk_v1 _ _ _ hx12 (fun x9 e9 => ?_) :)
  subst e9
  refine V_iconst (v := 0) X d_Mod_goMinute_112 (by decide) rfl ?_
  refine V_istore_n (lv' := [(2, .int (0 : Int32)), (0, .ref (G.2.2 + 162)), (1, .ref (G.2.2 + v1))]) X d_Mod_goMinute_113 rfl (by decide) rfl rfl ?_
  refine V_sub (lv' := [(0, .ref (G.2.2 + 162)), (1, .ref (G.2.2 + v1)), (2, .int (0 : Int32))]) [1, 2, 0] rfl ?_
  obtain ⟨x25, hx25, h⟩ := ob_s h
  refine (lp_Mod_goMinute_114_ok X hD v1 hk_v1 _ _ _ hx25 (fun x9 e9 => ?_) :)
  subst e9
  refine V_aload_n (n := 1) X d_Mod_goMinute_219 rfl rfl rfl ?_
  refine V_bipush (v := 93) X d_Mod_goMinute_220 (by decide) rfl ?_
  obtain ⟨hb, h⟩ := ifn h
  refine V_iald X hk_v1 (inb_in rfl hb) d_Mod_goMinute_222 rfl ?_
  refine V_istore_n (lv' := [(2, .int (x25.1 v1 (93 : Int32).toNatClampNeg)), (0, .ref (G.2.2 + 162)), (1, .ref (G.2.2 + v1))]) X d_Mod_goMinute_223 rfl (by decide) rfl rfl ?_
  refine V_iconst (v := 0) X d_Mod_goMinute_224 (by decide) rfl ?_
  refine V_istore_n (lv' := [(3, .int (0 : Int32)), (2, .int (x25.1 v1 (93 : Int32).toNatClampNeg)), (0, .ref (G.2.2 + 162)), (1, .ref (G.2.2 + v1))]) X d_Mod_goMinute_225 rfl (by decide) rfl rfl ?_
  refine V_sub (lv' := [(0, .ref (G.2.2 + 162)), (1, .ref (G.2.2 + v1)), (2, .int (x25.1 v1 (93 : Int32).toNatClampNeg)), (3, .int (0 : Int32))]) [2, 3, 1, 0] rfl ?_
  obtain ⟨x31, hx31, h⟩ := ob_s h
  refine (lp_Mod_goMinute_226_ok X hD v1 (x25.1 v1 (93 : Int32).toNatClampNeg) hk_v1 _ _ _ hx31 (fun x9 e9 => ?_) :)
  subst e9
  refine V_aload_n (n := 0) X d_Mod_goMinute_261 rfl rfl rfl ?_
  refine V_aload_n (n := 1) X d_Mod_goMinute_262 rfl rfl rfl ?_
  refine V_bipush (v := 93) X d_Mod_goMinute_263 (by decide) rfl ?_
  obtain ⟨hb, h⟩ := ifn h
  refine V_iald X hk_v1 (inb_in rfl hb) d_Mod_goMinute_265 rfl ?_
  refine V_iload_n (n := 2) X d_Mod_goMinute_266 rfl rfl rfl ?_
  refine V_iconst (v := -1) X d_Mod_goMinute_267 (by decide) rfl ?_
  refine V_ixor X d_Mod_goMinute_268 rfl ?_
  refine V_iand X d_Mod_goMinute_269 rfl ?_
  obtain ⟨M32, eM32, h⟩ := memS h
  refine V_putI X fp_Mod_336 kd_162 rfl d_Mod_goMinute_270 rfl ?_
  rw [← eM32]
  refine V_aload_n (n := 1) X d_Mod_goMinute_273 rfl rfl rfl ?_
  refine V_bipush (v := 95) X d_Mod_goMinute_274 (by decide) rfl ?_
  refine V_dup2 X d_Mod_goMinute_276 rfl rfl rfl ?_
  obtain ⟨hb, h⟩ := ifn h
  refine V_iald X hk_v1 (inb_in rfl hb) d_Mod_goMinute_277 rfl ?_
  refine V_iconst (v := 1) X d_Mod_goMinute_278 (by decide) rfl ?_
  refine V_iadd X d_Mod_goMinute_279 rfl ?_
  obtain ⟨hb, h⟩ := ifn h
  obtain ⟨M33, eM33, h⟩ := memS h
  refine V_iast X hk_v1 (inb_in rfl hb) d_Mod_goMinute_280 rfl ?_
  rw [← eM33]
  exact V_vret X (kr M33 (Option.some.inj h).symm) d_Mod_goMinute_281
def f_Mod_minute (M : Mem) : Option (Int32 × Mem) :=
  mem_ (s_i M 162 13 (0 : Int32)) fun M1 =>
  Option.bind (f_Mod_remember 163 M1) fun x2 =>
  Option.bind (f_Mod_goMinute 163 x2) fun x3 =>
  mem_ (s_i x3 162 12 (0 : Int32)) fun M4 =>
  Option.bind (f_Mod_put (M4.1 162 29) M4) fun x5 =>
  Option.bind (f_Mod_put (x5.1 162 30) x5) fun x6 =>
  some ((x6.1 162 31), x6)
theorem c_Mod_minute (l : Launch) (G : Gw)   (M : Mem) (x : Int32 × Mem) (h : f_Mod_minute M = some x) (d : Nat) (hD : 403 ≤ d) : Ci l G y_Mod_minute b_Mod_minute 1 (some .int) d [.ref (G.2.2 + 162)] M (fun r9 M9 => r9 = x.1 ∧ M9 = x.2) := by
  refine Ci_of (by decide) (Nat.le_of_ble_eq_true rfl) (fun E hE X => ?_)
  subst hE
  have kr : ∀ x9 : Int32 × Mem, x = x9 → (fun r9 M9 => r9 = x.1 ∧ M9 = x.2) x9.1 x9.2 := fun x9 e9 => by subst e9; exact ⟨rfl, rfl⟩
  unfold f_Mod_minute at h
  refine V_aload_n (n := 0) X d_Mod_minute_0 rfl rfl rfl ?_
  refine V_iconst (v := 0) X d_Mod_minute_1 (by decide) rfl ?_
  obtain ⟨M1, eM1, h⟩ := memS h
  refine V_putI X fp_Mod_109 kd_162 rfl d_Mod_minute_2 rfl ?_
  rw [← eM1]
  refine V_aload_n (n := 0) X d_Mod_minute_5 rfl rfl rfl ?_
  refine V_aload_n (n := 0) X d_Mod_minute_6 rfl rfl rfl ?_
  refine V_getr (k2 := 163) X fo_Mod_9 kd_162 rfl rf_162_0 d_Mod_minute_7 rfl ?_
  obtain ⟨x2, hx2, h⟩ := ob_s h
  refine V_cv (As := [.ref (G.2.2 + 163)]) X (Z0 E) ml_Mod_293 yq_Mod_remember (c_Mod_remember E.2.1 G 163 M1 x2 hx2 _ (Nat.le_refl _)) kd_162 rfl rfl (by omega) rfl (Nat.le_of_ble_eq_true rfl) d_Mod_minute_10 rfl (fun M9 hq => ?_)
  rw [hq]
  refine V_aload_n (n := 0) X d_Mod_minute_13 rfl rfl rfl ?_
  refine V_aload_n (n := 0) X d_Mod_minute_14 rfl rfl rfl ?_
  refine V_getr (k2 := 163) X fo_Mod_9 kd_162 rfl rf_162_0 d_Mod_minute_15 rfl ?_
  obtain ⟨x3, hx3, h⟩ := ob_s h
  refine V_cv (As := [.ref (G.2.2 + 163)]) X (Z0 E) ml_Mod_339 yq_Mod_goMinute (c_Mod_goMinute E.2.1 G 163 x2 x3 hx3 _ (Nat.le_refl _)) kd_162 rfl rfl (by omega) rfl (Nat.le_of_ble_eq_true rfl) d_Mod_minute_18 rfl (fun M9 hq => ?_)
  rw [hq]
  refine V_aload_n (n := 0) X d_Mod_minute_21 rfl rfl rfl ?_
  refine V_iconst (v := 0) X d_Mod_minute_22 (by decide) rfl ?_
  obtain ⟨M4, eM4, h⟩ := memS h
  refine V_putI X fp_Mod_112 kd_162 rfl d_Mod_minute_23 rfl ?_
  rw [← eM4]
  refine V_aload_n (n := 0) X d_Mod_minute_26 rfl rfl rfl ?_
  refine V_aload_n (n := 0) X d_Mod_minute_27 rfl rfl rfl ?_
  refine V_geti X fo_Mod_324 kd_162 rfl d_Mod_minute_28 rfl ?_
  obtain ⟨x5, hx5, h⟩ := ob_s h
  refine V_cv (As := [.int (M4.1 162 29)]) X (Z0 E) ml_Mod_342 yq_Mod_put (c_Mod_put E.2.1 G (M4.1 162 29) M4 x5 hx5 _ (Nat.le_refl _)) kd_162 rfl rfl (by omega) rfl (Nat.le_of_ble_eq_true rfl) d_Mod_minute_31 rfl (fun M9 hq => ?_)
  rw [hq]
  refine V_aload_n (n := 0) X d_Mod_minute_34 rfl rfl rfl ?_
  refine V_aload_n (n := 0) X d_Mod_minute_35 rfl rfl rfl ?_
  refine V_geti X fo_Mod_336 kd_162 rfl d_Mod_minute_36 rfl ?_
  obtain ⟨x6, hx6, h⟩ := ob_s h
  refine V_cv (As := [.int (x5.1 162 30)]) X (Z0 E) ml_Mod_342 yq_Mod_put (c_Mod_put E.2.1 G (x5.1 162 30) x5 x6 hx6 _ (Nat.le_refl _)) kd_162 rfl rfl (by omega) rfl (Nat.le_of_ble_eq_true rfl) d_Mod_minute_39 rfl (fun M9 hq => ?_)
  rw [hq]
  refine V_aload_n (n := 0) X d_Mod_minute_42 rfl rfl rfl ?_
  refine V_geti X fo_Mod_327 kd_162 rfl d_Mod_minute_43 rfl ?_
  exact V_iret X (kr ((x6.1 162 31), x6) (Option.some.inj h).symm) d_Mod_minute_46
def lb_Mod_minutes_36 (v1 : Int32) (s : Int32 × Int32 × Int32 × Mem) : Option ((Int32 × Int32 × Int32 × Mem) ⊕ ((Int32 × Int32 × Mem))) :=
  if v1 ≤ s.2.2.1 then
  some (.inr (s.1, s.2.1, s.2.2.2))
  else
  Option.bind (f_Mod_goMinute 163 s.2.2.2) fun x3 =>
  Option.bind (f_JInteger_bitCount (x3.1 162 29)) fun x4 =>
  some (.inl ((s.1 + (x3.1 162 31)), (s.2.1 + x4), (s.2.2.1 + (1 : Int32)), x3))
theorem lb_Mod_minutes_36_ok {E : Ev} {G : Gw} {d : Nat} {post : Int32 → Mem → Prop} (X : Cx E G b_Mod_minutes "WomenByTheRoofsModel" 5 d (some .int)) (hD : 403 ≤ d)  (v1 : Int32)   (s : Int32 × Int32 × Int32 × Mem) (o : (Int32 × Int32 × Int32 × Mem) ⊕ ((Int32 × Int32 × Mem))) (h : lb_Mod_minutes_36 v1 s = some o) (kc : ∀ s9 : Int32 × Int32 × Int32 × Mem, o = .inl s9 → V E (0, 0) G 5 (QI E G post) s9.2.2.2 36 [(0, .ref (G.2.2 + 162)), (1, .int v1), (2, .int s9.1), (3, .int s9.2.1), (4, .int s9.2.2.1)] []) (kx0 : ∀ x9 : Int32 × Int32 × Mem, o = .inr x9 → V E (0, 0) G 5 (QI E G post) x9.2.2 73 [(0, .ref (G.2.2 + 162)), (2, .int x9.1), (3, .int x9.2.1)] []) : V E (0, 0) G 5 (QI E G post) s.2.2.2 36 [(0, .ref (G.2.2 + 162)), (1, .int v1), (2, .int s.1), (3, .int s.2.1), (4, .int s.2.2.1)] [] := by
  unfold lb_Mod_minutes_36 at h
  refine V_iload (n := 4) X d_Mod_minutes_36 rfl rfl ?_
  refine V_iload_n (n := 1) X d_Mod_minutes_38 rfl rfl rfl ?_
  refine V_icmp_ge (tgt := 73) X d_Mod_minutes_39 (by decide) rfl (fun c5 => ?_) (fun c5 => ?_)
  · rw [if_pos c5] at h
    refine V_sub (lv' := [(0, .ref (G.2.2 + 162)), (2, .int s.1), (3, .int s.2.1)]) [0, 2, 3] rfl ?_
    exact kx0 (s.1, s.2.1, s.2.2.2) (Option.some.inj h).symm
  · rw [if_neg c5] at h
    refine V_aload_n (n := 0) X d_Mod_minutes_42 rfl rfl rfl ?_
    refine V_aload_n (n := 0) X d_Mod_minutes_43 rfl rfl rfl ?_
    refine V_getr (k2 := 163) X fo_Mod_9 kd_162 rfl rf_162_0 d_Mod_minutes_44 rfl ?_
    obtain ⟨x3, hx3, h⟩ := ob_s h
    refine V_cv (As := [.ref (G.2.2 + 163)]) X (Z0 E) ml_Mod_339 yq_Mod_goMinute (c_Mod_goMinute E.2.1 G 163 s.2.2.2 x3 hx3 _ (Nat.le_refl _)) kd_162 rfl rfl (by omega) rfl (Nat.le_of_ble_eq_true rfl) d_Mod_minutes_47 rfl (fun M9 hq => ?_)
    rw [hq]
    refine V_iload_n (n := 2) X d_Mod_minutes_50 rfl rfl rfl ?_
    refine V_aload_n (n := 0) X d_Mod_minutes_51 rfl rfl rfl ?_
    refine V_geti X fo_Mod_327 kd_162 rfl d_Mod_minutes_52 rfl ?_
    refine V_iadd X d_Mod_minutes_55 rfl ?_
    refine V_istore_n (lv' := [(2, .int (s.1 + (x3.1 162 31))), (0, .ref (G.2.2 + 162)), (1, .int v1), (3, .int s.2.1), (4, .int s.2.2.1)]) X d_Mod_minutes_56 rfl (by decide) rfl rfl ?_
    refine V_iload_n (n := 3) X d_Mod_minutes_57 rfl rfl rfl ?_
    refine V_aload_n (n := 1) X d_Mod_minutes_58 rfl rfl rfl ?_
    refine V_geti X fo_Mod_324 kd_162 rfl d_Mod_minutes_59 rfl ?_
    obtain ⟨x4, hx4, h⟩ := ob_s h
    refine V_si (As := [.int (x3.1 162 29)]) X (Z0 E) ml_Mod_310 yq_JInteger_bitCount (c_JInteger_bitCount E.2.1 G (x3.1 162 29) x3 x4 hx4 _ (Nat.le_refl _)) rfl (by omega) rfl (Nat.le_of_ble_eq_true rfl) d_Mod_minutes_62 rfl (fun r9 M9 hq => ?_)
    rw [hq.1, hq.2]
    refine V_iadd X d_Mod_minutes_65 rfl ?_
    refine V_istore_n (lv' := [(3, .int (s.2.1 + x4)), (2, .int (s.1 + (x3.1 162 31))), (0, .ref (G.2.2 + 162)), (1, .int v1), (4, .int s.2.2.1)]) X d_Mod_minutes_66 rfl (by decide) rfl rfl ?_
    refine V_iinc (n := 4) (v := (s.2.2.1 + (1 : Int32))) (lv' := [(4, .int (s.2.2.1 + (1 : Int32))), (3, .int (s.2.1 + x4)), (2, .int (s.1 + (x3.1 162 31))), (0, .ref (G.2.2 + 162)), (1, .int v1)]) X d_Mod_minutes_67 rfl rfl (by decide) rfl rfl ?_
    refine V_goto (pc' := 36) X d_Mod_minutes_70 (by decide) ?_
    refine V_sub (lv' := [(0, .ref (G.2.2 + 162)), (1, .int v1), (2, .int (s.1 + (x3.1 162 31))), (3, .int (s.2.1 + x4)), (4, .int (s.2.2.1 + (1 : Int32)))]) [3, 4, 2, 1, 0] rfl ?_
    exact kc ((s.1 + (x3.1 162 31)), (s.2.1 + x4), (s.2.2.1 + (1 : Int32)), x3) (Option.some.inj h).symm
theorem lp_Mod_minutes_36_ok {E : Ev} {G : Gw} {d : Nat} {post : Int32 → Mem → Prop} (X : Cx E G b_Mod_minutes "WomenByTheRoofsModel" 5 d (some .int)) (hD : 403 ≤ d)  (v1 : Int32)   (n9 : Nat) (s : Int32 × Int32 × Int32 × Mem) (x : (Int32 × Int32 × Mem)) (h : iter (lb_Mod_minutes_36 v1) n9 s = some x) (kx0 : ∀ x9 : Int32 × Int32 × Mem, x = x9 → V E (0, 0) G 5 (QI E G post) x9.2.2 73 [(0, .ref (G.2.2 + 162)), (2, .int x9.1), (3, .int x9.2.1)] []) : V E (0, 0) G 5 (QI E G post) s.2.2.2 36 [(0, .ref (G.2.2 + 162)), (1, .int v1), (2, .int s.1), (3, .int s.2.1), (4, .int s.2.2.1)] [] :=
  iter_P (P := fun s : Int32 × Int32 × Int32 × Mem => V E (0, 0) G 5 (QI E G post) s.2.2.2 36 [(0, .ref (G.2.2 + 162)), (1, .int v1), (2, .int s.1), (3, .int s.2.1), (4, .int s.2.2.1)] []) (fun s o hb kc ky => lb_Mod_minutes_36_ok X hD v1 s o hb kc (fun x9 e9 => kx0 x9 (ky _ e9).symm)) n9 s h
def f_Mod_minutes (v1 : Int32) (M : Mem) : Option (Int32 × Mem) :=
  mem_ (s_i M 162 13 (0 : Int32)) fun M1 =>
  Option.bind (f_Mod_in v1 (0 : Int32) (60 : Int32)) fun x2 =>
  if x2 = 0 then
  some ((-1 : Int32), M1)
  else
  if v1 ≤ 0 then
  Option.bind (iter (lb_Mod_minutes_36 v1) FU ((0 : Int32), (0 : Int32), (0 : Int32), M1)) fun x6 =>
  mem_ (s_i x6.2.2 162 12 (0 : Int32)) fun M7 =>
  Option.bind (f_Mod_put x6.2.1 M7) fun x8 =>
  Option.bind (f_Mod_put (x8.1 163 (93 : Int32).toNatClampNeg) x8) fun x9 =>
  some (x6.1, x9)
  else
  Option.bind (f_Mod_remember 163 M1) fun x10 =>
  Option.bind (iter (lb_Mod_minutes_36 v1) FU ((0 : Int32), (0 : Int32), (0 : Int32), x10)) fun x11 =>
  mem_ (s_i x11.2.2 162 12 (0 : Int32)) fun M12 =>
  Option.bind (f_Mod_put x11.2.1 M12) fun x13 =>
  Option.bind (f_Mod_put (x13.1 163 (93 : Int32).toNatClampNeg) x13) fun x14 =>
  some (x11.1, x14)
theorem c_Mod_minutes (l : Launch) (G : Gw)  (v1 : Int32) (M : Mem) (x : Int32 × Mem) (h : f_Mod_minutes v1 M = some x) (d : Nat) (hD : 403 ≤ d) : Ci l G y_Mod_minutes b_Mod_minutes 5 (some .int) d [.ref (G.2.2 + 162), .int v1] M (fun r9 M9 => r9 = x.1 ∧ M9 = x.2) := by
  refine Ci_of (by decide) (Nat.le_of_ble_eq_true rfl) (fun E hE X => ?_)
  subst hE
  have kr : ∀ x9 : Int32 × Mem, x = x9 → (fun r9 M9 => r9 = x.1 ∧ M9 = x.2) x9.1 x9.2 := fun x9 e9 => by subst e9; exact ⟨rfl, rfl⟩
  unfold f_Mod_minutes at h
  refine V_aload_n (n := 0) X d_Mod_minutes_0 rfl rfl rfl ?_
  refine V_iconst (v := 0) X d_Mod_minutes_1 (by decide) rfl ?_
  obtain ⟨M1, eM1, h⟩ := memS h
  refine V_putI X fp_Mod_109 kd_162 rfl d_Mod_minutes_2 rfl ?_
  rw [← eM1]
  refine V_iload_n (n := 1) X d_Mod_minutes_5 rfl rfl rfl ?_
  refine V_iconst (v := 0) X d_Mod_minutes_6 (by decide) rfl ?_
  refine V_bipush (v := 60) X d_Mod_minutes_7 (by decide) rfl ?_
  obtain ⟨x2, hx2, h⟩ := ob_s h
  refine V_si (As := [.int v1, .int (0 : Int32), .int (60 : Int32)]) X (Z0 E) ml_Mod_119 yq_Mod_in (c_Mod_in E.2.1 G v1 (0 : Int32) (60 : Int32) M1 x2 hx2 _ (Nat.le_refl _)) rfl (by omega) rfl (Nat.le_of_ble_eq_true rfl) d_Mod_minutes_9 rfl (fun r9 M9 hq => ?_)
  rw [hq.1, hq.2]
  refine V_if_ne (tgt := 17) X d_Mod_minutes_12 (by decide) rfl (fun c16 => ?_) (fun c16 => ?_)
  · rw [if_neg c16] at h
    refine V_iload_n (n := 1) X d_Mod_minutes_17 rfl rfl rfl ?_
    refine V_if_le (tgt := 29) X d_Mod_minutes_18 (by decide) rfl (fun c15 => ?_) (fun c15 => ?_)
    · rw [if_pos c15] at h
      refine V_iconst (v := 0) X d_Mod_minutes_29 (by decide) rfl ?_
      refine V_istore_n (lv' := [(2, .int (0 : Int32)), (0, .ref (G.2.2 + 162)), (1, .int v1)]) X d_Mod_minutes_30 rfl (by decide) rfl rfl ?_
      refine V_iconst (v := 0) X d_Mod_minutes_31 (by decide) rfl ?_
      refine V_istore_n (lv' := [(3, .int (0 : Int32)), (2, .int (0 : Int32)), (0, .ref (G.2.2 + 162)), (1, .int v1)]) X d_Mod_minutes_32 rfl (by decide) rfl rfl ?_
      refine V_iconst (v := 0) X d_Mod_minutes_33 (by decide) rfl ?_
      refine V_istore (lv' := [(4, .int (0 : Int32)), (3, .int (0 : Int32)), (2, .int (0 : Int32)), (0, .ref (G.2.2 + 162)), (1, .int v1)]) X d_Mod_minutes_34 (by decide) rfl rfl ?_
      refine V_sub (lv' := [(0, .ref (G.2.2 + 162)), (1, .int v1), (2, .int (0 : Int32)), (3, .int (0 : Int32)), (4, .int (0 : Int32))]) [3, 4, 2, 1, 0] rfl ?_
      obtain ⟨x6, hx6, h⟩ := ob_s h
      refine (lp_Mod_minutes_36_ok X hD v1 _ _ _ hx6 (fun x9 e9 => ?_) :)
      subst e9
      refine V_aload_n (n := 0) X d_Mod_minutes_73 rfl rfl rfl ?_
      refine V_iconst (v := 0) X d_Mod_minutes_74 (by decide) rfl ?_
      obtain ⟨M7, eM7, h⟩ := memS h
      refine V_putI X fp_Mod_112 kd_162 rfl d_Mod_minutes_75 rfl ?_
      rw [← eM7]
      refine V_aload_n (n := 0) X d_Mod_minutes_78 rfl rfl rfl ?_
      refine V_iload_n (n := 2) X d_Mod_minutes_79 rfl rfl rfl ?_
      obtain ⟨x8, hx8, h⟩ := ob_s h
      refine V_cv (As := [.int x6.2.1]) X (Z0 E) ml_Mod_342 yq_Mod_put (c_Mod_put E.2.1 G x6.2.1 M7 x8 hx8 _ (Nat.le_refl _)) kd_162 rfl rfl (by omega) rfl (Nat.le_of_ble_eq_true rfl) d_Mod_minutes_80 rfl (fun M9 hq => ?_)
      rw [hq]
      refine V_aload_n (n := 0) X d_Mod_minutes_83 rfl rfl rfl ?_
      refine V_aload_n (n := 0) X d_Mod_minutes_84 rfl rfl rfl ?_
      refine V_getr (k2 := 163) X fo_Mod_9 kd_162 rfl rf_162_0 d_Mod_minutes_85 rfl ?_
      refine V_bipush (v := 93) X d_Mod_minutes_88 (by decide) rfl ?_
      refine V_iald X kd_163 (inb_in ln_163 (by decide)) d_Mod_minutes_90 rfl ?_
      obtain ⟨x9, hx9, h⟩ := ob_s h
      refine V_cv (As := [.int (x8.1 163 (93 : Int32).toNatClampNeg)]) X (Z0 E) ml_Mod_342 yq_Mod_put (c_Mod_put E.2.1 G (x8.1 163 (93 : Int32).toNatClampNeg) x8 x9 hx9 _ (Nat.le_refl _)) kd_162 rfl rfl (by omega) rfl (Nat.le_of_ble_eq_true rfl) d_Mod_minutes_91 rfl (fun M9 hq => ?_)
      rw [hq]
      refine V_iload_n (n := 1) X d_Mod_minutes_94 rfl rfl rfl ?_
      exact V_iret X (kr (x6.1, x9) (Option.some.inj h).symm) d_Mod_minutes_95
    · rw [if_neg c15] at h
      refine V_aload_n (n := 0) X d_Mod_minutes_21 rfl rfl rfl ?_
      refine V_aload_n (n := 0) X d_Mod_minutes_22 rfl rfl rfl ?_
      refine V_getr (k2 := 163) X fo_Mod_9 kd_162 rfl rf_162_0 d_Mod_minutes_23 rfl ?_
      obtain ⟨x10, hx10, h⟩ := ob_s h
      refine V_cv (As := [.ref (G.2.2 + 163)]) X (Z0 E) ml_Mod_293 yq_Mod_remember (c_Mod_remember E.2.1 G 163 M1 x10 hx10 _ (Nat.le_refl _)) kd_162 rfl rfl (by omega) rfl (Nat.le_of_ble_eq_true rfl) d_Mod_minutes_26 rfl (fun M9 hq => ?_)
      rw [hq]
      refine V_iconst (v := 0) X d_Mod_minutes_29 (by decide) rfl ?_
      refine V_istore_n (lv' := [(2, .int (0 : Int32)), (0, .ref (G.2.2 + 162)), (1, .int v1)]) X d_Mod_minutes_30 rfl (by decide) rfl rfl ?_
      refine V_iconst (v := 0) X d_Mod_minutes_31 (by decide) rfl ?_
      refine V_istore_n (lv' := [(3, .int (0 : Int32)), (2, .int (0 : Int32)), (0, .ref (G.2.2 + 162)), (1, .int v1)]) X d_Mod_minutes_32 rfl (by decide) rfl rfl ?_
      refine V_iconst (v := 0) X d_Mod_minutes_33 (by decide) rfl ?_
      refine V_istore (lv' := [(4, .int (0 : Int32)), (3, .int (0 : Int32)), (2, .int (0 : Int32)), (0, .ref (G.2.2 + 162)), (1, .int v1)]) X d_Mod_minutes_34 (by decide) rfl rfl ?_
      refine V_sub (lv' := [(0, .ref (G.2.2 + 162)), (1, .int v1), (2, .int (0 : Int32)), (3, .int (0 : Int32)), (4, .int (0 : Int32))]) [3, 4, 2, 1, 0] rfl ?_
      obtain ⟨x11, hx11, h⟩ := ob_s h
      refine (lp_Mod_minutes_36_ok X hD v1 _ _ _ hx11 (fun x9 e9 => ?_) :)
      subst e9
      refine V_aload_n (n := 0) X d_Mod_minutes_73 rfl rfl rfl ?_
      refine V_iconst (v := 0) X d_Mod_minutes_74 (by decide) rfl ?_
      obtain ⟨M12, eM12, h⟩ := memS h
      refine V_putI X fp_Mod_112 kd_162 rfl d_Mod_minutes_75 rfl ?_
      rw [← eM12]
      refine V_aload_n (n := 0) X d_Mod_minutes_78 rfl rfl rfl ?_
      refine V_iload_n (n := 2) X d_Mod_minutes_79 rfl rfl rfl ?_
      obtain ⟨x13, hx13, h⟩ := ob_s h
      refine V_cv (As := [.int x11.2.1]) X (Z0 E) ml_Mod_342 yq_Mod_put (c_Mod_put E.2.1 G x11.2.1 M12 x13 hx13 _ (Nat.le_refl _)) kd_162 rfl rfl (by omega) rfl (Nat.le_of_ble_eq_true rfl) d_Mod_minutes_80 rfl (fun M9 hq => ?_)
      rw [hq]
      refine V_aload_n (n := 0) X d_Mod_minutes_83 rfl rfl rfl ?_
      refine V_aload_n (n := 0) X d_Mod_minutes_84 rfl rfl rfl ?_
      refine V_getr (k2 := 163) X fo_Mod_9 kd_162 rfl rf_162_0 d_Mod_minutes_85 rfl ?_
      refine V_bipush (v := 93) X d_Mod_minutes_88 (by decide) rfl ?_
      refine V_iald X kd_163 (inb_in ln_163 (by decide)) d_Mod_minutes_90 rfl ?_
      obtain ⟨x14, hx14, h⟩ := ob_s h
      refine V_cv (As := [.int (x13.1 163 (93 : Int32).toNatClampNeg)]) X (Z0 E) ml_Mod_342 yq_Mod_put (c_Mod_put E.2.1 G (x13.1 163 (93 : Int32).toNatClampNeg) x13 x14 hx14 _ (Nat.le_refl _)) kd_162 rfl rfl (by omega) rfl (Nat.le_of_ble_eq_true rfl) d_Mod_minutes_91 rfl (fun M9 hq => ?_)
      rw [hq]
      refine V_iload_n (n := 1) X d_Mod_minutes_94 rfl rfl rfl ?_
      exact V_iret X (kr (x11.1, x14) (Option.some.inj h).symm) d_Mod_minutes_95
  · rw [if_pos c16] at h
    refine V_iconst (v := -1) X d_Mod_minutes_15 (by decide) rfl ?_
    exact V_iret X (kr ((-1 : Int32), M1) (Option.some.inj h).symm) d_Mod_minutes_16
def j_Mod_readAct_110 (v1 : Int32) (v2 : Int32) (M : Mem) : Option (Mem) :=
  if v2 = (110 : Int32) then
  Option.bind (f_Mod_here M) fun x6 =>
  if inb (v1 + (1 : Int32)) 240 = true then
  mem_ (s_i M 175 (v1 + (1 : Int32)).toNatClampNeg (x6 - (97 : Int32))) fun M7 =>
  Option.bind (f_Mod_here M7) fun x8 =>
  Option.bind (f_Mod_in x8 (97 : Int32) (104 : Int32)) fun x9 =>
  if x9 = 0 then
  Option.bind (f_Mod_fault (M7.1 162 17) M7) fun x11 =>
  mem_ (s_i x11 162 17 ((x11.1 162 17) + (1 : Int32))) fun M12 =>
  some M12
  else
  mem_ (s_i M7 162 17 ((M7.1 162 17) + (1 : Int32))) fun M10 =>
  some M10
  else none
  else
  some M
theorem j_Mod_readAct_110_ok {E : Ev} {G : Gw} {d : Nat} {post : Mem → Prop} (X : Cx E G b_Mod_readAct "WomenByTheRoofsModel" 3 d none) (hD : 4 ≤ d)  (v1 : Int32) (v2 : Int32)  (M : Mem)  (o : Mem) (h : j_Mod_readAct_110 v1 v2 M = some o) (kr : ∀ x9 : Mem, o = x9 → post x9) : V E (0, 0) G 3 (QV E G post) M 110 [(0, .ref (G.2.2 + 162)), (1, .int v1), (2, .int v2)] [] := by
  unfold j_Mod_readAct_110 at h
  refine V_iload_n (n := 2) X d_Mod_readAct_110 rfl rfl rfl ?_
  refine V_bipush (v := 110) X d_Mod_readAct_111 (by decide) rfl ?_
  refine V_icmp_ne (tgt := 163) X d_Mod_readAct_113 (by decide) rfl (fun c14 => ?_) (fun c14 => ?_)
  · rw [if_neg c14] at h
    exact V_vret X (kr M (Option.some.inj h).symm) d_Mod_readAct_163
  · rw [if_pos c14] at h
    refine V_aload_n (n := 0) X d_Mod_readAct_116 rfl rfl rfl ?_
    refine V_getr (k2 := 175) X fo_Mod_57 kd_162 rfl rf_162_32 d_Mod_readAct_117 rfl ?_
    refine V_iload_n (n := 1) X d_Mod_readAct_120 rfl rfl rfl ?_
    refine V_iconst (v := 1) X d_Mod_readAct_121 (by decide) rfl ?_
    refine V_iadd X d_Mod_readAct_122 rfl ?_
    refine V_aload_n (n := 0) X d_Mod_readAct_123 rfl rfl rfl ?_
    obtain ⟨x6, hx6, h⟩ := ob_s h
    refine V_ci (As := []) X (Z0 E) ml_Mod_183 yq_Mod_here (c_Mod_here E.2.1 G  M x6 hx6 _ (Nat.le_refl _)) kd_162 rfl rfl (by omega) rfl (Nat.le_of_ble_eq_true rfl) d_Mod_readAct_124 rfl (fun r9 M9 hq => ?_)
    rw [hq.1, hq.2]
    refine V_bipush (v := 97) X d_Mod_readAct_127 (by decide) rfl ?_
    refine V_isub X d_Mod_readAct_129 rfl ?_
    obtain ⟨hb, h⟩ := ifn h
    obtain ⟨M7, eM7, h⟩ := memS h
    refine V_iast X kd_175 (inb_in ln_175 hb) d_Mod_readAct_130 rfl ?_
    rw [← eM7]
    refine V_aload_n (n := 0) X d_Mod_readAct_131 rfl rfl rfl ?_
    obtain ⟨x8, hx8, h⟩ := ob_s h
    refine V_ci (As := []) X (Z0 E) ml_Mod_183 yq_Mod_here (c_Mod_here E.2.1 G  M7 x8 hx8 _ (Nat.le_refl _)) kd_162 rfl rfl (by omega) rfl (Nat.le_of_ble_eq_true rfl) d_Mod_readAct_132 rfl (fun r9 M9 hq => ?_)
    rw [hq.1, hq.2]
    refine V_bipush (v := 97) X d_Mod_readAct_135 (by decide) rfl ?_
    refine V_bipush (v := 104) X d_Mod_readAct_137 (by decide) rfl ?_
    obtain ⟨x9, hx9, h⟩ := ob_s h
    refine V_si (As := [.int x8, .int (97 : Int32), .int (104 : Int32)]) X (Z0 E) ml_Mod_119 yq_Mod_in (c_Mod_in E.2.1 G x8 (97 : Int32) (104 : Int32) M7 x9 hx9 _ (Nat.le_refl _)) rfl (by omega) rfl (Nat.le_of_ble_eq_true rfl) d_Mod_readAct_139 rfl (fun r9 M9 hq => ?_)
    rw [hq.1, hq.2]
    refine V_if_ne (tgt := 153) X d_Mod_readAct_142 (by decide) rfl (fun c13 => ?_) (fun c13 => ?_)
    · rw [if_neg c13] at h
      refine V_aload_n (n := 0) X d_Mod_readAct_153 rfl rfl rfl ?_
      refine V_dup X d_Mod_readAct_154 rfl rfl ?_
      refine V_geti X fo_Mod_173 kd_162 rfl d_Mod_readAct_155 rfl ?_
      refine V_iconst (v := 1) X d_Mod_readAct_158 (by decide) rfl ?_
      refine V_iadd X d_Mod_readAct_159 rfl ?_
      obtain ⟨M10, eM10, h⟩ := memS h
      refine V_putI X fp_Mod_173 kd_162 rfl d_Mod_readAct_160 rfl ?_
      rw [← eM10]
      exact V_vret X (kr M10 (Option.some.inj h).symm) d_Mod_readAct_163
    · rw [if_pos c13] at h
      refine V_aload_n (n := 0) X d_Mod_readAct_145 rfl rfl rfl ?_
      refine V_aload_n (n := 0) X d_Mod_readAct_146 rfl rfl rfl ?_
      refine V_geti X fo_Mod_173 kd_162 rfl d_Mod_readAct_147 rfl ?_
      obtain ⟨x11, hx11, h⟩ := ob_s h
      refine V_cv (As := [.int (M7.1 162 17)]) X (Z0 E) ml_Mod_190 yq_Mod_fault (c_Mod_fault E.2.1 G (M7.1 162 17) M7 x11 hx11 _ (Nat.le_refl _)) kd_162 rfl rfl (by omega) rfl (Nat.le_of_ble_eq_true rfl) d_Mod_readAct_150 rfl (fun M9 hq => ?_)
      rw [hq]
      refine V_aload_n (n := 0) X d_Mod_readAct_153 rfl rfl rfl ?_
      refine V_dup X d_Mod_readAct_154 rfl rfl ?_
      refine V_geti X fo_Mod_173 kd_162 rfl d_Mod_readAct_155 rfl ?_
      refine V_iconst (v := 1) X d_Mod_readAct_158 (by decide) rfl ?_
      refine V_iadd X d_Mod_readAct_159 rfl ?_
      obtain ⟨M12, eM12, h⟩ := memS h
      refine V_putI X fp_Mod_173 kd_162 rfl d_Mod_readAct_160 rfl ?_
      rw [← eM12]
      exact V_vret X (kr M12 (Option.some.inj h).symm) d_Mod_readAct_163
def j_Mod_readAct_85 (v1 : Int32) (v2 : Int32) (M : Mem) : Option (Mem) :=
  if v2 = (112 : Int32) then
  Option.bind (f_Mod_need (45 : Int32) M) fun x15 =>
  Option.bind (f_Mod_number (2 : Int32) x15) fun x16 =>
  if inb (v1 + (2 : Int32)) 240 = true then
  mem_ (s_i x16.2 175 (v1 + (2 : Int32)).toNatClampNeg x16.1) fun M17 =>
  j_Mod_readAct_110 v1 v2 M17
  else none
  else
  j_Mod_readAct_110 v1 v2 M
theorem j_Mod_readAct_85_ok {E : Ev} {G : Gw} {d : Nat} {post : Mem → Prop} (X : Cx E G b_Mod_readAct "WomenByTheRoofsModel" 3 d none) (hD : 4 ≤ d)  (v1 : Int32) (v2 : Int32)  (M : Mem)  (o : Mem) (h : j_Mod_readAct_85 v1 v2 M = some o) (kr : ∀ x9 : Mem, o = x9 → post x9) : V E (0, 0) G 3 (QV E G post) M 85 [(0, .ref (G.2.2 + 162)), (1, .int v1), (2, .int v2)] [] := by
  unfold j_Mod_readAct_85 at h
  refine V_iload_n (n := 2) X d_Mod_readAct_85 rfl rfl rfl ?_
  refine V_bipush (v := 112) X d_Mod_readAct_86 (by decide) rfl ?_
  refine V_icmp_ne (tgt := 110) X d_Mod_readAct_88 (by decide) rfl (fun c18 => ?_) (fun c18 => ?_)
  · rw [if_neg c18] at h
    exact j_Mod_readAct_110_ok X hD v1 v2 M _ h kr
  · rw [if_pos c18] at h
    refine V_aload_n (n := 0) X d_Mod_readAct_91 rfl rfl rfl ?_
    refine V_bipush (v := 45) X d_Mod_readAct_92 (by decide) rfl ?_
    obtain ⟨x15, hx15, h⟩ := ob_s h
    refine V_cv (As := [.int (45 : Int32)]) X (Z0 E) ml_Mod_216 yq_Mod_need (c_Mod_need E.2.1 G (45 : Int32) M x15 hx15 _ (Nat.le_refl _)) kd_162 rfl rfl (by omega) rfl (Nat.le_of_ble_eq_true rfl) d_Mod_readAct_94 rfl (fun M9 hq => ?_)
    rw [hq]
    refine V_aload_n (n := 0) X d_Mod_readAct_97 rfl rfl rfl ?_
    refine V_getr (k2 := 175) X fo_Mod_57 kd_162 rfl rf_162_32 d_Mod_readAct_98 rfl ?_
    refine V_iload_n (n := 1) X d_Mod_readAct_101 rfl rfl rfl ?_
    refine V_iconst (v := 2) X d_Mod_readAct_102 (by decide) rfl ?_
    refine V_iadd X d_Mod_readAct_103 rfl ?_
    refine V_aload_n (n := 0) X d_Mod_readAct_104 rfl rfl rfl ?_
    refine V_iconst (v := 2) X d_Mod_readAct_105 (by decide) rfl ?_
    obtain ⟨x16, hx16, h⟩ := ob_s h
    refine V_ci (As := [.int (2 : Int32)]) X (Z0 E) ml_Mod_213 yq_Mod_number (c_Mod_number E.2.1 G (2 : Int32) x15 x16 hx16 _ (Nat.le_refl _)) kd_162 rfl rfl (by omega) rfl (Nat.le_of_ble_eq_true rfl) d_Mod_readAct_106 rfl (fun r9 M9 hq => ?_)
    rw [hq.1, hq.2]
    obtain ⟨hb, h⟩ := ifn h
    obtain ⟨M17, eM17, h⟩ := memS h
    refine V_iast X kd_175 (inb_in ln_175 hb) d_Mod_readAct_109 rfl ?_
    rw [← eM17]
    exact j_Mod_readAct_110_ok X hD v1 v2 M17 _ h kr
def j_Mod_readAct_72 (v1 : Int32) (v2 : Int32) (M : Mem) : Option (Mem) :=
  Option.bind (f_Mod_number (2 : Int32) M) fun x4 =>
  if inb (v1 + (1 : Int32)) 240 = true then
  mem_ (s_i x4.2 175 (v1 + (1 : Int32)).toNatClampNeg x4.1) fun M5 =>
  j_Mod_readAct_85 v1 v2 M5
  else none
theorem j_Mod_readAct_72_ok {E : Ev} {G : Gw} {d : Nat} {post : Mem → Prop} (X : Cx E G b_Mod_readAct "WomenByTheRoofsModel" 3 d none) (hD : 4 ≤ d)  (v1 : Int32) (v2 : Int32)  (M : Mem)  (o : Mem) (h : j_Mod_readAct_72 v1 v2 M = some o) (kr : ∀ x9 : Mem, o = x9 → post x9) : V E (0, 0) G 3 (QV E G post) M 72 [(0, .ref (G.2.2 + 162)), (1, .int v1), (2, .int v2)] [] := by
  unfold j_Mod_readAct_72 at h
  refine V_aload_n (n := 0) X d_Mod_readAct_72 rfl rfl rfl ?_
  refine V_getr (k2 := 175) X fo_Mod_57 kd_162 rfl rf_162_32 d_Mod_readAct_73 rfl ?_
  refine V_iload_n (n := 1) X d_Mod_readAct_76 rfl rfl rfl ?_
  refine V_iconst (v := 1) X d_Mod_readAct_77 (by decide) rfl ?_
  refine V_iadd X d_Mod_readAct_78 rfl ?_
  refine V_aload_n (n := 0) X d_Mod_readAct_79 rfl rfl rfl ?_
  refine V_iconst (v := 2) X d_Mod_readAct_80 (by decide) rfl ?_
  obtain ⟨x4, hx4, h⟩ := ob_s h
  refine V_ci (As := [.int (2 : Int32)]) X (Z0 E) ml_Mod_213 yq_Mod_number (c_Mod_number E.2.1 G (2 : Int32) M x4 hx4 _ (Nat.le_refl _)) kd_162 rfl rfl (by omega) rfl (Nat.le_of_ble_eq_true rfl) d_Mod_readAct_81 rfl (fun r9 M9 hq => ?_)
  rw [hq.1, hq.2]
  obtain ⟨hb, h⟩ := ifn h
  obtain ⟨M5, eM5, h⟩ := memS h
  refine V_iast X kd_175 (inb_in ln_175 hb) d_Mod_readAct_84 rfl ?_
  rw [← eM5]
  exact j_Mod_readAct_85_ok X hD v1 v2 M5 _ h kr
def j_Mod_readAct_43 (v1 : Int32) (v2 : Int32) (M : Mem) : Option (Mem) :=
  mem_ (s_i M 162 17 ((M.1 162 17) + (1 : Int32))) fun M2 =>
  if inb v1 240 = true then
  mem_ (s_i M2 175 v1.toNatClampNeg v2) fun M3 =>
  if v2 = (109 : Int32) then
  j_Mod_readAct_72 v1 v2 M3
  else
  if v2 = (112 : Int32) then
  j_Mod_readAct_72 v1 v2 M3
  else
  j_Mod_readAct_85 v1 v2 M3
  else none
theorem j_Mod_readAct_43_ok {E : Ev} {G : Gw} {d : Nat} {post : Mem → Prop} (X : Cx E G b_Mod_readAct "WomenByTheRoofsModel" 3 d none) (hD : 4 ≤ d)  (v1 : Int32) (v2 : Int32)  (M : Mem)  (o : Mem) (h : j_Mod_readAct_43 v1 v2 M = some o) (kr : ∀ x9 : Mem, o = x9 → post x9) : V E (0, 0) G 3 (QV E G post) M 43 [(0, .ref (G.2.2 + 162)), (1, .int v1), (2, .int v2)] [] := by
  unfold j_Mod_readAct_43 at h
  refine V_aload_n (n := 0) X d_Mod_readAct_43 rfl rfl rfl ?_
  refine V_dup X d_Mod_readAct_44 rfl rfl ?_
  refine V_geti X fo_Mod_173 kd_162 rfl d_Mod_readAct_45 rfl ?_
  refine V_iconst (v := 1) X d_Mod_readAct_48 (by decide) rfl ?_
  refine V_iadd X d_Mod_readAct_49 rfl ?_
  obtain ⟨M2, eM2, h⟩ := memS h
  refine V_putI X fp_Mod_173 kd_162 rfl d_Mod_readAct_50 rfl ?_
  rw [← eM2]
  refine V_aload_n (n := 0) X d_Mod_readAct_53 rfl rfl rfl ?_
  refine V_getr (k2 := 175) X fo_Mod_57 kd_162 rfl rf_162_32 d_Mod_readAct_54 rfl ?_
  refine V_iload_n (n := 1) X d_Mod_readAct_57 rfl rfl rfl ?_
  refine V_iload_n (n := 2) X d_Mod_readAct_58 rfl rfl rfl ?_
  obtain ⟨hb, h⟩ := ifn h
  obtain ⟨M3, eM3, h⟩ := memS h
  refine V_iast X kd_175 (inb_in ln_175 hb) d_Mod_readAct_59 rfl ?_
  rw [← eM3]
  refine V_iload_n (n := 2) X d_Mod_readAct_60 rfl rfl rfl ?_
  refine V_bipush (v := 109) X d_Mod_readAct_61 (by decide) rfl ?_
  refine V_icmp_eq (tgt := 72) X d_Mod_readAct_63 (by decide) rfl (fun c20 => ?_) (fun c20 => ?_)
  · rw [if_pos c20] at h
    exact j_Mod_readAct_72_ok X hD v1 v2 M3 _ h kr
  · rw [if_neg c20] at h
    refine V_iload_n (n := 2) X d_Mod_readAct_66 rfl rfl rfl ?_
    refine V_bipush (v := 112) X d_Mod_readAct_67 (by decide) rfl ?_
    refine V_icmp_ne (tgt := 85) X d_Mod_readAct_69 (by decide) rfl (fun c19 => ?_) (fun c19 => ?_)
    · rw [if_neg c19] at h
      exact j_Mod_readAct_85_ok X hD v1 v2 M3 _ h kr
    · rw [if_pos c19] at h
      exact j_Mod_readAct_72_ok X hD v1 v2 M3 _ h kr
def f_Mod_readAct (v1 : Int32) (M : Mem) : Option (Mem) :=
  Option.bind (f_Mod_here M) fun x1 =>
  if x1 = (109 : Int32) then
  j_Mod_readAct_43 v1 x1 M
  else
  if x1 = (110 : Int32) then
  j_Mod_readAct_43 v1 x1 M
  else
  if x1 = (112 : Int32) then
  j_Mod_readAct_43 v1 x1 M
  else
  if x1 = (120 : Int32) then
  j_Mod_readAct_43 v1 x1 M
  else
  if x1 = (102 : Int32) then
  j_Mod_readAct_43 v1 x1 M
  else
  Option.bind (f_Mod_fault (M.1 162 17) M) fun x21 =>
  j_Mod_readAct_43 v1 x1 x21
theorem c_Mod_readAct (l : Launch) (G : Gw)  (v1 : Int32) (M : Mem) (x : Mem) (h : f_Mod_readAct v1 M = some x) (d : Nat) (hD : 4 ≤ d) : Cv l G y_Mod_readAct b_Mod_readAct 3 none d [.ref (G.2.2 + 162), .int v1] M (fun M9 => M9 = x) := by
  refine Cv_of (by decide) (Nat.le_of_ble_eq_true rfl) (fun E hE X => ?_)
  subst hE
  have kr : ∀ x9 : Mem, x = x9 → (fun M9 => M9 = x) x9 := fun x9 e9 => by subst e9; exact rfl
  unfold f_Mod_readAct at h
  refine V_aload_n (n := 0) X d_Mod_readAct_0 rfl rfl rfl ?_
  obtain ⟨x1, hx1, h⟩ := ob_s h
  refine V_ci (As := []) X (Z0 E) ml_Mod_183 yq_Mod_here (c_Mod_here E.2.1 G  M x1 hx1 _ (Nat.le_refl _)) kd_162 rfl rfl (by omega) rfl (Nat.le_of_ble_eq_true rfl) d_Mod_readAct_1 rfl (fun r9 M9 hq => ?_)
  rw [hq.1, hq.2]
  refine V_istore_n (lv' := [(2, .int x1), (0, .ref (G.2.2 + 162)), (1, .int v1)]) X d_Mod_readAct_4 rfl (by decide) rfl rfl ?_
  refine V_iload_n (n := 0) X d_Mod_readAct_5 rfl rfl rfl ?_
  refine V_bipush (v := 109) X d_Mod_readAct_6 (by decide) rfl ?_
  refine V_icmp_eq (tgt := 43) X d_Mod_readAct_8 (by decide) rfl (fun c26 => ?_) (fun c26 => ?_)
  · rw [if_pos c26] at h
    refine V_sub (lv' := [(0, .ref (G.2.2 + 162)), (1, .int v1), (2, .int x1)]) [1, 2, 0] rfl ?_
    exact j_Mod_readAct_43_ok X hD v1 x1 M _ h kr
  · rw [if_neg c26] at h
    refine V_iload_n (n := 0) X d_Mod_readAct_11 rfl rfl rfl ?_
    refine V_bipush (v := 110) X d_Mod_readAct_12 (by decide) rfl ?_
    refine V_icmp_eq (tgt := 43) X d_Mod_readAct_14 (by decide) rfl (fun c25 => ?_) (fun c25 => ?_)
    · rw [if_pos c25] at h
      refine V_sub (lv' := [(0, .ref (G.2.2 + 162)), (1, .int v1), (2, .int x1)]) [1, 2, 0] rfl ?_
      exact j_Mod_readAct_43_ok X hD v1 x1 M _ h kr
    · rw [if_neg c25] at h
      refine V_iload_n (n := 0) X d_Mod_readAct_17 rfl rfl rfl ?_
      refine V_bipush (v := 112) X d_Mod_readAct_18 (by decide) rfl ?_
      refine V_icmp_eq (tgt := 43) X d_Mod_readAct_20 (by decide) rfl (fun c24 => ?_) (fun c24 => ?_)
      · rw [if_pos c24] at h
        refine V_sub (lv' := [(0, .ref (G.2.2 + 162)), (1, .int v1), (2, .int x1)]) [1, 2, 0] rfl ?_
        exact j_Mod_readAct_43_ok X hD v1 x1 M _ h kr
      · rw [if_neg c24] at h
        refine V_iload_n (n := 0) X d_Mod_readAct_23 rfl rfl rfl ?_
        refine V_bipush (v := 120) X d_Mod_readAct_24 (by decide) rfl ?_
        refine V_icmp_eq (tgt := 43) X d_Mod_readAct_26 (by decide) rfl (fun c23 => ?_) (fun c23 => ?_)
        · rw [if_pos c23] at h
          refine V_sub (lv' := [(0, .ref (G.2.2 + 162)), (1, .int v1), (2, .int x1)]) [1, 2, 0] rfl ?_
          exact j_Mod_readAct_43_ok X hD v1 x1 M _ h kr
        · rw [if_neg c23] at h
          refine V_iload_n (n := 0) X d_Mod_readAct_29 rfl rfl rfl ?_
          refine V_bipush (v := 102) X d_Mod_readAct_30 (by decide) rfl ?_
          refine V_icmp_eq (tgt := 43) X d_Mod_readAct_32 (by decide) rfl (fun c22 => ?_) (fun c22 => ?_)
          · rw [if_pos c22] at h
            refine V_sub (lv' := [(0, .ref (G.2.2 + 162)), (1, .int v1), (2, .int x1)]) [1, 2, 0] rfl ?_
            exact j_Mod_readAct_43_ok X hD v1 x1 M _ h kr
          · rw [if_neg c22] at h
            refine V_aload_n (n := 1) X d_Mod_readAct_35 rfl rfl rfl ?_
            refine V_aload_n (n := 1) X d_Mod_readAct_36 rfl rfl rfl ?_
            refine V_geti X fo_Mod_173 kd_162 rfl d_Mod_readAct_37 rfl ?_
            obtain ⟨x21, hx21, h⟩ := ob_s h
            refine V_cv (As := [.int (M.1 162 17)]) X (Z0 E) ml_Mod_190 yq_Mod_fault (c_Mod_fault E.2.1 G (M.1 162 17) M x21 hx21 _ (Nat.le_refl _)) kd_162 rfl rfl (by omega) rfl (Nat.le_of_ble_eq_true rfl) d_Mod_readAct_40 rfl (fun M9 hq => ?_)
            rw [hq]
            refine V_sub (lv' := [(0, .ref (G.2.2 + 162)), (1, .int v1), (2, .int x1)]) [1, 2, 0] rfl ?_
            exact j_Mod_readAct_43_ok X hD v1 x1 x21 _ h kr
