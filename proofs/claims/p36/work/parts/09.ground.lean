theorem d_Ground_kindOf_0 : decode b_Ground_kindOf 0 = .ok (.iload_n 0, 1) := kq_26 byq_r (by decide +kernel)
theorem d_Ground_kindOf_1 : decode b_Ground_kindOf 1 = .ok (.lookupswitch 51 #[(35, 43), (46, 45), (104, 47), (115, 49)], 43) := by decide +kernel
theorem d_Ground_kindOf_44 : decode b_Ground_kindOf 44 = .ok (.iconst 0, 1) := kq_3 byq_r (by decide +kernel)
theorem d_Ground_kindOf_45 : decode b_Ground_kindOf 45 = .ok (.ireturn, 1) := kq_172 byq_r (by decide +kernel)
theorem d_Ground_kindOf_46 : decode b_Ground_kindOf 46 = .ok (.iconst 1, 1) := kq_4 byq_r (by decide +kernel)
theorem d_Ground_kindOf_47 : decode b_Ground_kindOf 47 = .ok (.ireturn, 1) := kq_172 byq_r (by decide +kernel)
theorem d_Ground_kindOf_48 : decode b_Ground_kindOf 48 = .ok (.iconst 2, 1) := kq_5 byq_r (by decide +kernel)
theorem d_Ground_kindOf_49 : decode b_Ground_kindOf 49 = .ok (.ireturn, 1) := kq_172 byq_r (by decide +kernel)
theorem d_Ground_kindOf_50 : decode b_Ground_kindOf 50 = .ok (.iconst 3, 1) := kq_6 byq_r (by decide +kernel)
theorem d_Ground_kindOf_51 : decode b_Ground_kindOf 51 = .ok (.ireturn, 1) := kq_172 byq_r (by decide +kernel)
theorem d_Ground_kindOf_52 : decode b_Ground_kindOf 52 = .ok (.iconst (-1), 1) := kq_2 byq_r (by decide +kernel)
theorem d_Ground_kindOf_53 : decode b_Ground_kindOf 53 = .ok (.ireturn, 1) := kq_172 byq_r (by decide +kernel)
theorem d_Ground_fits_0 : decode b_Ground_fits 0 = .ok (.iload_n 1, 1) := kq_27 byq_r (by decide +kernel)
theorem d_Ground_fits_1 : decode b_Ground_fits 1 = .ok (.ifCond .eq 16, 3) := kq_153 byq_r (a := 0) (b := 16) (by decide +kernel)
theorem d_Ground_fits_4 : decode b_Ground_fits 4 = .ok (.iload_n 2, 1) := kq_28 byq_r (by decide +kernel)
theorem d_Ground_fits_5 : decode b_Ground_fits 5 = .ok (.iload_n 3, 1) := kq_29 byq_r (by decide +kernel)
theorem d_Ground_fits_6 : decode b_Ground_fits 6 = .ok (.if_icmp .lt 7, 3) := kq_161 byq_r (a := 0) (b := 7) (by decide +kernel)
theorem d_Ground_fits_9 : decode b_Ground_fits 9 = .ok (.iconst 1, 1) := kq_4 byq_r (by decide +kernel)
theorem d_Ground_fits_10 : decode b_Ground_fits 10 = .ok (.goto 26, 3) := kq_167 byq_r (a := 0) (b := 26) (by decide +kernel)
theorem d_Ground_fits_13 : decode b_Ground_fits 13 = .ok (.iconst 0, 1) := kq_3 byq_r (by decide +kernel)
theorem d_Ground_fits_14 : decode b_Ground_fits 14 = .ok (.goto 22, 3) := kq_167 byq_r (a := 0) (b := 22) (by decide +kernel)
theorem d_Ground_fits_17 : decode b_Ground_fits 17 = .ok (.iload_n 0, 1) := kq_26 byq_r (by decide +kernel)
theorem d_Ground_fits_18 : decode b_Ground_fits 18 = .ok (.invokestatic 41, 3) := kq_184 byq_r (a := 0) (b := 41) (by decide +kernel)
theorem d_Ground_fits_21 : decode b_Ground_fits 21 = .ok (.iconst (-1), 1) := kq_2 byq_r (by decide +kernel)
theorem d_Ground_fits_22 : decode b_Ground_fits 22 = .ok (.if_icmp .eq 13, 3) := kq_159 byq_r (a := 0) (b := 13) (by decide +kernel)
theorem d_Ground_fits_25 : decode b_Ground_fits 25 = .ok (.iload_n 2, 1) := kq_28 byq_r (by decide +kernel)
theorem d_Ground_fits_26 : decode b_Ground_fits 26 = .ok (.iload 4, 2) := kq_21 byq_r (by decide +kernel)
theorem d_Ground_fits_28 : decode b_Ground_fits 28 = .ok (.if_icmp .ge 7, 3) := kq_162 byq_r (a := 0) (b := 7) (by decide +kernel)
theorem d_Ground_fits_31 : decode b_Ground_fits 31 = .ok (.iconst 1, 1) := kq_4 byq_r (by decide +kernel)
theorem d_Ground_fits_32 : decode b_Ground_fits 32 = .ok (.goto 4, 3) := kq_167 byq_r (a := 0) (b := 4) (by decide +kernel)
theorem d_Ground_fits_35 : decode b_Ground_fits 35 = .ok (.iconst 0, 1) := kq_3 byq_r (by decide +kernel)
theorem d_Ground_fits_36 : decode b_Ground_fits 36 = .ok (.ireturn, 1) := kq_172 byq_r (by decide +kernel)
theorem d_Ground_become_0 : decode b_Ground_become 0 = .ok (.aload_n 0, 1) := kq_42 byq_r (by decide +kernel)
theorem d_Ground_become_1 : decode b_Ground_become 1 = .ok (.iload_n 1, 1) := kq_27 byq_r (by decide +kernel)
theorem d_Ground_become_2 : decode b_Ground_become 2 = .ok (.putfield 18, 3) := kq_181 byq_r (a := 0) (b := 18) (by decide +kernel)
theorem d_Ground_become_5 : decode b_Ground_become 5 = .ok (.aload_n 0, 1) := kq_42 byq_r (by decide +kernel)
theorem d_Ground_become_6 : decode b_Ground_become 6 = .ok (.iload_n 2, 1) := kq_28 byq_r (by decide +kernel)
theorem d_Ground_become_7 : decode b_Ground_become 7 = .ok (.putfield 22, 3) := kq_181 byq_r (a := 0) (b := 22) (by decide +kernel)
theorem d_Ground_become_10 : decode b_Ground_become 10 = .ok (.iconst 0, 1) := kq_3 byq_r (by decide +kernel)
theorem d_Ground_become_11 : decode b_Ground_become 11 = .ok (.istore_n 3, 1) := kq_62 byq_r (by decide +kernel)
theorem d_Ground_become_12 : decode b_Ground_become 12 = .ok (.iload_n 3, 1) := kq_29 byq_r (by decide +kernel)
theorem d_Ground_become_13 : decode b_Ground_become 13 = .ok (.bipush 36, 2) := kq_16 byq_r (b := 36) (by decide +kernel)
theorem d_Ground_become_15 : decode b_Ground_become 15 = .ok (.if_icmp .ge 30, 3) := kq_162 byq_r (a := 0) (b := 30) (by decide +kernel)
theorem d_Ground_become_18 : decode b_Ground_become 18 = .ok (.aload_n 0, 1) := kq_42 byq_r (by decide +kernel)
theorem d_Ground_become_19 : decode b_Ground_become 19 = .ok (.getfield 9, 3) := kq_180 byq_r (a := 0) (b := 9) (by decide +kernel)
theorem d_Ground_become_22 : decode b_Ground_become 22 = .ok (.iload_n 3, 1) := kq_29 byq_r (by decide +kernel)
theorem d_Ground_become_23 : decode b_Ground_become 23 = .ok (.iload_n 3, 1) := kq_29 byq_r (by decide +kernel)
theorem d_Ground_become_24 : decode b_Ground_become 24 = .ok (.iload_n 2, 1) := kq_28 byq_r (by decide +kernel)
theorem d_Ground_become_25 : decode b_Ground_become 25 = .ok (.if_icmp .ge 12, 3) := kq_162 byq_r (a := 0) (b := 12) (by decide +kernel)
theorem d_Ground_become_28 : decode b_Ground_become 28 = .ok (.aload_n 0, 1) := kq_42 byq_r (by decide +kernel)
theorem d_Ground_become_29 : decode b_Ground_become 29 = .ok (.getfield 15, 3) := kq_180 byq_r (a := 0) (b := 15) (by decide +kernel)
theorem d_Ground_become_32 : decode b_Ground_become 32 = .ok (.iload_n 3, 1) := kq_29 byq_r (by decide +kernel)
theorem d_Ground_become_33 : decode b_Ground_become 33 = .ok (.iaload, 1) := kq_46 byq_r (by decide +kernel)
theorem d_Ground_become_34 : decode b_Ground_become 34 = .ok (.goto 4, 3) := kq_167 byq_r (a := 0) (b := 4) (by decide +kernel)
theorem d_Ground_become_37 : decode b_Ground_become 37 = .ok (.iconst 0, 1) := kq_3 byq_r (by decide +kernel)
theorem d_Ground_become_38 : decode b_Ground_become 38 = .ok (.iastore, 1) := kq_79 byq_r (by decide +kernel)
theorem d_Ground_become_39 : decode b_Ground_become 39 = .ok (.iinc 3 1, 3) := kq_132 byq_r (b := 1) (by decide +kernel)
theorem d_Ground_become_42 : decode b_Ground_become 42 = .ok (.goto (-30), 3) := kq_167 byq_r (a := 255) (b := 226) (by decide +kernel)
theorem d_Ground_become_45 : decode b_Ground_become 45 = .ok (.iload_n 2, 1) := kq_28 byq_r (by decide +kernel)
theorem d_Ground_become_46 : decode b_Ground_become 46 = .ok (.ireturn, 1) := kq_172 byq_r (by decide +kernel)
theorem d_Ground_read_0 : decode b_Ground_read 0 = .ok (.iconst 0, 1) := kq_3 byq_r (by decide +kernel)
theorem d_Ground_read_1 : decode b_Ground_read 1 = .ok (.istore_n 2, 1) := kq_61 byq_r (by decide +kernel)
theorem d_Ground_read_2 : decode b_Ground_read 2 = .ok (.iconst 0, 1) := kq_3 byq_r (by decide +kernel)
theorem d_Ground_read_3 : decode b_Ground_read 3 = .ok (.istore_n 3, 1) := kq_62 byq_r (by decide +kernel)
theorem d_Ground_read_4 : decode b_Ground_read 4 = .ok (.iconst 0, 1) := kq_3 byq_r (by decide +kernel)
theorem d_Ground_read_5 : decode b_Ground_read 5 = .ok (.istore 4, 2) := kq_54 byq_r (by decide +kernel)
theorem d_Ground_read_7 : decode b_Ground_read 7 = .ok (.bipush 6, 2) := kq_16 byq_r (b := 6) (by decide +kernel)
theorem d_Ground_read_9 : decode b_Ground_read 9 = .ok (.istore 5, 2) := kq_54 byq_r (by decide +kernel)
theorem d_Ground_read_11 : decode b_Ground_read 11 = .ok (.iconst 0, 1) := kq_3 byq_r (by decide +kernel)
theorem d_Ground_read_12 : decode b_Ground_read 12 = .ok (.istore 6, 2) := kq_54 byq_r (by decide +kernel)
theorem d_Ground_read_14 : decode b_Ground_read 14 = .ok (.iload 6, 2) := kq_21 byq_r (by decide +kernel)
theorem d_Ground_read_16 : decode b_Ground_read 16 = .ok (.bipush 80, 2) := kq_16 byq_r (b := 80) (by decide +kernel)
theorem d_Ground_read_18 : decode b_Ground_read 18 = .ok (.if_icmp .gt 128, 3) := kq_163 byq_r (a := 0) (b := 128) (by decide +kernel)
theorem d_Ground_read_21 : decode b_Ground_read 21 = .ok (.aload_n 1, 1) := kq_43 byq_r (by decide +kernel)
theorem d_Ground_read_22 : decode b_Ground_read 22 = .ok (.iload 6, 2) := kq_21 byq_r (by decide +kernel)
theorem d_Ground_read_24 : decode b_Ground_read 24 = .ok (.bipush 80, 2) := kq_16 byq_r (b := 80) (by decide +kernel)
theorem d_Ground_read_26 : decode b_Ground_read 26 = .ok (.invokevirtual 32, 3) := kq_182 byq_r (a := 0) (b := 32) (by decide +kernel)
theorem d_Ground_read_29 : decode b_Ground_read 29 = .ok (.istore 7, 2) := kq_54 byq_r (by decide +kernel)
theorem d_Ground_read_31 : decode b_Ground_read 31 = .ok (.iload 7, 2) := kq_21 byq_r (by decide +kernel)
theorem d_Ground_read_33 : decode b_Ground_read 33 = .ok (.bipush 47, 2) := kq_16 byq_r (b := 47) (by decide +kernel)
theorem d_Ground_read_35 : decode b_Ground_read 35 = .ok (.if_icmp .eq 9, 3) := kq_159 byq_r (a := 0) (b := 9) (by decide +kernel)
theorem d_Ground_read_38 : decode b_Ground_read 38 = .ok (.iload 7, 2) := kq_21 byq_r (by decide +kernel)
theorem d_Ground_read_40 : decode b_Ground_read 40 = .ok (.iconst (-1), 1) := kq_2 byq_r (by decide +kernel)
theorem d_Ground_read_41 : decode b_Ground_read 41 = .ok (.if_icmp .ne 7, 3) := kq_160 byq_r (a := 0) (b := 7) (by decide +kernel)
theorem d_Ground_read_44 : decode b_Ground_read 44 = .ok (.iconst 1, 1) := kq_4 byq_r (by decide +kernel)
theorem d_Ground_read_45 : decode b_Ground_read 45 = .ok (.goto 4, 3) := kq_167 byq_r (a := 0) (b := 4) (by decide +kernel)
theorem d_Ground_read_48 : decode b_Ground_read 48 = .ok (.iconst 0, 1) := kq_3 byq_r (by decide +kernel)
theorem d_Ground_read_49 : decode b_Ground_read 49 = .ok (.istore 8, 2) := kq_54 byq_r (by decide +kernel)
theorem d_Ground_read_51 : decode b_Ground_read 51 = .ok (.iload 4, 2) := kq_21 byq_r (by decide +kernel)
theorem d_Ground_read_53 : decode b_Ground_read 53 = .ok (.bipush 6, 2) := kq_16 byq_r (b := 6) (by decide +kernel)
theorem d_Ground_read_55 : decode b_Ground_read 55 = .ok (.if_icmp .ge 27, 3) := kq_162 byq_r (a := 0) (b := 27) (by decide +kernel)
theorem d_Ground_read_58 : decode b_Ground_read 58 = .ok (.iload 7, 2) := kq_21 byq_r (by decide +kernel)
theorem d_Ground_read_60 : decode b_Ground_read 60 = .ok (.iload 8, 2) := kq_21 byq_r (by decide +kernel)
theorem d_Ground_read_62 : decode b_Ground_read 62 = .ok (.iload_n 3, 1) := kq_29 byq_r (by decide +kernel)
theorem d_Ground_read_63 : decode b_Ground_read 63 = .ok (.iload 4, 2) := kq_21 byq_r (by decide +kernel)
theorem d_Ground_read_65 : decode b_Ground_read 65 = .ok (.ifCond .ne 7, 3) := kq_154 byq_r (a := 0) (b := 7) (by decide +kernel)
theorem d_Ground_read_68 : decode b_Ground_read 68 = .ok (.iconst 1, 1) := kq_4 byq_r (by decide +kernel)
theorem d_Ground_read_69 : decode b_Ground_read 69 = .ok (.goto 5, 3) := kq_167 byq_r (a := 0) (b := 5) (by decide +kernel)
theorem d_Ground_read_72 : decode b_Ground_read 72 = .ok (.iload 5, 2) := kq_21 byq_r (by decide +kernel)
theorem d_Ground_read_74 : decode b_Ground_read 74 = .ok (.iload 5, 2) := kq_21 byq_r (by decide +kernel)
theorem d_Ground_read_76 : decode b_Ground_read 76 = .ok (.invokestatic 37, 3) := kq_184 byq_r (a := 0) (b := 37) (by decide +kernel)
theorem d_Ground_read_79 : decode b_Ground_read 79 = .ok (.ifCond .ne 8, 3) := kq_154 byq_r (a := 0) (b := 8) (by decide +kernel)
theorem d_Ground_read_82 : decode b_Ground_read 82 = .ok (.iconst (-1), 1) := kq_2 byq_r (by decide +kernel)
theorem d_Ground_read_83 : decode b_Ground_read 83 = .ok (.iload 6, 2) := kq_21 byq_r (by decide +kernel)
theorem d_Ground_read_85 : decode b_Ground_read 85 = .ok (.isub, 1) := kq_100 byq_r (by decide +kernel)
theorem d_Ground_read_86 : decode b_Ground_read 86 = .ok (.ireturn, 1) := kq_172 byq_r (by decide +kernel)
theorem d_Ground_read_87 : decode b_Ground_read 87 = .ok (.iload 8, 2) := kq_21 byq_r (by decide +kernel)
theorem d_Ground_read_89 : decode b_Ground_read 89 = .ok (.ifCond .eq 14, 3) := kq_153 byq_r (a := 0) (b := 14) (by decide +kernel)
theorem d_Ground_read_92 : decode b_Ground_read 92 = .ok (.iload_n 3, 1) := kq_29 byq_r (by decide +kernel)
theorem d_Ground_read_93 : decode b_Ground_read 93 = .ok (.istore 5, 2) := kq_54 byq_r (by decide +kernel)
theorem d_Ground_read_95 : decode b_Ground_read 95 = .ok (.iconst 0, 1) := kq_3 byq_r (by decide +kernel)
theorem d_Ground_read_96 : decode b_Ground_read 96 = .ok (.istore_n 3, 1) := kq_62 byq_r (by decide +kernel)
theorem d_Ground_read_97 : decode b_Ground_read 97 = .ok (.iinc 4 1, 3) := kq_132 byq_r (b := 1) (by decide +kernel)
theorem d_Ground_read_100 : decode b_Ground_read 100 = .ok (.goto 26, 3) := kq_167 byq_r (a := 0) (b := 26) (by decide +kernel)
theorem d_Ground_read_103 : decode b_Ground_read 103 = .ok (.iload_n 2, 1) := kq_28 byq_r (by decide +kernel)
theorem d_Ground_read_104 : decode b_Ground_read 104 = .ok (.bipush 36, 2) := kq_16 byq_r (b := 36) (by decide +kernel)
theorem d_Ground_read_106 : decode b_Ground_read 106 = .ok (.if_icmp .ge 20, 3) := kq_162 byq_r (a := 0) (b := 20) (by decide +kernel)
theorem d_Ground_read_109 : decode b_Ground_read 109 = .ok (.aload_n 0, 1) := kq_42 byq_r (by decide +kernel)
theorem d_Ground_read_110 : decode b_Ground_read 110 = .ok (.getfield 15, 3) := kq_180 byq_r (a := 0) (b := 15) (by decide +kernel)
theorem d_Ground_read_113 : decode b_Ground_read 113 = .ok (.iload_n 2, 1) := kq_28 byq_r (by decide +kernel)
theorem d_Ground_read_114 : decode b_Ground_read 114 = .ok (.iload 7, 2) := kq_21 byq_r (by decide +kernel)
theorem d_Ground_read_116 : decode b_Ground_read 116 = .ok (.invokestatic 41, 3) := kq_184 byq_r (a := 0) (b := 41) (by decide +kernel)
theorem d_Ground_read_119 : decode b_Ground_read 119 = .ok (.iastore, 1) := kq_79 byq_r (by decide +kernel)
theorem d_Ground_read_120 : decode b_Ground_read 120 = .ok (.iinc 2 1, 3) := kq_132 byq_r (b := 1) (by decide +kernel)
theorem d_Ground_read_123 : decode b_Ground_read 123 = .ok (.iinc 3 1, 3) := kq_132 byq_r (b := 1) (by decide +kernel)
theorem d_Ground_read_126 : decode b_Ground_read 126 = .ok (.iload 7, 2) := kq_21 byq_r (by decide +kernel)
theorem d_Ground_read_128 : decode b_Ground_read 128 = .ok (.iconst (-1), 1) := kq_2 byq_r (by decide +kernel)
theorem d_Ground_read_129 : decode b_Ground_read 129 = .ok (.if_icmp .ne 11, 3) := kq_160 byq_r (a := 0) (b := 11) (by decide +kernel)
theorem d_Ground_read_132 : decode b_Ground_read 132 = .ok (.aload_n 0, 1) := kq_42 byq_r (by decide +kernel)
theorem d_Ground_read_133 : decode b_Ground_read 133 = .ok (.iload 5, 2) := kq_21 byq_r (by decide +kernel)
theorem d_Ground_read_135 : decode b_Ground_read 135 = .ok (.iload_n 2, 1) := kq_28 byq_r (by decide +kernel)
theorem d_Ground_read_136 : decode b_Ground_read 136 = .ok (.invokevirtual 45, 3) := kq_182 byq_r (a := 0) (b := 45) (by decide +kernel)
theorem d_Ground_read_139 : decode b_Ground_read 139 = .ok (.ireturn, 1) := kq_172 byq_r (by decide +kernel)
theorem d_Ground_read_140 : decode b_Ground_read 140 = .ok (.iinc 6 1, 3) := kq_132 byq_r (b := 1) (by decide +kernel)
theorem d_Ground_read_143 : decode b_Ground_read 143 = .ok (.goto (-129), 3) := kq_167 byq_r (a := 255) (b := 127) (by decide +kernel)
theorem d_Ground_read_146 : decode b_Ground_read 146 = .ok (.bipush (-81), 2) := kq_16 byq_r (b := 175) (by decide +kernel)
theorem d_Ground_read_148 : decode b_Ground_read 148 = .ok (.ireturn, 1) := kq_172 byq_r (by decide +kernel)
theorem d_Ground_holds_0 : decode b_Ground_holds 0 = .ok (.iload_n 1, 1) := kq_27 byq_r (by decide +kernel)
theorem d_Ground_holds_1 : decode b_Ground_holds 1 = .ok (.ifCond .lt 43, 3) := kq_155 byq_r (a := 0) (b := 43) (by decide +kernel)
theorem d_Ground_holds_4 : decode b_Ground_holds 4 = .ok (.iload_n 1, 1) := kq_27 byq_r (by decide +kernel)
theorem d_Ground_holds_5 : decode b_Ground_holds 5 = .ok (.iconst 1, 1) := kq_4 byq_r (by decide +kernel)
theorem d_Ground_holds_6 : decode b_Ground_holds 6 = .ok (.if_icmp .gt 38, 3) := kq_163 byq_r (a := 0) (b := 38) (by decide +kernel)
theorem d_Ground_holds_9 : decode b_Ground_holds 9 = .ok (.iload_n 2, 1) := kq_28 byq_r (by decide +kernel)
theorem d_Ground_holds_10 : decode b_Ground_holds 10 = .ok (.ifCond .lt 34, 3) := kq_155 byq_r (a := 0) (b := 34) (by decide +kernel)
theorem d_Ground_holds_13 : decode b_Ground_holds 13 = .ok (.iload_n 2, 1) := kq_28 byq_r (by decide +kernel)
theorem d_Ground_holds_14 : decode b_Ground_holds 14 = .ok (.aload_n 0, 1) := kq_42 byq_r (by decide +kernel)
theorem d_Ground_holds_15 : decode b_Ground_holds 15 = .ok (.getfield 22, 3) := kq_180 byq_r (a := 0) (b := 22) (by decide +kernel)
theorem d_Ground_holds_18 : decode b_Ground_holds 18 = .ok (.if_icmp .ge 26, 3) := kq_162 byq_r (a := 0) (b := 26) (by decide +kernel)
theorem d_Ground_holds_21 : decode b_Ground_holds 21 = .ok (.iload_n 2, 1) := kq_28 byq_r (by decide +kernel)
theorem d_Ground_holds_22 : decode b_Ground_holds 22 = .ok (.bipush 36, 2) := kq_16 byq_r (b := 36) (by decide +kernel)
theorem d_Ground_holds_24 : decode b_Ground_holds 24 = .ok (.if_icmp .ge 20, 3) := kq_162 byq_r (a := 0) (b := 20) (by decide +kernel)
theorem d_Ground_holds_27 : decode b_Ground_holds 27 = .ok (.aload_n 0, 1) := kq_42 byq_r (by decide +kernel)
theorem d_Ground_holds_28 : decode b_Ground_holds 28 = .ok (.getfield 9, 3) := kq_180 byq_r (a := 0) (b := 9) (by decide +kernel)
theorem d_Ground_holds_31 : decode b_Ground_holds 31 = .ok (.iload_n 2, 1) := kq_28 byq_r (by decide +kernel)
theorem d_Ground_holds_32 : decode b_Ground_holds 32 = .ok (.iaload, 1) := kq_46 byq_r (by decide +kernel)
theorem d_Ground_holds_33 : decode b_Ground_holds 33 = .ok (.iload_n 1, 1) := kq_27 byq_r (by decide +kernel)
theorem d_Ground_holds_34 : decode b_Ground_holds 34 = .ok (.ishr, 1) := kq_122 byq_r (by decide +kernel)
theorem d_Ground_holds_35 : decode b_Ground_holds 35 = .ok (.iconst 1, 1) := kq_4 byq_r (by decide +kernel)
theorem d_Ground_holds_36 : decode b_Ground_holds 36 = .ok (.iand, 1) := kq_126 byq_r (by decide +kernel)
theorem d_Ground_holds_37 : decode b_Ground_holds 37 = .ok (.ifCond .eq 7, 3) := kq_153 byq_r (a := 0) (b := 7) (by decide +kernel)
theorem d_Ground_holds_40 : decode b_Ground_holds 40 = .ok (.iconst 1, 1) := kq_4 byq_r (by decide +kernel)
theorem d_Ground_holds_41 : decode b_Ground_holds 41 = .ok (.goto 4, 3) := kq_167 byq_r (a := 0) (b := 4) (by decide +kernel)
theorem d_Ground_holds_44 : decode b_Ground_holds 44 = .ok (.iconst 0, 1) := kq_3 byq_r (by decide +kernel)
theorem d_Ground_holds_45 : decode b_Ground_holds 45 = .ok (.ireturn, 1) := kq_172 byq_r (by decide +kernel)
theorem d_Ground_beside_0 : decode b_Ground_beside 0 = .ok (.iload_n 1, 1) := kq_27 byq_r (by decide +kernel)
theorem d_Ground_beside_1 : decode b_Ground_beside 1 = .ok (.ifCond .lt 19, 3) := kq_155 byq_r (a := 0) (b := 19) (by decide +kernel)
theorem d_Ground_beside_4 : decode b_Ground_beside 4 = .ok (.iload_n 1, 1) := kq_27 byq_r (by decide +kernel)
theorem d_Ground_beside_5 : decode b_Ground_beside 5 = .ok (.aload_n 0, 1) := kq_42 byq_r (by decide +kernel)
theorem d_Ground_beside_6 : decode b_Ground_beside 6 = .ok (.getfield 22, 3) := kq_180 byq_r (a := 0) (b := 22) (by decide +kernel)
theorem d_Ground_beside_9 : decode b_Ground_beside 9 = .ok (.if_icmp .ge 11, 3) := kq_162 byq_r (a := 0) (b := 11) (by decide +kernel)
theorem d_Ground_beside_12 : decode b_Ground_beside 12 = .ok (.aload_n 0, 1) := kq_42 byq_r (by decide +kernel)
theorem d_Ground_beside_13 : decode b_Ground_beside 13 = .ok (.getfield 18, 3) := kq_180 byq_r (a := 0) (b := 18) (by decide +kernel)
theorem d_Ground_beside_16 : decode b_Ground_beside 16 = .ok (.iconst 1, 1) := kq_4 byq_r (by decide +kernel)
theorem d_Ground_beside_17 : decode b_Ground_beside 17 = .ok (.if_icmp .ge 5, 3) := kq_162 byq_r (a := 0) (b := 5) (by decide +kernel)
theorem d_Ground_beside_20 : decode b_Ground_beside 20 = .ok (.iconst (-1), 1) := kq_2 byq_r (by decide +kernel)
theorem d_Ground_beside_21 : decode b_Ground_beside 21 = .ok (.ireturn, 1) := kq_172 byq_r (by decide +kernel)
theorem d_Ground_beside_22 : decode b_Ground_beside 22 = .ok (.iload_n 1, 1) := kq_27 byq_r (by decide +kernel)
theorem d_Ground_beside_23 : decode b_Ground_beside 23 = .ok (.aload_n 0, 1) := kq_42 byq_r (by decide +kernel)
theorem d_Ground_beside_24 : decode b_Ground_beside 24 = .ok (.getfield 18, 3) := kq_180 byq_r (a := 0) (b := 18) (by decide +kernel)
theorem d_Ground_beside_27 : decode b_Ground_beside 27 = .ok (.irem, 1) := kq_112 byq_r (by decide +kernel)
theorem d_Ground_beside_28 : decode b_Ground_beside 28 = .ok (.istore_n 3, 1) := kq_62 byq_r (by decide +kernel)
theorem d_Ground_beside_29 : decode b_Ground_beside 29 = .ok (.iload_n 2, 1) := kq_28 byq_r (by decide +kernel)
theorem d_Ground_beside_30 : decode b_Ground_beside 30 = .ok (.tableswitch 103 0 3 #[30, 49, 67, 91], 30) := by decide +kernel
theorem d_Ground_beside_60 : decode b_Ground_beside 60 = .ok (.iload_n 1, 1) := kq_27 byq_r (by decide +kernel)
theorem d_Ground_beside_61 : decode b_Ground_beside 61 = .ok (.aload_n 0, 1) := kq_42 byq_r (by decide +kernel)
theorem d_Ground_beside_62 : decode b_Ground_beside 62 = .ok (.getfield 18, 3) := kq_180 byq_r (a := 0) (b := 18) (by decide +kernel)
theorem d_Ground_beside_65 : decode b_Ground_beside 65 = .ok (.if_icmp .lt 12, 3) := kq_161 byq_r (a := 0) (b := 12) (by decide +kernel)
theorem d_Ground_beside_68 : decode b_Ground_beside 68 = .ok (.iload_n 1, 1) := kq_27 byq_r (by decide +kernel)
theorem d_Ground_beside_69 : decode b_Ground_beside 69 = .ok (.aload_n 0, 1) := kq_42 byq_r (by decide +kernel)
theorem d_Ground_beside_70 : decode b_Ground_beside 70 = .ok (.getfield 18, 3) := kq_180 byq_r (a := 0) (b := 18) (by decide +kernel)
theorem d_Ground_beside_73 : decode b_Ground_beside 73 = .ok (.isub, 1) := kq_100 byq_r (by decide +kernel)
theorem d_Ground_beside_74 : decode b_Ground_beside 74 = .ok (.goto 4, 3) := kq_167 byq_r (a := 0) (b := 4) (by decide +kernel)
theorem d_Ground_beside_77 : decode b_Ground_beside 77 = .ok (.iconst (-1), 1) := kq_2 byq_r (by decide +kernel)
theorem d_Ground_beside_78 : decode b_Ground_beside 78 = .ok (.ireturn, 1) := kq_172 byq_r (by decide +kernel)
theorem d_Ground_beside_79 : decode b_Ground_beside 79 = .ok (.iload_n 3, 1) := kq_29 byq_r (by decide +kernel)
theorem d_Ground_beside_80 : decode b_Ground_beside 80 = .ok (.iconst 1, 1) := kq_4 byq_r (by decide +kernel)
theorem d_Ground_beside_81 : decode b_Ground_beside 81 = .ok (.iadd, 1) := kq_96 byq_r (by decide +kernel)
theorem d_Ground_beside_82 : decode b_Ground_beside 82 = .ok (.aload_n 0, 1) := kq_42 byq_r (by decide +kernel)
theorem d_Ground_beside_83 : decode b_Ground_beside 83 = .ok (.getfield 18, 3) := kq_180 byq_r (a := 0) (b := 18) (by decide +kernel)
theorem d_Ground_beside_86 : decode b_Ground_beside 86 = .ok (.if_icmp .ge 9, 3) := kq_162 byq_r (a := 0) (b := 9) (by decide +kernel)
theorem d_Ground_beside_89 : decode b_Ground_beside 89 = .ok (.iload_n 1, 1) := kq_27 byq_r (by decide +kernel)
theorem d_Ground_beside_90 : decode b_Ground_beside 90 = .ok (.iconst 1, 1) := kq_4 byq_r (by decide +kernel)
theorem d_Ground_beside_91 : decode b_Ground_beside 91 = .ok (.iadd, 1) := kq_96 byq_r (by decide +kernel)
theorem d_Ground_beside_92 : decode b_Ground_beside 92 = .ok (.goto 4, 3) := kq_167 byq_r (a := 0) (b := 4) (by decide +kernel)
theorem d_Ground_beside_95 : decode b_Ground_beside 95 = .ok (.iconst (-1), 1) := kq_2 byq_r (by decide +kernel)
theorem d_Ground_beside_96 : decode b_Ground_beside 96 = .ok (.ireturn, 1) := kq_172 byq_r (by decide +kernel)
theorem d_Ground_beside_97 : decode b_Ground_beside 97 = .ok (.iload_n 1, 1) := kq_27 byq_r (by decide +kernel)
theorem d_Ground_beside_98 : decode b_Ground_beside 98 = .ok (.aload_n 0, 1) := kq_42 byq_r (by decide +kernel)
theorem d_Ground_beside_99 : decode b_Ground_beside 99 = .ok (.getfield 18, 3) := kq_180 byq_r (a := 0) (b := 18) (by decide +kernel)
theorem d_Ground_beside_102 : decode b_Ground_beside 102 = .ok (.iadd, 1) := kq_96 byq_r (by decide +kernel)
theorem d_Ground_beside_103 : decode b_Ground_beside 103 = .ok (.aload_n 0, 1) := kq_42 byq_r (by decide +kernel)
theorem d_Ground_beside_104 : decode b_Ground_beside 104 = .ok (.getfield 22, 3) := kq_180 byq_r (a := 0) (b := 22) (by decide +kernel)
theorem d_Ground_beside_107 : decode b_Ground_beside 107 = .ok (.if_icmp .ge 12, 3) := kq_162 byq_r (a := 0) (b := 12) (by decide +kernel)
theorem d_Ground_beside_110 : decode b_Ground_beside 110 = .ok (.iload_n 1, 1) := kq_27 byq_r (by decide +kernel)
theorem d_Ground_beside_111 : decode b_Ground_beside 111 = .ok (.aload_n 0, 1) := kq_42 byq_r (by decide +kernel)
theorem d_Ground_beside_112 : decode b_Ground_beside 112 = .ok (.getfield 18, 3) := kq_180 byq_r (a := 0) (b := 18) (by decide +kernel)
theorem d_Ground_beside_115 : decode b_Ground_beside 115 = .ok (.iadd, 1) := kq_96 byq_r (by decide +kernel)
theorem d_Ground_beside_116 : decode b_Ground_beside 116 = .ok (.goto 4, 3) := kq_167 byq_r (a := 0) (b := 4) (by decide +kernel)
theorem d_Ground_beside_119 : decode b_Ground_beside 119 = .ok (.iconst (-1), 1) := kq_2 byq_r (by decide +kernel)
theorem d_Ground_beside_120 : decode b_Ground_beside 120 = .ok (.ireturn, 1) := kq_172 byq_r (by decide +kernel)
theorem d_Ground_beside_121 : decode b_Ground_beside 121 = .ok (.iload_n 3, 1) := kq_29 byq_r (by decide +kernel)
theorem d_Ground_beside_122 : decode b_Ground_beside 122 = .ok (.ifCond .le 9, 3) := kq_158 byq_r (a := 0) (b := 9) (by decide +kernel)
theorem d_Ground_beside_125 : decode b_Ground_beside 125 = .ok (.iload_n 1, 1) := kq_27 byq_r (by decide +kernel)
theorem d_Ground_beside_126 : decode b_Ground_beside 126 = .ok (.iconst 1, 1) := kq_4 byq_r (by decide +kernel)
theorem d_Ground_beside_127 : decode b_Ground_beside 127 = .ok (.isub, 1) := kq_100 byq_r (by decide +kernel)
theorem d_Ground_beside_128 : decode b_Ground_beside 128 = .ok (.goto 4, 3) := kq_167 byq_r (a := 0) (b := 4) (by decide +kernel)
theorem d_Ground_beside_131 : decode b_Ground_beside 131 = .ok (.iconst (-1), 1) := kq_2 byq_r (by decide +kernel)
theorem d_Ground_beside_132 : decode b_Ground_beside 132 = .ok (.ireturn, 1) := kq_172 byq_r (by decide +kernel)
theorem d_Ground_beside_133 : decode b_Ground_beside 133 = .ok (.iconst (-1), 1) := kq_2 byq_r (by decide +kernel)
theorem d_Ground_beside_134 : decode b_Ground_beside 134 = .ok (.ireturn, 1) := kq_172 byq_r (by decide +kernel)
theorem d_Ground_across_0 : decode b_Ground_across 0 = .ok (.iconst 0, 1) := kq_3 byq_r (by decide +kernel)
theorem d_Ground_across_1 : decode b_Ground_across 1 = .ok (.istore_n 3, 1) := kq_62 byq_r (by decide +kernel)
theorem d_Ground_across_2 : decode b_Ground_across 2 = .ok (.iload_n 3, 1) := kq_29 byq_r (by decide +kernel)
theorem d_Ground_across_3 : decode b_Ground_across 3 = .ok (.iconst 4, 1) := kq_7 byq_r (by decide +kernel)
theorem d_Ground_across_4 : decode b_Ground_across 4 = .ok (.if_icmp .ge 31, 3) := kq_162 byq_r (a := 0) (b := 31) (by decide +kernel)
theorem d_Ground_across_7 : decode b_Ground_across 7 = .ok (.iload_n 2, 1) := kq_28 byq_r (by decide +kernel)
theorem d_Ground_across_8 : decode b_Ground_across 8 = .ok (.iconst (-1), 1) := kq_2 byq_r (by decide +kernel)
theorem d_Ground_across_9 : decode b_Ground_across 9 = .ok (.if_icmp .eq 20, 3) := kq_159 byq_r (a := 0) (b := 20) (by decide +kernel)
theorem d_Ground_across_12 : decode b_Ground_across 12 = .ok (.aload_n 0, 1) := kq_42 byq_r (by decide +kernel)
theorem d_Ground_across_13 : decode b_Ground_across 13 = .ok (.aload_n 0, 1) := kq_42 byq_r (by decide +kernel)
theorem d_Ground_across_14 : decode b_Ground_across 14 = .ok (.iload_n 1, 1) := kq_27 byq_r (by decide +kernel)
theorem d_Ground_across_15 : decode b_Ground_across 15 = .ok (.iload_n 3, 1) := kq_29 byq_r (by decide +kernel)
theorem d_Ground_across_16 : decode b_Ground_across 16 = .ok (.invokevirtual 25, 3) := kq_182 byq_r (a := 0) (b := 25) (by decide +kernel)
theorem d_Ground_across_19 : decode b_Ground_across 19 = .ok (.iload_n 3, 1) := kq_29 byq_r (by decide +kernel)
theorem d_Ground_across_20 : decode b_Ground_across 20 = .ok (.invokevirtual 25, 3) := kq_182 byq_r (a := 0) (b := 25) (by decide +kernel)
theorem d_Ground_across_23 : decode b_Ground_across 23 = .ok (.iload_n 2, 1) := kq_28 byq_r (by decide +kernel)
theorem d_Ground_across_24 : decode b_Ground_across 24 = .ok (.if_icmp .ne 5, 3) := kq_160 byq_r (a := 0) (b := 5) (by decide +kernel)
theorem d_Ground_across_27 : decode b_Ground_across 27 = .ok (.iload_n 3, 1) := kq_29 byq_r (by decide +kernel)
theorem d_Ground_across_28 : decode b_Ground_across 28 = .ok (.ireturn, 1) := kq_172 byq_r (by decide +kernel)
theorem d_Ground_across_29 : decode b_Ground_across 29 = .ok (.iinc 3 1, 3) := kq_132 byq_r (b := 1) (by decide +kernel)
theorem d_Ground_across_32 : decode b_Ground_across 32 = .ok (.goto (-30), 3) := kq_167 byq_r (a := 255) (b := 226) (by decide +kernel)
theorem d_Ground_across_35 : decode b_Ground_across 35 = .ok (.iconst (-1), 1) := kq_2 byq_r (by decide +kernel)
theorem d_Ground_across_36 : decode b_Ground_across 36 = .ok (.ireturn, 1) := kq_172 byq_r (by decide +kernel)
theorem d_Ground_has_0 : decode b_Ground_has 0 = .ok (.iload_n 1, 1) := kq_27 byq_r (by decide +kernel)
theorem d_Ground_has_1 : decode b_Ground_has 1 = .ok (.ifCond .lt 21, 3) := kq_155 byq_r (a := 0) (b := 21) (by decide +kernel)
theorem d_Ground_has_4 : decode b_Ground_has 4 = .ok (.iload_n 1, 1) := kq_27 byq_r (by decide +kernel)
theorem d_Ground_has_5 : decode b_Ground_has 5 = .ok (.aload_n 0, 1) := kq_42 byq_r (by decide +kernel)
theorem d_Ground_has_6 : decode b_Ground_has 6 = .ok (.getfield 22, 3) := kq_180 byq_r (a := 0) (b := 22) (by decide +kernel)
theorem d_Ground_has_9 : decode b_Ground_has 9 = .ok (.if_icmp .ge 13, 3) := kq_162 byq_r (a := 0) (b := 13) (by decide +kernel)
theorem d_Ground_has_12 : decode b_Ground_has 12 = .ok (.iload_n 1, 1) := kq_27 byq_r (by decide +kernel)
theorem d_Ground_has_13 : decode b_Ground_has 13 = .ok (.bipush 36, 2) := kq_16 byq_r (b := 36) (by decide +kernel)
theorem d_Ground_has_15 : decode b_Ground_has 15 = .ok (.if_icmp .ge 7, 3) := kq_162 byq_r (a := 0) (b := 7) (by decide +kernel)
theorem d_Ground_has_18 : decode b_Ground_has 18 = .ok (.iconst 1, 1) := kq_4 byq_r (by decide +kernel)
theorem d_Ground_has_19 : decode b_Ground_has 19 = .ok (.goto 4, 3) := kq_167 byq_r (a := 0) (b := 4) (by decide +kernel)
theorem d_Ground_has_22 : decode b_Ground_has 22 = .ok (.iconst 0, 1) := kq_3 byq_r (by decide +kernel)
theorem d_Ground_has_23 : decode b_Ground_has 23 = .ok (.ireturn, 1) := kq_172 byq_r (by decide +kernel)
theorem d_Ground_column_0 : decode b_Ground_column 0 = .ok (.aload_n 0, 1) := kq_42 byq_r (by decide +kernel)
theorem d_Ground_column_1 : decode b_Ground_column 1 = .ok (.getfield 18, 3) := kq_180 byq_r (a := 0) (b := 18) (by decide +kernel)
theorem d_Ground_column_4 : decode b_Ground_column 4 = .ok (.iconst 1, 1) := kq_4 byq_r (by decide +kernel)
theorem d_Ground_column_5 : decode b_Ground_column 5 = .ok (.if_icmp .ge 7, 3) := kq_162 byq_r (a := 0) (b := 7) (by decide +kernel)
theorem d_Ground_column_8 : decode b_Ground_column 8 = .ok (.iconst 0, 1) := kq_3 byq_r (by decide +kernel)
theorem d_Ground_column_9 : decode b_Ground_column 9 = .ok (.goto 9, 3) := kq_167 byq_r (a := 0) (b := 9) (by decide +kernel)
theorem d_Ground_column_12 : decode b_Ground_column 12 = .ok (.iload_n 1, 1) := kq_27 byq_r (by decide +kernel)
theorem d_Ground_column_13 : decode b_Ground_column 13 = .ok (.aload_n 0, 1) := kq_42 byq_r (by decide +kernel)
theorem d_Ground_column_14 : decode b_Ground_column 14 = .ok (.getfield 18, 3) := kq_180 byq_r (a := 0) (b := 18) (by decide +kernel)
theorem d_Ground_column_17 : decode b_Ground_column 17 = .ok (.irem, 1) := kq_112 byq_r (by decide +kernel)
theorem d_Ground_column_18 : decode b_Ground_column 18 = .ok (.ireturn, 1) := kq_172 byq_r (by decide +kernel)
theorem d_Ground_line_0 : decode b_Ground_line 0 = .ok (.aload_n 0, 1) := kq_42 byq_r (by decide +kernel)
theorem d_Ground_line_1 : decode b_Ground_line 1 = .ok (.getfield 18, 3) := kq_180 byq_r (a := 0) (b := 18) (by decide +kernel)
theorem d_Ground_line_4 : decode b_Ground_line 4 = .ok (.iconst 1, 1) := kq_4 byq_r (by decide +kernel)
theorem d_Ground_line_5 : decode b_Ground_line 5 = .ok (.if_icmp .ge 7, 3) := kq_162 byq_r (a := 0) (b := 7) (by decide +kernel)
theorem d_Ground_line_8 : decode b_Ground_line 8 = .ok (.iconst 0, 1) := kq_3 byq_r (by decide +kernel)
theorem d_Ground_line_9 : decode b_Ground_line 9 = .ok (.goto 9, 3) := kq_167 byq_r (a := 0) (b := 9) (by decide +kernel)
theorem d_Ground_line_12 : decode b_Ground_line 12 = .ok (.iload_n 1, 1) := kq_27 byq_r (by decide +kernel)
theorem d_Ground_line_13 : decode b_Ground_line 13 = .ok (.aload_n 0, 1) := kq_42 byq_r (by decide +kernel)
theorem d_Ground_line_14 : decode b_Ground_line 14 = .ok (.getfield 18, 3) := kq_180 byq_r (a := 0) (b := 18) (by decide +kernel)
theorem d_Ground_line_17 : decode b_Ground_line 17 = .ok (.idiv, 1) := kq_108 byq_r (by decide +kernel)
theorem d_Ground_line_18 : decode b_Ground_line 18 = .ok (.ireturn, 1) := kq_172 byq_r (by decide +kernel)
theorem d_Ground_isStair_0 : decode b_Ground_isStair 0 = .ok (.iload_n 1, 1) := kq_27 byq_r (by decide +kernel)
theorem d_Ground_isStair_1 : decode b_Ground_isStair 1 = .ok (.ifCond .lt 31, 3) := kq_155 byq_r (a := 0) (b := 31) (by decide +kernel)
theorem d_Ground_isStair_4 : decode b_Ground_isStair 4 = .ok (.iload_n 1, 1) := kq_27 byq_r (by decide +kernel)
theorem d_Ground_isStair_5 : decode b_Ground_isStair 5 = .ok (.aload_n 0, 1) := kq_42 byq_r (by decide +kernel)
theorem d_Ground_isStair_6 : decode b_Ground_isStair 6 = .ok (.getfield 22, 3) := kq_180 byq_r (a := 0) (b := 22) (by decide +kernel)
theorem d_Ground_isStair_9 : decode b_Ground_isStair 9 = .ok (.if_icmp .ge 23, 3) := kq_162 byq_r (a := 0) (b := 23) (by decide +kernel)
theorem d_Ground_isStair_12 : decode b_Ground_isStair 12 = .ok (.iload_n 1, 1) := kq_27 byq_r (by decide +kernel)
theorem d_Ground_isStair_13 : decode b_Ground_isStair 13 = .ok (.bipush 36, 2) := kq_16 byq_r (b := 36) (by decide +kernel)
theorem d_Ground_isStair_15 : decode b_Ground_isStair 15 = .ok (.if_icmp .ge 17, 3) := kq_162 byq_r (a := 0) (b := 17) (by decide +kernel)
theorem d_Ground_isStair_18 : decode b_Ground_isStair 18 = .ok (.aload_n 0, 1) := kq_42 byq_r (by decide +kernel)
theorem d_Ground_isStair_19 : decode b_Ground_isStair 19 = .ok (.getfield 9, 3) := kq_180 byq_r (a := 0) (b := 9) (by decide +kernel)
theorem d_Ground_isStair_22 : decode b_Ground_isStair 22 = .ok (.iload_n 1, 1) := kq_27 byq_r (by decide +kernel)
theorem d_Ground_isStair_23 : decode b_Ground_isStair 23 = .ok (.iaload, 1) := kq_46 byq_r (by decide +kernel)
theorem d_Ground_isStair_24 : decode b_Ground_isStair 24 = .ok (.iconst 3, 1) := kq_6 byq_r (by decide +kernel)
theorem d_Ground_isStair_25 : decode b_Ground_isStair 25 = .ok (.if_icmp .ne 7, 3) := kq_160 byq_r (a := 0) (b := 7) (by decide +kernel)
theorem d_Ground_isStair_28 : decode b_Ground_isStair 28 = .ok (.iconst 1, 1) := kq_4 byq_r (by decide +kernel)
theorem d_Ground_isStair_29 : decode b_Ground_isStair 29 = .ok (.goto 4, 3) := kq_167 byq_r (a := 0) (b := 4) (by decide +kernel)
theorem d_Ground_isStair_32 : decode b_Ground_isStair 32 = .ok (.iconst 0, 1) := kq_3 byq_r (by decide +kernel)
theorem d_Ground_isStair_33 : decode b_Ground_isStair 33 = .ok (.ireturn, 1) := kq_172 byq_r (by decide +kernel)
theorem d_Ground_between_0 : decode b_Ground_between 0 = .ok (.aload_n 0, 1) := kq_42 byq_r (by decide +kernel)
theorem d_Ground_between_1 : decode b_Ground_between 1 = .ok (.iload_n 1, 1) := kq_27 byq_r (by decide +kernel)
theorem d_Ground_between_2 : decode b_Ground_between 2 = .ok (.aload_n 0, 1) := kq_42 byq_r (by decide +kernel)
theorem d_Ground_between_3 : decode b_Ground_between 3 = .ok (.iload_n 1, 1) := kq_27 byq_r (by decide +kernel)
theorem d_Ground_between_4 : decode b_Ground_between 4 = .ok (.iload_n 2, 1) := kq_28 byq_r (by decide +kernel)
theorem d_Ground_between_5 : decode b_Ground_between 5 = .ok (.invokevirtual 29, 3) := kq_182 byq_r (a := 0) (b := 29) (by decide +kernel)
theorem d_Ground_between_8 : decode b_Ground_between 8 = .ok (.invokevirtual 25, 3) := kq_182 byq_r (a := 0) (b := 25) (by decide +kernel)
theorem d_Ground_between_11 : decode b_Ground_between 11 = .ok (.ireturn, 1) := kq_172 byq_r (by decide +kernel)
def f_Ground_kindOf (v0 : Int32) : Option (Int32) :=
  if v0 = (35 : Int32) then
  some (0 : Int32)
  else if v0 = (46 : Int32) then
  some (1 : Int32)
  else if v0 = (104 : Int32) then
  some (2 : Int32)
  else if v0 = (115 : Int32) then
  some (3 : Int32)
  else some (-1 : Int32)
theorem c_Ground_kindOf (l : Launch) (G : Gw)  (v0 : Int32) (M : Mem) (x : Int32) (h : f_Ground_kindOf v0 = some x) (d : Nat) (hD : 1 ≤ d) : Ci l G y_Ground_kindOf b_Ground_kindOf 1 (some .int) d [.int v0] M (fun r9 M9 => r9 = x ∧ M9 = M) := by
  refine Ci_of (by decide) (Nat.le_of_ble_eq_true rfl) (fun E hE X => ?_)
  subst hE
  have kr : ∀ x9 : Int32, x = x9 → (fun r9 M9 => r9 = x ∧ M9 = M) x9 M := fun x9 e9 => by subst e9; exact ⟨rfl, rfl⟩
  unfold f_Ground_kindOf at h
  refine V_iload_n (n := 0) X d_Ground_kindOf_0 rfl rfl rfl ?_
  by_cases c1 : v0 = (35 : Int32)
  · rw [if_pos c1] at h
    refine V_lku (v := 35) (pc' := 44) (off := 43) X d_Ground_kindOf_1 c1 (by decide) (by decide +kernel) (by decide) ?_
    refine V_iconst (v := 0) X d_Ground_kindOf_44 (by decide) rfl ?_
    exact V_iret X (kr (0 : Int32) (Option.some.inj h).symm) d_Ground_kindOf_45
  · rw [if_neg c1] at h
    by_cases c2 : v0 = (46 : Int32)
    · rw [if_pos c2] at h
      refine V_lku (v := 46) (pc' := 46) (off := 45) X d_Ground_kindOf_1 c2 (by decide) (by decide +kernel) (by decide) ?_
      refine V_iconst (v := 1) X d_Ground_kindOf_46 (by decide) rfl ?_
      exact V_iret X (kr (1 : Int32) (Option.some.inj h).symm) d_Ground_kindOf_47
    · rw [if_neg c2] at h
      by_cases c3 : v0 = (104 : Int32)
      · rw [if_pos c3] at h
        refine V_lku (v := 104) (pc' := 48) (off := 47) X d_Ground_kindOf_1 c3 (by decide) (by decide +kernel) (by decide) ?_
        refine V_iconst (v := 2) X d_Ground_kindOf_48 (by decide) rfl ?_
        exact V_iret X (kr (2 : Int32) (Option.some.inj h).symm) d_Ground_kindOf_49
      · rw [if_neg c3] at h
        by_cases c4 : v0 = (115 : Int32)
        · rw [if_pos c4] at h
          refine V_lku (v := 115) (pc' := 50) (off := 49) X d_Ground_kindOf_1 c4 (by decide) (by decide +kernel) (by decide) ?_
          refine V_iconst (v := 3) X d_Ground_kindOf_50 (by decide) rfl ?_
          exact V_iret X (kr (3 : Int32) (Option.some.inj h).symm) d_Ground_kindOf_51
        · rw [if_neg c4] at h
          refine V_lookup (pc' := 52) X d_Ground_kindOf_1 (by decide) (off := 51) (by simp [Op.lookupswitch.offset, (neT c1 (z := 35) (by decide)).symm, (neT c2 (z := 46) (by decide)).symm, (neT c3 (z := 104) (by decide)).symm, (neT c4 (z := 115) (by decide)).symm]) (by decide) ?_
          refine V_iconst (v := -1) X d_Ground_kindOf_52 (by decide) rfl ?_
          exact V_iret X (kr (-1 : Int32) (Option.some.inj h).symm) d_Ground_kindOf_53
def f_Ground_fits (v0 : Int32) (v1 : Int32) (v2 : Int32) (v3 : Int32) (v4 : Int32) : Option (Int32) :=
  if v1 = 0 then
  Option.bind (f_Ground_kindOf v0) fun x1 =>
  if x1 = (-1 : Int32) then
  some (0 : Int32)
  else
  if v4 ≤ v2 then
  some (0 : Int32)
  else
  some (1 : Int32)
  else
  if v2 < v3 then
  some (0 : Int32)
  else
  some (1 : Int32)
theorem c_Ground_fits (l : Launch) (G : Gw)  (v0 : Int32) (v1 : Int32) (v2 : Int32) (v3 : Int32) (v4 : Int32) (M : Mem) (x : Int32) (h : f_Ground_fits v0 v1 v2 v3 v4 = some x) (d : Nat) (hD : 2 ≤ d) : Ci l G y_Ground_fits b_Ground_fits 5 (some .boolean) d [.int v0, .int v1, .int v2, .int v3, .int v4] M (fun r9 M9 => r9 = x ∧ M9 = M) := by
  refine Ci_of (by decide) (Nat.le_of_ble_eq_true rfl) (fun E hE X => ?_)
  subst hE
  have kr : ∀ x9 : Int32, x = x9 → (fun r9 M9 => r9 = x ∧ M9 = M) x9 M := fun x9 e9 => by subst e9; exact ⟨rfl, rfl⟩
  unfold f_Ground_fits at h
  refine V_iload_n (n := 1) X d_Ground_fits_0 rfl rfl rfl ?_
  refine V_if_eq (tgt := 17) X d_Ground_fits_1 (by decide) rfl (fun c5 => ?_) (fun c5 => ?_)
  · rw [if_pos c5] at h
    refine V_iload_n (n := 0) X d_Ground_fits_17 rfl rfl rfl ?_
    obtain ⟨x1, hx1, h⟩ := ob_s h
    refine V_si (As := [.int v0]) X (Z0 E) ml_Ground_41 yq_Ground_kindOf (c_Ground_kindOf E.2.1 G v0 M x1 hx1 _ (Nat.le_refl _)) rfl (by omega) rfl (Nat.le_of_ble_eq_true rfl) d_Ground_fits_18 rfl (fun r9 M9 hq => ?_)
    rw [hq.1, hq.2]
    refine V_iconst (v := -1) X d_Ground_fits_21 (by decide) rfl ?_
    refine V_icmp_eq (tgt := 35) X d_Ground_fits_22 (by decide) rfl (fun c3 => ?_) (fun c3 => ?_)
    · rw [if_pos c3] at h
      refine V_iconst (v := 0) X d_Ground_fits_35 (by decide) rfl ?_
      exact V_zret X (kr (0 : Int32) (Option.some.inj h).symm) (by decide) d_Ground_fits_36
    · rw [if_neg c3] at h
      refine V_iload_n (n := 2) X d_Ground_fits_25 rfl rfl rfl ?_
      refine V_iload (n := 4) X d_Ground_fits_26 rfl rfl ?_
      refine V_icmp_ge (tgt := 35) X d_Ground_fits_28 (by decide) rfl (fun c2 => ?_) (fun c2 => ?_)
      · rw [if_pos c2] at h
        refine V_iconst (v := 0) X d_Ground_fits_35 (by decide) rfl ?_
        exact V_zret X (kr (0 : Int32) (Option.some.inj h).symm) (by decide) d_Ground_fits_36
      · rw [if_neg c2] at h
        refine V_iconst (v := 1) X d_Ground_fits_31 (by decide) rfl ?_
        refine V_goto (pc' := 36) X d_Ground_fits_32 (by decide) ?_
        exact V_zret X (kr (1 : Int32) (Option.some.inj h).symm) (by decide) d_Ground_fits_36
  · rw [if_neg c5] at h
    refine V_iload_n (n := 2) X d_Ground_fits_4 rfl rfl rfl ?_
    refine V_iload_n (n := 3) X d_Ground_fits_5 rfl rfl rfl ?_
    refine V_icmp_lt (tgt := 13) X d_Ground_fits_6 (by decide) rfl (fun c4 => ?_) (fun c4 => ?_)
    · rw [if_pos c4] at h
      refine V_iconst (v := 0) X d_Ground_fits_13 (by decide) rfl ?_
      refine V_goto (pc' := 36) X d_Ground_fits_14 (by decide) ?_
      exact V_zret X (kr (0 : Int32) (Option.some.inj h).symm) (by decide) d_Ground_fits_36
    · rw [if_neg c4] at h
      refine V_iconst (v := 1) X d_Ground_fits_9 (by decide) rfl ?_
      refine V_goto (pc' := 36) X d_Ground_fits_10 (by decide) ?_
      exact V_zret X (kr (1 : Int32) (Option.some.inj h).symm) (by decide) d_Ground_fits_36
def lb_Ground_become_12 (v2 : Int32) (s : Int32 × Mem) : Option ((Int32 × Mem) ⊕ ((Mem))) :=
  if (36 : Int32) ≤ s.1 then
  some (.inr s.2)
  else
  if v2 ≤ s.1 then
  if inb s.1 36 = true then
  mem_ (s_i s.2 4 s.1.toNatClampNeg (0 : Int32)) fun M3 =>
  some (.inl ((s.1 + (1 : Int32)), M3))
  else none
  else
  if inb s.1 36 = true then
  if inb s.1 36 = true then
  mem_ (s_i s.2 4 s.1.toNatClampNeg (s.2.1 5 s.1.toNatClampNeg)) fun M4 =>
  some (.inl ((s.1 + (1 : Int32)), M4))
  else none
  else none
theorem lb_Ground_become_12_ok {E : Ev} {G : Gw} {d : Nat} {post : Int32 → Mem → Prop} (X : Cx E G b_Ground_become "WomenByTheRoofs$Ground" 4 d (some .int)) (hD : 1 ≤ d)  (v2 : Int32)   (s : Int32 × Mem) (o : (Int32 × Mem) ⊕ ((Mem))) (h : lb_Ground_become_12 v2 s = some o) (kc : ∀ s9 : Int32 × Mem, o = .inl s9 → V E (0, 0) G 4 (QI E G post) s9.2 12 [(0, .ref (G.2.2 + 3)), (2, .int v2), (3, .int s9.1)] []) (kx0 : ∀ x9 : Mem, o = .inr x9 → V E (0, 0) G 4 (QI E G post) x9 45 [(2, .int v2)] []) : V E (0, 0) G 4 (QI E G post) s.2 12 [(0, .ref (G.2.2 + 3)), (2, .int v2), (3, .int s.1)] [] := by
  unfold lb_Ground_become_12 at h
  refine V_iload_n (n := 2) X d_Ground_become_12 rfl rfl rfl ?_
  refine V_bipush (v := 36) X d_Ground_become_13 (by decide) rfl ?_
  refine V_icmp_ge (tgt := 45) X d_Ground_become_15 (by decide) rfl (fun c6 => ?_) (fun c6 => ?_)
  · rw [if_pos c6] at h
    refine V_sub (lv' := [(2, .int v2)]) [1] rfl ?_
    exact kx0 s.2 (Option.some.inj h).symm
  · rw [if_neg c6] at h
    refine V_aload_n (n := 0) X d_Ground_become_18 rfl rfl rfl ?_
    refine V_getr (k2 := 4) X fo_Ground_9 kd_3 rfl rf_3_0 d_Ground_become_19 rfl ?_
    refine V_iload_n (n := 2) X d_Ground_become_22 rfl rfl rfl ?_
    refine V_iload_n (n := 2) X d_Ground_become_23 rfl rfl rfl ?_
    refine V_iload_n (n := 1) X d_Ground_become_24 rfl rfl rfl ?_
    refine V_icmp_ge (tgt := 37) X d_Ground_become_25 (by decide) rfl (fun c5 => ?_) (fun c5 => ?_)
    · rw [if_pos c5] at h
      refine V_iconst (v := 0) X d_Ground_become_37 (by decide) rfl ?_
      obtain ⟨hb, h⟩ := ifn h
      obtain ⟨M3, eM3, h⟩ := memS h
      refine V_iast X kd_4 (inb_in ln_4 hb) d_Ground_become_38 rfl ?_
      rw [← eM3]
      refine V_iinc (n := 2) (v := (s.1 + (1 : Int32))) (lv' := [(3, .int (s.1 + (1 : Int32))), (0, .ref (G.2.2 + 3)), (2, .int v2)]) X d_Ground_become_39 rfl rfl (by decide) rfl rfl ?_
      refine V_goto (pc' := 12) X d_Ground_become_42 (by decide) ?_
      refine V_sub (lv' := [(0, .ref (G.2.2 + 3)), (2, .int v2), (3, .int (s.1 + (1 : Int32)))]) [1, 2, 0] rfl ?_
      exact kc ((s.1 + (1 : Int32)), M3) (Option.some.inj h).symm
    · rw [if_neg c5] at h
      refine V_aload_n (n := 0) X d_Ground_become_28 rfl rfl rfl ?_
      refine V_getr (k2 := 5) X fo_Ground_15 kd_3 rfl rf_3_1 d_Ground_become_29 rfl ?_
      refine V_iload_n (n := 2) X d_Ground_become_32 rfl rfl rfl ?_
      obtain ⟨hb, h⟩ := ifn h
      refine V_iald X kd_5 (inb_in ln_5 hb) d_Ground_become_33 rfl ?_
      refine V_goto (pc' := 38) X d_Ground_become_34 (by decide) ?_
      obtain ⟨hb, h⟩ := ifn h
      obtain ⟨M4, eM4, h⟩ := memS h
      refine V_iast X kd_4 (inb_in ln_4 hb) d_Ground_become_38 rfl ?_
      rw [← eM4]
      refine V_iinc (n := 2) (v := (s.1 + (1 : Int32))) (lv' := [(3, .int (s.1 + (1 : Int32))), (0, .ref (G.2.2 + 3)), (2, .int v2)]) X d_Ground_become_39 rfl rfl (by decide) rfl rfl ?_
      refine V_goto (pc' := 12) X d_Ground_become_42 (by decide) ?_
      refine V_sub (lv' := [(0, .ref (G.2.2 + 3)), (2, .int v2), (3, .int (s.1 + (1 : Int32)))]) [1, 2, 0] rfl ?_
      exact kc ((s.1 + (1 : Int32)), M4) (Option.some.inj h).symm
theorem lp_Ground_become_12_ok {E : Ev} {G : Gw} {d : Nat} {post : Int32 → Mem → Prop} (X : Cx E G b_Ground_become "WomenByTheRoofs$Ground" 4 d (some .int)) (hD : 1 ≤ d)  (v2 : Int32)   (n9 : Nat) (s : Int32 × Mem) (x : (Mem)) (h : iter (lb_Ground_become_12 v2) n9 s = some x) (kx0 : ∀ x9 : Mem, x = x9 → V E (0, 0) G 4 (QI E G post) x9 45 [(2, .int v2)] []) : V E (0, 0) G 4 (QI E G post) s.2 12 [(0, .ref (G.2.2 + 3)), (2, .int v2), (3, .int s.1)] [] :=
  iter_P (P := fun s : Int32 × Mem => V E (0, 0) G 4 (QI E G post) s.2 12 [(0, .ref (G.2.2 + 3)), (2, .int v2), (3, .int s.1)] []) (fun s o hb kc ky => lb_Ground_become_12_ok X hD v2 s o hb kc (fun x9 e9 => kx0 x9 (ky _ e9).symm)) n9 s h
def f_Ground_become (v1 : Int32) (v2 : Int32) (M : Mem) : Option (Int32 × Mem) :=
  mem_ (s_i M 3 2 v1) fun M1 =>
  mem_ (s_i M1 3 3 v2) fun M2 =>
  Option.bind (iter (lb_Ground_become_12 v2) FU ((0 : Int32), M2)) fun x7 =>
  some (v2, x7)
theorem c_Ground_become (l : Launch) (G : Gw)  (v1 : Int32) (v2 : Int32) (M : Mem) (x : Int32 × Mem) (h : f_Ground_become v1 v2 M = some x) (d : Nat) (hD : 1 ≤ d) : Ci l G y_Ground_become b_Ground_become 4 (some .int) d [.ref (G.2.2 + 3), .int v1, .int v2] M (fun r9 M9 => r9 = x.1 ∧ M9 = x.2) := by
  refine Ci_of (by decide) (Nat.le_of_ble_eq_true rfl) (fun E hE X => ?_)
  subst hE
  have kr : ∀ x9 : Int32 × Mem, x = x9 → (fun r9 M9 => r9 = x.1 ∧ M9 = x.2) x9.1 x9.2 := fun x9 e9 => by subst e9; exact ⟨rfl, rfl⟩
  unfold f_Ground_become at h
  refine V_aload_n (n := 0) X d_Ground_become_0 rfl rfl rfl ?_
  refine V_iload_n (n := 1) X d_Ground_become_1 rfl rfl rfl ?_
  obtain ⟨M1, eM1, h⟩ := memS h
  refine V_putI X fp_Ground_18 kd_3 rfl d_Ground_become_2 rfl ?_
  rw [← eM1]
  refine V_aload_n (n := 0) X d_Ground_become_5 rfl rfl rfl ?_
  refine V_iload_n (n := 2) X d_Ground_become_6 rfl rfl rfl ?_
  obtain ⟨M2, eM2, h⟩ := memS h
  refine V_putI X fp_Ground_22 kd_3 rfl d_Ground_become_7 rfl ?_
  rw [← eM2]
  refine V_iconst (v := 0) X d_Ground_become_10 (by decide) rfl ?_
  refine V_istore_n (lv' := [(3, .int (0 : Int32)), (0, .ref (G.2.2 + 3)), (1, .int v1), (2, .int v2)]) X d_Ground_become_11 rfl (by decide) rfl rfl ?_
  refine V_sub (lv' := [(0, .ref (G.2.2 + 3)), (2, .int v2), (3, .int (0 : Int32))]) [1, 3, 0] rfl ?_
  obtain ⟨x7, hx7, h⟩ := ob_s h
  refine (lp_Ground_become_12_ok X hD v2 _ _ _ hx7 (fun x9 e9 => ?_) :)
  subst e9
  refine V_iload_n (n := 0) X d_Ground_become_45 rfl rfl rfl ?_
  exact V_iret X (kr (v2, x7) (Option.some.inj h).symm) d_Ground_become_46
def j_Ground_read_126_14 (v2 : Int32) (v3 : Int32) (v4 : Int32) (v5 : Int32) (v6 : Int32) (v7 : Int32) (M : Mem) : Option ((Int32 × Int32 × Int32 × Int32 × Int32 × Mem) ⊕ ((Mem) ⊕ (Int32 × Mem) ⊕ (Int32 × Int32 × Mem))) :=
  if v7 = (-1 : Int32) then
  some (.inr (Sum.inr (Sum.inr (v2, v5, M))))
  else
  some (.inl (v2, v3, v4, v5, (v6 + (1 : Int32)), M))
theorem j_Ground_read_126_14_ok {E : Ev} {G : Gw} {d : Nat} {post : Int32 → Mem → Prop} (X : Cx E G b_Ground_read "WomenByTheRoofs$Ground" 9 d (some .int)) (hD : 3 ≤ d)  (v2 : Int32) (v3 : Int32) (v4 : Int32) (v5 : Int32) (v6 : Int32) (v7 : Int32)  (M : Mem)  (o : (Int32 × Int32 × Int32 × Int32 × Int32 × Mem) ⊕ ((Mem) ⊕ (Int32 × Mem) ⊕ (Int32 × Int32 × Mem))) (h : j_Ground_read_126_14 v2 v3 v4 v5 v6 v7 M = some o) (kc : ∀ s9 : Int32 × Int32 × Int32 × Int32 × Int32 × Mem, o = .inl s9 → V E (0, 0) G 9 (QI E G post) s9.2.2.2.2.2 14 [(0, .ref (G.2.2 + 3)), (1, .ref (G.2.2 + 1)), (2, .int s9.1), (3, .int s9.2.1), (4, .int s9.2.2.1), (5, .int s9.2.2.2.1), (6, .int s9.2.2.2.2.1)] []) (kx0 : ∀ x9 : Mem, o = .inr (Sum.inl x9) → V E (0, 0) G 9 (QI E G post) x9 146 [] []) (kx1 : ∀ x9 : Int32 × Mem, o = .inr (Sum.inr (Sum.inl x9)) → V E (0, 0) G 9 (QI E G post) x9.2 82 [(6, .int x9.1)] []) (kx2 : ∀ x9 : Int32 × Int32 × Mem, o = .inr (Sum.inr (Sum.inr x9)) → V E (0, 0) G 9 (QI E G post) x9.2.2 132 [(0, .ref (G.2.2 + 3)), (2, .int x9.1), (5, .int x9.2.1)] []) : V E (0, 0) G 9 (QI E G post) M 126 [(0, .ref (G.2.2 + 3)), (1, .ref (G.2.2 + 1)), (2, .int v2), (3, .int v3), (4, .int v4), (5, .int v5), (6, .int v6), (7, .int v7)] [] := by
  unfold j_Ground_read_126_14 at h
  refine V_iload (n := 7) X d_Ground_read_126 rfl rfl ?_
  refine V_iconst (v := -1) X d_Ground_read_128 (by decide) rfl ?_
  refine V_icmp_ne (tgt := 140) X d_Ground_read_129 (by decide) rfl (fun c3 => ?_) (fun c3 => ?_)
  · rw [if_neg c3] at h
    refine V_iinc (n := 6) (v := (v6 + (1 : Int32))) (lv' := [(6, .int (v6 + (1 : Int32))), (0, .ref (G.2.2 + 3)), (1, .ref (G.2.2 + 1)), (2, .int v2), (3, .int v3), (4, .int v4), (5, .int v5), (7, .int v7)]) X d_Ground_read_140 rfl rfl (by decide) rfl rfl ?_
    refine V_goto (pc' := 14) X d_Ground_read_143 (by decide) ?_
    refine V_sub (lv' := [(0, .ref (G.2.2 + 3)), (1, .ref (G.2.2 + 1)), (2, .int v2), (3, .int v3), (4, .int v4), (5, .int v5), (6, .int (v6 + (1 : Int32)))]) [1, 2, 3, 4, 5, 6, 0] rfl ?_
    exact kc (v2, v3, v4, v5, (v6 + (1 : Int32)), M) (Option.some.inj h).symm
  · rw [if_pos c3] at h
    refine V_sub (lv' := [(0, .ref (G.2.2 + 3)), (2, .int v2), (5, .int v5)]) [0, 2, 5] rfl ?_
    exact kx2 (v2, v5, M) (Option.some.inj h).symm
def j_Ground_read_74_14 (v2 : Int32) (v3 : Int32) (v4 : Int32) (v5 : Int32) (v6 : Int32) (v7 : Int32) (v8 : Int32) (w0 : Int32) (w1 : Int32) (w2 : Int32) (w3 : Int32) (M : Mem) : Option ((Int32 × Int32 × Int32 × Int32 × Int32 × Mem) ⊕ ((Mem) ⊕ (Int32 × Mem) ⊕ (Int32 × Int32 × Mem))) :=
  Option.bind (f_Ground_fits w3 w2 w1 w0 v5) fun x2 =>
  if x2 = 0 then
  some (.inr (Sum.inr (Sum.inl (v6, M))))
  else
  if v8 = 0 then
  if (36 : Int32) ≤ v2 then
  j_Ground_read_126_14 v2 v3 v4 v5 v6 v7 M
  else
  Option.bind (f_Ground_kindOf v7) fun x4 =>
  if inb v2 36 = true then
  mem_ (s_i M 5 v2.toNatClampNeg x4) fun M5 =>
  j_Ground_read_126_14 (v2 + (1 : Int32)) (v3 + (1 : Int32)) v4 v5 v6 v7 M5
  else none
  else
  j_Ground_read_126_14 v2 (0 : Int32) (v4 + (1 : Int32)) v3 v6 v7 M
theorem j_Ground_read_74_14_ok {E : Ev} {G : Gw} {d : Nat} {post : Int32 → Mem → Prop} (X : Cx E G b_Ground_read "WomenByTheRoofs$Ground" 9 d (some .int)) (hD : 3 ≤ d)  (v2 : Int32) (v3 : Int32) (v4 : Int32) (v5 : Int32) (v6 : Int32) (v7 : Int32) (v8 : Int32) (w0 : Int32) (w1 : Int32) (w2 : Int32) (w3 : Int32)  (M : Mem)  (o : (Int32 × Int32 × Int32 × Int32 × Int32 × Mem) ⊕ ((Mem) ⊕ (Int32 × Mem) ⊕ (Int32 × Int32 × Mem))) (h : j_Ground_read_74_14 v2 v3 v4 v5 v6 v7 v8 w0 w1 w2 w3 M = some o) (kc : ∀ s9 : Int32 × Int32 × Int32 × Int32 × Int32 × Mem, o = .inl s9 → V E (0, 0) G 9 (QI E G post) s9.2.2.2.2.2 14 [(0, .ref (G.2.2 + 3)), (1, .ref (G.2.2 + 1)), (2, .int s9.1), (3, .int s9.2.1), (4, .int s9.2.2.1), (5, .int s9.2.2.2.1), (6, .int s9.2.2.2.2.1)] []) (kx0 : ∀ x9 : Mem, o = .inr (Sum.inl x9) → V E (0, 0) G 9 (QI E G post) x9 146 [] []) (kx1 : ∀ x9 : Int32 × Mem, o = .inr (Sum.inr (Sum.inl x9)) → V E (0, 0) G 9 (QI E G post) x9.2 82 [(6, .int x9.1)] []) (kx2 : ∀ x9 : Int32 × Int32 × Mem, o = .inr (Sum.inr (Sum.inr x9)) → V E (0, 0) G 9 (QI E G post) x9.2.2 132 [(0, .ref (G.2.2 + 3)), (2, .int x9.1), (5, .int x9.2.1)] []) : V E (0, 0) G 9 (QI E G post) M 74 [(0, .ref (G.2.2 + 3)), (1, .ref (G.2.2 + 1)), (2, .int v2), (3, .int v3), (4, .int v4), (5, .int v5), (6, .int v6), (7, .int v7), (8, .int v8)] [.int w0, .int w1, .int w2, .int w3] := by
  unfold j_Ground_read_74_14 at h
  refine V_iload (n := 5) X d_Ground_read_74 rfl rfl ?_
  obtain ⟨x2, hx2, h⟩ := ob_s h
  refine V_si (As := [.int w3, .int w2, .int w1, .int w0, .int v5]) X (Z0 E) ml_Ground_37 yq_Ground_fits (c_Ground_fits E.2.1 G w3 w2 w1 w0 v5 M x2 hx2 _ (Nat.le_refl _)) rfl (by omega) rfl (Nat.le_of_ble_eq_true rfl) d_Ground_read_76 rfl (fun r9 M9 hq => ?_)
  rw [hq.1, hq.2]
  refine V_if_ne (tgt := 87) X d_Ground_read_79 (by decide) rfl (fun c8 => ?_) (fun c8 => ?_)
  · rw [if_neg c8] at h
    refine V_iload (n := 8) X d_Ground_read_87 rfl rfl ?_
    refine V_if_eq (tgt := 103) X d_Ground_read_89 (by decide) rfl (fun c7 => ?_) (fun c7 => ?_)
    · rw [if_pos c7] at h
      refine V_iload_n (n := 2) X d_Ground_read_103 rfl rfl rfl ?_
      refine V_bipush (v := 36) X d_Ground_read_104 (by decide) rfl ?_
      refine V_icmp_ge (tgt := 126) X d_Ground_read_106 (by decide) rfl (fun c6 => ?_) (fun c6 => ?_)
      · rw [if_pos c6] at h
        refine V_sub (lv' := [(0, .ref (G.2.2 + 3)), (1, .ref (G.2.2 + 1)), (2, .int v2), (3, .int v3), (4, .int v4), (5, .int v5), (6, .int v6), (7, .int v7)]) [0, 1, 2, 3, 4, 5, 6, 7] rfl ?_
        exact j_Ground_read_126_14_ok X hD v2 v3 v4 v5 v6 v7 M _ h kc kx0 kx1 kx2
      · rw [if_neg c6] at h
        refine V_aload_n (n := 0) X d_Ground_read_109 rfl rfl rfl ?_
        refine V_getr (k2 := 5) X fo_Ground_15 kd_3 rfl rf_3_1 d_Ground_read_110 rfl ?_
        refine V_iload_n (n := 2) X d_Ground_read_113 rfl rfl rfl ?_
        refine V_iload (n := 7) X d_Ground_read_114 rfl rfl ?_
        obtain ⟨x4, hx4, h⟩ := ob_s h
        refine V_si (As := [.int v7]) X (Z0 E) ml_Ground_41 yq_Ground_kindOf (c_Ground_kindOf E.2.1 G v7 M x4 hx4 _ (Nat.le_refl _)) rfl (by omega) rfl (Nat.le_of_ble_eq_true rfl) d_Ground_read_116 rfl (fun r9 M9 hq => ?_)
        rw [hq.1, hq.2]
        obtain ⟨hb, h⟩ := ifn h
        obtain ⟨M5, eM5, h⟩ := memS h
        refine V_iast X kd_5 (inb_in ln_5 hb) d_Ground_read_119 rfl ?_
        rw [← eM5]
        refine V_iinc (n := 2) (v := (v2 + (1 : Int32))) (lv' := [(2, .int (v2 + (1 : Int32))), (0, .ref (G.2.2 + 3)), (1, .ref (G.2.2 + 1)), (3, .int v3), (4, .int v4), (5, .int v5), (6, .int v6), (7, .int v7), (8, .int v8)]) X d_Ground_read_120 rfl rfl (by decide) rfl rfl ?_
        refine V_iinc (n := 3) (v := (v3 + (1 : Int32))) (lv' := [(3, .int (v3 + (1 : Int32))), (2, .int (v2 + (1 : Int32))), (0, .ref (G.2.2 + 3)), (1, .ref (G.2.2 + 1)), (4, .int v4), (5, .int v5), (6, .int v6), (7, .int v7), (8, .int v8)]) X d_Ground_read_123 rfl rfl (by decide) rfl rfl ?_
        refine V_sub (lv' := [(0, .ref (G.2.2 + 3)), (1, .ref (G.2.2 + 1)), (2, .int (v2 + (1 : Int32))), (3, .int (v3 + (1 : Int32))), (4, .int v4), (5, .int v5), (6, .int v6), (7, .int v7)]) [2, 3, 1, 0, 4, 5, 6, 7] rfl ?_
        exact j_Ground_read_126_14_ok X hD (v2 + (1 : Int32)) (v3 + (1 : Int32)) v4 v5 v6 v7 M5 _ h kc kx0 kx1 kx2
    · rw [if_neg c7] at h
      refine V_iload_n (n := 3) X d_Ground_read_92 rfl rfl rfl ?_
      refine V_istore (lv' := [(5, .int v3), (0, .ref (G.2.2 + 3)), (1, .ref (G.2.2 + 1)), (2, .int v2), (3, .int v3), (4, .int v4), (6, .int v6), (7, .int v7), (8, .int v8)]) X d_Ground_read_93 (by decide) rfl rfl ?_
      refine V_iconst (v := 0) X d_Ground_read_95 (by decide) rfl ?_
      refine V_istore_n (lv' := [(3, .int (0 : Int32)), (5, .int v3), (0, .ref (G.2.2 + 3)), (1, .ref (G.2.2 + 1)), (2, .int v2), (4, .int v4), (6, .int v6), (7, .int v7), (8, .int v8)]) X d_Ground_read_96 rfl (by decide) rfl rfl ?_
      refine V_iinc (n := 5) (v := (v4 + (1 : Int32))) (lv' := [(4, .int (v4 + (1 : Int32))), (3, .int (0 : Int32)), (5, .int v3), (0, .ref (G.2.2 + 3)), (1, .ref (G.2.2 + 1)), (2, .int v2), (6, .int v6), (7, .int v7), (8, .int v8)]) X d_Ground_read_97 rfl rfl (by decide) rfl rfl ?_
      refine V_goto (pc' := 126) X d_Ground_read_100 (by decide) ?_
      refine V_sub (lv' := [(0, .ref (G.2.2 + 3)), (1, .ref (G.2.2 + 1)), (2, .int v2), (3, .int (0 : Int32)), (4, .int (v4 + (1 : Int32))), (5, .int v3), (6, .int v6), (7, .int v7)]) [3, 4, 5, 1, 0, 2, 6, 7] rfl ?_
      exact j_Ground_read_126_14_ok X hD v2 (0 : Int32) (v4 + (1 : Int32)) v3 v6 v7 M _ h kc kx0 kx1 kx2
  · rw [if_pos c8] at h
    refine V_sub (lv' := [(6, .int v6)]) [6] rfl ?_
    exact kx1 (v6, M) (Option.some.inj h).symm
def j_Ground_read_49_14 (v2 : Int32) (v3 : Int32) (v4 : Int32) (v5 : Int32) (v6 : Int32) (v7 : Int32) (w0 : Int32) (M : Mem) : Option ((Int32 × Int32 × Int32 × Int32 × Int32 × Mem) ⊕ ((Mem) ⊕ (Int32 × Mem) ⊕ (Int32 × Int32 × Mem))) :=
  if (6 : Int32) ≤ v4 then
  some (.inr (Sum.inr (Sum.inl (v6, M))))
  else
  if v4 = 0 then
  j_Ground_read_74_14 v2 v3 v4 v5 v6 v7 w0 (1 : Int32) v3 w0 v7 M
  else
  j_Ground_read_74_14 v2 v3 v4 v5 v6 v7 w0 v5 v3 w0 v7 M
theorem j_Ground_read_49_14_ok {E : Ev} {G : Gw} {d : Nat} {post : Int32 → Mem → Prop} (X : Cx E G b_Ground_read "WomenByTheRoofs$Ground" 9 d (some .int)) (hD : 3 ≤ d)  (v2 : Int32) (v3 : Int32) (v4 : Int32) (v5 : Int32) (v6 : Int32) (v7 : Int32) (w0 : Int32)  (M : Mem)  (o : (Int32 × Int32 × Int32 × Int32 × Int32 × Mem) ⊕ ((Mem) ⊕ (Int32 × Mem) ⊕ (Int32 × Int32 × Mem))) (h : j_Ground_read_49_14 v2 v3 v4 v5 v6 v7 w0 M = some o) (kc : ∀ s9 : Int32 × Int32 × Int32 × Int32 × Int32 × Mem, o = .inl s9 → V E (0, 0) G 9 (QI E G post) s9.2.2.2.2.2 14 [(0, .ref (G.2.2 + 3)), (1, .ref (G.2.2 + 1)), (2, .int s9.1), (3, .int s9.2.1), (4, .int s9.2.2.1), (5, .int s9.2.2.2.1), (6, .int s9.2.2.2.2.1)] []) (kx0 : ∀ x9 : Mem, o = .inr (Sum.inl x9) → V E (0, 0) G 9 (QI E G post) x9 146 [] []) (kx1 : ∀ x9 : Int32 × Mem, o = .inr (Sum.inr (Sum.inl x9)) → V E (0, 0) G 9 (QI E G post) x9.2 82 [(6, .int x9.1)] []) (kx2 : ∀ x9 : Int32 × Int32 × Mem, o = .inr (Sum.inr (Sum.inr x9)) → V E (0, 0) G 9 (QI E G post) x9.2.2 132 [(0, .ref (G.2.2 + 3)), (2, .int x9.1), (5, .int x9.2.1)] []) : V E (0, 0) G 9 (QI E G post) M 49 [(0, .ref (G.2.2 + 3)), (1, .ref (G.2.2 + 1)), (2, .int v2), (3, .int v3), (4, .int v4), (5, .int v5), (6, .int v6), (7, .int v7)] [.int w0] := by
  unfold j_Ground_read_49_14 at h
  refine V_istore (lv' := [(8, .int w0), (0, .ref (G.2.2 + 3)), (1, .ref (G.2.2 + 1)), (2, .int v2), (3, .int v3), (4, .int v4), (5, .int v5), (6, .int v6), (7, .int v7)]) X d_Ground_read_49 (by decide) rfl rfl ?_
  refine V_iload (n := 5) X d_Ground_read_51 rfl rfl ?_
  refine V_bipush (v := 6) X d_Ground_read_53 (by decide) rfl ?_
  refine V_icmp_ge (tgt := 82) X d_Ground_read_55 (by decide) rfl (fun c10 => ?_) (fun c10 => ?_)
  · rw [if_pos c10] at h
    refine V_sub (lv' := [(6, .int v6)]) [7] rfl ?_
    exact kx1 (v6, M) (Option.some.inj h).symm
  · rw [if_neg c10] at h
    refine V_iload (n := 8) X d_Ground_read_58 rfl rfl ?_
    refine V_iload (n := 0) X d_Ground_read_60 rfl rfl ?_
    refine V_iload_n (n := 4) X d_Ground_read_62 rfl rfl rfl ?_
    refine V_iload (n := 5) X d_Ground_read_63 rfl rfl ?_
    refine V_if_ne (tgt := 72) X d_Ground_read_65 (by decide) rfl (fun c9 => ?_) (fun c9 => ?_)
    · rw [if_neg c9] at h
      refine V_iload (n := 6) X d_Ground_read_72 rfl rfl ?_
      refine V_sub (lv' := [(0, .ref (G.2.2 + 3)), (1, .ref (G.2.2 + 1)), (2, .int v2), (3, .int v3), (4, .int v4), (5, .int v5), (6, .int v6), (7, .int v7), (8, .int w0)]) [1, 2, 3, 4, 5, 6, 7, 8, 0] rfl ?_
      exact j_Ground_read_74_14_ok X hD v2 v3 v4 v5 v6 v7 w0 v5 v3 w0 v7 M _ h kc kx0 kx1 kx2
    · rw [if_pos c9] at h
      refine V_iconst (v := 1) X d_Ground_read_68 (by decide) rfl ?_
      refine V_goto (pc' := 74) X d_Ground_read_69 (by decide) ?_
      refine V_sub (lv' := [(0, .ref (G.2.2 + 3)), (1, .ref (G.2.2 + 1)), (2, .int v2), (3, .int v3), (4, .int v4), (5, .int v5), (6, .int v6), (7, .int v7), (8, .int w0)]) [1, 2, 3, 4, 5, 6, 7, 8, 0] rfl ?_
      exact j_Ground_read_74_14_ok X hD v2 v3 v4 v5 v6 v7 w0 (1 : Int32) v3 w0 v7 M _ h kc kx0 kx1 kx2
def lb_Ground_read_14  (s : Int32 × Int32 × Int32 × Int32 × Int32 × Mem) : Option ((Int32 × Int32 × Int32 × Int32 × Int32 × Mem) ⊕ ((Mem) ⊕ (Int32 × Mem) ⊕ (Int32 × Int32 × Mem))) :=
  if (80 : Int32) < s.2.2.2.2.1 then
  some (.inr (Sum.inl s.2.2.2.2.2))
  else
  Option.bind (f_Signs_at s.2.2.2.2.1 (80 : Int32) s.2.2.2.2.2) fun x1 =>
  if x1 = (47 : Int32) then
  j_Ground_read_49_14 s.1 s.2.1 s.2.2.1 s.2.2.2.1 s.2.2.2.2.1 x1 (1 : Int32) s.2.2.2.2.2
  else
  if x1 = (-1 : Int32) then
  j_Ground_read_49_14 s.1 s.2.1 s.2.2.1 s.2.2.2.1 s.2.2.2.2.1 x1 (1 : Int32) s.2.2.2.2.2
  else
  j_Ground_read_49_14 s.1 s.2.1 s.2.2.1 s.2.2.2.1 s.2.2.2.2.1 x1 (0 : Int32) s.2.2.2.2.2
theorem lb_Ground_read_14_ok {E : Ev} {G : Gw} {d : Nat} {post : Int32 → Mem → Prop} (X : Cx E G b_Ground_read "WomenByTheRoofs$Ground" 9 d (some .int)) (hD : 3 ≤ d)     (s : Int32 × Int32 × Int32 × Int32 × Int32 × Mem) (o : (Int32 × Int32 × Int32 × Int32 × Int32 × Mem) ⊕ ((Mem) ⊕ (Int32 × Mem) ⊕ (Int32 × Int32 × Mem))) (h : lb_Ground_read_14 s = some o) (kc : ∀ s9 : Int32 × Int32 × Int32 × Int32 × Int32 × Mem, o = .inl s9 → V E (0, 0) G 9 (QI E G post) s9.2.2.2.2.2 14 [(0, .ref (G.2.2 + 3)), (1, .ref (G.2.2 + 1)), (2, .int s9.1), (3, .int s9.2.1), (4, .int s9.2.2.1), (5, .int s9.2.2.2.1), (6, .int s9.2.2.2.2.1)] []) (kx0 : ∀ x9 : Mem, o = .inr (Sum.inl x9) → V E (0, 0) G 9 (QI E G post) x9 146 [] []) (kx1 : ∀ x9 : Int32 × Mem, o = .inr (Sum.inr (Sum.inl x9)) → V E (0, 0) G 9 (QI E G post) x9.2 82 [(6, .int x9.1)] []) (kx2 : ∀ x9 : Int32 × Int32 × Mem, o = .inr (Sum.inr (Sum.inr x9)) → V E (0, 0) G 9 (QI E G post) x9.2.2 132 [(0, .ref (G.2.2 + 3)), (2, .int x9.1), (5, .int x9.2.1)] []) : V E (0, 0) G 9 (QI E G post) s.2.2.2.2.2 14 [(0, .ref (G.2.2 + 3)), (1, .ref (G.2.2 + 1)), (2, .int s.1), (3, .int s.2.1), (4, .int s.2.2.1), (5, .int s.2.2.2.1), (6, .int s.2.2.2.2.1)] [] := by
  unfold lb_Ground_read_14 at h
  refine V_iload (n := 6) X d_Ground_read_14 rfl rfl ?_
  refine V_bipush (v := 80) X d_Ground_read_16 (by decide) rfl ?_
  refine V_icmp_gt (tgt := 146) X d_Ground_read_18 (by decide) rfl (fun c13 => ?_) (fun c13 => ?_)
  · rw [if_pos c13] at h
    refine V_sub (lv' := []) [] rfl ?_
    exact kx0 s.2.2.2.2.2 (Option.some.inj h).symm
  · rw [if_neg c13] at h
    refine V_aload_n (n := 1) X d_Ground_read_21 rfl rfl rfl ?_
    refine V_iload (n := 6) X d_Ground_read_22 rfl rfl ?_
    refine V_bipush (v := 80) X d_Ground_read_24 (by decide) rfl ?_
    obtain ⟨x1, hx1, h⟩ := ob_s h
    refine V_ci (As := [.int s.2.2.2.2.1, .int (80 : Int32)]) X (Z0 E) ml_Ground_32 yq_Signs_at (c_Signs_at E.2.1 G s.2.2.2.2.1 (80 : Int32) s.2.2.2.2.2 x1 hx1 _ (Nat.le_refl _)) kd_1 rfl rfl (by omega) rfl (Nat.le_of_ble_eq_true rfl) d_Ground_read_26 rfl (fun r9 M9 hq => ?_)
    rw [hq.1, hq.2]
    refine V_istore (lv' := [(7, .int x1), (0, .ref (G.2.2 + 3)), (1, .ref (G.2.2 + 1)), (2, .int s.1), (3, .int s.2.1), (4, .int s.2.2.1), (5, .int s.2.2.2.1), (6, .int s.2.2.2.2.1)]) X d_Ground_read_29 (by decide) rfl rfl ?_
    refine V_iload (n := 0) X d_Ground_read_31 rfl rfl ?_
    refine V_bipush (v := 47) X d_Ground_read_33 (by decide) rfl ?_
    refine V_icmp_eq (tgt := 44) X d_Ground_read_35 (by decide) rfl (fun c12 => ?_) (fun c12 => ?_)
    · rw [if_pos c12] at h
      refine V_iconst (v := 1) X d_Ground_read_44 (by decide) rfl ?_
      refine V_goto (pc' := 49) X d_Ground_read_45 (by decide) ?_
      refine V_sub (lv' := [(0, .ref (G.2.2 + 3)), (1, .ref (G.2.2 + 1)), (2, .int s.1), (3, .int s.2.1), (4, .int s.2.2.1), (5, .int s.2.2.2.1), (6, .int s.2.2.2.2.1), (7, .int x1)]) [1, 2, 3, 4, 5, 6, 7, 0] rfl ?_
      exact j_Ground_read_49_14_ok X hD s.1 s.2.1 s.2.2.1 s.2.2.2.1 s.2.2.2.2.1 x1 (1 : Int32) s.2.2.2.2.2 _ h kc kx0 kx1 kx2
    · rw [if_neg c12] at h
      refine V_iload (n := 0) X d_Ground_read_38 rfl rfl ?_
      refine V_iconst (v := -1) X d_Ground_read_40 (by decide) rfl ?_
      refine V_icmp_ne (tgt := 48) X d_Ground_read_41 (by decide) rfl (fun c11 => ?_) (fun c11 => ?_)
      · rw [if_neg c11] at h
        refine V_iconst (v := 0) X d_Ground_read_48 (by decide) rfl ?_
        refine V_sub (lv' := [(0, .ref (G.2.2 + 3)), (1, .ref (G.2.2 + 1)), (2, .int s.1), (3, .int s.2.1), (4, .int s.2.2.1), (5, .int s.2.2.2.1), (6, .int s.2.2.2.2.1), (7, .int x1)]) [1, 2, 3, 4, 5, 6, 7, 0] rfl ?_
        exact j_Ground_read_49_14_ok X hD s.1 s.2.1 s.2.2.1 s.2.2.2.1 s.2.2.2.2.1 x1 (0 : Int32) s.2.2.2.2.2 _ h kc kx0 kx1 kx2
      · rw [if_pos c11] at h
        refine V_iconst (v := 1) X d_Ground_read_44 (by decide) rfl ?_
        refine V_goto (pc' := 49) X d_Ground_read_45 (by decide) ?_
        refine V_sub (lv' := [(0, .ref (G.2.2 + 3)), (1, .ref (G.2.2 + 1)), (2, .int s.1), (3, .int s.2.1), (4, .int s.2.2.1), (5, .int s.2.2.2.1), (6, .int s.2.2.2.2.1), (7, .int x1)]) [1, 2, 3, 4, 5, 6, 7, 0] rfl ?_
        exact j_Ground_read_49_14_ok X hD s.1 s.2.1 s.2.2.1 s.2.2.2.1 s.2.2.2.2.1 x1 (1 : Int32) s.2.2.2.2.2 _ h kc kx0 kx1 kx2
theorem lp_Ground_read_14_ok {E : Ev} {G : Gw} {d : Nat} {post : Int32 → Mem → Prop} (X : Cx E G b_Ground_read "WomenByTheRoofs$Ground" 9 d (some .int)) (hD : 3 ≤ d)     (n9 : Nat) (s : Int32 × Int32 × Int32 × Int32 × Int32 × Mem) (x : (Mem) ⊕ (Int32 × Mem) ⊕ (Int32 × Int32 × Mem)) (h : iter (lb_Ground_read_14) n9 s = some x) (kx0 : ∀ x9 : Mem, x = (Sum.inl x9) → V E (0, 0) G 9 (QI E G post) x9 146 [] []) (kx1 : ∀ x9 : Int32 × Mem, x = (Sum.inr (Sum.inl x9)) → V E (0, 0) G 9 (QI E G post) x9.2 82 [(6, .int x9.1)] []) (kx2 : ∀ x9 : Int32 × Int32 × Mem, x = (Sum.inr (Sum.inr x9)) → V E (0, 0) G 9 (QI E G post) x9.2.2 132 [(0, .ref (G.2.2 + 3)), (2, .int x9.1), (5, .int x9.2.1)] []) : V E (0, 0) G 9 (QI E G post) s.2.2.2.2.2 14 [(0, .ref (G.2.2 + 3)), (1, .ref (G.2.2 + 1)), (2, .int s.1), (3, .int s.2.1), (4, .int s.2.2.1), (5, .int s.2.2.2.1), (6, .int s.2.2.2.2.1)] [] :=
  iter_P (P := fun s : Int32 × Int32 × Int32 × Int32 × Int32 × Mem => V E (0, 0) G 9 (QI E G post) s.2.2.2.2.2 14 [(0, .ref (G.2.2 + 3)), (1, .ref (G.2.2 + 1)), (2, .int s.1), (3, .int s.2.1), (4, .int s.2.2.1), (5, .int s.2.2.2.1), (6, .int s.2.2.2.2.1)] []) (fun s o hb kc ky => lb_Ground_read_14_ok X hD  s o hb kc (fun x9 e9 => kx0 x9 (ky _ e9).symm) (fun x9 e9 => kx1 x9 (ky _ e9).symm) (fun x9 e9 => kx2 x9 (ky _ e9).symm)) n9 s h
def f_Ground_read (M : Mem) : Option (Int32 × Mem) :=
  Option.bind (iter (lb_Ground_read_14) FU ((0 : Int32), (0 : Int32), (0 : Int32), (6 : Int32), (0 : Int32), M)) (Sum.elim (fun y15 => some ((-81 : Int32), y15)) (Sum.elim (fun y16 => some (((-1 : Int32) - y16.1), y16.2)) (fun y17 => Option.bind (f_Ground_become y17.2.1 y17.1 y17.2.2) fun x18 =>
  some (x18.1, x18.2))))
theorem c_Ground_read (l : Launch) (G : Gw)   (M : Mem) (x : Int32 × Mem) (h : f_Ground_read M = some x) (d : Nat) (hD : 3 ≤ d) : Ci l G y_Ground_read b_Ground_read 9 (some .int) d [.ref (G.2.2 + 3), .ref (G.2.2 + 1)] M (fun r9 M9 => r9 = x.1 ∧ M9 = x.2) := by
  refine Ci_of (by decide) (Nat.le_of_ble_eq_true rfl) (fun E hE X => ?_)
  subst hE
  have kr : ∀ x9 : Int32 × Mem, x = x9 → (fun r9 M9 => r9 = x.1 ∧ M9 = x.2) x9.1 x9.2 := fun x9 e9 => by subst e9; exact ⟨rfl, rfl⟩
  unfold f_Ground_read at h
  refine V_iconst (v := 0) X d_Ground_read_0 (by decide) rfl ?_
  refine V_istore_n (lv' := [(2, .int (0 : Int32)), (0, .ref (G.2.2 + 3)), (1, .ref (G.2.2 + 1))]) X d_Ground_read_1 rfl (by decide) rfl rfl ?_
  refine V_iconst (v := 0) X d_Ground_read_2 (by decide) rfl ?_
  refine V_istore_n (lv' := [(3, .int (0 : Int32)), (2, .int (0 : Int32)), (0, .ref (G.2.2 + 3)), (1, .ref (G.2.2 + 1))]) X d_Ground_read_3 rfl (by decide) rfl rfl ?_
  refine V_iconst (v := 0) X d_Ground_read_4 (by decide) rfl ?_
  refine V_istore (lv' := [(4, .int (0 : Int32)), (3, .int (0 : Int32)), (2, .int (0 : Int32)), (0, .ref (G.2.2 + 3)), (1, .ref (G.2.2 + 1))]) X d_Ground_read_5 (by decide) rfl rfl ?_
  refine V_bipush (v := 6) X d_Ground_read_7 (by decide) rfl ?_
  refine V_istore (lv' := [(5, .int (6 : Int32)), (4, .int (0 : Int32)), (3, .int (0 : Int32)), (2, .int (0 : Int32)), (0, .ref (G.2.2 + 3)), (1, .ref (G.2.2 + 1))]) X d_Ground_read_9 (by decide) rfl rfl ?_
  refine V_iconst (v := 0) X d_Ground_read_11 (by decide) rfl ?_
  refine V_istore (lv' := [(6, .int (0 : Int32)), (5, .int (6 : Int32)), (4, .int (0 : Int32)), (3, .int (0 : Int32)), (2, .int (0 : Int32)), (0, .ref (G.2.2 + 3)), (1, .ref (G.2.2 + 1))]) X d_Ground_read_12 (by decide) rfl rfl ?_
  refine V_sub (lv' := [(0, .ref (G.2.2 + 3)), (1, .ref (G.2.2 + 1)), (2, .int (0 : Int32)), (3, .int (0 : Int32)), (4, .int (0 : Int32)), (5, .int (6 : Int32)), (6, .int (0 : Int32))]) [5, 6, 4, 3, 2, 1, 0] rfl ?_
  obtain ⟨x14, hx14, h⟩ := ob_s h
  rcases x14 with y15 | y16 | y17
  · simp only [Sum.elim_inl, Sum.elim_inr] at h
    refine (lp_Ground_read_14_ok X hD  _ _ _ hx14 (fun x9 e9 => ?_) (fun x9 e9 => by cases e9) (fun x9 e9 => by cases e9) :)
    cases e9
    refine V_bipush (v := -81) X d_Ground_read_146 (by decide) rfl ?_
    exact V_iret X (kr ((-81 : Int32), y15) (Option.some.inj h).symm) d_Ground_read_148
  · simp only [Sum.elim_inl, Sum.elim_inr] at h
    refine (lp_Ground_read_14_ok X hD  _ _ _ hx14 (fun x9 e9 => by cases e9) (fun x9 e9 => ?_) (fun x9 e9 => by cases e9) :)
    cases e9
    refine V_iconst (v := -1) X d_Ground_read_82 (by decide) rfl ?_
    refine V_iload (n := 0) X d_Ground_read_83 rfl rfl ?_
    refine V_isub X d_Ground_read_85 rfl ?_
    exact V_iret X (kr (((-1 : Int32) - y16.1), y16.2) (Option.some.inj h).symm) d_Ground_read_86
  · simp only [Sum.elim_inl, Sum.elim_inr] at h
    refine (lp_Ground_read_14_ok X hD  _ _ _ hx14 (fun x9 e9 => by cases e9) (fun x9 e9 => by cases e9) (fun x9 e9 => ?_) :)
    cases e9
    refine V_aload_n (n := 0) X d_Ground_read_132 rfl rfl rfl ?_
    refine V_iload (n := 2) X d_Ground_read_133 rfl rfl ?_
    refine V_iload_n (n := 1) X d_Ground_read_135 rfl rfl rfl ?_
    obtain ⟨x18, hx18, h⟩ := ob_s h
    refine V_ci (As := [.int y17.2.1, .int y17.1]) X (Z0 E) ml_Ground_45 yq_Ground_become (c_Ground_become E.2.1 G y17.2.1 y17.1 y17.2.2 x18 hx18 _ (Nat.le_refl _)) kd_3 rfl rfl (by omega) rfl (Nat.le_of_ble_eq_true rfl) d_Ground_read_136 rfl (fun r9 M9 hq => ?_)
    rw [hq.1, hq.2]
    exact V_iret X (kr (x18.1, x18.2) (Option.some.inj h).symm) d_Ground_read_139
def f_Ground_holds (v1 : Int32) (v2 : Int32) (M : Mem) : Option (Int32) :=
  if v1 < 0 then
  some (0 : Int32)
  else
  if (1 : Int32) < v1 then
  some (0 : Int32)
  else
  if v2 < 0 then
  some (0 : Int32)
  else
  if (M.1 3 3) ≤ v2 then
  some (0 : Int32)
  else
  if (36 : Int32) ≤ v2 then
  some (0 : Int32)
  else
  if inb v2 36 = true then
  if (((M.1 4 v2.toNatClampNeg) >>> (v1 &&& 31)) &&& (1 : Int32)) = 0 then
  some (0 : Int32)
  else
  some (1 : Int32)
  else none
theorem c_Ground_holds (l : Launch) (G : Gw)  (v1 : Int32) (v2 : Int32) (M : Mem) (x : Int32) (h : f_Ground_holds v1 v2 M = some x) (d : Nat) (hD : 1 ≤ d) : Ci l G y_Ground_holds b_Ground_holds 3 (some .boolean) d [.ref (G.2.2 + 3), .int v1, .int v2] M (fun r9 M9 => r9 = x ∧ M9 = M) := by
  refine Ci_of (by decide) (Nat.le_of_ble_eq_true rfl) (fun E hE X => ?_)
  subst hE
  have kr : ∀ x9 : Int32, x = x9 → (fun r9 M9 => r9 = x ∧ M9 = M) x9 M := fun x9 e9 => by subst e9; exact ⟨rfl, rfl⟩
  unfold f_Ground_holds at h
  refine V_iload_n (n := 1) X d_Ground_holds_0 rfl rfl rfl ?_
  refine V_if_lt (tgt := 44) X d_Ground_holds_1 (by decide) rfl (fun c6 => ?_) (fun c6 => ?_)
  · rw [if_pos c6] at h
    refine V_iconst (v := 0) X d_Ground_holds_44 (by decide) rfl ?_
    exact V_zret X (kr (0 : Int32) (Option.some.inj h).symm) (by decide) d_Ground_holds_45
  · rw [if_neg c6] at h
    refine V_iload_n (n := 1) X d_Ground_holds_4 rfl rfl rfl ?_
    refine V_iconst (v := 1) X d_Ground_holds_5 (by decide) rfl ?_
    refine V_icmp_gt (tgt := 44) X d_Ground_holds_6 (by decide) rfl (fun c5 => ?_) (fun c5 => ?_)
    · rw [if_pos c5] at h
      refine V_iconst (v := 0) X d_Ground_holds_44 (by decide) rfl ?_
      exact V_zret X (kr (0 : Int32) (Option.some.inj h).symm) (by decide) d_Ground_holds_45
    · rw [if_neg c5] at h
      refine V_iload_n (n := 2) X d_Ground_holds_9 rfl rfl rfl ?_
      refine V_if_lt (tgt := 44) X d_Ground_holds_10 (by decide) rfl (fun c4 => ?_) (fun c4 => ?_)
      · rw [if_pos c4] at h
        refine V_iconst (v := 0) X d_Ground_holds_44 (by decide) rfl ?_
        exact V_zret X (kr (0 : Int32) (Option.some.inj h).symm) (by decide) d_Ground_holds_45
      · rw [if_neg c4] at h
        refine V_iload_n (n := 2) X d_Ground_holds_13 rfl rfl rfl ?_
        refine V_aload_n (n := 0) X d_Ground_holds_14 rfl rfl rfl ?_
        refine V_geti X fo_Ground_22 kd_3 rfl d_Ground_holds_15 rfl ?_
        refine V_icmp_ge (tgt := 44) X d_Ground_holds_18 (by decide) rfl (fun c3 => ?_) (fun c3 => ?_)
        · rw [if_pos c3] at h
          refine V_iconst (v := 0) X d_Ground_holds_44 (by decide) rfl ?_
          exact V_zret X (kr (0 : Int32) (Option.some.inj h).symm) (by decide) d_Ground_holds_45
        · rw [if_neg c3] at h
          refine V_iload_n (n := 2) X d_Ground_holds_21 rfl rfl rfl ?_
          refine V_bipush (v := 36) X d_Ground_holds_22 (by decide) rfl ?_
          refine V_icmp_ge (tgt := 44) X d_Ground_holds_24 (by decide) rfl (fun c2 => ?_) (fun c2 => ?_)
          · rw [if_pos c2] at h
            refine V_iconst (v := 0) X d_Ground_holds_44 (by decide) rfl ?_
            exact V_zret X (kr (0 : Int32) (Option.some.inj h).symm) (by decide) d_Ground_holds_45
          · rw [if_neg c2] at h
            refine V_aload_n (n := 0) X d_Ground_holds_27 rfl rfl rfl ?_
            refine V_getr (k2 := 4) X fo_Ground_9 kd_3 rfl rf_3_0 d_Ground_holds_28 rfl ?_
            refine V_iload_n (n := 2) X d_Ground_holds_31 rfl rfl rfl ?_
            obtain ⟨hb, h⟩ := ifn h
            refine V_iald X kd_4 (inb_in ln_4 hb) d_Ground_holds_32 rfl ?_
            refine V_iload_n (n := 1) X d_Ground_holds_33 rfl rfl rfl ?_
            refine V_ishr X d_Ground_holds_34 rfl ?_
            refine V_iconst (v := 1) X d_Ground_holds_35 (by decide) rfl ?_
            refine V_iand X d_Ground_holds_36 rfl ?_
            refine V_if_eq (tgt := 44) X d_Ground_holds_37 (by decide) rfl (fun c1 => ?_) (fun c1 => ?_)
            · rw [if_pos c1] at h
              refine V_iconst (v := 0) X d_Ground_holds_44 (by decide) rfl ?_
              exact V_zret X (kr (0 : Int32) (Option.some.inj h).symm) (by decide) d_Ground_holds_45
            · rw [if_neg c1] at h
              refine V_iconst (v := 1) X d_Ground_holds_40 (by decide) rfl ?_
              refine V_goto (pc' := 45) X d_Ground_holds_41 (by decide) ?_
              exact V_zret X (kr (1 : Int32) (Option.some.inj h).symm) (by decide) d_Ground_holds_45
def f_Ground_beside (v1 : Int32) (v2 : Int32) (M : Mem) : Option (Int32) :=
  if v1 < 0 then
  some (-1 : Int32)
  else
  if (M.1 3 3) ≤ v1 then
  some (-1 : Int32)
  else
  if (1 : Int32) ≤ (M.1 3 2) then
  if (M.1 3 2) = 0 then none else
  if v2 = (0 : Int32) then
  if v1 < (M.1 3 2) then
  some (-1 : Int32)
  else
  some (v1 - (M.1 3 2))
  else if v2 = (1 : Int32) then
  if (M.1 3 2) ≤ ((v1 - v1 / (M.1 3 2) * (M.1 3 2)) + (1 : Int32)) then
  some (-1 : Int32)
  else
  some (v1 + (1 : Int32))
  else if v2 = (2 : Int32) then
  if (M.1 3 3) ≤ (v1 + (M.1 3 2)) then
  some (-1 : Int32)
  else
  some (v1 + (M.1 3 2))
  else if v2 = (3 : Int32) then
  if (v1 - v1 / (M.1 3 2) * (M.1 3 2)) ≤ 0 then
  some (-1 : Int32)
  else
  some (v1 - (1 : Int32))
  else some (-1 : Int32)
  else
  some (-1 : Int32)
theorem c_Ground_beside (l : Launch) (G : Gw)  (v1 : Int32) (v2 : Int32) (M : Mem) (x : Int32) (h : f_Ground_beside v1 v2 M = some x) (d : Nat) (hD : 1 ≤ d) : Ci l G y_Ground_beside b_Ground_beside 4 (some .int) d [.ref (G.2.2 + 3), .int v1, .int v2] M (fun r9 M9 => r9 = x ∧ M9 = M) := by
  refine Ci_of (by decide) (Nat.le_of_ble_eq_true rfl) (fun E hE X => ?_)
  subst hE
  have kr : ∀ x9 : Int32, x = x9 → (fun r9 M9 => r9 = x ∧ M9 = M) x9 M := fun x9 e9 => by subst e9; exact ⟨rfl, rfl⟩
  unfold f_Ground_beside at h
  refine V_iload_n (n := 1) X d_Ground_beside_0 rfl rfl rfl ?_
  refine V_if_lt (tgt := 20) X d_Ground_beside_1 (by decide) rfl (fun c11 => ?_) (fun c11 => ?_)
  · rw [if_pos c11] at h
    refine V_iconst (v := -1) X d_Ground_beside_20 (by decide) rfl ?_
    exact V_iret X (kr (-1 : Int32) (Option.some.inj h).symm) d_Ground_beside_21
  · rw [if_neg c11] at h
    refine V_iload_n (n := 1) X d_Ground_beside_4 rfl rfl rfl ?_
    refine V_aload_n (n := 0) X d_Ground_beside_5 rfl rfl rfl ?_
    refine V_geti X fo_Ground_22 kd_3 rfl d_Ground_beside_6 rfl ?_
    refine V_icmp_ge (tgt := 20) X d_Ground_beside_9 (by decide) rfl (fun c10 => ?_) (fun c10 => ?_)
    · rw [if_pos c10] at h
      refine V_iconst (v := -1) X d_Ground_beside_20 (by decide) rfl ?_
      exact V_iret X (kr (-1 : Int32) (Option.some.inj h).symm) d_Ground_beside_21
    · rw [if_neg c10] at h
      refine V_aload_n (n := 0) X d_Ground_beside_12 rfl rfl rfl ?_
      refine V_geti X fo_Ground_18 kd_3 rfl d_Ground_beside_13 rfl ?_
      refine V_iconst (v := 1) X d_Ground_beside_16 (by decide) rfl ?_
      refine V_icmp_ge (tgt := 22) X d_Ground_beside_17 (by decide) rfl (fun c9 => ?_) (fun c9 => ?_)
      · rw [if_pos c9] at h
        refine V_iload_n (n := 1) X d_Ground_beside_22 rfl rfl rfl ?_
        refine V_aload_n (n := 0) X d_Ground_beside_23 rfl rfl rfl ?_
        refine V_geti X fo_Ground_18 kd_3 rfl d_Ground_beside_24 rfl ?_
        obtain ⟨hq, h⟩ := ifz h
        refine V_irem X d_Ground_beside_27 hq rfl ?_
        refine V_istore_n (lv' := [(3, .int (v1 - v1 / (M.1 3 2) * (M.1 3 2))), (0, .ref (G.2.2 + 3)), (1, .int v1), (2, .int v2)]) X d_Ground_beside_28 rfl (by decide) rfl rfl ?_
        refine V_iload_n (n := 3) X d_Ground_beside_29 rfl rfl rfl ?_
        by_cases c2 : v2 = (0 : Int32)
        · rw [if_pos c2] at h
          refine V_tbl (v := 0) (pc' := 60) (off := 30) X d_Ground_beside_30 c2 (by decide) (by decide) (by decide +kernel) (by decide) ?_
          refine V_iload_n (n := 2) X d_Ground_beside_60 rfl rfl rfl ?_
          refine V_aload_n (n := 1) X d_Ground_beside_61 rfl rfl rfl ?_
          refine V_geti X fo_Ground_18 kd_3 rfl d_Ground_beside_62 rfl ?_
          refine V_icmp_lt (tgt := 77) X d_Ground_beside_65 (by decide) rfl (fun c1 => ?_) (fun c1 => ?_)
          · rw [if_pos c1] at h
            refine V_iconst (v := -1) X d_Ground_beside_77 (by decide) rfl ?_
            exact V_iret X (kr (-1 : Int32) (Option.some.inj h).symm) d_Ground_beside_78
          · rw [if_neg c1] at h
            refine V_iload_n (n := 2) X d_Ground_beside_68 rfl rfl rfl ?_
            refine V_aload_n (n := 1) X d_Ground_beside_69 rfl rfl rfl ?_
            refine V_geti X fo_Ground_18 kd_3 rfl d_Ground_beside_70 rfl ?_
            refine V_isub X d_Ground_beside_73 rfl ?_
            refine V_goto (pc' := 78) X d_Ground_beside_74 (by decide) ?_
            exact V_iret X (kr (v1 - (M.1 3 2)) (Option.some.inj h).symm) d_Ground_beside_78
        · rw [if_neg c2] at h
          by_cases c4 : v2 = (1 : Int32)
          · rw [if_pos c4] at h
            refine V_tbl (v := 1) (pc' := 79) (off := 49) X d_Ground_beside_30 c4 (by decide) (by decide) (by decide +kernel) (by decide) ?_
            refine V_iload_n (n := 0) X d_Ground_beside_79 rfl rfl rfl ?_
            refine V_iconst (v := 1) X d_Ground_beside_80 (by decide) rfl ?_
            refine V_iadd X d_Ground_beside_81 rfl ?_
            refine V_aload_n (n := 1) X d_Ground_beside_82 rfl rfl rfl ?_
            refine V_geti X fo_Ground_18 kd_3 rfl d_Ground_beside_83 rfl ?_
            refine V_icmp_ge (tgt := 95) X d_Ground_beside_86 (by decide) rfl (fun c3 => ?_) (fun c3 => ?_)
            · rw [if_pos c3] at h
              refine V_iconst (v := -1) X d_Ground_beside_95 (by decide) rfl ?_
              exact V_iret X (kr (-1 : Int32) (Option.some.inj h).symm) d_Ground_beside_96
            · rw [if_neg c3] at h
              refine V_iload_n (n := 2) X d_Ground_beside_89 rfl rfl rfl ?_
              refine V_iconst (v := 1) X d_Ground_beside_90 (by decide) rfl ?_
              refine V_iadd X d_Ground_beside_91 rfl ?_
              refine V_goto (pc' := 96) X d_Ground_beside_92 (by decide) ?_
              exact V_iret X (kr (v1 + (1 : Int32)) (Option.some.inj h).symm) d_Ground_beside_96
          · rw [if_neg c4] at h
            by_cases c6 : v2 = (2 : Int32)
            · rw [if_pos c6] at h
              refine V_tbl (v := 2) (pc' := 97) (off := 67) X d_Ground_beside_30 c6 (by decide) (by decide) (by decide +kernel) (by decide) ?_
              refine V_iload_n (n := 2) X d_Ground_beside_97 rfl rfl rfl ?_
              refine V_aload_n (n := 1) X d_Ground_beside_98 rfl rfl rfl ?_
              refine V_geti X fo_Ground_18 kd_3 rfl d_Ground_beside_99 rfl ?_
              refine V_iadd X d_Ground_beside_102 rfl ?_
              refine V_aload_n (n := 1) X d_Ground_beside_103 rfl rfl rfl ?_
              refine V_geti X fo_Ground_22 kd_3 rfl d_Ground_beside_104 rfl ?_
              refine V_icmp_ge (tgt := 119) X d_Ground_beside_107 (by decide) rfl (fun c5 => ?_) (fun c5 => ?_)
              · rw [if_pos c5] at h
                refine V_iconst (v := -1) X d_Ground_beside_119 (by decide) rfl ?_
                exact V_iret X (kr (-1 : Int32) (Option.some.inj h).symm) d_Ground_beside_120
              · rw [if_neg c5] at h
                refine V_iload_n (n := 2) X d_Ground_beside_110 rfl rfl rfl ?_
                refine V_aload_n (n := 1) X d_Ground_beside_111 rfl rfl rfl ?_
                refine V_geti X fo_Ground_18 kd_3 rfl d_Ground_beside_112 rfl ?_
                refine V_iadd X d_Ground_beside_115 rfl ?_
                refine V_goto (pc' := 120) X d_Ground_beside_116 (by decide) ?_
                exact V_iret X (kr (v1 + (M.1 3 2)) (Option.some.inj h).symm) d_Ground_beside_120
            · rw [if_neg c6] at h
              by_cases c8 : v2 = (3 : Int32)
              · rw [if_pos c8] at h
                refine V_tbl (v := 3) (pc' := 121) (off := 91) X d_Ground_beside_30 c8 (by decide) (by decide) (by decide +kernel) (by decide) ?_
                refine V_iload_n (n := 0) X d_Ground_beside_121 rfl rfl rfl ?_
                refine V_if_le (tgt := 131) X d_Ground_beside_122 (by decide) rfl (fun c7 => ?_) (fun c7 => ?_)
                · rw [if_pos c7] at h
                  refine V_iconst (v := -1) X d_Ground_beside_131 (by decide) rfl ?_
                  exact V_iret X (kr (-1 : Int32) (Option.some.inj h).symm) d_Ground_beside_132
                · rw [if_neg c7] at h
                  refine V_iload_n (n := 2) X d_Ground_beside_125 rfl rfl rfl ?_
                  refine V_iconst (v := 1) X d_Ground_beside_126 (by decide) rfl ?_
                  refine V_isub X d_Ground_beside_127 rfl ?_
                  refine V_goto (pc' := 132) X d_Ground_beside_128 (by decide) ?_
                  exact V_iret X (kr (v1 - (1 : Int32)) (Option.some.inj h).symm) d_Ground_beside_132
              · rw [if_neg c8] at h
                refine V_tableOut (pc' := 133) X d_Ground_beside_30 (by have g0 := neT c2 (z := 0) (by decide); have g1 := neT c4 (z := 1) (by decide); have g2 := neT c6 (z := 2) (by decide); have g3 := neT c8 (z := 3) (by decide); omega) (by decide) ?_
                refine V_iconst (v := -1) X d_Ground_beside_133 (by decide) rfl ?_
                exact V_iret X (kr (-1 : Int32) (Option.some.inj h).symm) d_Ground_beside_134
      · rw [if_neg c9] at h
        refine V_iconst (v := -1) X d_Ground_beside_20 (by decide) rfl ?_
        exact V_iret X (kr (-1 : Int32) (Option.some.inj h).symm) d_Ground_beside_21
def lb_Ground_across_2 (v1 : Int32) (v2 : Int32) (M : Mem) (s : Int32) : Option ((Int32) ⊕ ((Unit) ⊕ (Int32))) :=
  if (4 : Int32) ≤ s then
  some (.inr (Sum.inl ()))
  else
  if v2 = (-1 : Int32) then
  some (.inl (s + (1 : Int32)))
  else
  Option.bind (f_Ground_beside v1 s M) fun x1 =>
  Option.bind (f_Ground_beside x1 s M) fun x2 =>
  if x2 = v2 then
  some (.inr (Sum.inr s))
  else
  some (.inl (s + (1 : Int32)))
theorem lb_Ground_across_2_ok {E : Ev} {G : Gw} {d : Nat} {post : Int32 → Mem → Prop} (X : Cx E G b_Ground_across "WomenByTheRoofs$Ground" 4 d (some .int)) (hD : 2 ≤ d)  (v1 : Int32) (v2 : Int32)  (M : Mem) (s : Int32) (o : (Int32) ⊕ ((Unit) ⊕ (Int32))) (h : lb_Ground_across_2 v1 v2 M s = some o) (kc : ∀ s9 : Int32, o = .inl s9 → V E (0, 0) G 4 (QI E G post) M 2 [(0, .ref (G.2.2 + 3)), (1, .int v1), (2, .int v2), (3, .int s9)] []) (kx0 : ∀ x9 : Unit, o = .inr (Sum.inl x9) → V E (0, 0) G 4 (QI E G post) M 35 [] []) (kx1 : ∀ x9 : Int32, o = .inr (Sum.inr x9) → V E (0, 0) G 4 (QI E G post) M 27 [(3, .int x9)] []) : V E (0, 0) G 4 (QI E G post) M 2 [(0, .ref (G.2.2 + 3)), (1, .int v1), (2, .int v2), (3, .int s)] [] := by
  unfold lb_Ground_across_2 at h
  refine V_iload_n (n := 3) X d_Ground_across_2 rfl rfl rfl ?_
  refine V_iconst (v := 4) X d_Ground_across_3 (by decide) rfl ?_
  refine V_icmp_ge (tgt := 35) X d_Ground_across_4 (by decide) rfl (fun c5 => ?_) (fun c5 => ?_)
  · rw [if_pos c5] at h
    refine V_sub (lv' := []) [] rfl ?_
    exact kx0 () (Option.some.inj h).symm
  · rw [if_neg c5] at h
    refine V_iload_n (n := 2) X d_Ground_across_7 rfl rfl rfl ?_
    refine V_iconst (v := -1) X d_Ground_across_8 (by decide) rfl ?_
    refine V_icmp_eq (tgt := 29) X d_Ground_across_9 (by decide) rfl (fun c4 => ?_) (fun c4 => ?_)
    · rw [if_pos c4] at h
      refine V_iinc (n := 3) (v := (s + (1 : Int32))) (lv' := [(3, .int (s + (1 : Int32))), (0, .ref (G.2.2 + 3)), (1, .int v1), (2, .int v2)]) X d_Ground_across_29 rfl rfl (by decide) rfl rfl ?_
      refine V_goto (pc' := 2) X d_Ground_across_32 (by decide) ?_
      refine V_sub (lv' := [(0, .ref (G.2.2 + 3)), (1, .int v1), (2, .int v2), (3, .int (s + (1 : Int32)))]) [1, 2, 3, 0] rfl ?_
      exact kc (s + (1 : Int32)) (Option.some.inj h).symm
    · rw [if_neg c4] at h
      refine V_aload_n (n := 0) X d_Ground_across_12 rfl rfl rfl ?_
      refine V_aload_n (n := 0) X d_Ground_across_13 rfl rfl rfl ?_
      refine V_iload_n (n := 1) X d_Ground_across_14 rfl rfl rfl ?_
      refine V_iload_n (n := 3) X d_Ground_across_15 rfl rfl rfl ?_
      obtain ⟨x1, hx1, h⟩ := ob_s h
      refine V_ci (As := [.int v1, .int s]) X (Z0 E) ml_Ground_25 yq_Ground_beside (c_Ground_beside E.2.1 G v1 s M x1 hx1 _ (Nat.le_refl _)) kd_3 rfl rfl (by omega) rfl (Nat.le_of_ble_eq_true rfl) d_Ground_across_16 rfl (fun r9 M9 hq => ?_)
      rw [hq.1, hq.2]
      refine V_iload_n (n := 3) X d_Ground_across_19 rfl rfl rfl ?_
      obtain ⟨x2, hx2, h⟩ := ob_s h
      refine V_ci (As := [.int x1, .int s]) X (Z0 E) ml_Ground_25 yq_Ground_beside (c_Ground_beside E.2.1 G x1 s M x2 hx2 _ (Nat.le_refl _)) kd_3 rfl rfl (by omega) rfl (Nat.le_of_ble_eq_true rfl) d_Ground_across_20 rfl (fun r9 M9 hq => ?_)
      rw [hq.1, hq.2]
      refine V_iload_n (n := 2) X d_Ground_across_23 rfl rfl rfl ?_
      refine V_icmp_ne (tgt := 29) X d_Ground_across_24 (by decide) rfl (fun c3 => ?_) (fun c3 => ?_)
      · rw [if_neg c3] at h
        refine V_iinc (n := 3) (v := (s + (1 : Int32))) (lv' := [(3, .int (s + (1 : Int32))), (0, .ref (G.2.2 + 3)), (1, .int v1), (2, .int v2)]) X d_Ground_across_29 rfl rfl (by decide) rfl rfl ?_
        refine V_goto (pc' := 2) X d_Ground_across_32 (by decide) ?_
        refine V_sub (lv' := [(0, .ref (G.2.2 + 3)), (1, .int v1), (2, .int v2), (3, .int (s + (1 : Int32)))]) [1, 2, 3, 0] rfl ?_
        exact kc (s + (1 : Int32)) (Option.some.inj h).symm
      · rw [if_pos c3] at h
        refine V_sub (lv' := [(3, .int s)]) [3] rfl ?_
        exact kx1 s (Option.some.inj h).symm
theorem lp_Ground_across_2_ok {E : Ev} {G : Gw} {d : Nat} {post : Int32 → Mem → Prop} (X : Cx E G b_Ground_across "WomenByTheRoofs$Ground" 4 d (some .int)) (hD : 2 ≤ d)  (v1 : Int32) (v2 : Int32)  (M : Mem) (n9 : Nat) (s : Int32) (x : (Unit) ⊕ (Int32)) (h : iter (lb_Ground_across_2 v1 v2 M) n9 s = some x) (kx0 : ∀ x9 : Unit, x = (Sum.inl x9) → V E (0, 0) G 4 (QI E G post) M 35 [] []) (kx1 : ∀ x9 : Int32, x = (Sum.inr x9) → V E (0, 0) G 4 (QI E G post) M 27 [(3, .int x9)] []) : V E (0, 0) G 4 (QI E G post) M 2 [(0, .ref (G.2.2 + 3)), (1, .int v1), (2, .int v2), (3, .int s)] [] :=
  iter_P (P := fun s : Int32 => V E (0, 0) G 4 (QI E G post) M 2 [(0, .ref (G.2.2 + 3)), (1, .int v1), (2, .int v2), (3, .int s)] []) (fun s o hb kc ky => lb_Ground_across_2_ok X hD v1 v2 M s o hb kc (fun x9 e9 => kx0 x9 (ky _ e9).symm) (fun x9 e9 => kx1 x9 (ky _ e9).symm)) n9 s h
def f_Ground_across (v1 : Int32) (v2 : Int32) (M : Mem) : Option (Int32) :=
  Option.bind (iter (lb_Ground_across_2 v1 v2 M) FU (0 : Int32)) (Sum.elim (fun y7 => some (-1 : Int32)) (fun y8 => some y8))
theorem c_Ground_across (l : Launch) (G : Gw)  (v1 : Int32) (v2 : Int32) (M : Mem) (x : Int32) (h : f_Ground_across v1 v2 M = some x) (d : Nat) (hD : 2 ≤ d) : Ci l G y_Ground_across b_Ground_across 4 (some .int) d [.ref (G.2.2 + 3), .int v1, .int v2] M (fun r9 M9 => r9 = x ∧ M9 = M) := by
  refine Ci_of (by decide) (Nat.le_of_ble_eq_true rfl) (fun E hE X => ?_)
  subst hE
  have kr : ∀ x9 : Int32, x = x9 → (fun r9 M9 => r9 = x ∧ M9 = M) x9 M := fun x9 e9 => by subst e9; exact ⟨rfl, rfl⟩
  unfold f_Ground_across at h
  refine V_iconst (v := 0) X d_Ground_across_0 (by decide) rfl ?_
  refine V_istore_n (lv' := [(3, .int (0 : Int32)), (0, .ref (G.2.2 + 3)), (1, .int v1), (2, .int v2)]) X d_Ground_across_1 rfl (by decide) rfl rfl ?_
  refine V_sub (lv' := [(0, .ref (G.2.2 + 3)), (1, .int v1), (2, .int v2), (3, .int (0 : Int32))]) [1, 2, 3, 0] rfl ?_
  obtain ⟨x6, hx6, h⟩ := ob_s h
  rcases x6 with y7 | y8
  · simp only [Sum.elim_inl, Sum.elim_inr] at h
    refine (lp_Ground_across_2_ok X hD v1 v2 M _ _ _ hx6 (fun x9 e9 => ?_) (fun x9 e9 => by cases e9) :)
    cases e9
    refine V_iconst (v := -1) X d_Ground_across_35 (by decide) rfl ?_
    exact V_iret X (kr (-1 : Int32) (Option.some.inj h).symm) d_Ground_across_36
  · simp only [Sum.elim_inl, Sum.elim_inr] at h
    refine (lp_Ground_across_2_ok X hD v1 v2 M _ _ _ hx6 (fun x9 e9 => by cases e9) (fun x9 e9 => ?_) :)
    cases e9
    refine V_iload_n (n := 0) X d_Ground_across_27 rfl rfl rfl ?_
    exact V_iret X (kr y8 (Option.some.inj h).symm) d_Ground_across_28
def f_Ground_has (v1 : Int32) (M : Mem) : Option (Int32) :=
  if v1 < 0 then
  some (0 : Int32)
  else
  if (M.1 3 3) ≤ v1 then
  some (0 : Int32)
  else
  if (36 : Int32) ≤ v1 then
  some (0 : Int32)
  else
  some (1 : Int32)
theorem c_Ground_has (l : Launch) (G : Gw)  (v1 : Int32) (M : Mem) (x : Int32) (h : f_Ground_has v1 M = some x) (d : Nat) (hD : 1 ≤ d) : Ci l G y_Ground_has b_Ground_has 2 (some .boolean) d [.ref (G.2.2 + 3), .int v1] M (fun r9 M9 => r9 = x ∧ M9 = M) := by
  refine Ci_of (by decide) (Nat.le_of_ble_eq_true rfl) (fun E hE X => ?_)
  subst hE
  have kr : ∀ x9 : Int32, x = x9 → (fun r9 M9 => r9 = x ∧ M9 = M) x9 M := fun x9 e9 => by subst e9; exact ⟨rfl, rfl⟩
  unfold f_Ground_has at h
  refine V_iload_n (n := 1) X d_Ground_has_0 rfl rfl rfl ?_
  refine V_if_lt (tgt := 22) X d_Ground_has_1 (by decide) rfl (fun c3 => ?_) (fun c3 => ?_)
  · rw [if_pos c3] at h
    refine V_iconst (v := 0) X d_Ground_has_22 (by decide) rfl ?_
    exact V_zret X (kr (0 : Int32) (Option.some.inj h).symm) (by decide) d_Ground_has_23
  · rw [if_neg c3] at h
    refine V_iload_n (n := 1) X d_Ground_has_4 rfl rfl rfl ?_
    refine V_aload_n (n := 0) X d_Ground_has_5 rfl rfl rfl ?_
    refine V_geti X fo_Ground_22 kd_3 rfl d_Ground_has_6 rfl ?_
    refine V_icmp_ge (tgt := 22) X d_Ground_has_9 (by decide) rfl (fun c2 => ?_) (fun c2 => ?_)
    · rw [if_pos c2] at h
      refine V_iconst (v := 0) X d_Ground_has_22 (by decide) rfl ?_
      exact V_zret X (kr (0 : Int32) (Option.some.inj h).symm) (by decide) d_Ground_has_23
    · rw [if_neg c2] at h
      refine V_iload_n (n := 1) X d_Ground_has_12 rfl rfl rfl ?_
      refine V_bipush (v := 36) X d_Ground_has_13 (by decide) rfl ?_
      refine V_icmp_ge (tgt := 22) X d_Ground_has_15 (by decide) rfl (fun c1 => ?_) (fun c1 => ?_)
      · rw [if_pos c1] at h
        refine V_iconst (v := 0) X d_Ground_has_22 (by decide) rfl ?_
        exact V_zret X (kr (0 : Int32) (Option.some.inj h).symm) (by decide) d_Ground_has_23
      · rw [if_neg c1] at h
        refine V_iconst (v := 1) X d_Ground_has_18 (by decide) rfl ?_
        refine V_goto (pc' := 23) X d_Ground_has_19 (by decide) ?_
        exact V_zret X (kr (1 : Int32) (Option.some.inj h).symm) (by decide) d_Ground_has_23
def f_Ground_column (v1 : Int32) (M : Mem) : Option (Int32) :=
  if (1 : Int32) ≤ (M.1 3 2) then
  if (M.1 3 2) = 0 then none else
  some (v1 - v1 / (M.1 3 2) * (M.1 3 2))
  else
  some (0 : Int32)
theorem c_Ground_column (l : Launch) (G : Gw)  (v1 : Int32) (M : Mem) (x : Int32) (h : f_Ground_column v1 M = some x) (d : Nat) (hD : 1 ≤ d) : Ci l G y_Ground_column b_Ground_column 2 (some .int) d [.ref (G.2.2 + 3), .int v1] M (fun r9 M9 => r9 = x ∧ M9 = M) := by
  refine Ci_of (by decide) (Nat.le_of_ble_eq_true rfl) (fun E hE X => ?_)
  subst hE
  have kr : ∀ x9 : Int32, x = x9 → (fun r9 M9 => r9 = x ∧ M9 = M) x9 M := fun x9 e9 => by subst e9; exact ⟨rfl, rfl⟩
  unfold f_Ground_column at h
  refine V_aload_n (n := 0) X d_Ground_column_0 rfl rfl rfl ?_
  refine V_geti X fo_Ground_18 kd_3 rfl d_Ground_column_1 rfl ?_
  refine V_iconst (v := 1) X d_Ground_column_4 (by decide) rfl ?_
  refine V_icmp_ge (tgt := 12) X d_Ground_column_5 (by decide) rfl (fun c1 => ?_) (fun c1 => ?_)
  · rw [if_pos c1] at h
    refine V_iload_n (n := 1) X d_Ground_column_12 rfl rfl rfl ?_
    refine V_aload_n (n := 0) X d_Ground_column_13 rfl rfl rfl ?_
    refine V_geti X fo_Ground_18 kd_3 rfl d_Ground_column_14 rfl ?_
    obtain ⟨hq, h⟩ := ifz h
    refine V_irem X d_Ground_column_17 hq rfl ?_
    exact V_iret X (kr (v1 - v1 / (M.1 3 2) * (M.1 3 2)) (Option.some.inj h).symm) d_Ground_column_18
  · rw [if_neg c1] at h
    refine V_iconst (v := 0) X d_Ground_column_8 (by decide) rfl ?_
    refine V_goto (pc' := 18) X d_Ground_column_9 (by decide) ?_
    exact V_iret X (kr (0 : Int32) (Option.some.inj h).symm) d_Ground_column_18
def f_Ground_line (v1 : Int32) (M : Mem) : Option (Int32) :=
  if (1 : Int32) ≤ (M.1 3 2) then
  if (M.1 3 2) = 0 then none else
  some (v1 / (M.1 3 2))
  else
  some (0 : Int32)
theorem c_Ground_line (l : Launch) (G : Gw)  (v1 : Int32) (M : Mem) (x : Int32) (h : f_Ground_line v1 M = some x) (d : Nat) (hD : 1 ≤ d) : Ci l G y_Ground_line b_Ground_line 2 (some .int) d [.ref (G.2.2 + 3), .int v1] M (fun r9 M9 => r9 = x ∧ M9 = M) := by
  refine Ci_of (by decide) (Nat.le_of_ble_eq_true rfl) (fun E hE X => ?_)
  subst hE
  have kr : ∀ x9 : Int32, x = x9 → (fun r9 M9 => r9 = x ∧ M9 = M) x9 M := fun x9 e9 => by subst e9; exact ⟨rfl, rfl⟩
  unfold f_Ground_line at h
  refine V_aload_n (n := 0) X d_Ground_line_0 rfl rfl rfl ?_
  refine V_geti X fo_Ground_18 kd_3 rfl d_Ground_line_1 rfl ?_
  refine V_iconst (v := 1) X d_Ground_line_4 (by decide) rfl ?_
  refine V_icmp_ge (tgt := 12) X d_Ground_line_5 (by decide) rfl (fun c1 => ?_) (fun c1 => ?_)
  · rw [if_pos c1] at h
    refine V_iload_n (n := 1) X d_Ground_line_12 rfl rfl rfl ?_
    refine V_aload_n (n := 0) X d_Ground_line_13 rfl rfl rfl ?_
    refine V_geti X fo_Ground_18 kd_3 rfl d_Ground_line_14 rfl ?_
    obtain ⟨hq, h⟩ := ifz h
    refine V_idiv X d_Ground_line_17 hq rfl ?_
    exact V_iret X (kr (v1 / (M.1 3 2)) (Option.some.inj h).symm) d_Ground_line_18
  · rw [if_neg c1] at h
    refine V_iconst (v := 0) X d_Ground_line_8 (by decide) rfl ?_
    refine V_goto (pc' := 18) X d_Ground_line_9 (by decide) ?_
    exact V_iret X (kr (0 : Int32) (Option.some.inj h).symm) d_Ground_line_18
def f_Ground_isStair (v1 : Int32) (M : Mem) : Option (Int32) :=
  if v1 < 0 then
  some (0 : Int32)
  else
  if (M.1 3 3) ≤ v1 then
  some (0 : Int32)
  else
  if (36 : Int32) ≤ v1 then
  some (0 : Int32)
  else
  if inb v1 36 = true then
  if (M.1 4 v1.toNatClampNeg) = (3 : Int32) then
  some (1 : Int32)
  else
  some (0 : Int32)
  else none
theorem c_Ground_isStair (l : Launch) (G : Gw)  (v1 : Int32) (M : Mem) (x : Int32) (h : f_Ground_isStair v1 M = some x) (d : Nat) (hD : 1 ≤ d) : Ci l G y_Ground_isStair b_Ground_isStair 2 (some .boolean) d [.ref (G.2.2 + 3), .int v1] M (fun r9 M9 => r9 = x ∧ M9 = M) := by
  refine Ci_of (by decide) (Nat.le_of_ble_eq_true rfl) (fun E hE X => ?_)
  subst hE
  have kr : ∀ x9 : Int32, x = x9 → (fun r9 M9 => r9 = x ∧ M9 = M) x9 M := fun x9 e9 => by subst e9; exact ⟨rfl, rfl⟩
  unfold f_Ground_isStair at h
  refine V_iload_n (n := 1) X d_Ground_isStair_0 rfl rfl rfl ?_
  refine V_if_lt (tgt := 32) X d_Ground_isStair_1 (by decide) rfl (fun c4 => ?_) (fun c4 => ?_)
  · rw [if_pos c4] at h
    refine V_iconst (v := 0) X d_Ground_isStair_32 (by decide) rfl ?_
    exact V_zret X (kr (0 : Int32) (Option.some.inj h).symm) (by decide) d_Ground_isStair_33
  · rw [if_neg c4] at h
    refine V_iload_n (n := 1) X d_Ground_isStair_4 rfl rfl rfl ?_
    refine V_aload_n (n := 0) X d_Ground_isStair_5 rfl rfl rfl ?_
    refine V_geti X fo_Ground_22 kd_3 rfl d_Ground_isStair_6 rfl ?_
    refine V_icmp_ge (tgt := 32) X d_Ground_isStair_9 (by decide) rfl (fun c3 => ?_) (fun c3 => ?_)
    · rw [if_pos c3] at h
      refine V_iconst (v := 0) X d_Ground_isStair_32 (by decide) rfl ?_
      exact V_zret X (kr (0 : Int32) (Option.some.inj h).symm) (by decide) d_Ground_isStair_33
    · rw [if_neg c3] at h
      refine V_iload_n (n := 1) X d_Ground_isStair_12 rfl rfl rfl ?_
      refine V_bipush (v := 36) X d_Ground_isStair_13 (by decide) rfl ?_
      refine V_icmp_ge (tgt := 32) X d_Ground_isStair_15 (by decide) rfl (fun c2 => ?_) (fun c2 => ?_)
      · rw [if_pos c2] at h
        refine V_iconst (v := 0) X d_Ground_isStair_32 (by decide) rfl ?_
        exact V_zret X (kr (0 : Int32) (Option.some.inj h).symm) (by decide) d_Ground_isStair_33
      · rw [if_neg c2] at h
        refine V_aload_n (n := 0) X d_Ground_isStair_18 rfl rfl rfl ?_
        refine V_getr (k2 := 4) X fo_Ground_9 kd_3 rfl rf_3_0 d_Ground_isStair_19 rfl ?_
        refine V_iload_n (n := 1) X d_Ground_isStair_22 rfl rfl rfl ?_
        obtain ⟨hb, h⟩ := ifn h
        refine V_iald X kd_4 (inb_in ln_4 hb) d_Ground_isStair_23 rfl ?_
        refine V_iconst (v := 3) X d_Ground_isStair_24 (by decide) rfl ?_
        refine V_icmp_ne (tgt := 32) X d_Ground_isStair_25 (by decide) rfl (fun c1 => ?_) (fun c1 => ?_)
        · rw [if_neg c1] at h
          refine V_iconst (v := 0) X d_Ground_isStair_32 (by decide) rfl ?_
          exact V_zret X (kr (0 : Int32) (Option.some.inj h).symm) (by decide) d_Ground_isStair_33
        · rw [if_pos c1] at h
          refine V_iconst (v := 1) X d_Ground_isStair_28 (by decide) rfl ?_
          refine V_goto (pc' := 33) X d_Ground_isStair_29 (by decide) ?_
          exact V_zret X (kr (1 : Int32) (Option.some.inj h).symm) (by decide) d_Ground_isStair_33
def f_Ground_between (v1 : Int32) (v2 : Int32) (M : Mem) : Option (Int32) :=
  Option.bind (f_Ground_across v1 v2 M) fun x1 =>
  Option.bind (f_Ground_beside v1 x1 M) fun x2 =>
  some x2
theorem c_Ground_between (l : Launch) (G : Gw)  (v1 : Int32) (v2 : Int32) (M : Mem) (x : Int32) (h : f_Ground_between v1 v2 M = some x) (d : Nat) (hD : 3 ≤ d) : Ci l G y_Ground_between b_Ground_between 3 (some .int) d [.ref (G.2.2 + 3), .int v1, .int v2] M (fun r9 M9 => r9 = x ∧ M9 = M) := by
  refine Ci_of (by decide) (Nat.le_of_ble_eq_true rfl) (fun E hE X => ?_)
  subst hE
  have kr : ∀ x9 : Int32, x = x9 → (fun r9 M9 => r9 = x ∧ M9 = M) x9 M := fun x9 e9 => by subst e9; exact ⟨rfl, rfl⟩
  unfold f_Ground_between at h
  refine V_aload_n (n := 0) X d_Ground_between_0 rfl rfl rfl ?_
  refine V_iload_n (n := 1) X d_Ground_between_1 rfl rfl rfl ?_
  refine V_aload_n (n := 0) X d_Ground_between_2 rfl rfl rfl ?_
  refine V_iload_n (n := 1) X d_Ground_between_3 rfl rfl rfl ?_
  refine V_iload_n (n := 2) X d_Ground_between_4 rfl rfl rfl ?_
  obtain ⟨x1, hx1, h⟩ := ob_s h
  refine V_ci (As := [.int v1, .int v2]) X (Z0 E) ml_Ground_29 yq_Ground_across (c_Ground_across E.2.1 G v1 v2 M x1 hx1 _ (Nat.le_refl _)) kd_3 rfl rfl (by omega) rfl (Nat.le_of_ble_eq_true rfl) d_Ground_between_5 rfl (fun r9 M9 hq => ?_)
  rw [hq.1, hq.2]
  obtain ⟨x2, hx2, h⟩ := ob_s h
  refine V_ci (As := [.int v1, .int x1]) X (Z0 E) ml_Ground_25 yq_Ground_beside (c_Ground_beside E.2.1 G v1 x1 M x2 hx2 _ (Nat.le_refl _)) kd_3 rfl rfl (by omega) rfl (Nat.le_of_ble_eq_true rfl) d_Ground_between_8 rfl (fun r9 M9 hq => ?_)
  rw [hq.1, hq.2]
  exact V_iret X (kr x2 (Option.some.inj h).symm) d_Ground_between_11
