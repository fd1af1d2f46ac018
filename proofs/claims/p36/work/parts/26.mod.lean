theorem d_Mod_tryst_0 : decode b_Mod_tryst 0 = .ok (.aload_n 0, 1) := kq_42 byq_r (by decide +kernel)
theorem d_Mod_tryst_1 : decode b_Mod_tryst 1 = .ok (.iconst 0, 1) := kq_3 byq_r (by decide +kernel)
theorem d_Mod_tryst_2 : decode b_Mod_tryst 2 = .ok (.putfield 109, 3) := kq_181 byq_r (a := 0) (b := 109) (by decide +kernel)
theorem d_Mod_tryst_5 : decode b_Mod_tryst 5 = .ok (.aload_n 0, 1) := kq_42 byq_r (by decide +kernel)
theorem d_Mod_tryst_6 : decode b_Mod_tryst 6 = .ok (.iload_n 1, 1) := kq_27 byq_r (by decide +kernel)
theorem d_Mod_tryst_7 : decode b_Mod_tryst 7 = .ok (.iload_n 2, 1) := kq_28 byq_r (by decide +kernel)
theorem d_Mod_tryst_8 : decode b_Mod_tryst 8 = .ok (.invokevirtual 387, 3) := kq_182 byq_r (a := 1) (b := 131) (by decide +kernel)
theorem d_Mod_tryst_11 : decode b_Mod_tryst 11 = .ok (.ifCond .ne 5, 3) := kq_154 byq_r (a := 0) (b := 5) (by decide +kernel)
theorem d_Mod_tryst_14 : decode b_Mod_tryst 14 = .ok (.iconst (-1), 1) := kq_2 byq_r (by decide +kernel)
theorem d_Mod_tryst_15 : decode b_Mod_tryst 15 = .ok (.ireturn, 1) := kq_172 byq_r (by decide +kernel)
theorem d_Mod_tryst_16 : decode b_Mod_tryst 16 = .ok (.aload_n 0, 1) := kq_42 byq_r (by decide +kernel)
theorem d_Mod_tryst_17 : decode b_Mod_tryst 17 = .ok (.iload_n 1, 1) := kq_27 byq_r (by decide +kernel)
theorem d_Mod_tryst_18 : decode b_Mod_tryst 18 = .ok (.iload_n 2, 1) := kq_28 byq_r (by decide +kernel)
theorem d_Mod_tryst_19 : decode b_Mod_tryst 19 = .ok (.invokevirtual 390, 3) := kq_182 byq_r (a := 1) (b := 134) (by decide +kernel)
theorem d_Mod_tryst_22 : decode b_Mod_tryst 22 = .ok (.istore_n 3, 1) := kq_62 byq_r (by decide +kernel)
theorem d_Mod_tryst_23 : decode b_Mod_tryst 23 = .ok (.iload_n 3, 1) := kq_29 byq_r (by decide +kernel)
theorem d_Mod_tryst_24 : decode b_Mod_tryst 24 = .ok (.ldc_w 357, 3) := kq_19 byq_r (a := 1) (b := 101) (by decide +kernel)
theorem d_Mod_tryst_27 : decode b_Mod_tryst 27 = .ok (.if_icmp .ne 6, 3) := kq_160 byq_r (a := 0) (b := 6) (by decide +kernel)
theorem d_Mod_tryst_30 : decode b_Mod_tryst 30 = .ok (.bipush (-2), 2) := kq_16 byq_r (b := 254) (by decide +kernel)
theorem d_Mod_tryst_32 : decode b_Mod_tryst 32 = .ok (.ireturn, 1) := kq_172 byq_r (by decide +kernel)
theorem d_Mod_tryst_33 : decode b_Mod_tryst 33 = .ok (.aload_n 0, 1) := kq_42 byq_r (by decide +kernel)
theorem d_Mod_tryst_34 : decode b_Mod_tryst 34 = .ok (.iconst 0, 1) := kq_3 byq_r (by decide +kernel)
theorem d_Mod_tryst_35 : decode b_Mod_tryst 35 = .ok (.putfield 112, 3) := kq_181 byq_r (a := 0) (b := 112) (by decide +kernel)
theorem d_Mod_tryst_38 : decode b_Mod_tryst 38 = .ok (.aload_n 0, 1) := kq_42 byq_r (by decide +kernel)
theorem d_Mod_tryst_39 : decode b_Mod_tryst 39 = .ok (.iload_n 3, 1) := kq_29 byq_r (by decide +kernel)
theorem d_Mod_tryst_40 : decode b_Mod_tryst 40 = .ok (.invokevirtual 342, 3) := kq_182 byq_r (a := 1) (b := 86) (by decide +kernel)
theorem d_Mod_tryst_43 : decode b_Mod_tryst 43 = .ok (.aload_n 0, 1) := kq_42 byq_r (by decide +kernel)
theorem d_Mod_tryst_44 : decode b_Mod_tryst 44 = .ok (.getfield 384, 3) := kq_180 byq_r (a := 1) (b := 128) (by decide +kernel)
theorem d_Mod_tryst_47 : decode b_Mod_tryst 47 = .ok (.ireturn, 1) := kq_172 byq_r (by decide +kernel)
theorem d_Mod_open_0 : decode b_Mod_open 0 = .ok (.aload_n 0, 1) := kq_42 byq_r (by decide +kernel)
theorem d_Mod_open_1 : decode b_Mod_open 1 = .ok (.iconst 0, 1) := kq_3 byq_r (by decide +kernel)
theorem d_Mod_open_2 : decode b_Mod_open 2 = .ok (.putfield 109, 3) := kq_181 byq_r (a := 0) (b := 109) (by decide +kernel)
theorem d_Mod_open_5 : decode b_Mod_open 5 = .ok (.aload_n 0, 1) := kq_42 byq_r (by decide +kernel)
theorem d_Mod_open_6 : decode b_Mod_open 6 = .ok (.iload_n 1, 1) := kq_27 byq_r (by decide +kernel)
theorem d_Mod_open_7 : decode b_Mod_open 7 = .ok (.iload_n 2, 1) := kq_28 byq_r (by decide +kernel)
theorem d_Mod_open_8 : decode b_Mod_open 8 = .ok (.invokevirtual 387, 3) := kq_182 byq_r (a := 1) (b := 131) (by decide +kernel)
theorem d_Mod_open_11 : decode b_Mod_open 11 = .ok (.ifCond .ne 5, 3) := kq_154 byq_r (a := 0) (b := 5) (by decide +kernel)
theorem d_Mod_open_14 : decode b_Mod_open 14 = .ok (.iconst (-1), 1) := kq_2 byq_r (by decide +kernel)
theorem d_Mod_open_15 : decode b_Mod_open 15 = .ok (.ireturn, 1) := kq_172 byq_r (by decide +kernel)
theorem d_Mod_open_16 : decode b_Mod_open 16 = .ok (.bipush (-2), 2) := kq_16 byq_r (b := 254) (by decide +kernel)
theorem d_Mod_open_18 : decode b_Mod_open 18 = .ok (.istore_n 3, 1) := kq_62 byq_r (by decide +kernel)
theorem d_Mod_open_19 : decode b_Mod_open 19 = .ok (.ldc_w 357, 3) := kq_19 byq_r (a := 1) (b := 101) (by decide +kernel)
theorem d_Mod_open_22 : decode b_Mod_open 22 = .ok (.istore 4, 2) := kq_54 byq_r (by decide +kernel)
theorem d_Mod_open_24 : decode b_Mod_open 24 = .ok (.iconst 0, 1) := kq_3 byq_r (by decide +kernel)
theorem d_Mod_open_25 : decode b_Mod_open 25 = .ok (.istore 5, 2) := kq_54 byq_r (by decide +kernel)
theorem d_Mod_open_27 : decode b_Mod_open 27 = .ok (.iload 5, 2) := kq_21 byq_r (by decide +kernel)
theorem d_Mod_open_29 : decode b_Mod_open 29 = .ok (.aload_n 0, 1) := kq_42 byq_r (by decide +kernel)
theorem d_Mod_open_30 : decode b_Mod_open 30 = .ok (.invokevirtual 115, 3) := kq_182 byq_r (a := 0) (b := 115) (by decide +kernel)
theorem d_Mod_open_33 : decode b_Mod_open 33 = .ok (.if_icmp .ge 84, 3) := kq_162 byq_r (a := 0) (b := 84) (by decide +kernel)
theorem d_Mod_open_36 : decode b_Mod_open 36 = .ok (.aload_n 0, 1) := kq_42 byq_r (by decide +kernel)
theorem d_Mod_open_37 : decode b_Mod_open 37 = .ok (.getfield 13, 3) := kq_180 byq_r (a := 0) (b := 13) (by decide +kernel)
theorem d_Mod_open_40 : decode b_Mod_open 40 = .ok (.iload 5, 2) := kq_21 byq_r (by decide +kernel)
theorem d_Mod_open_42 : decode b_Mod_open 42 = .ok (.iaload, 1) := kq_46 byq_r (by decide +kernel)
theorem d_Mod_open_43 : decode b_Mod_open 43 = .ok (.istore 6, 2) := kq_54 byq_r (by decide +kernel)
theorem d_Mod_open_45 : decode b_Mod_open 45 = .ok (.iload 6, 2) := kq_21 byq_r (by decide +kernel)
theorem d_Mod_open_47 : decode b_Mod_open 47 = .ok (.iconst 1, 1) := kq_4 byq_r (by decide +kernel)
theorem d_Mod_open_48 : decode b_Mod_open 48 = .ok (.if_icmp .eq 9, 3) := kq_159 byq_r (a := 0) (b := 9) (by decide +kernel)
theorem d_Mod_open_51 : decode b_Mod_open 51 = .ok (.iload 6, 2) := kq_21 byq_r (by decide +kernel)
theorem d_Mod_open_53 : decode b_Mod_open 53 = .ok (.iconst 2, 1) := kq_5 byq_r (by decide +kernel)
theorem d_Mod_open_54 : decode b_Mod_open 54 = .ok (.if_icmp .ne 57, 3) := kq_160 byq_r (a := 0) (b := 57) (by decide +kernel)
theorem d_Mod_open_57 : decode b_Mod_open 57 = .ok (.aload_n 0, 1) := kq_42 byq_r (by decide +kernel)
theorem d_Mod_open_58 : decode b_Mod_open 58 = .ok (.iload 5, 2) := kq_21 byq_r (by decide +kernel)
theorem d_Mod_open_60 : decode b_Mod_open 60 = .ok (.invokevirtual 272, 3) := kq_182 byq_r (a := 1) (b := 16) (by decide +kernel)
theorem d_Mod_open_63 : decode b_Mod_open 63 = .ok (.ifCond .eq 6, 3) := kq_153 byq_r (a := 0) (b := 6) (by decide +kernel)
theorem d_Mod_open_66 : decode b_Mod_open 66 = .ok (.goto 45, 3) := kq_167 byq_r (a := 0) (b := 45) (by decide +kernel)
theorem d_Mod_open_69 : decode b_Mod_open 69 = .ok (.aload_n 0, 1) := kq_42 byq_r (by decide +kernel)
theorem d_Mod_open_70 : decode b_Mod_open 70 = .ok (.getfield 13, 3) := kq_180 byq_r (a := 0) (b := 13) (by decide +kernel)
theorem d_Mod_open_73 : decode b_Mod_open 73 = .ok (.iload 5, 2) := kq_21 byq_r (by decide +kernel)
theorem d_Mod_open_75 : decode b_Mod_open 75 = .ok (.iconst 3, 1) := kq_6 byq_r (by decide +kernel)
theorem d_Mod_open_76 : decode b_Mod_open 76 = .ok (.iastore, 1) := kq_79 byq_r (by decide +kernel)
theorem d_Mod_open_77 : decode b_Mod_open 77 = .ok (.aload_n 0, 1) := kq_42 byq_r (by decide +kernel)
theorem d_Mod_open_78 : decode b_Mod_open 78 = .ok (.iload_n 1, 1) := kq_27 byq_r (by decide +kernel)
theorem d_Mod_open_79 : decode b_Mod_open 79 = .ok (.iload_n 2, 1) := kq_28 byq_r (by decide +kernel)
theorem d_Mod_open_80 : decode b_Mod_open 80 = .ok (.invokevirtual 390, 3) := kq_182 byq_r (a := 1) (b := 134) (by decide +kernel)
theorem d_Mod_open_83 : decode b_Mod_open 83 = .ok (.istore 7, 2) := kq_54 byq_r (by decide +kernel)
theorem d_Mod_open_85 : decode b_Mod_open 85 = .ok (.aload_n 0, 1) := kq_42 byq_r (by decide +kernel)
theorem d_Mod_open_86 : decode b_Mod_open 86 = .ok (.getfield 13, 3) := kq_180 byq_r (a := 0) (b := 13) (by decide +kernel)
theorem d_Mod_open_89 : decode b_Mod_open 89 = .ok (.iload 5, 2) := kq_21 byq_r (by decide +kernel)
theorem d_Mod_open_91 : decode b_Mod_open 91 = .ok (.iload 6, 2) := kq_21 byq_r (by decide +kernel)
theorem d_Mod_open_93 : decode b_Mod_open 93 = .ok (.iastore, 1) := kq_79 byq_r (by decide +kernel)
theorem d_Mod_open_94 : decode b_Mod_open 94 = .ok (.iload 7, 2) := kq_21 byq_r (by decide +kernel)
theorem d_Mod_open_96 : decode b_Mod_open 96 = .ok (.iload 4, 2) := kq_21 byq_r (by decide +kernel)
theorem d_Mod_open_98 : decode b_Mod_open 98 = .ok (.if_icmp .lt 6, 3) := kq_161 byq_r (a := 0) (b := 6) (by decide +kernel)
theorem d_Mod_open_101 : decode b_Mod_open 101 = .ok (.goto 10, 3) := kq_167 byq_r (a := 0) (b := 10) (by decide +kernel)
theorem d_Mod_open_104 : decode b_Mod_open 104 = .ok (.iload 5, 2) := kq_21 byq_r (by decide +kernel)
theorem d_Mod_open_106 : decode b_Mod_open 106 = .ok (.istore_n 3, 1) := kq_62 byq_r (by decide +kernel)
theorem d_Mod_open_107 : decode b_Mod_open 107 = .ok (.iload 7, 2) := kq_21 byq_r (by decide +kernel)
theorem d_Mod_open_109 : decode b_Mod_open 109 = .ok (.istore 4, 2) := kq_54 byq_r (by decide +kernel)
theorem d_Mod_open_111 : decode b_Mod_open 111 = .ok (.iinc 5 1, 3) := kq_132 byq_r (b := 1) (by decide +kernel)
theorem d_Mod_open_114 : decode b_Mod_open 114 = .ok (.goto (-87), 3) := kq_167 byq_r (a := 255) (b := 169) (by decide +kernel)
theorem d_Mod_open_117 : decode b_Mod_open 117 = .ok (.iload_n 3, 1) := kq_29 byq_r (by decide +kernel)
theorem d_Mod_open_118 : decode b_Mod_open 118 = .ok (.ifCond .ge 6, 3) := kq_156 byq_r (a := 0) (b := 6) (by decide +kernel)
theorem d_Mod_open_121 : decode b_Mod_open 121 = .ok (.bipush (-2), 2) := kq_16 byq_r (b := 254) (by decide +kernel)
theorem d_Mod_open_123 : decode b_Mod_open 123 = .ok (.ireturn, 1) := kq_172 byq_r (by decide +kernel)
theorem d_Mod_open_124 : decode b_Mod_open 124 = .ok (.aload_n 0, 1) := kq_42 byq_r (by decide +kernel)
theorem d_Mod_open_125 : decode b_Mod_open 125 = .ok (.iconst 0, 1) := kq_3 byq_r (by decide +kernel)
theorem d_Mod_open_126 : decode b_Mod_open 126 = .ok (.putfield 112, 3) := kq_181 byq_r (a := 0) (b := 112) (by decide +kernel)
theorem d_Mod_open_129 : decode b_Mod_open 129 = .ok (.aload_n 0, 1) := kq_42 byq_r (by decide +kernel)
theorem d_Mod_open_130 : decode b_Mod_open 130 = .ok (.iload 4, 2) := kq_21 byq_r (by decide +kernel)
theorem d_Mod_open_132 : decode b_Mod_open 132 = .ok (.invokevirtual 342, 3) := kq_182 byq_r (a := 1) (b := 86) (by decide +kernel)
theorem d_Mod_open_135 : decode b_Mod_open 135 = .ok (.iload_n 3, 1) := kq_29 byq_r (by decide +kernel)
theorem d_Mod_open_136 : decode b_Mod_open 136 = .ok (.ireturn, 1) := kq_172 byq_r (by decide +kernel)
theorem d_Mod_parts_0 : decode b_Mod_parts 0 = .ok (.iload_n 3, 1) := kq_29 byq_r (by decide +kernel)
theorem d_Mod_parts_1 : decode b_Mod_parts 1 = .ok (.iload 4, 2) := kq_21 byq_r (by decide +kernel)
theorem d_Mod_parts_3 : decode b_Mod_parts 3 = .ok (.if_icmp .ne 21, 3) := kq_160 byq_r (a := 0) (b := 21) (by decide +kernel)
theorem d_Mod_parts_6 : decode b_Mod_parts 6 = .ok (.aload_n 0, 1) := kq_42 byq_r (by decide +kernel)
theorem d_Mod_parts_7 : decode b_Mod_parts 7 = .ok (.iload_n 1, 1) := kq_27 byq_r (by decide +kernel)
theorem d_Mod_parts_8 : decode b_Mod_parts 8 = .ok (.iload_n 2, 1) := kq_28 byq_r (by decide +kernel)
theorem d_Mod_parts_9 : decode b_Mod_parts 9 = .ok (.invokevirtual 390, 3) := kq_182 byq_r (a := 1) (b := 134) (by decide +kernel)
theorem d_Mod_parts_12 : decode b_Mod_parts 12 = .ok (.ldc_w 357, 3) := kq_19 byq_r (a := 1) (b := 101) (by decide +kernel)
theorem d_Mod_parts_15 : decode b_Mod_parts 15 = .ok (.if_icmp .ne 7, 3) := kq_160 byq_r (a := 0) (b := 7) (by decide +kernel)
theorem d_Mod_parts_18 : decode b_Mod_parts 18 = .ok (.iconst 1, 1) := kq_4 byq_r (by decide +kernel)
theorem d_Mod_parts_19 : decode b_Mod_parts 19 = .ok (.goto 4, 3) := kq_167 byq_r (a := 0) (b := 4) (by decide +kernel)
theorem d_Mod_parts_22 : decode b_Mod_parts 22 = .ok (.iconst 0, 1) := kq_3 byq_r (by decide +kernel)
theorem d_Mod_parts_23 : decode b_Mod_parts 23 = .ok (.ireturn, 1) := kq_172 byq_r (by decide +kernel)
theorem d_Mod_parts_24 : decode b_Mod_parts 24 = .ok (.iload 5, 2) := kq_21 byq_r (by decide +kernel)
theorem d_Mod_parts_26 : decode b_Mod_parts 26 = .ok (.istore 6, 2) := kq_54 byq_r (by decide +kernel)
theorem d_Mod_parts_28 : decode b_Mod_parts 28 = .ok (.iload 6, 2) := kq_21 byq_r (by decide +kernel)
theorem d_Mod_parts_30 : decode b_Mod_parts 30 = .ok (.aload_n 0, 1) := kq_42 byq_r (by decide +kernel)
theorem d_Mod_parts_31 : decode b_Mod_parts 31 = .ok (.invokevirtual 115, 3) := kq_182 byq_r (a := 0) (b := 115) (by decide +kernel)
theorem d_Mod_parts_34 : decode b_Mod_parts 34 = .ok (.if_icmp .ge 99, 3) := kq_162 byq_r (a := 0) (b := 99) (by decide +kernel)
theorem d_Mod_parts_37 : decode b_Mod_parts 37 = .ok (.aload_n 0, 1) := kq_42 byq_r (by decide +kernel)
theorem d_Mod_parts_38 : decode b_Mod_parts 38 = .ok (.getfield 13, 3) := kq_180 byq_r (a := 0) (b := 13) (by decide +kernel)
theorem d_Mod_parts_41 : decode b_Mod_parts 41 = .ok (.iload 6, 2) := kq_21 byq_r (by decide +kernel)
theorem d_Mod_parts_43 : decode b_Mod_parts 43 = .ok (.iaload, 1) := kq_46 byq_r (by decide +kernel)
theorem d_Mod_parts_44 : decode b_Mod_parts 44 = .ok (.iconst 3, 1) := kq_6 byq_r (by decide +kernel)
theorem d_Mod_parts_45 : decode b_Mod_parts 45 = .ok (.if_icmp .ne 82, 3) := kq_160 byq_r (a := 0) (b := 82) (by decide +kernel)
theorem d_Mod_parts_48 : decode b_Mod_parts 48 = .ok (.iload 6, 2) := kq_21 byq_r (by decide +kernel)
theorem d_Mod_parts_50 : decode b_Mod_parts 50 = .ok (.aload_n 0, 1) := kq_42 byq_r (by decide +kernel)
theorem d_Mod_parts_51 : decode b_Mod_parts 51 = .ok (.getfield 9, 3) := kq_180 byq_r (a := 0) (b := 9) (by decide +kernel)
theorem d_Mod_parts_54 : decode b_Mod_parts 54 = .ok (.iload_n 1, 1) := kq_27 byq_r (by decide +kernel)
theorem d_Mod_parts_55 : decode b_Mod_parts 55 = .ok (.iaload, 1) := kq_46 byq_r (by decide +kernel)
theorem d_Mod_parts_56 : decode b_Mod_parts 56 = .ok (.invokestatic 147, 3) := kq_184 byq_r (a := 0) (b := 147) (by decide +kernel)
theorem d_Mod_parts_59 : decode b_Mod_parts 59 = .ok (.if_icmp .eq 68, 3) := kq_159 byq_r (a := 0) (b := 68) (by decide +kernel)
theorem d_Mod_parts_62 : decode b_Mod_parts 62 = .ok (.iload 6, 2) := kq_21 byq_r (by decide +kernel)
theorem d_Mod_parts_64 : decode b_Mod_parts 64 = .ok (.aload_n 0, 1) := kq_42 byq_r (by decide +kernel)
theorem d_Mod_parts_65 : decode b_Mod_parts 65 = .ok (.getfield 9, 3) := kq_180 byq_r (a := 0) (b := 9) (by decide +kernel)
theorem d_Mod_parts_68 : decode b_Mod_parts 68 = .ok (.iload_n 2, 1) := kq_28 byq_r (by decide +kernel)
theorem d_Mod_parts_69 : decode b_Mod_parts 69 = .ok (.iaload, 1) := kq_46 byq_r (by decide +kernel)
theorem d_Mod_parts_70 : decode b_Mod_parts 70 = .ok (.invokestatic 147, 3) := kq_184 byq_r (a := 0) (b := 147) (by decide +kernel)
theorem d_Mod_parts_73 : decode b_Mod_parts 73 = .ok (.if_icmp .ne 6, 3) := kq_160 byq_r (a := 0) (b := 6) (by decide +kernel)
theorem d_Mod_parts_76 : decode b_Mod_parts 76 = .ok (.goto 51, 3) := kq_167 byq_r (a := 0) (b := 51) (by decide +kernel)
theorem d_Mod_parts_79 : decode b_Mod_parts 79 = .ok (.aload_n 0, 1) := kq_42 byq_r (by decide +kernel)
theorem d_Mod_parts_80 : decode b_Mod_parts 80 = .ok (.getfield 85, 3) := kq_180 byq_r (a := 0) (b := 85) (by decide +kernel)
theorem d_Mod_parts_83 : decode b_Mod_parts 83 = .ok (.iload_n 3, 1) := kq_29 byq_r (by decide +kernel)
theorem d_Mod_parts_84 : decode b_Mod_parts 84 = .ok (.iload 6, 2) := kq_21 byq_r (by decide +kernel)
theorem d_Mod_parts_86 : decode b_Mod_parts 86 = .ok (.iastore, 1) := kq_79 byq_r (by decide +kernel)
theorem d_Mod_parts_87 : decode b_Mod_parts 87 = .ok (.aload_n 0, 1) := kq_42 byq_r (by decide +kernel)
theorem d_Mod_parts_88 : decode b_Mod_parts 88 = .ok (.getfield 13, 3) := kq_180 byq_r (a := 0) (b := 13) (by decide +kernel)
theorem d_Mod_parts_91 : decode b_Mod_parts 91 = .ok (.iload 6, 2) := kq_21 byq_r (by decide +kernel)
theorem d_Mod_parts_93 : decode b_Mod_parts 93 = .ok (.iconst 2, 1) := kq_5 byq_r (by decide +kernel)
theorem d_Mod_parts_94 : decode b_Mod_parts 94 = .ok (.iastore, 1) := kq_79 byq_r (by decide +kernel)
theorem d_Mod_parts_95 : decode b_Mod_parts 95 = .ok (.aload_n 0, 1) := kq_42 byq_r (by decide +kernel)
theorem d_Mod_parts_96 : decode b_Mod_parts 96 = .ok (.iload_n 1, 1) := kq_27 byq_r (by decide +kernel)
theorem d_Mod_parts_97 : decode b_Mod_parts 97 = .ok (.iload_n 2, 1) := kq_28 byq_r (by decide +kernel)
theorem d_Mod_parts_98 : decode b_Mod_parts 98 = .ok (.iload_n 3, 1) := kq_29 byq_r (by decide +kernel)
theorem d_Mod_parts_99 : decode b_Mod_parts 99 = .ok (.iconst 1, 1) := kq_4 byq_r (by decide +kernel)
theorem d_Mod_parts_100 : decode b_Mod_parts 100 = .ok (.iadd, 1) := kq_96 byq_r (by decide +kernel)
theorem d_Mod_parts_101 : decode b_Mod_parts 101 = .ok (.iload 4, 2) := kq_21 byq_r (by decide +kernel)
theorem d_Mod_parts_103 : decode b_Mod_parts 103 = .ok (.iload 6, 2) := kq_21 byq_r (by decide +kernel)
theorem d_Mod_parts_105 : decode b_Mod_parts 105 = .ok (.iconst 1, 1) := kq_4 byq_r (by decide +kernel)
theorem d_Mod_parts_106 : decode b_Mod_parts 106 = .ok (.iadd, 1) := kq_96 byq_r (by decide +kernel)
theorem d_Mod_parts_107 : decode b_Mod_parts 107 = .ok (.invokevirtual 393, 3) := kq_182 byq_r (a := 1) (b := 137) (by decide +kernel)
theorem d_Mod_parts_110 : decode b_Mod_parts 110 = .ok (.istore 7, 2) := kq_54 byq_r (by decide +kernel)
theorem d_Mod_parts_112 : decode b_Mod_parts 112 = .ok (.aload_n 0, 1) := kq_42 byq_r (by decide +kernel)
theorem d_Mod_parts_113 : decode b_Mod_parts 113 = .ok (.getfield 13, 3) := kq_180 byq_r (a := 0) (b := 13) (by decide +kernel)
theorem d_Mod_parts_116 : decode b_Mod_parts 116 = .ok (.iload 6, 2) := kq_21 byq_r (by decide +kernel)
theorem d_Mod_parts_118 : decode b_Mod_parts 118 = .ok (.iconst 3, 1) := kq_6 byq_r (by decide +kernel)
theorem d_Mod_parts_119 : decode b_Mod_parts 119 = .ok (.iastore, 1) := kq_79 byq_r (by decide +kernel)
theorem d_Mod_parts_120 : decode b_Mod_parts 120 = .ok (.iload 7, 2) := kq_21 byq_r (by decide +kernel)
theorem d_Mod_parts_122 : decode b_Mod_parts 122 = .ok (.ifCond .eq 5, 3) := kq_153 byq_r (a := 0) (b := 5) (by decide +kernel)
theorem d_Mod_parts_125 : decode b_Mod_parts 125 = .ok (.iconst 1, 1) := kq_4 byq_r (by decide +kernel)
theorem d_Mod_parts_126 : decode b_Mod_parts 126 = .ok (.ireturn, 1) := kq_172 byq_r (by decide +kernel)
theorem d_Mod_parts_127 : decode b_Mod_parts 127 = .ok (.iinc 6 1, 3) := kq_132 byq_r (b := 1) (by decide +kernel)
theorem d_Mod_parts_130 : decode b_Mod_parts 130 = .ok (.goto (-102), 3) := kq_167 byq_r (a := 255) (b := 154) (by decide +kernel)
theorem d_Mod_parts_133 : decode b_Mod_parts 133 = .ok (.iconst 0, 1) := kq_3 byq_r (by decide +kernel)
theorem d_Mod_parts_134 : decode b_Mod_parts 134 = .ok (.ireturn, 1) := kq_172 byq_r (by decide +kernel)
theorem d_Mod_part_0 : decode b_Mod_part 0 = .ok (.aload_n 0, 1) := kq_42 byq_r (by decide +kernel)
theorem d_Mod_part_1 : decode b_Mod_part 1 = .ok (.iconst 0, 1) := kq_3 byq_r (by decide +kernel)
theorem d_Mod_part_2 : decode b_Mod_part 2 = .ok (.putfield 109, 3) := kq_181 byq_r (a := 0) (b := 109) (by decide +kernel)
theorem d_Mod_part_5 : decode b_Mod_part 5 = .ok (.aload_n 0, 1) := kq_42 byq_r (by decide +kernel)
theorem d_Mod_part_6 : decode b_Mod_part 6 = .ok (.iload_n 1, 1) := kq_27 byq_r (by decide +kernel)
theorem d_Mod_part_7 : decode b_Mod_part 7 = .ok (.iload_n 2, 1) := kq_28 byq_r (by decide +kernel)
theorem d_Mod_part_8 : decode b_Mod_part 8 = .ok (.invokevirtual 387, 3) := kq_182 byq_r (a := 1) (b := 131) (by decide +kernel)
theorem d_Mod_part_11 : decode b_Mod_part 11 = .ok (.ifCond .ne 5, 3) := kq_154 byq_r (a := 0) (b := 5) (by decide +kernel)
theorem d_Mod_part_14 : decode b_Mod_part 14 = .ok (.iconst (-1), 1) := kq_2 byq_r (by decide +kernel)
theorem d_Mod_part_15 : decode b_Mod_part 15 = .ok (.ireturn, 1) := kq_172 byq_r (by decide +kernel)
theorem d_Mod_part_16 : decode b_Mod_part 16 = .ok (.iconst 0, 1) := kq_3 byq_r (by decide +kernel)
theorem d_Mod_part_17 : decode b_Mod_part 17 = .ok (.istore_n 3, 1) := kq_62 byq_r (by decide +kernel)
theorem d_Mod_part_18 : decode b_Mod_part 18 = .ok (.iload_n 3, 1) := kq_29 byq_r (by decide +kernel)
theorem d_Mod_part_19 : decode b_Mod_part 19 = .ok (.iconst 3, 1) := kq_6 byq_r (by decide +kernel)
theorem d_Mod_part_20 : decode b_Mod_part 20 = .ok (.if_icmp .gt 57, 3) := kq_163 byq_r (a := 0) (b := 57) (by decide +kernel)
theorem d_Mod_part_23 : decode b_Mod_part 23 = .ok (.aload_n 0, 1) := kq_42 byq_r (by decide +kernel)
theorem d_Mod_part_24 : decode b_Mod_part 24 = .ok (.iload_n 1, 1) := kq_27 byq_r (by decide +kernel)
theorem d_Mod_part_25 : decode b_Mod_part 25 = .ok (.iload_n 2, 1) := kq_28 byq_r (by decide +kernel)
theorem d_Mod_part_26 : decode b_Mod_part 26 = .ok (.iconst 0, 1) := kq_3 byq_r (by decide +kernel)
theorem d_Mod_part_27 : decode b_Mod_part 27 = .ok (.iload_n 3, 1) := kq_29 byq_r (by decide +kernel)
theorem d_Mod_part_28 : decode b_Mod_part 28 = .ok (.iconst 0, 1) := kq_3 byq_r (by decide +kernel)
theorem d_Mod_part_29 : decode b_Mod_part 29 = .ok (.invokevirtual 393, 3) := kq_182 byq_r (a := 1) (b := 137) (by decide +kernel)
theorem d_Mod_part_32 : decode b_Mod_part 32 = .ok (.ifCond .ne 6, 3) := kq_154 byq_r (a := 0) (b := 6) (by decide +kernel)
theorem d_Mod_part_35 : decode b_Mod_part 35 = .ok (.goto 36, 3) := kq_167 byq_r (a := 0) (b := 36) (by decide +kernel)
theorem d_Mod_part_38 : decode b_Mod_part 38 = .ok (.aload_n 0, 1) := kq_42 byq_r (by decide +kernel)
theorem d_Mod_part_39 : decode b_Mod_part 39 = .ok (.iconst 0, 1) := kq_3 byq_r (by decide +kernel)
theorem d_Mod_part_40 : decode b_Mod_part 40 = .ok (.putfield 112, 3) := kq_181 byq_r (a := 0) (b := 112) (by decide +kernel)
theorem d_Mod_part_43 : decode b_Mod_part 43 = .ok (.iconst 0, 1) := kq_3 byq_r (by decide +kernel)
theorem d_Mod_part_44 : decode b_Mod_part 44 = .ok (.istore 4, 2) := kq_54 byq_r (by decide +kernel)
theorem d_Mod_part_46 : decode b_Mod_part 46 = .ok (.iload 4, 2) := kq_21 byq_r (by decide +kernel)
theorem d_Mod_part_48 : decode b_Mod_part 48 = .ok (.iload_n 3, 1) := kq_29 byq_r (by decide +kernel)
theorem d_Mod_part_49 : decode b_Mod_part 49 = .ok (.if_icmp .ge 20, 3) := kq_162 byq_r (a := 0) (b := 20) (by decide +kernel)
theorem d_Mod_part_52 : decode b_Mod_part 52 = .ok (.aload_n 0, 1) := kq_42 byq_r (by decide +kernel)
theorem d_Mod_part_53 : decode b_Mod_part 53 = .ok (.aload_n 0, 1) := kq_42 byq_r (by decide +kernel)
theorem d_Mod_part_54 : decode b_Mod_part 54 = .ok (.getfield 85, 3) := kq_180 byq_r (a := 0) (b := 85) (by decide +kernel)
theorem d_Mod_part_57 : decode b_Mod_part 57 = .ok (.iload 4, 2) := kq_21 byq_r (by decide +kernel)
theorem d_Mod_part_59 : decode b_Mod_part 59 = .ok (.iaload, 1) := kq_46 byq_r (by decide +kernel)
theorem d_Mod_part_60 : decode b_Mod_part 60 = .ok (.invokevirtual 342, 3) := kq_182 byq_r (a := 1) (b := 86) (by decide +kernel)
theorem d_Mod_part_63 : decode b_Mod_part 63 = .ok (.iinc 4 1, 3) := kq_132 byq_r (b := 1) (by decide +kernel)
theorem d_Mod_part_66 : decode b_Mod_part 66 = .ok (.goto (-20), 3) := kq_167 byq_r (a := 255) (b := 236) (by decide +kernel)
theorem d_Mod_part_69 : decode b_Mod_part 69 = .ok (.iload_n 3, 1) := kq_29 byq_r (by decide +kernel)
theorem d_Mod_part_70 : decode b_Mod_part 70 = .ok (.ireturn, 1) := kq_172 byq_r (by decide +kernel)
theorem d_Mod_part_71 : decode b_Mod_part 71 = .ok (.iinc 3 1, 3) := kq_132 byq_r (b := 1) (by decide +kernel)
theorem d_Mod_part_74 : decode b_Mod_part 74 = .ok (.goto (-56), 3) := kq_167 byq_r (a := 255) (b := 200) (by decide +kernel)
theorem d_Mod_part_77 : decode b_Mod_part 77 = .ok (.bipush (-2), 2) := kq_16 byq_r (b := 254) (by decide +kernel)
theorem d_Mod_part_79 : decode b_Mod_part 79 = .ok (.ireturn, 1) := kq_172 byq_r (by decide +kernel)
theorem d_Mod_planks_0 : decode b_Mod_planks 0 = .ok (.aload_n 0, 1) := kq_42 byq_r (by decide +kernel)
theorem d_Mod_planks_1 : decode b_Mod_planks 1 = .ok (.iconst 0, 1) := kq_3 byq_r (by decide +kernel)
theorem d_Mod_planks_2 : decode b_Mod_planks 2 = .ok (.putfield 109, 3) := kq_181 byq_r (a := 0) (b := 109) (by decide +kernel)
theorem d_Mod_planks_5 : decode b_Mod_planks 5 = .ok (.aload_n 0, 1) := kq_42 byq_r (by decide +kernel)
theorem d_Mod_planks_6 : decode b_Mod_planks 6 = .ok (.iconst 1, 1) := kq_4 byq_r (by decide +kernel)
theorem d_Mod_planks_7 : decode b_Mod_planks 7 = .ok (.iload_n 1, 1) := kq_27 byq_r (by decide +kernel)
theorem d_Mod_planks_8 : decode b_Mod_planks 8 = .ok (.invokevirtual 374, 3) := kq_182 byq_r (a := 1) (b := 118) (by decide +kernel)
theorem d_Mod_planks_11 : decode b_Mod_planks 11 = .ok (.ifCond .eq 12, 3) := kq_153 byq_r (a := 0) (b := 12) (by decide +kernel)
theorem d_Mod_planks_14 : decode b_Mod_planks 14 = .ok (.aload_n 0, 1) := kq_42 byq_r (by decide +kernel)
theorem d_Mod_planks_15 : decode b_Mod_planks 15 = .ok (.iconst 1, 1) := kq_4 byq_r (by decide +kernel)
theorem d_Mod_planks_16 : decode b_Mod_planks 16 = .ok (.iload_n 2, 1) := kq_28 byq_r (by decide +kernel)
theorem d_Mod_planks_17 : decode b_Mod_planks 17 = .ok (.invokevirtual 374, 3) := kq_182 byq_r (a := 1) (b := 118) (by decide +kernel)
theorem d_Mod_planks_20 : decode b_Mod_planks 20 = .ok (.ifCond .ne 5, 3) := kq_154 byq_r (a := 0) (b := 5) (by decide +kernel)
theorem d_Mod_planks_23 : decode b_Mod_planks 23 = .ok (.iconst (-1), 1) := kq_2 byq_r (by decide +kernel)
theorem d_Mod_planks_24 : decode b_Mod_planks 24 = .ok (.ireturn, 1) := kq_172 byq_r (by decide +kernel)
theorem d_Mod_planks_25 : decode b_Mod_planks 25 = .ok (.iconst 0, 1) := kq_3 byq_r (by decide +kernel)
theorem d_Mod_planks_26 : decode b_Mod_planks 26 = .ok (.istore_n 3, 1) := kq_62 byq_r (by decide +kernel)
theorem d_Mod_planks_27 : decode b_Mod_planks 27 = .ok (.iload_n 3, 1) := kq_29 byq_r (by decide +kernel)
theorem d_Mod_planks_28 : decode b_Mod_planks 28 = .ok (.bipush 72, 2) := kq_16 byq_r (b := 72) (by decide +kernel)
theorem d_Mod_planks_30 : decode b_Mod_planks 30 = .ok (.if_icmp .ge 18, 3) := kq_162 byq_r (a := 0) (b := 18) (by decide +kernel)
theorem d_Mod_planks_33 : decode b_Mod_planks 33 = .ok (.aload_n 0, 1) := kq_42 byq_r (by decide +kernel)
theorem d_Mod_planks_34 : decode b_Mod_planks 34 = .ok (.getfield 73, 3) := kq_180 byq_r (a := 0) (b := 73) (by decide +kernel)
theorem d_Mod_planks_37 : decode b_Mod_planks 37 = .ok (.iload_n 3, 1) := kq_29 byq_r (by decide +kernel)
theorem d_Mod_planks_38 : decode b_Mod_planks 38 = .ok (.ldc_w 357, 3) := kq_19 byq_r (a := 1) (b := 101) (by decide +kernel)
theorem d_Mod_planks_41 : decode b_Mod_planks 41 = .ok (.iastore, 1) := kq_79 byq_r (by decide +kernel)
theorem d_Mod_planks_42 : decode b_Mod_planks 42 = .ok (.iinc 3 1, 3) := kq_132 byq_r (b := 1) (by decide +kernel)
theorem d_Mod_planks_45 : decode b_Mod_planks 45 = .ok (.goto (-18), 3) := kq_167 byq_r (a := 255) (b := 238) (by decide +kernel)
theorem d_Mod_planks_48 : decode b_Mod_planks 48 = .ok (.aload_n 0, 1) := kq_42 byq_r (by decide +kernel)
theorem d_Mod_planks_49 : decode b_Mod_planks 49 = .ok (.getfield 73, 3) := kq_180 byq_r (a := 0) (b := 73) (by decide +kernel)
theorem d_Mod_planks_52 : decode b_Mod_planks 52 = .ok (.iconst 1, 1) := kq_4 byq_r (by decide +kernel)
theorem d_Mod_planks_53 : decode b_Mod_planks 53 = .ok (.iload_n 1, 1) := kq_27 byq_r (by decide +kernel)
theorem d_Mod_planks_54 : decode b_Mod_planks 54 = .ok (.invokestatic 154, 3) := kq_184 byq_r (a := 0) (b := 154) (by decide +kernel)
theorem d_Mod_planks_57 : decode b_Mod_planks 57 = .ok (.iconst 0, 1) := kq_3 byq_r (by decide +kernel)
theorem d_Mod_planks_58 : decode b_Mod_planks 58 = .ok (.iastore, 1) := kq_79 byq_r (by decide +kernel)
theorem d_Mod_planks_59 : decode b_Mod_planks 59 = .ok (.iconst 1, 1) := kq_4 byq_r (by decide +kernel)
theorem d_Mod_planks_60 : decode b_Mod_planks 60 = .ok (.istore_n 3, 1) := kq_62 byq_r (by decide +kernel)
theorem d_Mod_planks_61 : decode b_Mod_planks 61 = .ok (.iload_n 3, 1) := kq_29 byq_r (by decide +kernel)
theorem d_Mod_planks_62 : decode b_Mod_planks 62 = .ok (.ifCond .eq 172, 3) := kq_153 byq_r (a := 0) (b := 172) (by decide +kernel)
theorem d_Mod_planks_65 : decode b_Mod_planks 65 = .ok (.iconst 0, 1) := kq_3 byq_r (by decide +kernel)
theorem d_Mod_planks_66 : decode b_Mod_planks 66 = .ok (.istore_n 3, 1) := kq_62 byq_r (by decide +kernel)
theorem d_Mod_planks_67 : decode b_Mod_planks 67 = .ok (.iconst 0, 1) := kq_3 byq_r (by decide +kernel)
theorem d_Mod_planks_68 : decode b_Mod_planks 68 = .ok (.istore 4, 2) := kq_54 byq_r (by decide +kernel)
theorem d_Mod_planks_70 : decode b_Mod_planks 70 = .ok (.iload 4, 2) := kq_21 byq_r (by decide +kernel)
theorem d_Mod_planks_72 : decode b_Mod_planks 72 = .ok (.aload_n 0, 1) := kq_42 byq_r (by decide +kernel)
theorem d_Mod_planks_73 : decode b_Mod_planks 73 = .ok (.invokevirtual 115, 3) := kq_182 byq_r (a := 0) (b := 115) (by decide +kernel)
theorem d_Mod_planks_76 : decode b_Mod_planks 76 = .ok (.if_icmp .ge 155, 3) := kq_162 byq_r (a := 0) (b := 155) (by decide +kernel)
theorem d_Mod_planks_79 : decode b_Mod_planks 79 = .ok (.aload_n 0, 1) := kq_42 byq_r (by decide +kernel)
theorem d_Mod_planks_80 : decode b_Mod_planks 80 = .ok (.getfield 73, 3) := kq_180 byq_r (a := 0) (b := 73) (by decide +kernel)
theorem d_Mod_planks_83 : decode b_Mod_planks 83 = .ok (.iconst 1, 1) := kq_4 byq_r (by decide +kernel)
theorem d_Mod_planks_84 : decode b_Mod_planks 84 = .ok (.iload 4, 2) := kq_21 byq_r (by decide +kernel)
theorem d_Mod_planks_86 : decode b_Mod_planks 86 = .ok (.invokestatic 154, 3) := kq_184 byq_r (a := 0) (b := 154) (by decide +kernel)
theorem d_Mod_planks_89 : decode b_Mod_planks 89 = .ok (.iaload, 1) := kq_46 byq_r (by decide +kernel)
theorem d_Mod_planks_90 : decode b_Mod_planks 90 = .ok (.ldc_w 357, 3) := kq_19 byq_r (a := 1) (b := 101) (by decide +kernel)
theorem d_Mod_planks_93 : decode b_Mod_planks 93 = .ok (.if_icmp .lt 6, 3) := kq_161 byq_r (a := 0) (b := 6) (by decide +kernel)
theorem d_Mod_planks_96 : decode b_Mod_planks 96 = .ok (.goto 129, 3) := kq_167 byq_r (a := 0) (b := 129) (by decide +kernel)
theorem d_Mod_planks_99 : decode b_Mod_planks 99 = .ok (.iconst 0, 1) := kq_3 byq_r (by decide +kernel)
theorem d_Mod_planks_100 : decode b_Mod_planks 100 = .ok (.istore 5, 2) := kq_54 byq_r (by decide +kernel)
theorem d_Mod_planks_102 : decode b_Mod_planks 102 = .ok (.iload 5, 2) := kq_21 byq_r (by decide +kernel)
theorem d_Mod_planks_104 : decode b_Mod_planks 104 = .ok (.iconst 4, 1) := kq_7 byq_r (by decide +kernel)
theorem d_Mod_planks_105 : decode b_Mod_planks 105 = .ok (.if_icmp .ge 120, 3) := kq_162 byq_r (a := 0) (b := 120) (by decide +kernel)
theorem d_Mod_planks_108 : decode b_Mod_planks 108 = .ok (.iload_n 3, 1) := kq_29 byq_r (by decide +kernel)
theorem d_Mod_planks_109 : decode b_Mod_planks 109 = .ok (.aload_n 0, 1) := kq_42 byq_r (by decide +kernel)
theorem d_Mod_planks_110 : decode b_Mod_planks 110 = .ok (.aload_n 0, 1) := kq_42 byq_r (by decide +kernel)
theorem d_Mod_planks_111 : decode b_Mod_planks 111 = .ok (.aload_n 0, 1) := kq_42 byq_r (by decide +kernel)
theorem d_Mod_planks_112 : decode b_Mod_planks 112 = .ok (.getfield 9, 3) := kq_180 byq_r (a := 0) (b := 9) (by decide +kernel)
theorem d_Mod_planks_115 : decode b_Mod_planks 115 = .ok (.iconst 1, 1) := kq_4 byq_r (by decide +kernel)
theorem d_Mod_planks_116 : decode b_Mod_planks 116 = .ok (.iload 4, 2) := kq_21 byq_r (by decide +kernel)
theorem d_Mod_planks_118 : decode b_Mod_planks 118 = .ok (.invokestatic 154, 3) := kq_184 byq_r (a := 0) (b := 154) (by decide +kernel)
theorem d_Mod_planks_121 : decode b_Mod_planks 121 = .ok (.iload 5, 2) := kq_21 byq_r (by decide +kernel)
theorem d_Mod_planks_123 : decode b_Mod_planks 123 = .ok (.invokevirtual 252, 3) := kq_182 byq_r (a := 0) (b := 252) (by decide +kernel)
theorem d_Mod_planks_126 : decode b_Mod_planks 126 = .ok (.aload_n 0, 1) := kq_42 byq_r (by decide +kernel)
theorem d_Mod_planks_127 : decode b_Mod_planks 127 = .ok (.getfield 73, 3) := kq_180 byq_r (a := 0) (b := 73) (by decide +kernel)
theorem d_Mod_planks_130 : decode b_Mod_planks 130 = .ok (.iconst 1, 1) := kq_4 byq_r (by decide +kernel)
theorem d_Mod_planks_131 : decode b_Mod_planks 131 = .ok (.iload 4, 2) := kq_21 byq_r (by decide +kernel)
theorem d_Mod_planks_133 : decode b_Mod_planks 133 = .ok (.invokestatic 154, 3) := kq_184 byq_r (a := 0) (b := 154) (by decide +kernel)
theorem d_Mod_planks_136 : decode b_Mod_planks 136 = .ok (.iaload, 1) := kq_46 byq_r (by decide +kernel)
theorem d_Mod_planks_137 : decode b_Mod_planks 137 = .ok (.iconst 1, 1) := kq_4 byq_r (by decide +kernel)
theorem d_Mod_planks_138 : decode b_Mod_planks 138 = .ok (.iadd, 1) := kq_96 byq_r (by decide +kernel)
theorem d_Mod_planks_139 : decode b_Mod_planks 139 = .ok (.invokevirtual 377, 3) := kq_182 byq_r (a := 1) (b := 121) (by decide +kernel)
theorem d_Mod_planks_142 : decode b_Mod_planks 142 = .ok (.ior, 1) := kq_128 byq_r (by decide +kernel)
theorem d_Mod_planks_143 : decode b_Mod_planks 143 = .ok (.istore_n 3, 1) := kq_62 byq_r (by decide +kernel)
theorem d_Mod_planks_144 : decode b_Mod_planks 144 = .ok (.aload_n 0, 1) := kq_42 byq_r (by decide +kernel)
theorem d_Mod_planks_145 : decode b_Mod_planks 145 = .ok (.iload 4, 2) := kq_21 byq_r (by decide +kernel)
theorem d_Mod_planks_147 : decode b_Mod_planks 147 = .ok (.iload 5, 2) := kq_21 byq_r (by decide +kernel)
theorem d_Mod_planks_149 : decode b_Mod_planks 149 = .ok (.invokevirtual 150, 3) := kq_182 byq_r (a := 0) (b := 150) (by decide +kernel)
theorem d_Mod_planks_152 : decode b_Mod_planks 152 = .ok (.istore 6, 2) := kq_54 byq_r (by decide +kernel)
theorem d_Mod_planks_154 : decode b_Mod_planks 154 = .ok (.iload 6, 2) := kq_21 byq_r (by decide +kernel)
theorem d_Mod_planks_156 : decode b_Mod_planks 156 = .ok (.iconst (-1), 1) := kq_2 byq_r (by decide +kernel)
theorem d_Mod_planks_157 : decode b_Mod_planks 157 = .ok (.if_icmp .ne 7, 3) := kq_160 byq_r (a := 0) (b := 7) (by decide +kernel)
theorem d_Mod_planks_160 : decode b_Mod_planks 160 = .ok (.iconst (-1), 1) := kq_2 byq_r (by decide +kernel)
theorem d_Mod_planks_161 : decode b_Mod_planks 161 = .ok (.goto 11, 3) := kq_167 byq_r (a := 0) (b := 11) (by decide +kernel)
theorem d_Mod_planks_164 : decode b_Mod_planks 164 = .ok (.aload_n 0, 1) := kq_42 byq_r (by decide +kernel)
theorem d_Mod_planks_165 : decode b_Mod_planks 165 = .ok (.iload 6, 2) := kq_21 byq_r (by decide +kernel)
theorem d_Mod_planks_167 : decode b_Mod_planks 167 = .ok (.iload 5, 2) := kq_21 byq_r (by decide +kernel)
theorem d_Mod_planks_169 : decode b_Mod_planks 169 = .ok (.invokevirtual 150, 3) := kq_182 byq_r (a := 0) (b := 150) (by decide +kernel)
theorem d_Mod_planks_172 : decode b_Mod_planks 172 = .ok (.istore 7, 2) := kq_54 byq_r (by decide +kernel)
theorem d_Mod_planks_174 : decode b_Mod_planks 174 = .ok (.iload 7, 2) := kq_21 byq_r (by decide +kernel)
theorem d_Mod_planks_176 : decode b_Mod_planks 176 = .ok (.iconst (-1), 1) := kq_2 byq_r (by decide +kernel)
theorem d_Mod_planks_177 : decode b_Mod_planks 177 = .ok (.if_icmp .eq 42, 3) := kq_159 byq_r (a := 0) (b := 42) (by decide +kernel)
theorem d_Mod_planks_180 : decode b_Mod_planks 180 = .ok (.aload_n 0, 1) := kq_42 byq_r (by decide +kernel)
theorem d_Mod_planks_181 : decode b_Mod_planks 181 = .ok (.iload 4, 2) := kq_21 byq_r (by decide +kernel)
theorem d_Mod_planks_183 : decode b_Mod_planks 183 = .ok (.iload 7, 2) := kq_21 byq_r (by decide +kernel)
theorem d_Mod_planks_185 : decode b_Mod_planks 185 = .ok (.invokevirtual 283, 3) := kq_182 byq_r (a := 1) (b := 27) (by decide +kernel)
theorem d_Mod_planks_188 : decode b_Mod_planks 188 = .ok (.ifCond .eq 31, 3) := kq_153 byq_r (a := 0) (b := 31) (by decide +kernel)
theorem d_Mod_planks_191 : decode b_Mod_planks 191 = .ok (.iload_n 3, 1) := kq_29 byq_r (by decide +kernel)
theorem d_Mod_planks_192 : decode b_Mod_planks 192 = .ok (.aload_n 0, 1) := kq_42 byq_r (by decide +kernel)
theorem d_Mod_planks_193 : decode b_Mod_planks 193 = .ok (.iconst 1, 1) := kq_4 byq_r (by decide +kernel)
theorem d_Mod_planks_194 : decode b_Mod_planks 194 = .ok (.iload 7, 2) := kq_21 byq_r (by decide +kernel)
theorem d_Mod_planks_196 : decode b_Mod_planks 196 = .ok (.invokestatic 154, 3) := kq_184 byq_r (a := 0) (b := 154) (by decide +kernel)
theorem d_Mod_planks_199 : decode b_Mod_planks 199 = .ok (.aload_n 0, 1) := kq_42 byq_r (by decide +kernel)
theorem d_Mod_planks_200 : decode b_Mod_planks 200 = .ok (.getfield 73, 3) := kq_180 byq_r (a := 0) (b := 73) (by decide +kernel)
theorem d_Mod_planks_203 : decode b_Mod_planks 203 = .ok (.iconst 1, 1) := kq_4 byq_r (by decide +kernel)
theorem d_Mod_planks_204 : decode b_Mod_planks 204 = .ok (.iload 4, 2) := kq_21 byq_r (by decide +kernel)
theorem d_Mod_planks_206 : decode b_Mod_planks 206 = .ok (.invokestatic 154, 3) := kq_184 byq_r (a := 0) (b := 154) (by decide +kernel)
theorem d_Mod_planks_209 : decode b_Mod_planks 209 = .ok (.iaload, 1) := kq_46 byq_r (by decide +kernel)
theorem d_Mod_planks_210 : decode b_Mod_planks 210 = .ok (.sipush 1001, 3) := kq_17 byq_r (a := 3) (b := 233) (by decide +kernel)
theorem d_Mod_planks_213 : decode b_Mod_planks 213 = .ok (.iadd, 1) := kq_96 byq_r (by decide +kernel)
theorem d_Mod_planks_214 : decode b_Mod_planks 214 = .ok (.invokevirtual 377, 3) := kq_182 byq_r (a := 1) (b := 121) (by decide +kernel)
theorem d_Mod_planks_217 : decode b_Mod_planks 217 = .ok (.ior, 1) := kq_128 byq_r (by decide +kernel)
theorem d_Mod_planks_218 : decode b_Mod_planks 218 = .ok (.istore_n 3, 1) := kq_62 byq_r (by decide +kernel)
theorem d_Mod_planks_219 : decode b_Mod_planks 219 = .ok (.iinc 5 1, 3) := kq_132 byq_r (b := 1) (by decide +kernel)
theorem d_Mod_planks_222 : decode b_Mod_planks 222 = .ok (.goto (-120), 3) := kq_167 byq_r (a := 255) (b := 136) (by decide +kernel)
theorem d_Mod_planks_225 : decode b_Mod_planks 225 = .ok (.iinc 4 1, 3) := kq_132 byq_r (b := 1) (by decide +kernel)
theorem d_Mod_planks_228 : decode b_Mod_planks 228 = .ok (.goto (-158), 3) := kq_167 byq_r (a := 255) (b := 98) (by decide +kernel)
theorem d_Mod_planks_231 : decode b_Mod_planks 231 = .ok (.goto (-170), 3) := kq_167 byq_r (a := 255) (b := 86) (by decide +kernel)
theorem d_Mod_planks_234 : decode b_Mod_planks 234 = .ok (.aload_n 0, 1) := kq_42 byq_r (by decide +kernel)
theorem d_Mod_planks_235 : decode b_Mod_planks 235 = .ok (.getfield 73, 3) := kq_180 byq_r (a := 0) (b := 73) (by decide +kernel)
theorem d_Mod_planks_238 : decode b_Mod_planks 238 = .ok (.iconst 1, 1) := kq_4 byq_r (by decide +kernel)
theorem d_Mod_planks_239 : decode b_Mod_planks 239 = .ok (.iload_n 2, 1) := kq_28 byq_r (by decide +kernel)
theorem d_Mod_planks_240 : decode b_Mod_planks 240 = .ok (.invokestatic 154, 3) := kq_184 byq_r (a := 0) (b := 154) (by decide +kernel)
theorem d_Mod_planks_243 : decode b_Mod_planks 243 = .ok (.iaload, 1) := kq_46 byq_r (by decide +kernel)
theorem d_Mod_planks_244 : decode b_Mod_planks 244 = .ok (.istore 4, 2) := kq_54 byq_r (by decide +kernel)
theorem d_Mod_planks_246 : decode b_Mod_planks 246 = .ok (.iload 4, 2) := kq_21 byq_r (by decide +kernel)
theorem d_Mod_planks_248 : decode b_Mod_planks 248 = .ok (.ldc_w 357, 3) := kq_19 byq_r (a := 1) (b := 101) (by decide +kernel)
theorem d_Mod_planks_251 : decode b_Mod_planks 251 = .ok (.if_icmp .lt 6, 3) := kq_161 byq_r (a := 0) (b := 6) (by decide +kernel)
theorem d_Mod_planks_254 : decode b_Mod_planks 254 = .ok (.bipush (-2), 2) := kq_16 byq_r (b := 254) (by decide +kernel)
theorem d_Mod_planks_256 : decode b_Mod_planks 256 = .ok (.ireturn, 1) := kq_172 byq_r (by decide +kernel)
theorem d_Mod_planks_257 : decode b_Mod_planks 257 = .ok (.aload_n 0, 1) := kq_42 byq_r (by decide +kernel)
theorem d_Mod_planks_258 : decode b_Mod_planks 258 = .ok (.iconst 0, 1) := kq_3 byq_r (by decide +kernel)
theorem d_Mod_planks_259 : decode b_Mod_planks 259 = .ok (.putfield 112, 3) := kq_181 byq_r (a := 0) (b := 112) (by decide +kernel)
theorem d_Mod_planks_262 : decode b_Mod_planks 262 = .ok (.aload_n 0, 1) := kq_42 byq_r (by decide +kernel)
theorem d_Mod_planks_263 : decode b_Mod_planks 263 = .ok (.iload 4, 2) := kq_21 byq_r (by decide +kernel)
theorem d_Mod_planks_265 : decode b_Mod_planks 265 = .ok (.sipush 1000, 3) := kq_17 byq_r (a := 3) (b := 232) (by decide +kernel)
theorem d_Mod_planks_268 : decode b_Mod_planks 268 = .ok (.irem, 1) := kq_112 byq_r (by decide +kernel)
theorem d_Mod_planks_269 : decode b_Mod_planks 269 = .ok (.invokevirtual 342, 3) := kq_182 byq_r (a := 1) (b := 86) (by decide +kernel)
theorem d_Mod_planks_272 : decode b_Mod_planks 272 = .ok (.iload 4, 2) := kq_21 byq_r (by decide +kernel)
theorem d_Mod_planks_274 : decode b_Mod_planks 274 = .ok (.sipush 1000, 3) := kq_17 byq_r (a := 3) (b := 232) (by decide +kernel)
theorem d_Mod_planks_277 : decode b_Mod_planks 277 = .ok (.idiv, 1) := kq_108 byq_r (by decide +kernel)
theorem d_Mod_planks_278 : decode b_Mod_planks 278 = .ok (.ireturn, 1) := kq_172 byq_r (by decide +kernel)
theorem d_Mod_fire_0 : decode b_Mod_fire 0 = .ok (.aload_n 0, 1) := kq_42 byq_r (by decide +kernel)
theorem d_Mod_fire_1 : decode b_Mod_fire 1 = .ok (.iconst 0, 1) := kq_3 byq_r (by decide +kernel)
theorem d_Mod_fire_2 : decode b_Mod_fire 2 = .ok (.putfield 109, 3) := kq_181 byq_r (a := 0) (b := 109) (by decide +kernel)
theorem d_Mod_fire_5 : decode b_Mod_fire 5 = .ok (.iload_n 1, 1) := kq_27 byq_r (by decide +kernel)
theorem d_Mod_fire_6 : decode b_Mod_fire 6 = .ok (.iconst (-1), 1) := kq_2 byq_r (by decide +kernel)
theorem d_Mod_fire_7 : decode b_Mod_fire 7 = .ok (.if_icmp .eq 14, 3) := kq_159 byq_r (a := 0) (b := 14) (by decide +kernel)
theorem d_Mod_fire_10 : decode b_Mod_fire 10 = .ok (.aload_n 0, 1) := kq_42 byq_r (by decide +kernel)
theorem d_Mod_fire_11 : decode b_Mod_fire 11 = .ok (.iload_n 1, 1) := kq_27 byq_r (by decide +kernel)
theorem d_Mod_fire_12 : decode b_Mod_fire 12 = .ok (.invokevirtual 137, 3) := kq_182 byq_r (a := 0) (b := 137) (by decide +kernel)
theorem d_Mod_fire_15 : decode b_Mod_fire 15 = .ok (.ifCond .ne 6, 3) := kq_154 byq_r (a := 0) (b := 6) (by decide +kernel)
theorem d_Mod_fire_18 : decode b_Mod_fire 18 = .ok (.bipush (-2), 2) := kq_16 byq_r (b := 254) (by decide +kernel)
theorem d_Mod_fire_20 : decode b_Mod_fire 20 = .ok (.ireturn, 1) := kq_172 byq_r (by decide +kernel)
theorem d_Mod_fire_21 : decode b_Mod_fire 21 = .ok (.aload_n 0, 1) := kq_42 byq_r (by decide +kernel)
theorem d_Mod_fire_22 : decode b_Mod_fire 22 = .ok (.getfield 29, 3) := kq_180 byq_r (a := 0) (b := 29) (by decide +kernel)
theorem d_Mod_fire_25 : decode b_Mod_fire 25 = .ok (.istore_n 2, 1) := kq_61 byq_r (by decide +kernel)
theorem d_Mod_fire_26 : decode b_Mod_fire 26 = .ok (.aload_n 0, 1) := kq_42 byq_r (by decide +kernel)
theorem d_Mod_fire_27 : decode b_Mod_fire 27 = .ok (.iload_n 1, 1) := kq_27 byq_r (by decide +kernel)
theorem d_Mod_fire_28 : decode b_Mod_fire 28 = .ok (.putfield 29, 3) := kq_181 byq_r (a := 0) (b := 29) (by decide +kernel)
theorem d_Mod_fire_31 : decode b_Mod_fire 31 = .ok (.iload_n 2, 1) := kq_28 byq_r (by decide +kernel)
theorem d_Mod_fire_32 : decode b_Mod_fire 32 = .ok (.ireturn, 1) := kq_172 byq_r (by decide +kernel)
theorem d_Mod_fights1_0 : decode b_Mod_fights1 0 = .ok (.aload_n 0, 1) := kq_42 byq_r (by decide +kernel)
theorem d_Mod_fights1_1 : decode b_Mod_fights1 1 = .ok (.aload_n 0, 1) := kq_42 byq_r (by decide +kernel)
theorem d_Mod_fights1_2 : decode b_Mod_fights1 2 = .ok (.getfield 9, 3) := kq_180 byq_r (a := 0) (b := 9) (by decide +kernel)
theorem d_Mod_fights1_5 : decode b_Mod_fights1 5 = .ok (.iload_n 1, 1) := kq_27 byq_r (by decide +kernel)
theorem d_Mod_fights1_6 : decode b_Mod_fights1 6 = .ok (.iaload, 1) := kq_46 byq_r (by decide +kernel)
theorem d_Mod_fights1_7 : decode b_Mod_fights1 7 = .ok (.invokevirtual 365, 3) := kq_182 byq_r (a := 1) (b := 109) (by decide +kernel)
theorem d_Mod_fights1_10 : decode b_Mod_fights1 10 = .ok (.ldc_w 357, 3) := kq_19 byq_r (a := 1) (b := 101) (by decide +kernel)
theorem d_Mod_fights1_13 : decode b_Mod_fights1 13 = .ok (.istore_n 2, 1) := kq_61 byq_r (by decide +kernel)
theorem d_Mod_fights1_14 : decode b_Mod_fights1 14 = .ok (.iconst 0, 1) := kq_3 byq_r (by decide +kernel)
theorem d_Mod_fights1_15 : decode b_Mod_fights1 15 = .ok (.istore_n 3, 1) := kq_62 byq_r (by decide +kernel)
theorem d_Mod_fights1_16 : decode b_Mod_fights1 16 = .ok (.iload_n 3, 1) := kq_29 byq_r (by decide +kernel)
theorem d_Mod_fights1_17 : decode b_Mod_fights1 17 = .ok (.iconst 4, 1) := kq_7 byq_r (by decide +kernel)
theorem d_Mod_fights1_18 : decode b_Mod_fights1 18 = .ok (.if_icmp .ge 50, 3) := kq_162 byq_r (a := 0) (b := 50) (by decide +kernel)
theorem d_Mod_fights1_21 : decode b_Mod_fights1 21 = .ok (.aload_n 0, 1) := kq_42 byq_r (by decide +kernel)
theorem d_Mod_fights1_22 : decode b_Mod_fights1 22 = .ok (.aload_n 0, 1) := kq_42 byq_r (by decide +kernel)
theorem d_Mod_fights1_23 : decode b_Mod_fights1 23 = .ok (.getfield 29, 3) := kq_180 byq_r (a := 0) (b := 29) (by decide +kernel)
theorem d_Mod_fights1_26 : decode b_Mod_fights1 26 = .ok (.iload_n 3, 1) := kq_29 byq_r (by decide +kernel)
theorem d_Mod_fights1_27 : decode b_Mod_fights1 27 = .ok (.invokevirtual 150, 3) := kq_182 byq_r (a := 0) (b := 150) (by decide +kernel)
theorem d_Mod_fights1_30 : decode b_Mod_fights1 30 = .ok (.istore 4, 2) := kq_54 byq_r (by decide +kernel)
theorem d_Mod_fights1_32 : decode b_Mod_fights1 32 = .ok (.iload 4, 2) := kq_21 byq_r (by decide +kernel)
theorem d_Mod_fights1_34 : decode b_Mod_fights1 34 = .ok (.iconst (-1), 1) := kq_2 byq_r (by decide +kernel)
theorem d_Mod_fights1_35 : decode b_Mod_fights1 35 = .ok (.if_icmp .eq 27, 3) := kq_159 byq_r (a := 0) (b := 27) (by decide +kernel)
theorem d_Mod_fights1_38 : decode b_Mod_fights1 38 = .ok (.iload_n 2, 1) := kq_28 byq_r (by decide +kernel)
theorem d_Mod_fights1_39 : decode b_Mod_fights1 39 = .ok (.aload_n 0, 1) := kq_42 byq_r (by decide +kernel)
theorem d_Mod_fights1_40 : decode b_Mod_fights1 40 = .ok (.getfield 63, 3) := kq_180 byq_r (a := 0) (b := 63) (by decide +kernel)
theorem d_Mod_fights1_43 : decode b_Mod_fights1 43 = .ok (.aload_n 0, 1) := kq_42 byq_r (by decide +kernel)
theorem d_Mod_fights1_44 : decode b_Mod_fights1 44 = .ok (.getfield 9, 3) := kq_180 byq_r (a := 0) (b := 9) (by decide +kernel)
theorem d_Mod_fights1_47 : decode b_Mod_fights1 47 = .ok (.iload_n 1, 1) := kq_27 byq_r (by decide +kernel)
theorem d_Mod_fights1_48 : decode b_Mod_fights1 48 = .ok (.iaload, 1) := kq_46 byq_r (by decide +kernel)
theorem d_Mod_fights1_49 : decode b_Mod_fights1 49 = .ok (.invokestatic 143, 3) := kq_184 byq_r (a := 0) (b := 143) (by decide +kernel)
theorem d_Mod_fights1_52 : decode b_Mod_fights1 52 = .ok (.iload 4, 2) := kq_21 byq_r (by decide +kernel)
theorem d_Mod_fights1_54 : decode b_Mod_fights1 54 = .ok (.invokestatic 154, 3) := kq_184 byq_r (a := 0) (b := 154) (by decide +kernel)
theorem d_Mod_fights1_57 : decode b_Mod_fights1 57 = .ok (.iaload, 1) := kq_46 byq_r (by decide +kernel)
theorem d_Mod_fights1_58 : decode b_Mod_fights1 58 = .ok (.invokestatic 301, 3) := kq_184 byq_r (a := 1) (b := 45) (by decide +kernel)
theorem d_Mod_fights1_61 : decode b_Mod_fights1 61 = .ok (.istore_n 2, 1) := kq_61 byq_r (by decide +kernel)
theorem d_Mod_fights1_62 : decode b_Mod_fights1 62 = .ok (.iinc 3 1, 3) := kq_132 byq_r (b := 1) (by decide +kernel)
theorem d_Mod_fights1_65 : decode b_Mod_fights1 65 = .ok (.goto (-49), 3) := kq_167 byq_r (a := 255) (b := 207) (by decide +kernel)
theorem d_Mod_fights1_68 : decode b_Mod_fights1 68 = .ok (.iload_n 2, 1) := kq_28 byq_r (by decide +kernel)
theorem d_Mod_fights1_69 : decode b_Mod_fights1 69 = .ok (.ireturn, 1) := kq_172 byq_r (by decide +kernel)
theorem d_Mod_fights_0 : decode b_Mod_fights 0 = .ok (.aload_n 0, 1) := kq_42 byq_r (by decide +kernel)
theorem d_Mod_fights_1 : decode b_Mod_fights 1 = .ok (.iconst 0, 1) := kq_3 byq_r (by decide +kernel)
theorem d_Mod_fights_2 : decode b_Mod_fights 2 = .ok (.putfield 109, 3) := kq_181 byq_r (a := 0) (b := 109) (by decide +kernel)
theorem d_Mod_fights_5 : decode b_Mod_fights 5 = .ok (.iload_n 1, 1) := kq_27 byq_r (by decide +kernel)
theorem d_Mod_fights_6 : decode b_Mod_fights 6 = .ok (.iconst 0, 1) := kq_3 byq_r (by decide +kernel)
theorem d_Mod_fights_7 : decode b_Mod_fights 7 = .ok (.bipush 60, 2) := kq_16 byq_r (b := 60) (by decide +kernel)
theorem d_Mod_fights_9 : decode b_Mod_fights 9 = .ok (.invokestatic 119, 3) := kq_184 byq_r (a := 0) (b := 119) (by decide +kernel)
theorem d_Mod_fights_12 : decode b_Mod_fights 12 = .ok (.ifCond .ne 5, 3) := kq_154 byq_r (a := 0) (b := 5) (by decide +kernel)
theorem d_Mod_fights_15 : decode b_Mod_fights 15 = .ok (.iconst (-1), 1) := kq_2 byq_r (by decide +kernel)
theorem d_Mod_fights_16 : decode b_Mod_fights 16 = .ok (.ireturn, 1) := kq_172 byq_r (by decide +kernel)
theorem d_Mod_fights_17 : decode b_Mod_fights 17 = .ok (.aload_n 0, 1) := kq_42 byq_r (by decide +kernel)
theorem d_Mod_fights_18 : decode b_Mod_fights 18 = .ok (.getfield 29, 3) := kq_180 byq_r (a := 0) (b := 29) (by decide +kernel)
theorem d_Mod_fights_21 : decode b_Mod_fights 21 = .ok (.iconst (-1), 1) := kq_2 byq_r (by decide +kernel)
theorem d_Mod_fights_22 : decode b_Mod_fights 22 = .ok (.if_icmp .ne 6, 3) := kq_160 byq_r (a := 0) (b := 6) (by decide +kernel)
theorem d_Mod_fights_25 : decode b_Mod_fights 25 = .ok (.bipush (-2), 2) := kq_16 byq_r (b := 254) (by decide +kernel)
theorem d_Mod_fights_27 : decode b_Mod_fights 27 = .ok (.ireturn, 1) := kq_172 byq_r (by decide +kernel)
theorem d_Mod_fights_28 : decode b_Mod_fights 28 = .ok (.iconst 0, 1) := kq_3 byq_r (by decide +kernel)
theorem d_Mod_fights_29 : decode b_Mod_fights 29 = .ok (.istore_n 2, 1) := kq_61 byq_r (by decide +kernel)
theorem d_Mod_fights_30 : decode b_Mod_fights 30 = .ok (.iconst 0, 1) := kq_3 byq_r (by decide +kernel)
theorem d_Mod_fights_31 : decode b_Mod_fights 31 = .ok (.istore_n 3, 1) := kq_62 byq_r (by decide +kernel)
theorem d_Mod_fights_32 : decode b_Mod_fights 32 = .ok (.iload_n 3, 1) := kq_29 byq_r (by decide +kernel)
theorem d_Mod_fights_33 : decode b_Mod_fights 33 = .ok (.aload_n 0, 1) := kq_42 byq_r (by decide +kernel)
theorem d_Mod_fights_34 : decode b_Mod_fights 34 = .ok (.getfield 123, 3) := kq_180 byq_r (a := 0) (b := 123) (by decide +kernel)
theorem d_Mod_fights_37 : decode b_Mod_fights 37 = .ok (.if_icmp .ge 28, 3) := kq_162 byq_r (a := 0) (b := 28) (by decide +kernel)
theorem d_Mod_fights_40 : decode b_Mod_fights 40 = .ok (.iload_n 2, 1) := kq_28 byq_r (by decide +kernel)
theorem d_Mod_fights_41 : decode b_Mod_fights 41 = .ok (.aload_n 0, 1) := kq_42 byq_r (by decide +kernel)
theorem d_Mod_fights_42 : decode b_Mod_fights 42 = .ok (.iload_n 3, 1) := kq_29 byq_r (by decide +kernel)
theorem d_Mod_fights_43 : decode b_Mod_fights 43 = .ok (.invokevirtual 397, 3) := kq_182 byq_r (a := 1) (b := 141) (by decide +kernel)
theorem d_Mod_fights_46 : decode b_Mod_fights 46 = .ok (.iload_n 1, 1) := kq_27 byq_r (by decide +kernel)
theorem d_Mod_fights_47 : decode b_Mod_fights 47 = .ok (.if_icmp .gt 9, 3) := kq_163 byq_r (a := 0) (b := 9) (by decide +kernel)
theorem d_Mod_fights_50 : decode b_Mod_fights 50 = .ok (.iconst 1, 1) := kq_4 byq_r (by decide +kernel)
theorem d_Mod_fights_51 : decode b_Mod_fights 51 = .ok (.iload_n 3, 1) := kq_29 byq_r (by decide +kernel)
theorem d_Mod_fights_52 : decode b_Mod_fights 52 = .ok (.ishl, 1) := kq_120 byq_r (by decide +kernel)
theorem d_Mod_fights_53 : decode b_Mod_fights 53 = .ok (.goto 4, 3) := kq_167 byq_r (a := 0) (b := 4) (by decide +kernel)
theorem d_Mod_fights_56 : decode b_Mod_fights 56 = .ok (.iconst 0, 1) := kq_3 byq_r (by decide +kernel)
theorem d_Mod_fights_57 : decode b_Mod_fights 57 = .ok (.ior, 1) := kq_128 byq_r (by decide +kernel)
theorem d_Mod_fights_58 : decode b_Mod_fights 58 = .ok (.istore_n 2, 1) := kq_61 byq_r (by decide +kernel)
theorem d_Mod_fights_59 : decode b_Mod_fights 59 = .ok (.iinc 3 1, 3) := kq_132 byq_r (b := 1) (by decide +kernel)
theorem d_Mod_fights_62 : decode b_Mod_fights 62 = .ok (.goto (-30), 3) := kq_167 byq_r (a := 255) (b := 226) (by decide +kernel)
theorem d_Mod_fights_65 : decode b_Mod_fights 65 = .ok (.aload_n 0, 1) := kq_42 byq_r (by decide +kernel)
theorem d_Mod_fights_66 : decode b_Mod_fights 66 = .ok (.iconst 0, 1) := kq_3 byq_r (by decide +kernel)
theorem d_Mod_fights_67 : decode b_Mod_fights 67 = .ok (.putfield 112, 3) := kq_181 byq_r (a := 0) (b := 112) (by decide +kernel)
theorem d_Mod_fights_70 : decode b_Mod_fights 70 = .ok (.aload_n 0, 1) := kq_42 byq_r (by decide +kernel)
theorem d_Mod_fights_71 : decode b_Mod_fights 71 = .ok (.iload_n 2, 1) := kq_28 byq_r (by decide +kernel)
theorem d_Mod_fights_72 : decode b_Mod_fights 72 = .ok (.aload_n 0, 1) := kq_42 byq_r (by decide +kernel)
theorem d_Mod_fights_73 : decode b_Mod_fights 73 = .ok (.getfield 130, 3) := kq_180 byq_r (a := 0) (b := 130) (by decide +kernel)
theorem d_Mod_fights_76 : decode b_Mod_fights 76 = .ok (.iconst (-1), 1) := kq_2 byq_r (by decide +kernel)
theorem d_Mod_fights_77 : decode b_Mod_fights 77 = .ok (.ixor, 1) := kq_130 byq_r (by decide +kernel)
theorem d_Mod_fights_78 : decode b_Mod_fights 78 = .ok (.iand, 1) := kq_126 byq_r (by decide +kernel)
theorem d_Mod_fights_79 : decode b_Mod_fights 79 = .ok (.invokestatic 310, 3) := kq_184 byq_r (a := 1) (b := 54) (by decide +kernel)
theorem d_Mod_fights_82 : decode b_Mod_fights 82 = .ok (.invokevirtual 342, 3) := kq_182 byq_r (a := 1) (b := 86) (by decide +kernel)
theorem d_Mod_fights_85 : decode b_Mod_fights 85 = .ok (.aload_n 0, 1) := kq_42 byq_r (by decide +kernel)
theorem d_Mod_fights_86 : decode b_Mod_fights 86 = .ok (.iload_n 2, 1) := kq_28 byq_r (by decide +kernel)
theorem d_Mod_fights_87 : decode b_Mod_fights 87 = .ok (.aload_n 0, 1) := kq_42 byq_r (by decide +kernel)
theorem d_Mod_fights_88 : decode b_Mod_fights 88 = .ok (.getfield 130, 3) := kq_180 byq_r (a := 0) (b := 130) (by decide +kernel)
theorem d_Mod_fights_91 : decode b_Mod_fights 91 = .ok (.iand, 1) := kq_126 byq_r (by decide +kernel)
theorem d_Mod_fights_92 : decode b_Mod_fights 92 = .ok (.invokestatic 310, 3) := kq_184 byq_r (a := 1) (b := 54) (by decide +kernel)
theorem d_Mod_fights_95 : decode b_Mod_fights 95 = .ok (.invokevirtual 342, 3) := kq_182 byq_r (a := 1) (b := 86) (by decide +kernel)
theorem d_Mod_fights_98 : decode b_Mod_fights 98 = .ok (.iload_n 2, 1) := kq_28 byq_r (by decide +kernel)
theorem d_Mod_fights_99 : decode b_Mod_fights 99 = .ok (.ireturn, 1) := kq_172 byq_r (by decide +kernel)
theorem d_Mod_saved_0 : decode b_Mod_saved 0 = .ok (.aload_n 0, 1) := kq_42 byq_r (by decide +kernel)
theorem d_Mod_saved_1 : decode b_Mod_saved 1 = .ok (.iconst 0, 1) := kq_3 byq_r (by decide +kernel)
theorem d_Mod_saved_2 : decode b_Mod_saved 2 = .ok (.putfield 109, 3) := kq_181 byq_r (a := 0) (b := 109) (by decide +kernel)
theorem d_Mod_saved_5 : decode b_Mod_saved 5 = .ok (.aload_n 0, 1) := kq_42 byq_r (by decide +kernel)
theorem d_Mod_saved_6 : decode b_Mod_saved 6 = .ok (.getfield 29, 3) := kq_180 byq_r (a := 0) (b := 29) (by decide +kernel)
theorem d_Mod_saved_9 : decode b_Mod_saved 9 = .ok (.iconst (-1), 1) := kq_2 byq_r (by decide +kernel)
theorem d_Mod_saved_10 : decode b_Mod_saved 10 = .ok (.if_icmp .ne 6, 3) := kq_160 byq_r (a := 0) (b := 6) (by decide +kernel)
theorem d_Mod_saved_13 : decode b_Mod_saved 13 = .ok (.bipush (-2), 2) := kq_16 byq_r (b := 254) (by decide +kernel)
theorem d_Mod_saved_15 : decode b_Mod_saved 15 = .ok (.ireturn, 1) := kq_172 byq_r (by decide +kernel)
theorem d_Mod_saved_16 : decode b_Mod_saved 16 = .ok (.iconst (-1), 1) := kq_2 byq_r (by decide +kernel)
theorem d_Mod_saved_17 : decode b_Mod_saved 17 = .ok (.istore_n 1, 1) := kq_60 byq_r (by decide +kernel)
theorem d_Mod_saved_18 : decode b_Mod_saved 18 = .ok (.iconst (-1), 1) := kq_2 byq_r (by decide +kernel)
theorem d_Mod_saved_19 : decode b_Mod_saved 19 = .ok (.istore_n 2, 1) := kq_61 byq_r (by decide +kernel)
theorem d_Mod_saved_20 : decode b_Mod_saved 20 = .ok (.ldc_w 357, 3) := kq_19 byq_r (a := 1) (b := 101) (by decide +kernel)
theorem d_Mod_saved_23 : decode b_Mod_saved 23 = .ok (.istore_n 3, 1) := kq_62 byq_r (by decide +kernel)
theorem d_Mod_saved_24 : decode b_Mod_saved 24 = .ok (.ldc_w 357, 3) := kq_19 byq_r (a := 1) (b := 101) (by decide +kernel)
theorem d_Mod_saved_27 : decode b_Mod_saved 27 = .ok (.istore 4, 2) := kq_54 byq_r (by decide +kernel)
theorem d_Mod_saved_29 : decode b_Mod_saved 29 = .ok (.iconst 0, 1) := kq_3 byq_r (by decide +kernel)
theorem d_Mod_saved_30 : decode b_Mod_saved 30 = .ok (.istore 5, 2) := kq_54 byq_r (by decide +kernel)
theorem d_Mod_saved_32 : decode b_Mod_saved 32 = .ok (.iload 5, 2) := kq_21 byq_r (by decide +kernel)
theorem d_Mod_saved_34 : decode b_Mod_saved 34 = .ok (.aload_n 0, 1) := kq_42 byq_r (by decide +kernel)
theorem d_Mod_saved_35 : decode b_Mod_saved 35 = .ok (.getfield 123, 3) := kq_180 byq_r (a := 0) (b := 123) (by decide +kernel)
theorem d_Mod_saved_38 : decode b_Mod_saved 38 = .ok (.if_icmp .ge 67, 3) := kq_162 byq_r (a := 0) (b := 67) (by decide +kernel)
theorem d_Mod_saved_41 : decode b_Mod_saved 41 = .ok (.aload_n 0, 1) := kq_42 byq_r (by decide +kernel)
theorem d_Mod_saved_42 : decode b_Mod_saved 42 = .ok (.iload 5, 2) := kq_21 byq_r (by decide +kernel)
theorem d_Mod_saved_44 : decode b_Mod_saved 44 = .ok (.invokevirtual 397, 3) := kq_182 byq_r (a := 1) (b := 141) (by decide +kernel)
theorem d_Mod_saved_47 : decode b_Mod_saved 47 = .ok (.istore 6, 2) := kq_54 byq_r (by decide +kernel)
theorem d_Mod_saved_49 : decode b_Mod_saved 49 = .ok (.aload_n 0, 1) := kq_42 byq_r (by decide +kernel)
theorem d_Mod_saved_50 : decode b_Mod_saved 50 = .ok (.getfield 130, 3) := kq_180 byq_r (a := 0) (b := 130) (by decide +kernel)
theorem d_Mod_saved_53 : decode b_Mod_saved 53 = .ok (.iload 5, 2) := kq_21 byq_r (by decide +kernel)
theorem d_Mod_saved_55 : decode b_Mod_saved 55 = .ok (.invokestatic 133, 3) := kq_184 byq_r (a := 0) (b := 133) (by decide +kernel)
theorem d_Mod_saved_58 : decode b_Mod_saved 58 = .ok (.ifCond .eq 17, 3) := kq_153 byq_r (a := 0) (b := 17) (by decide +kernel)
theorem d_Mod_saved_61 : decode b_Mod_saved 61 = .ok (.iload 6, 2) := kq_21 byq_r (by decide +kernel)
theorem d_Mod_saved_63 : decode b_Mod_saved 63 = .ok (.iload 4, 2) := kq_21 byq_r (by decide +kernel)
theorem d_Mod_saved_65 : decode b_Mod_saved 65 = .ok (.if_icmp .ge 10, 3) := kq_162 byq_r (a := 0) (b := 10) (by decide +kernel)
theorem d_Mod_saved_68 : decode b_Mod_saved 68 = .ok (.iload 6, 2) := kq_21 byq_r (by decide +kernel)
theorem d_Mod_saved_70 : decode b_Mod_saved 70 = .ok (.istore 4, 2) := kq_54 byq_r (by decide +kernel)
theorem d_Mod_saved_72 : decode b_Mod_saved 72 = .ok (.iload 5, 2) := kq_21 byq_r (by decide +kernel)
theorem d_Mod_saved_74 : decode b_Mod_saved 74 = .ok (.istore_n 2, 1) := kq_61 byq_r (by decide +kernel)
theorem d_Mod_saved_75 : decode b_Mod_saved 75 = .ok (.aload_n 0, 1) := kq_42 byq_r (by decide +kernel)
theorem d_Mod_saved_76 : decode b_Mod_saved 76 = .ok (.getfield 130, 3) := kq_180 byq_r (a := 0) (b := 130) (by decide +kernel)
theorem d_Mod_saved_79 : decode b_Mod_saved 79 = .ok (.iload 5, 2) := kq_21 byq_r (by decide +kernel)
theorem d_Mod_saved_81 : decode b_Mod_saved 81 = .ok (.invokestatic 133, 3) := kq_184 byq_r (a := 0) (b := 133) (by decide +kernel)
theorem d_Mod_saved_84 : decode b_Mod_saved 84 = .ok (.ifCond .ne 15, 3) := kq_154 byq_r (a := 0) (b := 15) (by decide +kernel)
theorem d_Mod_saved_87 : decode b_Mod_saved 87 = .ok (.iload 6, 2) := kq_21 byq_r (by decide +kernel)
theorem d_Mod_saved_89 : decode b_Mod_saved 89 = .ok (.iload_n 3, 1) := kq_29 byq_r (by decide +kernel)
theorem d_Mod_saved_90 : decode b_Mod_saved 90 = .ok (.if_icmp .ge 9, 3) := kq_162 byq_r (a := 0) (b := 9) (by decide +kernel)
theorem d_Mod_saved_93 : decode b_Mod_saved 93 = .ok (.iload 6, 2) := kq_21 byq_r (by decide +kernel)
theorem d_Mod_saved_95 : decode b_Mod_saved 95 = .ok (.istore_n 3, 1) := kq_62 byq_r (by decide +kernel)
theorem d_Mod_saved_96 : decode b_Mod_saved 96 = .ok (.iload 5, 2) := kq_21 byq_r (by decide +kernel)
theorem d_Mod_saved_98 : decode b_Mod_saved 98 = .ok (.istore_n 1, 1) := kq_60 byq_r (by decide +kernel)
theorem d_Mod_saved_99 : decode b_Mod_saved 99 = .ok (.iinc 5 1, 3) := kq_132 byq_r (b := 1) (by decide +kernel)
theorem d_Mod_saved_102 : decode b_Mod_saved 102 = .ok (.goto (-70), 3) := kq_167 byq_r (a := 255) (b := 186) (by decide +kernel)
theorem d_Mod_saved_105 : decode b_Mod_saved 105 = .ok (.iload_n 3, 1) := kq_29 byq_r (by decide +kernel)
theorem d_Mod_saved_106 : decode b_Mod_saved 106 = .ok (.iload 4, 2) := kq_21 byq_r (by decide +kernel)
theorem d_Mod_saved_108 : decode b_Mod_saved 108 = .ok (.invokestatic 304, 3) := kq_184 byq_r (a := 1) (b := 48) (by decide +kernel)
theorem d_Mod_saved_111 : decode b_Mod_saved 111 = .ok (.bipush 60, 2) := kq_16 byq_r (b := 60) (by decide +kernel)
theorem d_Mod_saved_113 : decode b_Mod_saved 113 = .ok (.if_icmp .le 6, 3) := kq_164 byq_r (a := 0) (b := 6) (by decide +kernel)
theorem d_Mod_saved_116 : decode b_Mod_saved 116 = .ok (.bipush (-2), 2) := kq_16 byq_r (b := 254) (by decide +kernel)
theorem d_Mod_saved_118 : decode b_Mod_saved 118 = .ok (.ireturn, 1) := kq_172 byq_r (by decide +kernel)
theorem d_Mod_saved_119 : decode b_Mod_saved 119 = .ok (.aload_n 0, 1) := kq_42 byq_r (by decide +kernel)
theorem d_Mod_saved_120 : decode b_Mod_saved 120 = .ok (.iconst 0, 1) := kq_3 byq_r (by decide +kernel)
theorem d_Mod_saved_121 : decode b_Mod_saved 121 = .ok (.putfield 112, 3) := kq_181 byq_r (a := 0) (b := 112) (by decide +kernel)
theorem d_Mod_saved_124 : decode b_Mod_saved 124 = .ok (.aload_n 0, 1) := kq_42 byq_r (by decide +kernel)
theorem d_Mod_saved_125 : decode b_Mod_saved 125 = .ok (.iload_n 1, 1) := kq_27 byq_r (by decide +kernel)
theorem d_Mod_saved_126 : decode b_Mod_saved 126 = .ok (.invokevirtual 342, 3) := kq_182 byq_r (a := 1) (b := 86) (by decide +kernel)
theorem d_Mod_saved_129 : decode b_Mod_saved 129 = .ok (.aload_n 0, 1) := kq_42 byq_r (by decide +kernel)
theorem d_Mod_saved_130 : decode b_Mod_saved 130 = .ok (.iload_n 2, 1) := kq_28 byq_r (by decide +kernel)
theorem d_Mod_saved_131 : decode b_Mod_saved 131 = .ok (.invokevirtual 342, 3) := kq_182 byq_r (a := 1) (b := 86) (by decide +kernel)
theorem d_Mod_saved_134 : decode b_Mod_saved 134 = .ok (.iload_n 3, 1) := kq_29 byq_r (by decide +kernel)
theorem d_Mod_saved_135 : decode b_Mod_saved 135 = .ok (.iload 4, 2) := kq_21 byq_r (by decide +kernel)
theorem d_Mod_saved_137 : decode b_Mod_saved 137 = .ok (.invokestatic 304, 3) := kq_184 byq_r (a := 1) (b := 48) (by decide +kernel)
theorem d_Mod_saved_140 : decode b_Mod_saved 140 = .ok (.ireturn, 1) := kq_172 byq_r (by decide +kernel)
theorem d_Mod_areNear_0 : decode b_Mod_areNear 0 = .ok (.iload_n 1, 1) := kq_27 byq_r (by decide +kernel)
theorem d_Mod_areNear_1 : decode b_Mod_areNear 1 = .ok (.iload_n 2, 1) := kq_28 byq_r (by decide +kernel)
theorem d_Mod_areNear_2 : decode b_Mod_areNear 2 = .ok (.if_icmp .ne 5, 3) := kq_160 byq_r (a := 0) (b := 5) (by decide +kernel)
theorem d_Mod_areNear_5 : decode b_Mod_areNear 5 = .ok (.iconst 1, 1) := kq_4 byq_r (by decide +kernel)
theorem d_Mod_areNear_6 : decode b_Mod_areNear 6 = .ok (.ireturn, 1) := kq_172 byq_r (by decide +kernel)
theorem d_Mod_areNear_7 : decode b_Mod_areNear 7 = .ok (.iconst 0, 1) := kq_3 byq_r (by decide +kernel)
theorem d_Mod_areNear_8 : decode b_Mod_areNear 8 = .ok (.istore_n 3, 1) := kq_62 byq_r (by decide +kernel)
theorem d_Mod_areNear_9 : decode b_Mod_areNear 9 = .ok (.iload_n 3, 1) := kq_29 byq_r (by decide +kernel)
theorem d_Mod_areNear_10 : decode b_Mod_areNear 10 = .ok (.iconst 4, 1) := kq_7 byq_r (by decide +kernel)
theorem d_Mod_areNear_11 : decode b_Mod_areNear 11 = .ok (.if_icmp .ge 21, 3) := kq_162 byq_r (a := 0) (b := 21) (by decide +kernel)
theorem d_Mod_areNear_14 : decode b_Mod_areNear 14 = .ok (.aload_n 0, 1) := kq_42 byq_r (by decide +kernel)
theorem d_Mod_areNear_15 : decode b_Mod_areNear 15 = .ok (.iload_n 1, 1) := kq_27 byq_r (by decide +kernel)
theorem d_Mod_areNear_16 : decode b_Mod_areNear 16 = .ok (.iload_n 3, 1) := kq_29 byq_r (by decide +kernel)
theorem d_Mod_areNear_17 : decode b_Mod_areNear 17 = .ok (.invokevirtual 150, 3) := kq_182 byq_r (a := 0) (b := 150) (by decide +kernel)
theorem d_Mod_areNear_20 : decode b_Mod_areNear 20 = .ok (.iload_n 2, 1) := kq_28 byq_r (by decide +kernel)
theorem d_Mod_areNear_21 : decode b_Mod_areNear 21 = .ok (.if_icmp .ne 5, 3) := kq_160 byq_r (a := 0) (b := 5) (by decide +kernel)
theorem d_Mod_areNear_24 : decode b_Mod_areNear 24 = .ok (.iconst 1, 1) := kq_4 byq_r (by decide +kernel)
theorem d_Mod_areNear_25 : decode b_Mod_areNear 25 = .ok (.ireturn, 1) := kq_172 byq_r (by decide +kernel)
theorem d_Mod_areNear_26 : decode b_Mod_areNear 26 = .ok (.iinc 3 1, 3) := kq_132 byq_r (b := 1) (by decide +kernel)
theorem d_Mod_areNear_29 : decode b_Mod_areNear 29 = .ok (.goto (-20), 3) := kq_167 byq_r (a := 255) (b := 236) (by decide +kernel)
theorem d_Mod_areNear_32 : decode b_Mod_areNear 32 = .ok (.iconst 0, 1) := kq_3 byq_r (by decide +kernel)
theorem d_Mod_areNear_33 : decode b_Mod_areNear 33 = .ok (.ireturn, 1) := kq_172 byq_r (by decide +kernel)
theorem d_Mod_plain_0 : decode b_Mod_plain 0 = .ok (.iload_n 3, 1) := kq_29 byq_r (by decide +kernel)
theorem d_Mod_plain_1 : decode b_Mod_plain 1 = .ok (.iconst 4, 1) := kq_7 byq_r (by decide +kernel)
theorem d_Mod_plain_2 : decode b_Mod_plain 2 = .ok (.if_icmp .ne 5, 3) := kq_160 byq_r (a := 0) (b := 5) (by decide +kernel)
theorem d_Mod_plain_5 : decode b_Mod_plain 5 = .ok (.iload_n 2, 1) := kq_28 byq_r (by decide +kernel)
theorem d_Mod_plain_6 : decode b_Mod_plain 6 = .ok (.ireturn, 1) := kq_172 byq_r (by decide +kernel)
theorem d_Mod_plain_7 : decode b_Mod_plain 7 = .ok (.aload_n 0, 1) := kq_42 byq_r (by decide +kernel)
theorem d_Mod_plain_8 : decode b_Mod_plain 8 = .ok (.iload_n 2, 1) := kq_28 byq_r (by decide +kernel)
theorem d_Mod_plain_9 : decode b_Mod_plain 9 = .ok (.iload_n 3, 1) := kq_29 byq_r (by decide +kernel)
theorem d_Mod_plain_10 : decode b_Mod_plain 10 = .ok (.invokevirtual 150, 3) := kq_182 byq_r (a := 0) (b := 150) (by decide +kernel)
theorem d_Mod_plain_13 : decode b_Mod_plain 13 = .ok (.istore 4, 2) := kq_54 byq_r (by decide +kernel)
theorem d_Mod_plain_15 : decode b_Mod_plain 15 = .ok (.iload 4, 2) := kq_21 byq_r (by decide +kernel)
theorem d_Mod_plain_17 : decode b_Mod_plain 17 = .ok (.iconst (-1), 1) := kq_2 byq_r (by decide +kernel)
theorem d_Mod_plain_18 : decode b_Mod_plain 18 = .ok (.if_icmp .eq 18, 3) := kq_159 byq_r (a := 0) (b := 18) (by decide +kernel)
theorem d_Mod_plain_21 : decode b_Mod_plain 21 = .ok (.aload_n 0, 1) := kq_42 byq_r (by decide +kernel)
theorem d_Mod_plain_22 : decode b_Mod_plain 22 = .ok (.iload_n 1, 1) := kq_27 byq_r (by decide +kernel)
theorem d_Mod_plain_23 : decode b_Mod_plain 23 = .ok (.iload 4, 2) := kq_21 byq_r (by decide +kernel)
theorem d_Mod_plain_25 : decode b_Mod_plain 25 = .ok (.invokevirtual 140, 3) := kq_182 byq_r (a := 0) (b := 140) (by decide +kernel)
theorem d_Mod_plain_28 : decode b_Mod_plain 28 = .ok (.ifCond .eq 8, 3) := kq_153 byq_r (a := 0) (b := 8) (by decide +kernel)
theorem d_Mod_plain_31 : decode b_Mod_plain 31 = .ok (.iload 4, 2) := kq_21 byq_r (by decide +kernel)
theorem d_Mod_plain_33 : decode b_Mod_plain 33 = .ok (.goto 4, 3) := kq_167 byq_r (a := 0) (b := 4) (by decide +kernel)
theorem d_Mod_plain_36 : decode b_Mod_plain 36 = .ok (.iconst (-1), 1) := kq_2 byq_r (by decide +kernel)
theorem d_Mod_plain_37 : decode b_Mod_plain 37 = .ok (.ireturn, 1) := kq_172 byq_r (by decide +kernel)
theorem d_Mod_carryTo_0 : decode b_Mod_carryTo 0 = .ok (.aload_n 0, 1) := kq_42 byq_r (by decide +kernel)
theorem d_Mod_carryTo_1 : decode b_Mod_carryTo 1 = .ok (.iconst 0, 1) := kq_3 byq_r (by decide +kernel)
theorem d_Mod_carryTo_2 : decode b_Mod_carryTo 2 = .ok (.iload_n 1, 1) := kq_27 byq_r (by decide +kernel)
theorem d_Mod_carryTo_3 : decode b_Mod_carryTo 3 = .ok (.iload_n 3, 1) := kq_29 byq_r (by decide +kernel)
theorem d_Mod_carryTo_4 : decode b_Mod_carryTo 4 = .ok (.bipush 10, 2) := kq_16 byq_r (b := 10) (by decide +kernel)
theorem d_Mod_carryTo_6 : decode b_Mod_carryTo 6 = .ok (.idiv, 1) := kq_108 byq_r (by decide +kernel)
theorem d_Mod_carryTo_7 : decode b_Mod_carryTo 7 = .ok (.invokevirtual 400, 3) := kq_182 byq_r (a := 1) (b := 144) (by decide +kernel)
theorem d_Mod_carryTo_10 : decode b_Mod_carryTo 10 = .ok (.istore 4, 2) := kq_54 byq_r (by decide +kernel)
theorem d_Mod_carryTo_12 : decode b_Mod_carryTo 12 = .ok (.aload_n 0, 1) := kq_42 byq_r (by decide +kernel)
theorem d_Mod_carryTo_13 : decode b_Mod_carryTo 13 = .ok (.iconst 1, 1) := kq_4 byq_r (by decide +kernel)
theorem d_Mod_carryTo_14 : decode b_Mod_carryTo 14 = .ok (.iload_n 2, 1) := kq_28 byq_r (by decide +kernel)
theorem d_Mod_carryTo_15 : decode b_Mod_carryTo 15 = .ok (.iload_n 3, 1) := kq_29 byq_r (by decide +kernel)
theorem d_Mod_carryTo_16 : decode b_Mod_carryTo 16 = .ok (.bipush 10, 2) := kq_16 byq_r (b := 10) (by decide +kernel)
theorem d_Mod_carryTo_18 : decode b_Mod_carryTo 18 = .ok (.irem, 1) := kq_112 byq_r (by decide +kernel)
theorem d_Mod_carryTo_19 : decode b_Mod_carryTo 19 = .ok (.invokevirtual 400, 3) := kq_182 byq_r (a := 1) (b := 144) (by decide +kernel)
theorem d_Mod_carryTo_22 : decode b_Mod_carryTo 22 = .ok (.istore 5, 2) := kq_54 byq_r (by decide +kernel)
theorem d_Mod_carryTo_24 : decode b_Mod_carryTo 24 = .ok (.iload 4, 2) := kq_21 byq_r (by decide +kernel)
theorem d_Mod_carryTo_26 : decode b_Mod_carryTo 26 = .ok (.iconst (-1), 1) := kq_2 byq_r (by decide +kernel)
theorem d_Mod_carryTo_27 : decode b_Mod_carryTo 27 = .ok (.if_icmp .eq 20, 3) := kq_159 byq_r (a := 0) (b := 20) (by decide +kernel)
theorem d_Mod_carryTo_30 : decode b_Mod_carryTo 30 = .ok (.iload 5, 2) := kq_21 byq_r (by decide +kernel)
theorem d_Mod_carryTo_32 : decode b_Mod_carryTo 32 = .ok (.iconst (-1), 1) := kq_2 byq_r (by decide +kernel)
theorem d_Mod_carryTo_33 : decode b_Mod_carryTo 33 = .ok (.if_icmp .eq 14, 3) := kq_159 byq_r (a := 0) (b := 14) (by decide +kernel)
theorem d_Mod_carryTo_36 : decode b_Mod_carryTo 36 = .ok (.aload_n 0, 1) := kq_42 byq_r (by decide +kernel)
theorem d_Mod_carryTo_37 : decode b_Mod_carryTo 37 = .ok (.iload 4, 2) := kq_21 byq_r (by decide +kernel)
theorem d_Mod_carryTo_39 : decode b_Mod_carryTo 39 = .ok (.iload 5, 2) := kq_21 byq_r (by decide +kernel)
theorem d_Mod_carryTo_41 : decode b_Mod_carryTo 41 = .ok (.invokevirtual 404, 3) := kq_182 byq_r (a := 1) (b := 148) (by decide +kernel)
theorem d_Mod_carryTo_44 : decode b_Mod_carryTo 44 = .ok (.ifCond .ne 7, 3) := kq_154 byq_r (a := 0) (b := 7) (by decide +kernel)
theorem d_Mod_carryTo_47 : decode b_Mod_carryTo 47 = .ok (.iconst (-1), 1) := kq_2 byq_r (by decide +kernel)
theorem d_Mod_carryTo_48 : decode b_Mod_carryTo 48 = .ok (.goto 11, 3) := kq_167 byq_r (a := 0) (b := 11) (by decide +kernel)
theorem d_Mod_carryTo_51 : decode b_Mod_carryTo 51 = .ok (.bipush 36, 2) := kq_16 byq_r (b := 36) (by decide +kernel)
theorem d_Mod_carryTo_53 : decode b_Mod_carryTo 53 = .ok (.iload 4, 2) := kq_21 byq_r (by decide +kernel)
theorem d_Mod_carryTo_55 : decode b_Mod_carryTo 55 = .ok (.imul, 1) := kq_104 byq_r (by decide +kernel)
theorem d_Mod_carryTo_56 : decode b_Mod_carryTo 56 = .ok (.iload 5, 2) := kq_21 byq_r (by decide +kernel)
theorem d_Mod_carryTo_58 : decode b_Mod_carryTo 58 = .ok (.iadd, 1) := kq_96 byq_r (by decide +kernel)
theorem d_Mod_carryTo_59 : decode b_Mod_carryTo 59 = .ok (.ireturn, 1) := kq_172 byq_r (by decide +kernel)
def f_Mod_tryst (v1 : Int32) (v2 : Int32) (M : Mem) : Option (Int32 × Mem) :=
  mem_ (s_i M 162 13 (0 : Int32)) fun M1 =>
  Option.bind (f_Mod_areManWoman v1 v2 M1) fun x2 =>
  if x2 = 0 then
  some ((-1 : Int32), M1)
  else
  Option.bind (f_Mod_findTryst v1 v2 M1) fun x3 =>
  if x3.1 = (1000000 : Int32) then
  some ((-2 : Int32), x3.2)
  else
  mem_ (s_i x3.2 162 12 (0 : Int32)) fun M4 =>
  Option.bind (f_Mod_put x3.1 M4) fun x5 =>
  some ((x5.1 162 42), x5)
theorem c_Mod_tryst (l : Launch) (G : Gw)  (v1 : Int32) (v2 : Int32) (M : Mem) (x : Int32 × Mem) (h : f_Mod_tryst v1 v2 M = some x) (d : Nat) (hD : 8 ≤ d) : Ci l G y_Mod_tryst b_Mod_tryst 4 (some .int) d [.ref (G.2.2 + 162), .int v1, .int v2] M (fun r9 M9 => r9 = x.1 ∧ M9 = x.2) := by
  refine Ci_of (by decide) (Nat.le_of_ble_eq_true rfl) (fun E hE X => ?_)
  subst hE
  have kr : ∀ x9 : Int32 × Mem, x = x9 → (fun r9 M9 => r9 = x.1 ∧ M9 = x.2) x9.1 x9.2 := fun x9 e9 => by subst e9; exact ⟨rfl, rfl⟩
  unfold f_Mod_tryst at h
  refine V_aload_n (n := 0) X d_Mod_tryst_0 rfl rfl rfl ?_
  refine V_iconst (v := 0) X d_Mod_tryst_1 (by decide) rfl ?_
  obtain ⟨M1, eM1, h⟩ := memS h
  refine V_putI X fp_Mod_109 kd_162 rfl d_Mod_tryst_2 rfl ?_
  rw [← eM1]
  refine V_aload_n (n := 0) X d_Mod_tryst_5 rfl rfl rfl ?_
  refine V_iload_n (n := 1) X d_Mod_tryst_6 rfl rfl rfl ?_
  refine V_iload_n (n := 2) X d_Mod_tryst_7 rfl rfl rfl ?_
  obtain ⟨x2, hx2, h⟩ := ob_s h
  refine V_ci (As := [.int v1, .int v2]) X (Z0 E) ml_Mod_387 yq_Mod_areManWoman (c_Mod_areManWoman E.2.1 G v1 v2 M1 x2 hx2 _ (Nat.le_refl _)) kd_162 rfl rfl (by omega) rfl (Nat.le_of_ble_eq_true rfl) d_Mod_tryst_8 rfl (fun r9 M9 hq => ?_)
  rw [hq.1, hq.2]
  refine V_if_ne (tgt := 16) X d_Mod_tryst_11 (by decide) rfl (fun c7 => ?_) (fun c7 => ?_)
  · rw [if_neg c7] at h
    refine V_aload_n (n := 0) X d_Mod_tryst_16 rfl rfl rfl ?_
    refine V_iload_n (n := 1) X d_Mod_tryst_17 rfl rfl rfl ?_
    refine V_iload_n (n := 2) X d_Mod_tryst_18 rfl rfl rfl ?_
    obtain ⟨x3, hx3, h⟩ := ob_s h
    refine V_ci (As := [.int v1, .int v2]) X (Z0 E) ml_Mod_390 yq_Mod_findTryst (c_Mod_findTryst E.2.1 G v1 v2 M1 x3 hx3 _ (Nat.le_refl _)) kd_162 rfl rfl (by omega) rfl (Nat.le_of_ble_eq_true rfl) d_Mod_tryst_19 rfl (fun r9 M9 hq => ?_)
    rw [hq.1, hq.2]
    refine V_istore_n (lv' := [(3, .int x3.1), (0, .ref (G.2.2 + 162)), (1, .int v1), (2, .int v2)]) X d_Mod_tryst_22 rfl (by decide) rfl rfl ?_
    refine V_iload_n (n := 0) X d_Mod_tryst_23 rfl rfl rfl ?_
    refine V_ldc_w (v := 1000000) X d_Mod_tryst_24 kc_Mod_357 rfl ?_
    refine V_icmp_ne (tgt := 33) X d_Mod_tryst_27 (by decide) rfl (fun c6 => ?_) (fun c6 => ?_)
    · rw [if_neg c6] at h
      refine V_aload_n (n := 1) X d_Mod_tryst_33 rfl rfl rfl ?_
      refine V_iconst (v := 0) X d_Mod_tryst_34 (by decide) rfl ?_
      obtain ⟨M4, eM4, h⟩ := memS h
      refine V_putI X fp_Mod_112 kd_162 rfl d_Mod_tryst_35 rfl ?_
      rw [← eM4]
      refine V_aload_n (n := 1) X d_Mod_tryst_38 rfl rfl rfl ?_
      refine V_iload_n (n := 0) X d_Mod_tryst_39 rfl rfl rfl ?_
      obtain ⟨x5, hx5, h⟩ := ob_s h
      refine V_cv (As := [.int x3.1]) X (Z0 E) ml_Mod_342 yq_Mod_put (c_Mod_put E.2.1 G x3.1 M4 x5 hx5 _ (Nat.le_refl _)) kd_162 rfl rfl (by omega) rfl (Nat.le_of_ble_eq_true rfl) d_Mod_tryst_40 rfl (fun M9 hq => ?_)
      rw [hq]
      refine V_aload_n (n := 1) X d_Mod_tryst_43 rfl rfl rfl ?_
      refine V_geti X fo_Mod_384 kd_162 rfl d_Mod_tryst_44 rfl ?_
      exact V_iret X (kr ((x5.1 162 42), x5) (Option.some.inj h).symm) d_Mod_tryst_47
    · rw [if_pos c6] at h
      refine V_bipush (v := -2) X d_Mod_tryst_30 (by decide) rfl ?_
      exact V_iret X (kr ((-2 : Int32), x3.2) (Option.some.inj h).symm) d_Mod_tryst_32
  · rw [if_pos c7] at h
    refine V_iconst (v := -1) X d_Mod_tryst_14 (by decide) rfl ?_
    exact V_iret X (kr ((-1 : Int32), M1) (Option.some.inj h).symm) d_Mod_tryst_15
def j_Mod_open_57_27 (v1 : Int32) (v2 : Int32) (v3 : Int32) (v4 : Int32) (v5 : Int32) (v6 : Int32) (M : Mem) : Option ((Int32 × Int32 × Int32 × Mem) ⊕ ((Int32 × Int32 × Mem))) :=
  Option.bind (f_Mod_isUnder v5 M) fun x4 =>
  if x4 = 0 then
  if inb v5 36 = true then
  mem_ (s_i M 164 v5.toNatClampNeg (3 : Int32)) fun M5 =>
  Option.bind (f_Mod_findTryst v1 v2 M5) fun x6 =>
  if inb v5 36 = true then
  mem_ (s_i x6.2 164 v5.toNatClampNeg v6) fun M7 =>
  if x6.1 < v4 then
  some (.inl (v5, x6.1, (v5 + (1 : Int32)), M7))
  else
  some (.inl (v3, v4, (v5 + (1 : Int32)), M7))
  else none
  else none
  else
  some (.inl (v3, v4, (v5 + (1 : Int32)), M))
theorem j_Mod_open_57_27_ok {E : Ev} {G : Gw} {d : Nat} {post : Int32 → Mem → Prop} (X : Cx E G b_Mod_open "WomenByTheRoofsModel" 8 d (some .int)) (hD : 8 ≤ d)  (v1 : Int32) (v2 : Int32) (v3 : Int32) (v4 : Int32) (v5 : Int32) (v6 : Int32)  (M : Mem)  (o : (Int32 × Int32 × Int32 × Mem) ⊕ ((Int32 × Int32 × Mem))) (h : j_Mod_open_57_27 v1 v2 v3 v4 v5 v6 M = some o) (kc : ∀ s9 : Int32 × Int32 × Int32 × Mem, o = .inl s9 → V E (0, 0) G 8 (QI E G post) s9.2.2.2 27 [(0, .ref (G.2.2 + 162)), (1, .int v1), (2, .int v2), (3, .int s9.1), (4, .int s9.2.1), (5, .int s9.2.2.1)] []) (kx0 : ∀ x9 : Int32 × Int32 × Mem, o = .inr x9 → V E (0, 0) G 8 (QI E G post) x9.2.2 117 [(0, .ref (G.2.2 + 162)), (3, .int x9.1), (4, .int x9.2.1)] []) : V E (0, 0) G 8 (QI E G post) M 57 [(0, .ref (G.2.2 + 162)), (1, .int v1), (2, .int v2), (3, .int v3), (4, .int v4), (5, .int v5), (6, .int v6)] [] := by
  unfold j_Mod_open_57_27 at h
  refine V_aload_n (n := 0) X d_Mod_open_57 rfl rfl rfl ?_
  refine V_iload (n := 5) X d_Mod_open_58 rfl rfl ?_
  obtain ⟨x4, hx4, h⟩ := ob_s h
  refine V_ci (As := [.int v5]) X (Z0 E) ml_Mod_272 yq_Mod_isUnder (c_Mod_isUnder E.2.1 G v5 M x4 hx4 _ (Nat.le_refl _)) kd_162 rfl rfl (by omega) rfl (Nat.le_of_ble_eq_true rfl) d_Mod_open_60 rfl (fun r9 M9 hq => ?_)
  rw [hq.1, hq.2]
  refine V_if_eq (tgt := 69) X d_Mod_open_63 (by decide) rfl (fun c9 => ?_) (fun c9 => ?_)
  · rw [if_pos c9] at h
    refine V_aload_n (n := 0) X d_Mod_open_69 rfl rfl rfl ?_
    refine V_getr (k2 := 164) X fo_Mod_13 kd_162 rfl rf_162_1 d_Mod_open_70 rfl ?_
    refine V_iload (n := 5) X d_Mod_open_73 rfl rfl ?_
    refine V_iconst (v := 3) X d_Mod_open_75 (by decide) rfl ?_
    obtain ⟨hb, h⟩ := ifn h
    obtain ⟨M5, eM5, h⟩ := memS h
    refine V_iast X kd_164 (inb_in ln_164 hb) d_Mod_open_76 rfl ?_
    rw [← eM5]
    refine V_aload_n (n := 0) X d_Mod_open_77 rfl rfl rfl ?_
    refine V_iload_n (n := 1) X d_Mod_open_78 rfl rfl rfl ?_
    refine V_iload_n (n := 2) X d_Mod_open_79 rfl rfl rfl ?_
    obtain ⟨x6, hx6, h⟩ := ob_s h
    refine V_ci (As := [.int v1, .int v2]) X (Z0 E) ml_Mod_390 yq_Mod_findTryst (c_Mod_findTryst E.2.1 G v1 v2 M5 x6 hx6 _ (Nat.le_refl _)) kd_162 rfl rfl (by omega) rfl (Nat.le_of_ble_eq_true rfl) d_Mod_open_80 rfl (fun r9 M9 hq => ?_)
    rw [hq.1, hq.2]
    refine V_istore (lv' := [(7, .int x6.1), (0, .ref (G.2.2 + 162)), (1, .int v1), (2, .int v2), (3, .int v3), (4, .int v4), (5, .int v5), (6, .int v6)]) X d_Mod_open_83 (by decide) rfl rfl ?_
    refine V_aload_n (n := 1) X d_Mod_open_85 rfl rfl rfl ?_
    refine V_getr (k2 := 164) X fo_Mod_13 kd_162 rfl rf_162_1 d_Mod_open_86 rfl ?_
    refine V_iload (n := 6) X d_Mod_open_89 rfl rfl ?_
    refine V_iload (n := 7) X d_Mod_open_91 rfl rfl ?_
    obtain ⟨hb, h⟩ := ifn h
    obtain ⟨M7, eM7, h⟩ := memS h
    refine V_iast X kd_164 (inb_in ln_164 hb) d_Mod_open_93 rfl ?_
    rw [← eM7]
    refine V_iload (n := 0) X d_Mod_open_94 rfl rfl ?_
    refine V_iload (n := 5) X d_Mod_open_96 rfl rfl ?_
    refine V_icmp_lt (tgt := 104) X d_Mod_open_98 (by decide) rfl (fun c8 => ?_) (fun c8 => ?_)
    · rw [if_pos c8] at h
      refine V_iload (n := 6) X d_Mod_open_104 rfl rfl ?_
      refine V_istore_n (lv' := [(3, .int v5), (7, .int x6.1), (0, .ref (G.2.2 + 162)), (1, .int v1), (2, .int v2), (4, .int v4), (5, .int v5), (6, .int v6)]) X d_Mod_open_106 rfl (by decide) rfl rfl ?_
      refine V_iload (n := 1) X d_Mod_open_107 rfl rfl ?_
      refine V_istore (lv' := [(4, .int x6.1), (3, .int v5), (7, .int x6.1), (0, .ref (G.2.2 + 162)), (1, .int v1), (2, .int v2), (5, .int v5), (6, .int v6)]) X d_Mod_open_109 (by decide) rfl rfl ?_
      refine V_iinc (n := 6) (v := (v5 + (1 : Int32))) (lv' := [(5, .int (v5 + (1 : Int32))), (4, .int x6.1), (3, .int v5), (7, .int x6.1), (0, .ref (G.2.2 + 162)), (1, .int v1), (2, .int v2), (6, .int v6)]) X d_Mod_open_111 rfl rfl (by decide) rfl rfl ?_
      refine V_goto (pc' := 27) X d_Mod_open_114 (by decide) ?_
      refine V_sub (lv' := [(0, .ref (G.2.2 + 162)), (1, .int v1), (2, .int v2), (3, .int v5), (4, .int x6.1), (5, .int (v5 + (1 : Int32)))]) [4, 5, 6, 2, 1, 0] rfl ?_
      exact kc (v5, x6.1, (v5 + (1 : Int32)), M7) (Option.some.inj h).symm
    · rw [if_neg c8] at h
      refine V_goto (pc' := 111) X d_Mod_open_101 (by decide) ?_
      refine V_iinc (n := 6) (v := (v5 + (1 : Int32))) (lv' := [(5, .int (v5 + (1 : Int32))), (7, .int x6.1), (0, .ref (G.2.2 + 162)), (1, .int v1), (2, .int v2), (3, .int v3), (4, .int v4), (6, .int v6)]) X d_Mod_open_111 rfl rfl (by decide) rfl rfl ?_
      refine V_goto (pc' := 27) X d_Mod_open_114 (by decide) ?_
      refine V_sub (lv' := [(0, .ref (G.2.2 + 162)), (1, .int v1), (2, .int v2), (3, .int v3), (4, .int v4), (5, .int (v5 + (1 : Int32)))]) [2, 3, 4, 5, 6, 0] rfl ?_
      exact kc (v3, v4, (v5 + (1 : Int32)), M7) (Option.some.inj h).symm
  · rw [if_neg c9] at h
    refine V_goto (pc' := 111) X d_Mod_open_66 (by decide) ?_
    refine V_iinc (n := 5) (v := (v5 + (1 : Int32))) (lv' := [(5, .int (v5 + (1 : Int32))), (0, .ref (G.2.2 + 162)), (1, .int v1), (2, .int v2), (3, .int v3), (4, .int v4), (6, .int v6)]) X d_Mod_open_111 rfl rfl (by decide) rfl rfl ?_
    refine V_goto (pc' := 27) X d_Mod_open_114 (by decide) ?_
    refine V_sub (lv' := [(0, .ref (G.2.2 + 162)), (1, .int v1), (2, .int v2), (3, .int v3), (4, .int v4), (5, .int (v5 + (1 : Int32)))]) [1, 2, 3, 4, 5, 0] rfl ?_
    exact kc (v3, v4, (v5 + (1 : Int32)), M) (Option.some.inj h).symm
def lb_Mod_open_27 (v1 : Int32) (v2 : Int32) (s : Int32 × Int32 × Int32 × Mem) : Option ((Int32 × Int32 × Int32 × Mem) ⊕ ((Int32 × Int32 × Mem))) :=
  Option.bind (f_Mod_cells s.2.2.2) fun x3 =>
  if x3 ≤ s.2.2.1 then
  some (.inr (s.1, s.2.1, s.2.2.2))
  else
  if inb s.2.2.1 36 = true then
  if (s.2.2.2.1 164 s.2.2.1.toNatClampNeg) = (1 : Int32) then
  j_Mod_open_57_27 v1 v2 s.1 s.2.1 s.2.2.1 (s.2.2.2.1 164 s.2.2.1.toNatClampNeg) s.2.2.2
  else
  if (s.2.2.2.1 164 s.2.2.1.toNatClampNeg) = (2 : Int32) then
  j_Mod_open_57_27 v1 v2 s.1 s.2.1 s.2.2.1 (s.2.2.2.1 164 s.2.2.1.toNatClampNeg) s.2.2.2
  else
  some (.inl (s.1, s.2.1, (s.2.2.1 + (1 : Int32)), s.2.2.2))
  else none
theorem lb_Mod_open_27_ok {E : Ev} {G : Gw} {d : Nat} {post : Int32 → Mem → Prop} (X : Cx E G b_Mod_open "WomenByTheRoofsModel" 8 d (some .int)) (hD : 8 ≤ d)  (v1 : Int32) (v2 : Int32)   (s : Int32 × Int32 × Int32 × Mem) (o : (Int32 × Int32 × Int32 × Mem) ⊕ ((Int32 × Int32 × Mem))) (h : lb_Mod_open_27 v1 v2 s = some o) (kc : ∀ s9 : Int32 × Int32 × Int32 × Mem, o = .inl s9 → V E (0, 0) G 8 (QI E G post) s9.2.2.2 27 [(0, .ref (G.2.2 + 162)), (1, .int v1), (2, .int v2), (3, .int s9.1), (4, .int s9.2.1), (5, .int s9.2.2.1)] []) (kx0 : ∀ x9 : Int32 × Int32 × Mem, o = .inr x9 → V E (0, 0) G 8 (QI E G post) x9.2.2 117 [(0, .ref (G.2.2 + 162)), (3, .int x9.1), (4, .int x9.2.1)] []) : V E (0, 0) G 8 (QI E G post) s.2.2.2 27 [(0, .ref (G.2.2 + 162)), (1, .int v1), (2, .int v2), (3, .int s.1), (4, .int s.2.1), (5, .int s.2.2.1)] [] := by
  unfold lb_Mod_open_27 at h
  refine V_iload (n := 5) X d_Mod_open_27 rfl rfl ?_
  refine V_aload_n (n := 0) X d_Mod_open_29 rfl rfl rfl ?_
  obtain ⟨x3, hx3, h⟩ := ob_s h
  refine V_ci (As := []) X (Z0 E) ml_Mod_115 yq_Mod_cells (c_Mod_cells E.2.1 G  s.2.2.2 x3 hx3 _ (Nat.le_refl _)) kd_162 rfl rfl (by omega) rfl (Nat.le_of_ble_eq_true rfl) d_Mod_open_30 rfl (fun r9 M9 hq => ?_)
  rw [hq.1, hq.2]
  refine V_icmp_ge (tgt := 117) X d_Mod_open_33 (by decide) rfl (fun c12 => ?_) (fun c12 => ?_)
  · rw [if_pos c12] at h
    refine V_sub (lv' := [(0, .ref (G.2.2 + 162)), (3, .int s.1), (4, .int s.2.1)]) [0, 3, 4] rfl ?_
    exact kx0 (s.1, s.2.1, s.2.2.2) (Option.some.inj h).symm
  · rw [if_neg c12] at h
    refine V_aload_n (n := 0) X d_Mod_open_36 rfl rfl rfl ?_
    refine V_getr (k2 := 164) X fo_Mod_13 kd_162 rfl rf_162_1 d_Mod_open_37 rfl ?_
    refine V_iload (n := 5) X d_Mod_open_40 rfl rfl ?_
    obtain ⟨hb, h⟩ := ifn h
    refine V_iald X kd_164 (inb_in ln_164 hb) d_Mod_open_42 rfl ?_
    refine V_istore (lv' := [(6, .int (s.2.2.2.1 164 s.2.2.1.toNatClampNeg)), (0, .ref (G.2.2 + 162)), (1, .int v1), (2, .int v2), (3, .int s.1), (4, .int s.2.1), (5, .int s.2.2.1)]) X d_Mod_open_43 (by decide) rfl rfl ?_
    refine V_iload (n := 0) X d_Mod_open_45 rfl rfl ?_
    refine V_iconst (v := 1) X d_Mod_open_47 (by decide) rfl ?_
    refine V_icmp_eq (tgt := 57) X d_Mod_open_48 (by decide) rfl (fun c11 => ?_) (fun c11 => ?_)
    · rw [if_pos c11] at h
      refine V_sub (lv' := [(0, .ref (G.2.2 + 162)), (1, .int v1), (2, .int v2), (3, .int s.1), (4, .int s.2.1), (5, .int s.2.2.1), (6, .int (s.2.2.2.1 164 s.2.2.1.toNatClampNeg))]) [1, 2, 3, 4, 5, 6, 0] rfl ?_
      exact j_Mod_open_57_27_ok X hD v1 v2 s.1 s.2.1 s.2.2.1 (s.2.2.2.1 164 s.2.2.1.toNatClampNeg) s.2.2.2 _ h kc kx0
    · rw [if_neg c11] at h
      refine V_iload (n := 0) X d_Mod_open_51 rfl rfl ?_
      refine V_iconst (v := 2) X d_Mod_open_53 (by decide) rfl ?_
      refine V_icmp_ne (tgt := 111) X d_Mod_open_54 (by decide) rfl (fun c10 => ?_) (fun c10 => ?_)
      · rw [if_neg c10] at h
        refine V_iinc (n := 6) (v := (s.2.2.1 + (1 : Int32))) (lv' := [(5, .int (s.2.2.1 + (1 : Int32))), (6, .int (s.2.2.2.1 164 s.2.2.1.toNatClampNeg)), (0, .ref (G.2.2 + 162)), (1, .int v1), (2, .int v2), (3, .int s.1), (4, .int s.2.1)]) X d_Mod_open_111 rfl rfl (by decide) rfl rfl ?_
        refine V_goto (pc' := 27) X d_Mod_open_114 (by decide) ?_
        refine V_sub (lv' := [(0, .ref (G.2.2 + 162)), (1, .int v1), (2, .int v2), (3, .int s.1), (4, .int s.2.1), (5, .int (s.2.2.1 + (1 : Int32)))]) [2, 3, 4, 5, 6, 0] rfl ?_
        exact kc (s.1, s.2.1, (s.2.2.1 + (1 : Int32)), s.2.2.2) (Option.some.inj h).symm
      · rw [if_pos c10] at h
        refine V_sub (lv' := [(0, .ref (G.2.2 + 162)), (1, .int v1), (2, .int v2), (3, .int s.1), (4, .int s.2.1), (5, .int s.2.2.1), (6, .int (s.2.2.2.1 164 s.2.2.1.toNatClampNeg))]) [1, 2, 3, 4, 5, 6, 0] rfl ?_
        exact j_Mod_open_57_27_ok X hD v1 v2 s.1 s.2.1 s.2.2.1 (s.2.2.2.1 164 s.2.2.1.toNatClampNeg) s.2.2.2 _ h kc kx0
theorem lp_Mod_open_27_ok {E : Ev} {G : Gw} {d : Nat} {post : Int32 → Mem → Prop} (X : Cx E G b_Mod_open "WomenByTheRoofsModel" 8 d (some .int)) (hD : 8 ≤ d)  (v1 : Int32) (v2 : Int32)   (n9 : Nat) (s : Int32 × Int32 × Int32 × Mem) (x : (Int32 × Int32 × Mem)) (h : iter (lb_Mod_open_27 v1 v2) n9 s = some x) (kx0 : ∀ x9 : Int32 × Int32 × Mem, x = x9 → V E (0, 0) G 8 (QI E G post) x9.2.2 117 [(0, .ref (G.2.2 + 162)), (3, .int x9.1), (4, .int x9.2.1)] []) : V E (0, 0) G 8 (QI E G post) s.2.2.2 27 [(0, .ref (G.2.2 + 162)), (1, .int v1), (2, .int v2), (3, .int s.1), (4, .int s.2.1), (5, .int s.2.2.1)] [] :=
  iter_P (P := fun s : Int32 × Int32 × Int32 × Mem => V E (0, 0) G 8 (QI E G post) s.2.2.2 27 [(0, .ref (G.2.2 + 162)), (1, .int v1), (2, .int v2), (3, .int s.1), (4, .int s.2.1), (5, .int s.2.2.1)] []) (fun s o hb kc ky => lb_Mod_open_27_ok X hD v1 v2 s o hb kc (fun x9 e9 => kx0 x9 (ky _ e9).symm)) n9 s h
def f_Mod_open (v1 : Int32) (v2 : Int32) (M : Mem) : Option (Int32 × Mem) :=
  mem_ (s_i M 162 13 (0 : Int32)) fun M1 =>
  Option.bind (f_Mod_areManWoman v1 v2 M1) fun x2 =>
  if x2 = 0 then
  some ((-1 : Int32), M1)
  else
  Option.bind (iter (lb_Mod_open_27 v1 v2) FU ((-2 : Int32), (1000000 : Int32), (0 : Int32), M1)) fun x13 =>
  if 0 ≤ x13.1 then
  mem_ (s_i x13.2.2 162 12 (0 : Int32)) fun M14 =>
  Option.bind (f_Mod_put x13.2.1 M14) fun x15 =>
  some (x13.1, x15)
  else
  some ((-2 : Int32), x13.2.2)
theorem c_Mod_open (l : Launch) (G : Gw)  (v1 : Int32) (v2 : Int32) (M : Mem) (x : Int32 × Mem) (h : f_Mod_open v1 v2 M = some x) (d : Nat) (hD : 8 ≤ d) : Ci l G y_Mod_open b_Mod_open 8 (some .int) d [.ref (G.2.2 + 162), .int v1, .int v2] M (fun r9 M9 => r9 = x.1 ∧ M9 = x.2) := by
  refine Ci_of (by decide) (Nat.le_of_ble_eq_true rfl) (fun E hE X => ?_)
  subst hE
  have kr : ∀ x9 : Int32 × Mem, x = x9 → (fun r9 M9 => r9 = x.1 ∧ M9 = x.2) x9.1 x9.2 := fun x9 e9 => by subst e9; exact ⟨rfl, rfl⟩
  unfold f_Mod_open at h
  refine V_aload_n (n := 0) X d_Mod_open_0 rfl rfl rfl ?_
  refine V_iconst (v := 0) X d_Mod_open_1 (by decide) rfl ?_
  obtain ⟨M1, eM1, h⟩ := memS h
  refine V_putI X fp_Mod_109 kd_162 rfl d_Mod_open_2 rfl ?_
  rw [← eM1]
  refine V_aload_n (n := 0) X d_Mod_open_5 rfl rfl rfl ?_
  refine V_iload_n (n := 1) X d_Mod_open_6 rfl rfl rfl ?_
  refine V_iload_n (n := 2) X d_Mod_open_7 rfl rfl rfl ?_
  obtain ⟨x2, hx2, h⟩ := ob_s h
  refine V_ci (As := [.int v1, .int v2]) X (Z0 E) ml_Mod_387 yq_Mod_areManWoman (c_Mod_areManWoman E.2.1 G v1 v2 M1 x2 hx2 _ (Nat.le_refl _)) kd_162 rfl rfl (by omega) rfl (Nat.le_of_ble_eq_true rfl) d_Mod_open_8 rfl (fun r9 M9 hq => ?_)
  rw [hq.1, hq.2]
  refine V_if_ne (tgt := 16) X d_Mod_open_11 (by decide) rfl (fun c17 => ?_) (fun c17 => ?_)
  · rw [if_neg c17] at h
    refine V_bipush (v := -2) X d_Mod_open_16 (by decide) rfl ?_
    refine V_istore_n (lv' := [(3, .int (-2 : Int32)), (0, .ref (G.2.2 + 162)), (1, .int v1), (2, .int v2)]) X d_Mod_open_18 rfl (by decide) rfl rfl ?_
    refine V_ldc_w (v := 1000000) X d_Mod_open_19 kc_Mod_357 rfl ?_
    refine V_istore (lv' := [(4, .int (1000000 : Int32)), (3, .int (-2 : Int32)), (0, .ref (G.2.2 + 162)), (1, .int v1), (2, .int v2)]) X d_Mod_open_22 (by decide) rfl rfl ?_
    refine V_iconst (v := 0) X d_Mod_open_24 (by decide) rfl ?_
    refine V_istore (lv' := [(5, .int (0 : Int32)), (4, .int (1000000 : Int32)), (3, .int (-2 : Int32)), (0, .ref (G.2.2 + 162)), (1, .int v1), (2, .int v2)]) X d_Mod_open_25 (by decide) rfl rfl ?_
    refine V_sub (lv' := [(0, .ref (G.2.2 + 162)), (1, .int v1), (2, .int v2), (3, .int (-2 : Int32)), (4, .int (1000000 : Int32)), (5, .int (0 : Int32))]) [3, 4, 5, 2, 1, 0] rfl ?_
    obtain ⟨x13, hx13, h⟩ := ob_s h
    refine (lp_Mod_open_27_ok X hD v1 v2 _ _ _ hx13 (fun x9 e9 => ?_) :)
    subst e9
    refine V_iload_n (n := 1) X d_Mod_open_117 rfl rfl rfl ?_
    refine V_if_ge (tgt := 124) X d_Mod_open_118 (by decide) rfl (fun c16 => ?_) (fun c16 => ?_)
    · rw [if_pos c16] at h
      refine V_aload_n (n := 0) X d_Mod_open_124 rfl rfl rfl ?_
      refine V_iconst (v := 0) X d_Mod_open_125 (by decide) rfl ?_
      obtain ⟨M14, eM14, h⟩ := memS h
      refine V_putI X fp_Mod_112 kd_162 rfl d_Mod_open_126 rfl ?_
      rw [← eM14]
      refine V_aload_n (n := 0) X d_Mod_open_129 rfl rfl rfl ?_
      refine V_iload (n := 2) X d_Mod_open_130 rfl rfl ?_
      obtain ⟨x15, hx15, h⟩ := ob_s h
      refine V_cv (As := [.int x13.2.1]) X (Z0 E) ml_Mod_342 yq_Mod_put (c_Mod_put E.2.1 G x13.2.1 M14 x15 hx15 _ (Nat.le_refl _)) kd_162 rfl rfl (by omega) rfl (Nat.le_of_ble_eq_true rfl) d_Mod_open_132 rfl (fun M9 hq => ?_)
      rw [hq]
      refine V_iload_n (n := 1) X d_Mod_open_135 rfl rfl rfl ?_
      exact V_iret X (kr (x13.1, x15) (Option.some.inj h).symm) d_Mod_open_136
    · rw [if_neg c16] at h
      refine V_bipush (v := -2) X d_Mod_open_121 (by decide) rfl ?_
      exact V_iret X (kr ((-2 : Int32), x13.2.2) (Option.some.inj h).symm) d_Mod_open_123
  · rw [if_pos c17] at h
    refine V_iconst (v := -1) X d_Mod_open_14 (by decide) rfl ?_
    exact V_iret X (kr ((-1 : Int32), M1) (Option.some.inj h).symm) d_Mod_open_15
abbrev Rc_parts (l : Launch) (G : Gw) (m0 : Nat) (rc : Int32 → Int32 → Int32 → Int32 → Int32 → Mem → Option (Int32 × Mem)) : Prop :=
  (∀ (a0 : Int32) (a1 : Int32) (a2 : Int32) (a3 : Int32) (a4 : Int32) (M : Mem) (x : Int32 × Mem), rc a0 a1 a2 a3 a4 M = some x → ∀ d, m0 ≤ d → Ci l G y_Mod_parts b_Mod_parts 8 (some .boolean) d [.ref (G.2.2 + 162), .int a0, .int a1, .int a2, .int a3, .int a4] M (fun r9 M9 => r9 = x.1 ∧ M9 = x.2))
def lb_Mod_parts_28 (rc : Int32 → Int32 → Int32 → Int32 → Int32 → Mem → Option (Int32 × Mem)) (v1 : Int32) (v2 : Int32) (v3 : Int32) (v4 : Int32) (s : Int32 × Mem) : Option ((Int32 × Mem) ⊕ ((Mem) ⊕ (Mem))) :=
  Option.bind (f_Mod_cells s.2) fun x1 =>
  if x1 ≤ s.1 then
  some (.inr (Sum.inl s.2))
  else
  if inb s.1 36 = true then
  if (s.2.1 164 s.1.toNatClampNeg) = (3 : Int32) then
  if inb v1 96 = true then
  Option.bind (f_Mod_cellOf (s.2.1 163 v1.toNatClampNeg)) fun x2 =>
  if s.1 = x2 then
  some (.inl ((s.1 + (1 : Int32)), s.2))
  else
  if inb v2 96 = true then
  Option.bind (f_Mod_cellOf (s.2.1 163 v2.toNatClampNeg)) fun x3 =>
  if s.1 = x3 then
  some (.inl ((s.1 + (1 : Int32)), s.2))
  else
  if inb v3 3 = true then
  mem_ (s_i s.2 184 v3.toNatClampNeg s.1) fun M4 =>
  if inb s.1 36 = true then
  mem_ (s_i M4 164 s.1.toNatClampNeg (2 : Int32)) fun M5 =>
  Option.bind (rc v1 v2 (v3 + (1 : Int32)) v4 (s.1 + (1 : Int32)) M5) fun x6 =>
  if inb s.1 36 = true then
  mem_ (s_i x6.2 164 s.1.toNatClampNeg (3 : Int32)) fun M7 =>
  if x6.1 = 0 then
  some (.inl ((s.1 + (1 : Int32)), M7))
  else
  some (.inr (Sum.inr M7))
  else none
  else none
  else none
  else none
  else none
  else
  some (.inl ((s.1 + (1 : Int32)), s.2))
  else none
theorem lb_Mod_parts_28_ok {E : Ev} {G : Gw} {d : Nat} {post : Int32 → Mem → Prop} {rc : Int32 → Int32 → Int32 → Int32 → Int32 → Mem → Option (Int32 × Mem)} {m0 : Nat} (X : Cx E G b_Mod_parts "WomenByTheRoofsModel" 8 d (some .boolean)) (hD : m0 + 8 ≤ d) (hrc : Rc_parts E.2.1 G m0 rc) (v1 : Int32) (v2 : Int32) (v3 : Int32) (v4 : Int32)   (s : Int32 × Mem) (o : (Int32 × Mem) ⊕ ((Mem) ⊕ (Mem))) (h : lb_Mod_parts_28 rc v1 v2 v3 v4 s = some o) (kc : ∀ s9 : Int32 × Mem, o = .inl s9 → V E (0, 0) G 8 (QI E G post) s9.2 28 [(0, .ref (G.2.2 + 162)), (1, .int v1), (2, .int v2), (3, .int v3), (4, .int v4), (6, .int s9.1)] []) (kx0 : ∀ x9 : Mem, o = .inr (Sum.inl x9) → V E (0, 0) G 8 (QI E G post) x9 133 [] []) (kx1 : ∀ x9 : Mem, o = .inr (Sum.inr x9) → V E (0, 0) G 8 (QI E G post) x9 125 [] []) : V E (0, 0) G 8 (QI E G post) s.2 28 [(0, .ref (G.2.2 + 162)), (1, .int v1), (2, .int v2), (3, .int v3), (4, .int v4), (6, .int s.1)] [] := by
  unfold lb_Mod_parts_28 at h
  refine V_iload (n := 5) X d_Mod_parts_28 rfl rfl ?_
  refine V_aload_n (n := 0) X d_Mod_parts_30 rfl rfl rfl ?_
  obtain ⟨x1, hx1, h⟩ := ob_s h
  refine V_ci (As := []) X (Z0 E) ml_Mod_115 yq_Mod_cells (c_Mod_cells E.2.1 G  s.2 x1 hx1 _ (Nat.le_refl _)) kd_162 rfl rfl (by omega) rfl (Nat.le_of_ble_eq_true rfl) d_Mod_parts_31 rfl (fun r9 M9 hq => ?_)
  rw [hq.1, hq.2]
  refine V_icmp_ge (tgt := 133) X d_Mod_parts_34 (by decide) rfl (fun c12 => ?_) (fun c12 => ?_)
  · rw [if_pos c12] at h
    refine V_sub (lv' := []) [] rfl ?_
    exact kx0 s.2 (Option.some.inj h).symm
  · rw [if_neg c12] at h
    refine V_aload_n (n := 0) X d_Mod_parts_37 rfl rfl rfl ?_
    refine V_getr (k2 := 164) X fo_Mod_13 kd_162 rfl rf_162_1 d_Mod_parts_38 rfl ?_
    refine V_iload (n := 5) X d_Mod_parts_41 rfl rfl ?_
    obtain ⟨hb, h⟩ := ifn h
    refine V_iald X kd_164 (inb_in ln_164 hb) d_Mod_parts_43 rfl ?_
    refine V_iconst (v := 3) X d_Mod_parts_44 (by decide) rfl ?_
    refine V_icmp_ne (tgt := 127) X d_Mod_parts_45 (by decide) rfl (fun c11 => ?_) (fun c11 => ?_)
    · rw [if_neg c11] at h
      refine V_iinc (n := 5) (v := (s.1 + (1 : Int32))) (lv' := [(6, .int (s.1 + (1 : Int32))), (0, .ref (G.2.2 + 162)), (1, .int v1), (2, .int v2), (3, .int v3), (4, .int v4)]) X d_Mod_parts_127 rfl rfl (by decide) rfl rfl ?_
      refine V_goto (pc' := 28) X d_Mod_parts_130 (by decide) ?_
      refine V_sub (lv' := [(0, .ref (G.2.2 + 162)), (1, .int v1), (2, .int v2), (3, .int v3), (4, .int v4), (6, .int (s.1 + (1 : Int32)))]) [1, 2, 3, 4, 5, 0] rfl ?_
      exact kc ((s.1 + (1 : Int32)), s.2) (Option.some.inj h).symm
    · rw [if_pos c11] at h
      refine V_iload (n := 5) X d_Mod_parts_48 rfl rfl ?_
      refine V_aload_n (n := 0) X d_Mod_parts_50 rfl rfl rfl ?_
      refine V_getr (k2 := 163) X fo_Mod_9 kd_162 rfl rf_162_0 d_Mod_parts_51 rfl ?_
      refine V_iload_n (n := 1) X d_Mod_parts_54 rfl rfl rfl ?_
      obtain ⟨hb, h⟩ := ifn h
      refine V_iald X kd_163 (inb_in ln_163 hb) d_Mod_parts_55 rfl ?_
      obtain ⟨x2, hx2, h⟩ := ob_s h
      refine V_si (As := [.int (s.2.1 163 v1.toNatClampNeg)]) X (Z0 E) ml_Mod_147 yq_Mod_cellOf (c_Mod_cellOf E.2.1 G (s.2.1 163 v1.toNatClampNeg) s.2 x2 hx2 _ (Nat.le_refl _)) rfl (by omega) rfl (Nat.le_of_ble_eq_true rfl) d_Mod_parts_56 rfl (fun r9 M9 hq => ?_)
      rw [hq.1, hq.2]
      refine V_icmp_eq (tgt := 127) X d_Mod_parts_59 (by decide) rfl (fun c10 => ?_) (fun c10 => ?_)
      · rw [if_pos c10] at h
        refine V_iinc (n := 5) (v := (s.1 + (1 : Int32))) (lv' := [(6, .int (s.1 + (1 : Int32))), (0, .ref (G.2.2 + 162)), (1, .int v1), (2, .int v2), (3, .int v3), (4, .int v4)]) X d_Mod_parts_127 rfl rfl (by decide) rfl rfl ?_
        refine V_goto (pc' := 28) X d_Mod_parts_130 (by decide) ?_
        refine V_sub (lv' := [(0, .ref (G.2.2 + 162)), (1, .int v1), (2, .int v2), (3, .int v3), (4, .int v4), (6, .int (s.1 + (1 : Int32)))]) [1, 2, 3, 4, 5, 0] rfl ?_
        exact kc ((s.1 + (1 : Int32)), s.2) (Option.some.inj h).symm
      · rw [if_neg c10] at h
        refine V_iload (n := 5) X d_Mod_parts_62 rfl rfl ?_
        refine V_aload_n (n := 0) X d_Mod_parts_64 rfl rfl rfl ?_
        refine V_getr (k2 := 163) X fo_Mod_9 kd_162 rfl rf_162_0 d_Mod_parts_65 rfl ?_
        refine V_iload_n (n := 2) X d_Mod_parts_68 rfl rfl rfl ?_
        obtain ⟨hb, h⟩ := ifn h
        refine V_iald X kd_163 (inb_in ln_163 hb) d_Mod_parts_69 rfl ?_
        obtain ⟨x3, hx3, h⟩ := ob_s h
        refine V_si (As := [.int (s.2.1 163 v2.toNatClampNeg)]) X (Z0 E) ml_Mod_147 yq_Mod_cellOf (c_Mod_cellOf E.2.1 G (s.2.1 163 v2.toNatClampNeg) s.2 x3 hx3 _ (Nat.le_refl _)) rfl (by omega) rfl (Nat.le_of_ble_eq_true rfl) d_Mod_parts_70 rfl (fun r9 M9 hq => ?_)
        rw [hq.1, hq.2]
        refine V_icmp_ne (tgt := 79) X d_Mod_parts_73 (by decide) rfl (fun c9 => ?_) (fun c9 => ?_)
        · rw [if_neg c9] at h
          refine V_aload_n (n := 0) X d_Mod_parts_79 rfl rfl rfl ?_
          refine V_getr (k2 := 184) X fo_Mod_85 kd_162 rfl rf_162_43 d_Mod_parts_80 rfl ?_
          refine V_iload_n (n := 3) X d_Mod_parts_83 rfl rfl rfl ?_
          refine V_iload (n := 5) X d_Mod_parts_84 rfl rfl ?_
          obtain ⟨hb, h⟩ := ifn h
          obtain ⟨M4, eM4, h⟩ := memS h
          refine V_iast X kd_184 (inb_in ln_184 hb) d_Mod_parts_86 rfl ?_
          rw [← eM4]
          refine V_aload_n (n := 0) X d_Mod_parts_87 rfl rfl rfl ?_
          refine V_getr (k2 := 164) X fo_Mod_13 kd_162 rfl rf_162_1 d_Mod_parts_88 rfl ?_
          refine V_iload (n := 5) X d_Mod_parts_91 rfl rfl ?_
          refine V_iconst (v := 2) X d_Mod_parts_93 (by decide) rfl ?_
          obtain ⟨hb, h⟩ := ifn h
          obtain ⟨M5, eM5, h⟩ := memS h
          refine V_iast X kd_164 (inb_in ln_164 hb) d_Mod_parts_94 rfl ?_
          rw [← eM5]
          refine V_aload_n (n := 0) X d_Mod_parts_95 rfl rfl rfl ?_
          refine V_iload_n (n := 1) X d_Mod_parts_96 rfl rfl rfl ?_
          refine V_iload_n (n := 2) X d_Mod_parts_97 rfl rfl rfl ?_
          refine V_iload_n (n := 3) X d_Mod_parts_98 rfl rfl rfl ?_
          refine V_iconst (v := 1) X d_Mod_parts_99 (by decide) rfl ?_
          refine V_iadd X d_Mod_parts_100 rfl ?_
          refine V_iload (n := 4) X d_Mod_parts_101 rfl rfl ?_
          refine V_iload (n := 5) X d_Mod_parts_103 rfl rfl ?_
          refine V_iconst (v := 1) X d_Mod_parts_105 (by decide) rfl ?_
          refine V_iadd X d_Mod_parts_106 rfl ?_
          obtain ⟨x6, hx6, h⟩ := ob_s h
          refine V_ci (As := [.int v1, .int v2, .int (v3 + (1 : Int32)), .int v4, .int (s.1 + (1 : Int32))]) X (Z0 E) ml_Mod_393 yq_Mod_parts (hrc v1 v2 (v3 + (1 : Int32)) v4 (s.1 + (1 : Int32)) M5 x6 hx6 _ (Nat.le_refl _)) kd_162 rfl rfl (by omega) rfl (Nat.le_of_ble_eq_true rfl) d_Mod_parts_107 rfl (fun r9 M9 hq => ?_)
          rw [hq.1, hq.2]
          refine V_istore (lv' := [(7, .int x6.1), (0, .ref (G.2.2 + 162)), (1, .int v1), (2, .int v2), (3, .int v3), (4, .int v4), (6, .int s.1)]) X d_Mod_parts_110 (by decide) rfl rfl ?_
          refine V_aload_n (n := 1) X d_Mod_parts_112 rfl rfl rfl ?_
          refine V_getr (k2 := 164) X fo_Mod_13 kd_162 rfl rf_162_1 d_Mod_parts_113 rfl ?_
          refine V_iload (n := 6) X d_Mod_parts_116 rfl rfl ?_
          refine V_iconst (v := 3) X d_Mod_parts_118 (by decide) rfl ?_
          obtain ⟨hb, h⟩ := ifn h
          obtain ⟨M7, eM7, h⟩ := memS h
          refine V_iast X kd_164 (inb_in ln_164 hb) d_Mod_parts_119 rfl ?_
          rw [← eM7]
          refine V_iload (n := 0) X d_Mod_parts_120 rfl rfl ?_
          refine V_if_eq (tgt := 127) X d_Mod_parts_122 (by decide) rfl (fun c8 => ?_) (fun c8 => ?_)
          · rw [if_pos c8] at h
            refine V_iinc (n := 6) (v := (s.1 + (1 : Int32))) (lv' := [(6, .int (s.1 + (1 : Int32))), (7, .int x6.1), (0, .ref (G.2.2 + 162)), (1, .int v1), (2, .int v2), (3, .int v3), (4, .int v4)]) X d_Mod_parts_127 rfl rfl (by decide) rfl rfl ?_
            refine V_goto (pc' := 28) X d_Mod_parts_130 (by decide) ?_
            refine V_sub (lv' := [(0, .ref (G.2.2 + 162)), (1, .int v1), (2, .int v2), (3, .int v3), (4, .int v4), (6, .int (s.1 + (1 : Int32)))]) [2, 3, 4, 5, 6, 0] rfl ?_
            exact kc ((s.1 + (1 : Int32)), M7) (Option.some.inj h).symm
          · rw [if_neg c8] at h
            refine V_sub (lv' := []) [] rfl ?_
            exact kx1 M7 (Option.some.inj h).symm
        · rw [if_pos c9] at h
          refine V_goto (pc' := 127) X d_Mod_parts_76 (by decide) ?_
          refine V_iinc (n := 5) (v := (s.1 + (1 : Int32))) (lv' := [(6, .int (s.1 + (1 : Int32))), (0, .ref (G.2.2 + 162)), (1, .int v1), (2, .int v2), (3, .int v3), (4, .int v4)]) X d_Mod_parts_127 rfl rfl (by decide) rfl rfl ?_
          refine V_goto (pc' := 28) X d_Mod_parts_130 (by decide) ?_
          refine V_sub (lv' := [(0, .ref (G.2.2 + 162)), (1, .int v1), (2, .int v2), (3, .int v3), (4, .int v4), (6, .int (s.1 + (1 : Int32)))]) [1, 2, 3, 4, 5, 0] rfl ?_
          exact kc ((s.1 + (1 : Int32)), s.2) (Option.some.inj h).symm
theorem lp_Mod_parts_28_ok {E : Ev} {G : Gw} {d : Nat} {post : Int32 → Mem → Prop} {rc : Int32 → Int32 → Int32 → Int32 → Int32 → Mem → Option (Int32 × Mem)} {m0 : Nat} (X : Cx E G b_Mod_parts "WomenByTheRoofsModel" 8 d (some .boolean)) (hD : m0 + 8 ≤ d) (hrc : Rc_parts E.2.1 G m0 rc) (v1 : Int32) (v2 : Int32) (v3 : Int32) (v4 : Int32)   (n9 : Nat) (s : Int32 × Mem) (x : (Mem) ⊕ (Mem)) (h : iter (lb_Mod_parts_28 rc v1 v2 v3 v4) n9 s = some x) (kx0 : ∀ x9 : Mem, x = (Sum.inl x9) → V E (0, 0) G 8 (QI E G post) x9 133 [] []) (kx1 : ∀ x9 : Mem, x = (Sum.inr x9) → V E (0, 0) G 8 (QI E G post) x9 125 [] []) : V E (0, 0) G 8 (QI E G post) s.2 28 [(0, .ref (G.2.2 + 162)), (1, .int v1), (2, .int v2), (3, .int v3), (4, .int v4), (6, .int s.1)] [] :=
  iter_P (P := fun s : Int32 × Mem => V E (0, 0) G 8 (QI E G post) s.2 28 [(0, .ref (G.2.2 + 162)), (1, .int v1), (2, .int v2), (3, .int v3), (4, .int v4), (6, .int s.1)] []) (fun s o hb kc ky => lb_Mod_parts_28_ok X hD hrc v1 v2 v3 v4 s o hb kc (fun x9 e9 => kx0 x9 (ky _ e9).symm) (fun x9 e9 => kx1 x9 (ky _ e9).symm)) n9 s h
def fb_Mod_parts (rc : Int32 → Int32 → Int32 → Int32 → Int32 → Mem → Option (Int32 × Mem)) (v1 : Int32) (v2 : Int32) (v3 : Int32) (v4 : Int32) (v5 : Int32) (M : Mem) : Option (Int32 × Mem) :=
  if v3 = v4 then
  Option.bind (f_Mod_findTryst v1 v2 M) fun x16 =>
  if x16.1 = (1000000 : Int32) then
  some ((1 : Int32), x16.2)
  else
  some ((0 : Int32), x16.2)
  else
  Option.bind (iter (lb_Mod_parts_28 rc v1 v2 v3 v4) FU (v5, M)) (Sum.elim (fun y14 => some ((0 : Int32), y14)) (fun y15 => some ((1 : Int32), y15)))
theorem cb_Mod_parts (l : Launch) (G : Gw) (rc : Int32 → Int32 → Int32 → Int32 → Int32 → Mem → Option (Int32 × Mem)) (m0 : Nat) (hrc : Rc_parts l G m0 rc) (v1 : Int32) (v2 : Int32) (v3 : Int32) (v4 : Int32) (v5 : Int32) (M : Mem) (x : Int32 × Mem) (h : fb_Mod_parts rc v1 v2 v3 v4 v5 M = some x) (d : Nat) (hD : m0 + 8 ≤ d) : Ci l G y_Mod_parts b_Mod_parts 8 (some .boolean) d [.ref (G.2.2 + 162), .int v1, .int v2, .int v3, .int v4, .int v5] M (fun r9 M9 => r9 = x.1 ∧ M9 = x.2) := by
  refine Ci_of (by decide) (Nat.le_of_ble_eq_true rfl) (fun E hE X => ?_)
  subst hE
  have kr : ∀ x9 : Int32 × Mem, x = x9 → (fun r9 M9 => r9 = x.1 ∧ M9 = x.2) x9.1 x9.2 := fun x9 e9 => by subst e9; exact ⟨rfl, rfl⟩
  unfold fb_Mod_parts at h
  refine V_iload_n (n := 3) X d_Mod_parts_0 rfl rfl rfl ?_
  refine V_iload (n := 4) X d_Mod_parts_1 rfl rfl ?_
  refine V_icmp_ne (tgt := 24) X d_Mod_parts_3 (by decide) rfl (fun c18 => ?_) (fun c18 => ?_)
  · rw [if_neg c18] at h
    refine V_iload (n := 5) X d_Mod_parts_24 rfl rfl ?_
    refine V_istore (lv' := [(6, .int v5), (0, .ref (G.2.2 + 162)), (1, .int v1), (2, .int v2), (3, .int v3), (4, .int v4), (5, .int v5)]) X d_Mod_parts_26 (by decide) rfl rfl ?_
    refine V_sub (lv' := [(0, .ref (G.2.2 + 162)), (1, .int v1), (2, .int v2), (3, .int v3), (4, .int v4), (6, .int v5)]) [1, 2, 3, 4, 5, 0] rfl ?_
    obtain ⟨x13, hx13, h⟩ := ob_s h
    rcases x13 with y14 | y15
    · simp only [Sum.elim_inl, Sum.elim_inr] at h
      refine (lp_Mod_parts_28_ok X hD hrc v1 v2 v3 v4 _ _ _ hx13 (fun x9 e9 => ?_) (fun x9 e9 => by cases e9) :)
      cases e9
      refine V_iconst (v := 0) X d_Mod_parts_133 (by decide) rfl ?_
      exact V_zret X (kr ((0 : Int32), y14) (Option.some.inj h).symm) (by decide) d_Mod_parts_134
    · simp only [Sum.elim_inl, Sum.elim_inr] at h
      refine (lp_Mod_parts_28_ok X hD hrc v1 v2 v3 v4 _ _ _ hx13 (fun x9 e9 => by cases e9) (fun x9 e9 => ?_) :)
      cases e9
      refine V_iconst (v := 1) X d_Mod_parts_125 (by decide) rfl ?_
      exact V_zret X (kr ((1 : Int32), y15) (Option.some.inj h).symm) (by decide) d_Mod_parts_126
  · rw [if_pos c18] at h
    refine V_aload_n (n := 0) X d_Mod_parts_6 rfl rfl rfl ?_
    refine V_iload_n (n := 1) X d_Mod_parts_7 rfl rfl rfl ?_
    refine V_iload_n (n := 2) X d_Mod_parts_8 rfl rfl rfl ?_
    obtain ⟨x16, hx16, h⟩ := ob_s h
    refine V_ci (As := [.int v1, .int v2]) X (Z0 E) ml_Mod_390 yq_Mod_findTryst (c_Mod_findTryst E.2.1 G v1 v2 M x16 hx16 _ (Nat.le_refl _)) kd_162 rfl rfl (by omega) rfl (Nat.le_of_ble_eq_true rfl) d_Mod_parts_9 rfl (fun r9 M9 hq => ?_)
    rw [hq.1, hq.2]
    refine V_ldc_w (v := 1000000) X d_Mod_parts_12 kc_Mod_357 rfl ?_
    refine V_icmp_ne (tgt := 22) X d_Mod_parts_15 (by decide) rfl (fun c17 => ?_) (fun c17 => ?_)
    · rw [if_neg c17] at h
      refine V_iconst (v := 0) X d_Mod_parts_22 (by decide) rfl ?_
      exact V_zret X (kr ((0 : Int32), x16.2) (Option.some.inj h).symm) (by decide) d_Mod_parts_23
    · rw [if_pos c17] at h
      refine V_iconst (v := 1) X d_Mod_parts_18 (by decide) rfl ?_
      refine V_goto (pc' := 23) X d_Mod_parts_19 (by decide) ?_
      exact V_zret X (kr ((1 : Int32), x16.2) (Option.some.inj h).symm) (by decide) d_Mod_parts_23
def fr_parts : Nat → Int32 → Int32 → Int32 → Int32 → Int32 → Mem → Option (Int32 × Mem)
  | 0, _, _, _, _, _, _ => none
  | n + 1, a0, a1, a2, a3, a4, M => fb_Mod_parts (fr_parts n) a0 a1 a2 a3 a4 M
theorem rc_parts (l : Launch) (G : Gw) : ∀ n, Rc_parts l G (n * 8) (fr_parts n) := by
  intro n
  induction n with
  | zero => exact fun a0 a1 a2 a3 a4 M x h => by simp [fr_parts] at h
  | succ n ih =>
    exact fun a0 a1 a2 a3 a4 M x h d hd => by
        simp only [fr_parts] at h
        exact cb_Mod_parts l G (fr_parts n) (n * 8) ih a0 a1 a2 a3 a4 M x h d (by omega)
def f_Mod_parts (a0 : Int32) (a1 : Int32) (a2 : Int32) (a3 : Int32) (a4 : Int32) (M : Mem) : Option (Int32 × Mem) := fr_parts 8 a0 a1 a2 a3 a4 M
theorem c_Mod_parts (l : Launch) (G : Gw) (a0 : Int32) (a1 : Int32) (a2 : Int32) (a3 : Int32) (a4 : Int32) (M : Mem) (x : Int32 × Mem) (h : f_Mod_parts a0 a1 a2 a3 a4 M = some x) (d : Nat) (hD : 64 ≤ d) : Ci l G y_Mod_parts b_Mod_parts 8 (some .boolean) d [.ref (G.2.2 + 162), .int a0, .int a1, .int a2, .int a3, .int a4] M (fun r9 M9 => r9 = x.1 ∧ M9 = x.2) := rc_parts l G 8 a0 a1 a2 a3 a4 M x h d hD
def lb_Mod_part_18 (v1 : Int32) (v2 : Int32) (s : Int32 × Mem) : Option ((Int32 × Mem) ⊕ ((Mem) ⊕ (Int32 × Mem))) :=
  if (3 : Int32) < s.1 then
  some (.inr (Sum.inl s.2))
  else
  Option.bind (f_Mod_parts v1 v2 (0 : Int32) s.1 (0 : Int32) s.2) fun x3 =>
  if x3.1 = 0 then
  some (.inl ((s.1 + (1 : Int32)), x3.2))
  else
  some (.inr (Sum.inr (s.1, x3.2)))
theorem lb_Mod_part_18_ok {E : Ev} {G : Gw} {d : Nat} {post : Int32 → Mem → Prop} (X : Cx E G b_Mod_part "WomenByTheRoofsModel" 5 d (some .int)) (hD : 65 ≤ d)  (v1 : Int32) (v2 : Int32)   (s : Int32 × Mem) (o : (Int32 × Mem) ⊕ ((Mem) ⊕ (Int32 × Mem))) (h : lb_Mod_part_18 v1 v2 s = some o) (kc : ∀ s9 : Int32 × Mem, o = .inl s9 → V E (0, 0) G 5 (QI E G post) s9.2 18 [(0, .ref (G.2.2 + 162)), (1, .int v1), (2, .int v2), (3, .int s9.1)] []) (kx0 : ∀ x9 : Mem, o = .inr (Sum.inl x9) → V E (0, 0) G 5 (QI E G post) x9 77 [] []) (kx1 : ∀ x9 : Int32 × Mem, o = .inr (Sum.inr x9) → V E (0, 0) G 5 (QI E G post) x9.2 38 [(0, .ref (G.2.2 + 162)), (3, .int x9.1)] []) : V E (0, 0) G 5 (QI E G post) s.2 18 [(0, .ref (G.2.2 + 162)), (1, .int v1), (2, .int v2), (3, .int s.1)] [] := by
  unfold lb_Mod_part_18 at h
  refine V_iload_n (n := 3) X d_Mod_part_18 rfl rfl rfl ?_
  refine V_iconst (v := 3) X d_Mod_part_19 (by decide) rfl ?_
  refine V_icmp_gt (tgt := 77) X d_Mod_part_20 (by decide) rfl (fun c5 => ?_) (fun c5 => ?_)
  · rw [if_pos c5] at h
    refine V_sub (lv' := []) [] rfl ?_
    exact kx0 s.2 (Option.some.inj h).symm
  · rw [if_neg c5] at h
    refine V_aload_n (n := 0) X d_Mod_part_23 rfl rfl rfl ?_
    refine V_iload_n (n := 1) X d_Mod_part_24 rfl rfl rfl ?_
    refine V_iload_n (n := 2) X d_Mod_part_25 rfl rfl rfl ?_
    refine V_iconst (v := 0) X d_Mod_part_26 (by decide) rfl ?_
    refine V_iload_n (n := 3) X d_Mod_part_27 rfl rfl rfl ?_
    refine V_iconst (v := 0) X d_Mod_part_28 (by decide) rfl ?_
    obtain ⟨x3, hx3, h⟩ := ob_s h
    refine V_ci (As := [.int v1, .int v2, .int (0 : Int32), .int s.1, .int (0 : Int32)]) X (Z0 E) ml_Mod_393 yq_Mod_parts (c_Mod_parts E.2.1 G v1 v2 (0 : Int32) s.1 (0 : Int32) s.2 x3 hx3 _ (Nat.le_refl _)) kd_162 rfl rfl (by omega) rfl (Nat.le_of_ble_eq_true rfl) d_Mod_part_29 rfl (fun r9 M9 hq => ?_)
    rw [hq.1, hq.2]
    refine V_if_ne (tgt := 38) X d_Mod_part_32 (by decide) rfl (fun c4 => ?_) (fun c4 => ?_)
    · rw [if_neg c4] at h
      refine V_sub (lv' := [(0, .ref (G.2.2 + 162)), (3, .int s.1)]) [0, 3] rfl ?_
      exact kx1 (s.1, x3.2) (Option.some.inj h).symm
    · rw [if_pos c4] at h
      refine V_goto (pc' := 71) X d_Mod_part_35 (by decide) ?_
      refine V_iinc (n := 3) (v := (s.1 + (1 : Int32))) (lv' := [(3, .int (s.1 + (1 : Int32))), (0, .ref (G.2.2 + 162)), (1, .int v1), (2, .int v2)]) X d_Mod_part_71 rfl rfl (by decide) rfl rfl ?_
      refine V_goto (pc' := 18) X d_Mod_part_74 (by decide) ?_
      refine V_sub (lv' := [(0, .ref (G.2.2 + 162)), (1, .int v1), (2, .int v2), (3, .int (s.1 + (1 : Int32)))]) [1, 2, 3, 0] rfl ?_
      exact kc ((s.1 + (1 : Int32)), x3.2) (Option.some.inj h).symm
theorem lp_Mod_part_18_ok {E : Ev} {G : Gw} {d : Nat} {post : Int32 → Mem → Prop} (X : Cx E G b_Mod_part "WomenByTheRoofsModel" 5 d (some .int)) (hD : 65 ≤ d)  (v1 : Int32) (v2 : Int32)   (n9 : Nat) (s : Int32 × Mem) (x : (Mem) ⊕ (Int32 × Mem)) (h : iter (lb_Mod_part_18 v1 v2) n9 s = some x) (kx0 : ∀ x9 : Mem, x = (Sum.inl x9) → V E (0, 0) G 5 (QI E G post) x9 77 [] []) (kx1 : ∀ x9 : Int32 × Mem, x = (Sum.inr x9) → V E (0, 0) G 5 (QI E G post) x9.2 38 [(0, .ref (G.2.2 + 162)), (3, .int x9.1)] []) : V E (0, 0) G 5 (QI E G post) s.2 18 [(0, .ref (G.2.2 + 162)), (1, .int v1), (2, .int v2), (3, .int s.1)] [] :=
  iter_P (P := fun s : Int32 × Mem => V E (0, 0) G 5 (QI E G post) s.2 18 [(0, .ref (G.2.2 + 162)), (1, .int v1), (2, .int v2), (3, .int s.1)] []) (fun s o hb kc ky => lb_Mod_part_18_ok X hD v1 v2 s o hb kc (fun x9 e9 => kx0 x9 (ky _ e9).symm) (fun x9 e9 => kx1 x9 (ky _ e9).symm)) n9 s h
def lb_Mod_part_46 (v3 : Int32) (s : Int32 × Mem) : Option ((Int32 × Mem) ⊕ ((Mem))) :=
  if v3 ≤ s.1 then
  some (.inr s.2)
  else
  if inb s.1 3 = true then
  Option.bind (f_Mod_put (s.2.1 184 s.1.toNatClampNeg) s.2) fun x10 =>
  some (.inl ((s.1 + (1 : Int32)), x10))
  else none
theorem lb_Mod_part_46_ok {E : Ev} {G : Gw} {d : Nat} {post : Int32 → Mem → Prop} (X : Cx E G b_Mod_part "WomenByTheRoofsModel" 5 d (some .int)) (hD : 65 ≤ d)  (v3 : Int32)   (s : Int32 × Mem) (o : (Int32 × Mem) ⊕ ((Mem))) (h : lb_Mod_part_46 v3 s = some o) (kc : ∀ s9 : Int32 × Mem, o = .inl s9 → V E (0, 0) G 5 (QI E G post) s9.2 46 [(0, .ref (G.2.2 + 162)), (3, .int v3), (4, .int s9.1)] []) (kx0 : ∀ x9 : Mem, o = .inr x9 → V E (0, 0) G 5 (QI E G post) x9 69 [(3, .int v3)] []) : V E (0, 0) G 5 (QI E G post) s.2 46 [(0, .ref (G.2.2 + 162)), (3, .int v3), (4, .int s.1)] [] := by
  unfold lb_Mod_part_46 at h
  refine V_iload (n := 2) X d_Mod_part_46 rfl rfl ?_
  refine V_iload_n (n := 1) X d_Mod_part_48 rfl rfl rfl ?_
  refine V_icmp_ge (tgt := 69) X d_Mod_part_49 (by decide) rfl (fun c11 => ?_) (fun c11 => ?_)
  · rw [if_pos c11] at h
    refine V_sub (lv' := [(3, .int v3)]) [1] rfl ?_
    exact kx0 s.2 (Option.some.inj h).symm
  · rw [if_neg c11] at h
    refine V_aload_n (n := 0) X d_Mod_part_52 rfl rfl rfl ?_
    refine V_aload_n (n := 0) X d_Mod_part_53 rfl rfl rfl ?_
    refine V_getr (k2 := 184) X fo_Mod_85 kd_162 rfl rf_162_43 d_Mod_part_54 rfl ?_
    refine V_iload (n := 2) X d_Mod_part_57 rfl rfl ?_
    obtain ⟨hb, h⟩ := ifn h
    refine V_iald X kd_184 (inb_in ln_184 hb) d_Mod_part_59 rfl ?_
    obtain ⟨x10, hx10, h⟩ := ob_s h
    refine V_cv (As := [.int (s.2.1 184 s.1.toNatClampNeg)]) X (Z0 E) ml_Mod_342 yq_Mod_put (c_Mod_put E.2.1 G (s.2.1 184 s.1.toNatClampNeg) s.2 x10 hx10 _ (Nat.le_refl _)) kd_162 rfl rfl (by omega) rfl (Nat.le_of_ble_eq_true rfl) d_Mod_part_60 rfl (fun M9 hq => ?_)
    rw [hq]
    refine V_iinc (n := 2) (v := (s.1 + (1 : Int32))) (lv' := [(4, .int (s.1 + (1 : Int32))), (0, .ref (G.2.2 + 162)), (3, .int v3)]) X d_Mod_part_63 rfl rfl (by decide) rfl rfl ?_
    refine V_goto (pc' := 46) X d_Mod_part_66 (by decide) ?_
    refine V_sub (lv' := [(0, .ref (G.2.2 + 162)), (3, .int v3), (4, .int (s.1 + (1 : Int32)))]) [1, 2, 0] rfl ?_
    exact kc ((s.1 + (1 : Int32)), x10) (Option.some.inj h).symm
theorem lp_Mod_part_46_ok {E : Ev} {G : Gw} {d : Nat} {post : Int32 → Mem → Prop} (X : Cx E G b_Mod_part "WomenByTheRoofsModel" 5 d (some .int)) (hD : 65 ≤ d)  (v3 : Int32)   (n9 : Nat) (s : Int32 × Mem) (x : (Mem)) (h : iter (lb_Mod_part_46 v3) n9 s = some x) (kx0 : ∀ x9 : Mem, x = x9 → V E (0, 0) G 5 (QI E G post) x9 69 [(3, .int v3)] []) : V E (0, 0) G 5 (QI E G post) s.2 46 [(0, .ref (G.2.2 + 162)), (3, .int v3), (4, .int s.1)] [] :=
  iter_P (P := fun s : Int32 × Mem => V E (0, 0) G 5 (QI E G post) s.2 46 [(0, .ref (G.2.2 + 162)), (3, .int v3), (4, .int s.1)] []) (fun s o hb kc ky => lb_Mod_part_46_ok X hD v3 s o hb kc (fun x9 e9 => kx0 x9 (ky _ e9).symm)) n9 s h
def f_Mod_part (v1 : Int32) (v2 : Int32) (M : Mem) : Option (Int32 × Mem) :=
  mem_ (s_i M 162 13 (0 : Int32)) fun M1 =>
  Option.bind (f_Mod_areManWoman v1 v2 M1) fun x2 =>
  if x2 = 0 then
  some ((-1 : Int32), M1)
  else
  Option.bind (iter (lb_Mod_part_18 v1 v2) FU ((0 : Int32), M1)) (Sum.elim (fun y7 => some ((-2 : Int32), y7)) (fun y8 => mem_ (s_i y8.2 162 12 (0 : Int32)) fun M9 =>
  Option.bind (iter (lb_Mod_part_46 y8.1) FU ((0 : Int32), M9)) fun x12 =>
  some (y8.1, x12)))
theorem c_Mod_part (l : Launch) (G : Gw)  (v1 : Int32) (v2 : Int32) (M : Mem) (x : Int32 × Mem) (h : f_Mod_part v1 v2 M = some x) (d : Nat) (hD : 65 ≤ d) : Ci l G y_Mod_part b_Mod_part 5 (some .int) d [.ref (G.2.2 + 162), .int v1, .int v2] M (fun r9 M9 => r9 = x.1 ∧ M9 = x.2) := by
  refine Ci_of (by decide) (Nat.le_of_ble_eq_true rfl) (fun E hE X => ?_)
  subst hE
  have kr : ∀ x9 : Int32 × Mem, x = x9 → (fun r9 M9 => r9 = x.1 ∧ M9 = x.2) x9.1 x9.2 := fun x9 e9 => by subst e9; exact ⟨rfl, rfl⟩
  unfold f_Mod_part at h
  refine V_aload_n (n := 0) X d_Mod_part_0 rfl rfl rfl ?_
  refine V_iconst (v := 0) X d_Mod_part_1 (by decide) rfl ?_
  obtain ⟨M1, eM1, h⟩ := memS h
  refine V_putI X fp_Mod_109 kd_162 rfl d_Mod_part_2 rfl ?_
  rw [← eM1]
  refine V_aload_n (n := 0) X d_Mod_part_5 rfl rfl rfl ?_
  refine V_iload_n (n := 1) X d_Mod_part_6 rfl rfl rfl ?_
  refine V_iload_n (n := 2) X d_Mod_part_7 rfl rfl rfl ?_
  obtain ⟨x2, hx2, h⟩ := ob_s h
  refine V_ci (As := [.int v1, .int v2]) X (Z0 E) ml_Mod_387 yq_Mod_areManWoman (c_Mod_areManWoman E.2.1 G v1 v2 M1 x2 hx2 _ (Nat.le_refl _)) kd_162 rfl rfl (by omega) rfl (Nat.le_of_ble_eq_true rfl) d_Mod_part_8 rfl (fun r9 M9 hq => ?_)
  rw [hq.1, hq.2]
  refine V_if_ne (tgt := 16) X d_Mod_part_11 (by decide) rfl (fun c13 => ?_) (fun c13 => ?_)
  · rw [if_neg c13] at h
    refine V_iconst (v := 0) X d_Mod_part_16 (by decide) rfl ?_
    refine V_istore_n (lv' := [(3, .int (0 : Int32)), (0, .ref (G.2.2 + 162)), (1, .int v1), (2, .int v2)]) X d_Mod_part_17 rfl (by decide) rfl rfl ?_
    refine V_sub (lv' := [(0, .ref (G.2.2 + 162)), (1, .int v1), (2, .int v2), (3, .int (0 : Int32))]) [1, 2, 3, 0] rfl ?_
    obtain ⟨x6, hx6, h⟩ := ob_s h
    rcases x6 with y7 | y8
    · simp only [Sum.elim_inl, Sum.elim_inr] at h
      refine (lp_Mod_part_18_ok X hD v1 v2 _ _ _ hx6 (fun x9 e9 => ?_) (fun x9 e9 => by cases e9) :)
      cases e9
      refine V_bipush (v := -2) X d_Mod_part_77 (by decide) rfl ?_
      exact V_iret X (kr ((-2 : Int32), y7) (Option.some.inj h).symm) d_Mod_part_79
    · simp only [Sum.elim_inl, Sum.elim_inr] at h
      refine (lp_Mod_part_18_ok X hD v1 v2 _ _ _ hx6 (fun x9 e9 => by cases e9) (fun x9 e9 => ?_) :)
      cases e9
      refine V_aload_n (n := 0) X d_Mod_part_38 rfl rfl rfl ?_
      refine V_iconst (v := 0) X d_Mod_part_39 (by decide) rfl ?_
      obtain ⟨M9, eM9, h⟩ := memS h
      refine V_putI X fp_Mod_112 kd_162 rfl d_Mod_part_40 rfl ?_
      rw [← eM9]
      refine V_iconst (v := 0) X d_Mod_part_43 (by decide) rfl ?_
      refine V_istore (lv' := [(4, .int (0 : Int32)), (0, .ref (G.2.2 + 162)), (3, .int y8.1)]) X d_Mod_part_44 (by decide) rfl rfl ?_
      refine V_sub (lv' := [(0, .ref (G.2.2 + 162)), (3, .int y8.1), (4, .int (0 : Int32))]) [1, 2, 0] rfl ?_
      obtain ⟨x12, hx12, h⟩ := ob_s h
      refine (lp_Mod_part_46_ok X hD y8.1 _ _ _ hx12 (fun x9 e9 => ?_) :)
      subst e9
      refine V_iload_n (n := 0) X d_Mod_part_69 rfl rfl rfl ?_
      exact V_iret X (kr (y8.1, x12) (Option.some.inj h).symm) d_Mod_part_70
  · rw [if_pos c13] at h
    refine V_iconst (v := -1) X d_Mod_part_14 (by decide) rfl ?_
    exact V_iret X (kr ((-1 : Int32), M1) (Option.some.inj h).symm) d_Mod_part_15
def lb_Mod_planks_27 (v1 : Int32) (v2 : Int32) (s : Int32 × Mem) : Option ((Int32 × Mem) ⊕ ((Mem))) :=
  if (72 : Int32) ≤ s.1 then
  some (.inr s.2)
  else
  if inb s.1 72 = true then
  mem_ (s_i s.2 180 s.1.toNatClampNeg (1000000 : Int32)) fun M4 =>
  some (.inl ((s.1 + (1 : Int32)), M4))
  else none
theorem lb_Mod_planks_27_ok {E : Ev} {G : Gw} {d : Nat} {post : Int32 → Mem → Prop} (X : Cx E G b_Mod_planks "WomenByTheRoofsModel" 8 d (some .int)) (hD : 5 ≤ d)  (v1 : Int32) (v2 : Int32)   (s : Int32 × Mem) (o : (Int32 × Mem) ⊕ ((Mem))) (h : lb_Mod_planks_27 v1 v2 s = some o) (kc : ∀ s9 : Int32 × Mem, o = .inl s9 → V E (0, 0) G 8 (QI E G post) s9.2 27 [(0, .ref (G.2.2 + 162)), (1, .int v1), (2, .int v2), (3, .int s9.1)] []) (kx0 : ∀ x9 : Mem, o = .inr x9 → V E (0, 0) G 8 (QI E G post) x9 48 [(0, .ref (G.2.2 + 162)), (1, .int v1), (2, .int v2)] []) : V E (0, 0) G 8 (QI E G post) s.2 27 [(0, .ref (G.2.2 + 162)), (1, .int v1), (2, .int v2), (3, .int s.1)] [] := by
  unfold lb_Mod_planks_27 at h
  refine V_iload_n (n := 3) X d_Mod_planks_27 rfl rfl rfl ?_
  refine V_bipush (v := 72) X d_Mod_planks_28 (by decide) rfl ?_
  refine V_icmp_ge (tgt := 48) X d_Mod_planks_30 (by decide) rfl (fun c5 => ?_) (fun c5 => ?_)
  · rw [if_pos c5] at h
    refine V_sub (lv' := [(0, .ref (G.2.2 + 162)), (1, .int v1), (2, .int v2)]) [0, 1, 2] rfl ?_
    exact kx0 s.2 (Option.some.inj h).symm
  · rw [if_neg c5] at h
    refine V_aload_n (n := 0) X d_Mod_planks_33 rfl rfl rfl ?_
    refine V_getr (k2 := 180) X fo_Mod_73 kd_162 rfl rf_162_38 d_Mod_planks_34 rfl ?_
    refine V_iload_n (n := 3) X d_Mod_planks_37 rfl rfl rfl ?_
    refine V_ldc_w (v := 1000000) X d_Mod_planks_38 kc_Mod_357 rfl ?_
    obtain ⟨hb, h⟩ := ifn h
    obtain ⟨M4, eM4, h⟩ := memS h
    refine V_iast X kd_180 (inb_in ln_180 hb) d_Mod_planks_41 rfl ?_
    rw [← eM4]
    refine V_iinc (n := 3) (v := (s.1 + (1 : Int32))) (lv' := [(3, .int (s.1 + (1 : Int32))), (0, .ref (G.2.2 + 162)), (1, .int v1), (2, .int v2)]) X d_Mod_planks_42 rfl rfl (by decide) rfl rfl ?_
    refine V_goto (pc' := 27) X d_Mod_planks_45 (by decide) ?_
    refine V_sub (lv' := [(0, .ref (G.2.2 + 162)), (1, .int v1), (2, .int v2), (3, .int (s.1 + (1 : Int32)))]) [1, 2, 3, 0] rfl ?_
    exact kc ((s.1 + (1 : Int32)), M4) (Option.some.inj h).symm
theorem lp_Mod_planks_27_ok {E : Ev} {G : Gw} {d : Nat} {post : Int32 → Mem → Prop} (X : Cx E G b_Mod_planks "WomenByTheRoofsModel" 8 d (some .int)) (hD : 5 ≤ d)  (v1 : Int32) (v2 : Int32)   (n9 : Nat) (s : Int32 × Mem) (x : (Mem)) (h : iter (lb_Mod_planks_27 v1 v2) n9 s = some x) (kx0 : ∀ x9 : Mem, x = x9 → V E (0, 0) G 8 (QI E G post) x9 48 [(0, .ref (G.2.2 + 162)), (1, .int v1), (2, .int v2)] []) : V E (0, 0) G 8 (QI E G post) s.2 27 [(0, .ref (G.2.2 + 162)), (1, .int v1), (2, .int v2), (3, .int s.1)] [] :=
  iter_P (P := fun s : Int32 × Mem => V E (0, 0) G 8 (QI E G post) s.2 27 [(0, .ref (G.2.2 + 162)), (1, .int v1), (2, .int v2), (3, .int s.1)] []) (fun s o hb kc ky => lb_Mod_planks_27_ok X hD v1 v2 s o hb kc (fun x9 e9 => kx0 x9 (ky _ e9).symm)) n9 s h
def j_Mod_planks_172_102 (v2 : Int32) (v3 : Int32) (v4 : Int32) (v5 : Int32) (w0 : Int32) (M : Mem) : Option ((Int32 × Int32 × Mem) ⊕ ((Int32 × Mem))) :=
  if w0 = (-1 : Int32) then
  some (.inl (v3, (v5 + (1 : Int32)), M))
  else
  Option.bind (f_Mod_canBridge v4 w0 M) fun x17 =>
  if x17 = 0 then
  some (.inl (v3, (v5 + (1 : Int32)), M))
  else
  Option.bind (f_Mod_placeOf (1 : Int32) w0) fun x18 =>
  Option.bind (f_Mod_placeOf (1 : Int32) v4) fun x19 =>
  if inb x19 72 = true then
  Option.bind (f_Mod_lowerBoth x18 ((M.1 180 x19.toNatClampNeg) + (1001 : Int32)) M) fun x20 =>
  some (.inl ((v3 ||| x20.1), (v5 + (1 : Int32)), x20.2))
  else none
theorem j_Mod_planks_172_102_ok {E : Ev} {G : Gw} {d : Nat} {post : Int32 → Mem → Prop} (X : Cx E G b_Mod_planks "WomenByTheRoofsModel" 8 d (some .int)) (hD : 5 ≤ d)  (v2 : Int32) (v3 : Int32) (v4 : Int32) (v5 : Int32) (w0 : Int32)  (M : Mem)  (o : (Int32 × Int32 × Mem) ⊕ ((Int32 × Mem))) (h : j_Mod_planks_172_102 v2 v3 v4 v5 w0 M = some o) (kc : ∀ s9 : Int32 × Int32 × Mem, o = .inl s9 → V E (0, 0) G 8 (QI E G post) s9.2.2 102 [(0, .ref (G.2.2 + 162)), (2, .int v2), (3, .int s9.1), (4, .int v4), (5, .int s9.2.1)] []) (kx0 : ∀ x9 : Int32 × Mem, o = .inr x9 → V E (0, 0) G 8 (QI E G post) x9.2 225 [(0, .ref (G.2.2 + 162)), (2, .int v2), (3, .int x9.1), (4, .int v4)] []) : V E (0, 0) G 8 (QI E G post) M 172 [(0, .ref (G.2.2 + 162)), (2, .int v2), (3, .int v3), (4, .int v4), (5, .int v5)] [.int w0] := by
  unfold j_Mod_planks_172_102 at h
  refine V_istore (lv' := [(7, .int w0), (0, .ref (G.2.2 + 162)), (2, .int v2), (3, .int v3), (4, .int v4), (5, .int v5)]) X d_Mod_planks_172 (by decide) rfl rfl ?_
  refine V_iload (n := 0) X d_Mod_planks_174 rfl rfl ?_
  refine V_iconst (v := -1) X d_Mod_planks_176 (by decide) rfl ?_
  refine V_icmp_eq (tgt := 219) X d_Mod_planks_177 (by decide) rfl (fun c22 => ?_) (fun c22 => ?_)
  · rw [if_pos c22] at h
    refine V_iinc (n := 5) (v := (v5 + (1 : Int32))) (lv' := [(5, .int (v5 + (1 : Int32))), (7, .int w0), (0, .ref (G.2.2 + 162)), (2, .int v2), (3, .int v3), (4, .int v4)]) X d_Mod_planks_219 rfl rfl (by decide) rfl rfl ?_
    refine V_goto (pc' := 102) X d_Mod_planks_222 (by decide) ?_
    refine V_sub (lv' := [(0, .ref (G.2.2 + 162)), (2, .int v2), (3, .int v3), (4, .int v4), (5, .int (v5 + (1 : Int32)))]) [2, 3, 4, 5, 0] rfl ?_
    exact kc (v3, (v5 + (1 : Int32)), M) (Option.some.inj h).symm
  · rw [if_neg c22] at h
    refine V_aload_n (n := 1) X d_Mod_planks_180 rfl rfl rfl ?_
    refine V_iload (n := 4) X d_Mod_planks_181 rfl rfl ?_
    refine V_iload (n := 0) X d_Mod_planks_183 rfl rfl ?_
    obtain ⟨x17, hx17, h⟩ := ob_s h
    refine V_ci (As := [.int v4, .int w0]) X (Z0 E) ml_Mod_283 yq_Mod_canBridge (c_Mod_canBridge E.2.1 G v4 w0 M x17 hx17 _ (Nat.le_refl _)) kd_162 rfl rfl (by omega) rfl (Nat.le_of_ble_eq_true rfl) d_Mod_planks_185 rfl (fun r9 M9 hq => ?_)
    rw [hq.1, hq.2]
    refine V_if_eq (tgt := 219) X d_Mod_planks_188 (by decide) rfl (fun c21 => ?_) (fun c21 => ?_)
    · rw [if_pos c21] at h
      refine V_iinc (n := 5) (v := (v5 + (1 : Int32))) (lv' := [(5, .int (v5 + (1 : Int32))), (7, .int w0), (0, .ref (G.2.2 + 162)), (2, .int v2), (3, .int v3), (4, .int v4)]) X d_Mod_planks_219 rfl rfl (by decide) rfl rfl ?_
      refine V_goto (pc' := 102) X d_Mod_planks_222 (by decide) ?_
      refine V_sub (lv' := [(0, .ref (G.2.2 + 162)), (2, .int v2), (3, .int v3), (4, .int v4), (5, .int (v5 + (1 : Int32)))]) [2, 3, 4, 5, 0] rfl ?_
      exact kc (v3, (v5 + (1 : Int32)), M) (Option.some.inj h).symm
    · rw [if_neg c21] at h
      refine V_iload_n (n := 3) X d_Mod_planks_191 rfl rfl rfl ?_
      refine V_aload_n (n := 1) X d_Mod_planks_192 rfl rfl rfl ?_
      refine V_iconst (v := 1) X d_Mod_planks_193 (by decide) rfl ?_
      refine V_iload (n := 0) X d_Mod_planks_194 rfl rfl ?_
      obtain ⟨x18, hx18, h⟩ := ob_s h
      refine V_si (As := [.int (1 : Int32), .int w0]) X (Z0 E) ml_Mod_154 yq_Mod_placeOf (c_Mod_placeOf E.2.1 G (1 : Int32) w0 M x18 hx18 _ (Nat.le_refl _)) rfl (by omega) rfl (Nat.le_of_ble_eq_true rfl) d_Mod_planks_196 rfl (fun r9 M9 hq => ?_)
      rw [hq.1, hq.2]
      refine V_aload_n (n := 1) X d_Mod_planks_199 rfl rfl rfl ?_
      refine V_getr (k2 := 180) X fo_Mod_73 kd_162 rfl rf_162_38 d_Mod_planks_200 rfl ?_
      refine V_iconst (v := 1) X d_Mod_planks_203 (by decide) rfl ?_
      refine V_iload (n := 4) X d_Mod_planks_204 rfl rfl ?_
      obtain ⟨x19, hx19, h⟩ := ob_s h
      refine V_si (As := [.int (1 : Int32), .int v4]) X (Z0 E) ml_Mod_154 yq_Mod_placeOf (c_Mod_placeOf E.2.1 G (1 : Int32) v4 M x19 hx19 _ (Nat.le_refl _)) rfl (by omega) rfl (Nat.le_of_ble_eq_true rfl) d_Mod_planks_206 rfl (fun r9 M9 hq => ?_)
      rw [hq.1, hq.2]
      obtain ⟨hb, h⟩ := ifn h
      refine V_iald X kd_180 (inb_in ln_180 hb) d_Mod_planks_209 rfl ?_
      refine V_sipush (v := 1001) X d_Mod_planks_210 (by decide) rfl ?_
      refine V_iadd X d_Mod_planks_213 rfl ?_
      obtain ⟨x20, hx20, h⟩ := ob_s h
      refine V_ci (As := [.int x18, .int ((M.1 180 x19.toNatClampNeg) + (1001 : Int32))]) X (Z0 E) ml_Mod_377 yq_Mod_lowerBoth (c_Mod_lowerBoth E.2.1 G x18 ((M.1 180 x19.toNatClampNeg) + (1001 : Int32)) M x20 hx20 _ (Nat.le_refl _)) kd_162 rfl rfl (by omega) rfl (Nat.le_of_ble_eq_true rfl) d_Mod_planks_214 rfl (fun r9 M9 hq => ?_)
      rw [hq.1, hq.2]
      refine V_ior X d_Mod_planks_217 rfl ?_
      refine V_istore_n (lv' := [(3, .int (v3 ||| x20.1)), (7, .int w0), (0, .ref (G.2.2 + 162)), (2, .int v2), (4, .int v4), (5, .int v5)]) X d_Mod_planks_218 rfl (by decide) rfl rfl ?_
      refine V_iinc (n := 5) (v := (v5 + (1 : Int32))) (lv' := [(5, .int (v5 + (1 : Int32))), (3, .int (v3 ||| x20.1)), (7, .int w0), (0, .ref (G.2.2 + 162)), (2, .int v2), (4, .int v4)]) X d_Mod_planks_219 rfl rfl (by decide) rfl rfl ?_
      refine V_goto (pc' := 102) X d_Mod_planks_222 (by decide) ?_
      refine V_sub (lv' := [(0, .ref (G.2.2 + 162)), (2, .int v2), (3, .int (v3 ||| x20.1)), (4, .int v4), (5, .int (v5 + (1 : Int32)))]) [3, 4, 1, 5, 0] rfl ?_
      exact kc ((v3 ||| x20.1), (v5 + (1 : Int32)), x20.2) (Option.some.inj h).symm
def lb_Mod_planks_102 (v2 : Int32) (v4 : Int32) (s : Int32 × Int32 × Mem) : Option ((Int32 × Int32 × Mem) ⊕ ((Int32 × Mem))) :=
  if (4 : Int32) ≤ s.2.1 then
  some (.inr (s.1, s.2.2))
  else
  Option.bind (f_Mod_placeOf (1 : Int32) v4) fun x11 =>
  Option.bind (f_Mod_go 163 x11 s.2.1 s.2.2) fun x12 =>
  Option.bind (f_Mod_placeOf (1 : Int32) v4) fun x13 =>
  if inb x13 72 = true then
  Option.bind (f_Mod_lowerBoth x12 ((s.2.2.1 180 x13.toNatClampNeg) + (1 : Int32)) s.2.2) fun x14 =>
  Option.bind (f_Mod_beside v4 s.2.1 x14.2) fun x15 =>
  if x15 = (-1 : Int32) then
  j_Mod_planks_172_102 v2 (s.1 ||| x14.1) v4 s.2.1 (-1 : Int32) x14.2
  else
  Option.bind (f_Mod_beside x15 s.2.1 x14.2) fun x16 =>
  j_Mod_planks_172_102 v2 (s.1 ||| x14.1) v4 s.2.1 x16 x14.2
  else none
theorem lb_Mod_planks_102_ok {E : Ev} {G : Gw} {d : Nat} {post : Int32 → Mem → Prop} (X : Cx E G b_Mod_planks "WomenByTheRoofsModel" 8 d (some .int)) (hD : 5 ≤ d)  (v2 : Int32) (v4 : Int32)   (s : Int32 × Int32 × Mem) (o : (Int32 × Int32 × Mem) ⊕ ((Int32 × Mem))) (h : lb_Mod_planks_102 v2 v4 s = some o) (kc : ∀ s9 : Int32 × Int32 × Mem, o = .inl s9 → V E (0, 0) G 8 (QI E G post) s9.2.2 102 [(0, .ref (G.2.2 + 162)), (2, .int v2), (3, .int s9.1), (4, .int v4), (5, .int s9.2.1)] []) (kx0 : ∀ x9 : Int32 × Mem, o = .inr x9 → V E (0, 0) G 8 (QI E G post) x9.2 225 [(0, .ref (G.2.2 + 162)), (2, .int v2), (3, .int x9.1), (4, .int v4)] []) : V E (0, 0) G 8 (QI E G post) s.2.2 102 [(0, .ref (G.2.2 + 162)), (2, .int v2), (3, .int s.1), (4, .int v4), (5, .int s.2.1)] [] := by
  unfold lb_Mod_planks_102 at h
  refine V_iload (n := 4) X d_Mod_planks_102 rfl rfl ?_
  refine V_iconst (v := 4) X d_Mod_planks_104 (by decide) rfl ?_
  refine V_icmp_ge (tgt := 225) X d_Mod_planks_105 (by decide) rfl (fun c24 => ?_) (fun c24 => ?_)
  · rw [if_pos c24] at h
    refine V_sub (lv' := [(0, .ref (G.2.2 + 162)), (2, .int v2), (3, .int s.1), (4, .int v4)]) [0, 1, 2, 3] rfl ?_
    exact kx0 (s.1, s.2.2) (Option.some.inj h).symm
  · rw [if_neg c24] at h
    refine V_iload_n (n := 2) X d_Mod_planks_108 rfl rfl rfl ?_
    refine V_aload_n (n := 0) X d_Mod_planks_109 rfl rfl rfl ?_
    refine V_aload_n (n := 0) X d_Mod_planks_110 rfl rfl rfl ?_
    refine V_aload_n (n := 0) X d_Mod_planks_111 rfl rfl rfl ?_
    refine V_getr (k2 := 163) X fo_Mod_9 kd_162 rfl rf_162_0 d_Mod_planks_112 rfl ?_
    refine V_iconst (v := 1) X d_Mod_planks_115 (by decide) rfl ?_
    refine V_iload (n := 3) X d_Mod_planks_116 rfl rfl ?_
    obtain ⟨x11, hx11, h⟩ := ob_s h
    refine V_si (As := [.int (1 : Int32), .int v4]) X (Z0 E) ml_Mod_154 yq_Mod_placeOf (c_Mod_placeOf E.2.1 G (1 : Int32) v4 s.2.2 x11 hx11 _ (Nat.le_refl _)) rfl (by omega) rfl (Nat.le_of_ble_eq_true rfl) d_Mod_planks_118 rfl (fun r9 M9 hq => ?_)
    rw [hq.1, hq.2]
    refine V_iload (n := 4) X d_Mod_planks_121 rfl rfl ?_
    obtain ⟨x12, hx12, h⟩ := ob_s h
    refine V_ci (As := [.ref (G.2.2 + 163), .int x11, .int s.2.1]) X (Z0 E) ml_Mod_252 yq_Mod_go (c_Mod_go E.2.1 G 163 x11 s.2.1 s.2.2 x12 hx12 _ (Nat.le_refl _)) kd_162 rfl rfl (by omega) rfl (Nat.le_of_ble_eq_true rfl) d_Mod_planks_123 rfl (fun r9 M9 hq => ?_)
    rw [hq.1, hq.2]
    refine V_aload_n (n := 0) X d_Mod_planks_126 rfl rfl rfl ?_
    refine V_getr (k2 := 180) X fo_Mod_73 kd_162 rfl rf_162_38 d_Mod_planks_127 rfl ?_
    refine V_iconst (v := 1) X d_Mod_planks_130 (by decide) rfl ?_
    refine V_iload (n := 3) X d_Mod_planks_131 rfl rfl ?_
    obtain ⟨x13, hx13, h⟩ := ob_s h
    refine V_si (As := [.int (1 : Int32), .int v4]) X (Z0 E) ml_Mod_154 yq_Mod_placeOf (c_Mod_placeOf E.2.1 G (1 : Int32) v4 s.2.2 x13 hx13 _ (Nat.le_refl _)) rfl (by omega) rfl (Nat.le_of_ble_eq_true rfl) d_Mod_planks_133 rfl (fun r9 M9 hq => ?_)
    rw [hq.1, hq.2]
    obtain ⟨hb, h⟩ := ifn h
    refine V_iald X kd_180 (inb_in ln_180 hb) d_Mod_planks_136 rfl ?_
    refine V_iconst (v := 1) X d_Mod_planks_137 (by decide) rfl ?_
    refine V_iadd X d_Mod_planks_138 rfl ?_
    obtain ⟨x14, hx14, h⟩ := ob_s h
    refine V_ci (As := [.int x12, .int ((s.2.2.1 180 x13.toNatClampNeg) + (1 : Int32))]) X (Z0 E) ml_Mod_377 yq_Mod_lowerBoth (c_Mod_lowerBoth E.2.1 G x12 ((s.2.2.1 180 x13.toNatClampNeg) + (1 : Int32)) s.2.2 x14 hx14 _ (Nat.le_refl _)) kd_162 rfl rfl (by omega) rfl (Nat.le_of_ble_eq_true rfl) d_Mod_planks_139 rfl (fun r9 M9 hq => ?_)
    rw [hq.1, hq.2]
    refine V_ior X d_Mod_planks_142 rfl ?_
    refine V_istore_n (lv' := [(3, .int (s.1 ||| x14.1)), (0, .ref (G.2.2 + 162)), (2, .int v2), (4, .int v4), (5, .int s.2.1)]) X d_Mod_planks_143 rfl (by decide) rfl rfl ?_
    refine V_aload_n (n := 1) X d_Mod_planks_144 rfl rfl rfl ?_
    refine V_iload (n := 3) X d_Mod_planks_145 rfl rfl ?_
    refine V_iload (n := 4) X d_Mod_planks_147 rfl rfl ?_
    obtain ⟨x15, hx15, h⟩ := ob_s h
    refine V_ci (As := [.int v4, .int s.2.1]) X (Z0 E) ml_Mod_150 yq_Mod_beside (c_Mod_beside E.2.1 G v4 s.2.1 x14.2 x15 hx15 _ (Nat.le_refl _)) kd_162 rfl rfl (by omega) rfl (Nat.le_of_ble_eq_true rfl) d_Mod_planks_149 rfl (fun r9 M9 hq => ?_)
    rw [hq.1, hq.2]
    refine V_istore (lv' := [(6, .int x15), (3, .int (s.1 ||| x14.1)), (0, .ref (G.2.2 + 162)), (2, .int v2), (4, .int v4), (5, .int s.2.1)]) X d_Mod_planks_152 (by decide) rfl rfl ?_
    refine V_iload (n := 0) X d_Mod_planks_154 rfl rfl ?_
    refine V_iconst (v := -1) X d_Mod_planks_156 (by decide) rfl ?_
    refine V_icmp_ne (tgt := 164) X d_Mod_planks_157 (by decide) rfl (fun c23 => ?_) (fun c23 => ?_)
    · rw [if_neg c23] at h
      refine V_aload_n (n := 2) X d_Mod_planks_164 rfl rfl rfl ?_
      refine V_iload (n := 0) X d_Mod_planks_165 rfl rfl ?_
      refine V_iload (n := 5) X d_Mod_planks_167 rfl rfl ?_
      obtain ⟨x16, hx16, h⟩ := ob_s h
      refine V_ci (As := [.int x15, .int s.2.1]) X (Z0 E) ml_Mod_150 yq_Mod_beside (c_Mod_beside E.2.1 G x15 s.2.1 x14.2 x16 hx16 _ (Nat.le_refl _)) kd_162 rfl rfl (by omega) rfl (Nat.le_of_ble_eq_true rfl) d_Mod_planks_169 rfl (fun r9 M9 hq => ?_)
      rw [hq.1, hq.2]
      refine V_sub (lv' := [(0, .ref (G.2.2 + 162)), (2, .int v2), (3, .int (s.1 ||| x14.1)), (4, .int v4), (5, .int s.2.1)]) [2, 3, 1, 4, 5] rfl ?_
      exact j_Mod_planks_172_102_ok X hD v2 (s.1 ||| x14.1) v4 s.2.1 x16 x14.2 _ h kc kx0
    · rw [if_pos c23] at h
      refine V_iconst (v := -1) X d_Mod_planks_160 (by decide) rfl ?_
      refine V_goto (pc' := 172) X d_Mod_planks_161 (by decide) ?_
      refine V_sub (lv' := [(0, .ref (G.2.2 + 162)), (2, .int v2), (3, .int (s.1 ||| x14.1)), (4, .int v4), (5, .int s.2.1)]) [2, 3, 1, 4, 5] rfl ?_
      exact j_Mod_planks_172_102_ok X hD v2 (s.1 ||| x14.1) v4 s.2.1 (-1 : Int32) x14.2 _ h kc kx0
theorem lp_Mod_planks_102_ok {E : Ev} {G : Gw} {d : Nat} {post : Int32 → Mem → Prop} (X : Cx E G b_Mod_planks "WomenByTheRoofsModel" 8 d (some .int)) (hD : 5 ≤ d)  (v2 : Int32) (v4 : Int32)   (n9 : Nat) (s : Int32 × Int32 × Mem) (x : (Int32 × Mem)) (h : iter (lb_Mod_planks_102 v2 v4) n9 s = some x) (kx0 : ∀ x9 : Int32 × Mem, x = x9 → V E (0, 0) G 8 (QI E G post) x9.2 225 [(0, .ref (G.2.2 + 162)), (2, .int v2), (3, .int x9.1), (4, .int v4)] []) : V E (0, 0) G 8 (QI E G post) s.2.2 102 [(0, .ref (G.2.2 + 162)), (2, .int v2), (3, .int s.1), (4, .int v4), (5, .int s.2.1)] [] :=
  iter_P (P := fun s : Int32 × Int32 × Mem => V E (0, 0) G 8 (QI E G post) s.2.2 102 [(0, .ref (G.2.2 + 162)), (2, .int v2), (3, .int s.1), (4, .int v4), (5, .int s.2.1)] []) (fun s o hb kc ky => lb_Mod_planks_102_ok X hD v2 v4 s o hb kc (fun x9 e9 => kx0 x9 (ky _ e9).symm)) n9 s h
def lb_Mod_planks_70 (v2 : Int32) (s : Int32 × Int32 × Mem) : Option ((Int32 × Int32 × Mem) ⊕ ((Int32 × Mem))) :=
  Option.bind (f_Mod_cells s.2.2) fun x9 =>
  if x9 ≤ s.2.1 then
  some (.inr (s.1, s.2.2))
  else
  Option.bind (f_Mod_placeOf (1 : Int32) s.2.1) fun x10 =>
  if inb x10 72 = true then
  if (s.2.2.1 180 x10.toNatClampNeg) < (1000000 : Int32) then
  Option.bind (iter (lb_Mod_planks_102 v2 s.2.1) FU (s.1, (0 : Int32), s.2.2)) fun x25 =>
  some (.inl (x25.1, (s.2.1 + (1 : Int32)), x25.2))
  else
  some (.inl (s.1, (s.2.1 + (1 : Int32)), s.2.2))
  else none
theorem lb_Mod_planks_70_ok {E : Ev} {G : Gw} {d : Nat} {post : Int32 → Mem → Prop} (X : Cx E G b_Mod_planks "WomenByTheRoofsModel" 8 d (some .int)) (hD : 5 ≤ d)  (v2 : Int32)   (s : Int32 × Int32 × Mem) (o : (Int32 × Int32 × Mem) ⊕ ((Int32 × Mem))) (h : lb_Mod_planks_70 v2 s = some o) (kc : ∀ s9 : Int32 × Int32 × Mem, o = .inl s9 → V E (0, 0) G 8 (QI E G post) s9.2.2 70 [(0, .ref (G.2.2 + 162)), (2, .int v2), (3, .int s9.1), (4, .int s9.2.1)] []) (kx0 : ∀ x9 : Int32 × Mem, o = .inr x9 → V E (0, 0) G 8 (QI E G post) x9.2 231 [(0, .ref (G.2.2 + 162)), (2, .int v2), (3, .int x9.1)] []) : V E (0, 0) G 8 (QI E G post) s.2.2 70 [(0, .ref (G.2.2 + 162)), (2, .int v2), (3, .int s.1), (4, .int s.2.1)] [] := by
  unfold lb_Mod_planks_70 at h
  refine V_iload (n := 3) X d_Mod_planks_70 rfl rfl ?_
  refine V_aload_n (n := 0) X d_Mod_planks_72 rfl rfl rfl ?_
  obtain ⟨x9, hx9, h⟩ := ob_s h
  refine V_ci (As := []) X (Z0 E) ml_Mod_115 yq_Mod_cells (c_Mod_cells E.2.1 G  s.2.2 x9 hx9 _ (Nat.le_refl _)) kd_162 rfl rfl (by omega) rfl (Nat.le_of_ble_eq_true rfl) d_Mod_planks_73 rfl (fun r9 M9 hq => ?_)
  rw [hq.1, hq.2]
  refine V_icmp_ge (tgt := 231) X d_Mod_planks_76 (by decide) rfl (fun c27 => ?_) (fun c27 => ?_)
  · rw [if_pos c27] at h
    refine V_sub (lv' := [(0, .ref (G.2.2 + 162)), (2, .int v2), (3, .int s.1)]) [0, 1, 2] rfl ?_
    exact kx0 (s.1, s.2.2) (Option.some.inj h).symm
  · rw [if_neg c27] at h
    refine V_aload_n (n := 0) X d_Mod_planks_79 rfl rfl rfl ?_
    refine V_getr (k2 := 180) X fo_Mod_73 kd_162 rfl rf_162_38 d_Mod_planks_80 rfl ?_
    refine V_iconst (v := 1) X d_Mod_planks_83 (by decide) rfl ?_
    refine V_iload (n := 3) X d_Mod_planks_84 rfl rfl ?_
    obtain ⟨x10, hx10, h⟩ := ob_s h
    refine V_si (As := [.int (1 : Int32), .int s.2.1]) X (Z0 E) ml_Mod_154 yq_Mod_placeOf (c_Mod_placeOf E.2.1 G (1 : Int32) s.2.1 s.2.2 x10 hx10 _ (Nat.le_refl _)) rfl (by omega) rfl (Nat.le_of_ble_eq_true rfl) d_Mod_planks_86 rfl (fun r9 M9 hq => ?_)
    rw [hq.1, hq.2]
    obtain ⟨hb, h⟩ := ifn h
    refine V_iald X kd_180 (inb_in ln_180 hb) d_Mod_planks_89 rfl ?_
    refine V_ldc_w (v := 1000000) X d_Mod_planks_90 kc_Mod_357 rfl ?_
    refine V_icmp_lt (tgt := 99) X d_Mod_planks_93 (by decide) rfl (fun c26 => ?_) (fun c26 => ?_)
    · rw [if_pos c26] at h
      refine V_iconst (v := 0) X d_Mod_planks_99 (by decide) rfl ?_
      refine V_istore (lv' := [(5, .int (0 : Int32)), (0, .ref (G.2.2 + 162)), (2, .int v2), (3, .int s.1), (4, .int s.2.1)]) X d_Mod_planks_100 (by decide) rfl rfl ?_
      refine V_sub (lv' := [(0, .ref (G.2.2 + 162)), (2, .int v2), (3, .int s.1), (4, .int s.2.1), (5, .int (0 : Int32))]) [1, 2, 3, 4, 0] rfl ?_
      obtain ⟨x25, hx25, h⟩ := ob_s h
      refine (lp_Mod_planks_102_ok X hD v2 s.2.1 _ _ _ hx25 (fun x9 e9 => ?_) :)
      subst e9
      refine V_iinc (n := 3) (v := (s.2.1 + (1 : Int32))) (lv' := [(4, .int (s.2.1 + (1 : Int32))), (0, .ref (G.2.2 + 162)), (2, .int v2), (3, .int x25.1)]) X d_Mod_planks_225 rfl rfl (by decide) rfl rfl ?_
      refine V_goto (pc' := 70) X d_Mod_planks_228 (by decide) ?_
      refine V_sub (lv' := [(0, .ref (G.2.2 + 162)), (2, .int v2), (3, .int x25.1), (4, .int (s.2.1 + (1 : Int32)))]) [1, 2, 3, 0] rfl ?_
      exact kc (x25.1, (s.2.1 + (1 : Int32)), x25.2) (Option.some.inj h).symm
    · rw [if_neg c26] at h
      refine V_goto (pc' := 225) X d_Mod_planks_96 (by decide) ?_
      refine V_iinc (n := 3) (v := (s.2.1 + (1 : Int32))) (lv' := [(4, .int (s.2.1 + (1 : Int32))), (0, .ref (G.2.2 + 162)), (2, .int v2), (3, .int s.1)]) X d_Mod_planks_225 rfl rfl (by decide) rfl rfl ?_
      refine V_goto (pc' := 70) X d_Mod_planks_228 (by decide) ?_
      refine V_sub (lv' := [(0, .ref (G.2.2 + 162)), (2, .int v2), (3, .int s.1), (4, .int (s.2.1 + (1 : Int32)))]) [1, 2, 3, 0] rfl ?_
      exact kc (s.1, (s.2.1 + (1 : Int32)), s.2.2) (Option.some.inj h).symm
theorem lp_Mod_planks_70_ok {E : Ev} {G : Gw} {d : Nat} {post : Int32 → Mem → Prop} (X : Cx E G b_Mod_planks "WomenByTheRoofsModel" 8 d (some .int)) (hD : 5 ≤ d)  (v2 : Int32)   (n9 : Nat) (s : Int32 × Int32 × Mem) (x : (Int32 × Mem)) (h : iter (lb_Mod_planks_70 v2) n9 s = some x) (kx0 : ∀ x9 : Int32 × Mem, x = x9 → V E (0, 0) G 8 (QI E G post) x9.2 231 [(0, .ref (G.2.2 + 162)), (2, .int v2), (3, .int x9.1)] []) : V E (0, 0) G 8 (QI E G post) s.2.2 70 [(0, .ref (G.2.2 + 162)), (2, .int v2), (3, .int s.1), (4, .int s.2.1)] [] :=
  iter_P (P := fun s : Int32 × Int32 × Mem => V E (0, 0) G 8 (QI E G post) s.2.2 70 [(0, .ref (G.2.2 + 162)), (2, .int v2), (3, .int s.1), (4, .int s.2.1)] []) (fun s o hb kc ky => lb_Mod_planks_70_ok X hD v2 s o hb kc (fun x9 e9 => kx0 x9 (ky _ e9).symm)) n9 s h
def lb_Mod_planks_61 (v2 : Int32) (s : Int32 × Mem) : Option ((Int32 × Mem) ⊕ ((Mem))) :=
  if s.1 = 0 then
  some (.inr s.2)
  else
  Option.bind (iter (lb_Mod_planks_70 v2) FU ((0 : Int32), (0 : Int32), s.2)) fun x28 =>
  some (.inl (x28.1, x28.2))
theorem lb_Mod_planks_61_ok {E : Ev} {G : Gw} {d : Nat} {post : Int32 → Mem → Prop} (X : Cx E G b_Mod_planks "WomenByTheRoofsModel" 8 d (some .int)) (hD : 5 ≤ d)  (v2 : Int32)   (s : Int32 × Mem) (o : (Int32 × Mem) ⊕ ((Mem))) (h : lb_Mod_planks_61 v2 s = some o) (kc : ∀ s9 : Int32 × Mem, o = .inl s9 → V E (0, 0) G 8 (QI E G post) s9.2 61 [(0, .ref (G.2.2 + 162)), (2, .int v2), (3, .int s9.1)] []) (kx0 : ∀ x9 : Mem, o = .inr x9 → V E (0, 0) G 8 (QI E G post) x9 234 [(0, .ref (G.2.2 + 162)), (2, .int v2)] []) : V E (0, 0) G 8 (QI E G post) s.2 61 [(0, .ref (G.2.2 + 162)), (2, .int v2), (3, .int s.1)] [] := by
  unfold lb_Mod_planks_61 at h
  refine V_iload_n (n := 2) X d_Mod_planks_61 rfl rfl rfl ?_
  refine V_if_eq (tgt := 234) X d_Mod_planks_62 (by decide) rfl (fun c29 => ?_) (fun c29 => ?_)
  · rw [if_pos c29] at h
    refine V_sub (lv' := [(0, .ref (G.2.2 + 162)), (2, .int v2)]) [0, 1] rfl ?_
    exact kx0 s.2 (Option.some.inj h).symm
  · rw [if_neg c29] at h
    refine V_iconst (v := 0) X d_Mod_planks_65 (by decide) rfl ?_
    refine V_istore_n (lv' := [(3, .int (0 : Int32)), (0, .ref (G.2.2 + 162)), (2, .int v2)]) X d_Mod_planks_66 rfl (by decide) rfl rfl ?_
    refine V_iconst (v := 0) X d_Mod_planks_67 (by decide) rfl ?_
    refine V_istore (lv' := [(4, .int (0 : Int32)), (3, .int (0 : Int32)), (0, .ref (G.2.2 + 162)), (2, .int v2)]) X d_Mod_planks_68 (by decide) rfl rfl ?_
    refine V_sub (lv' := [(0, .ref (G.2.2 + 162)), (2, .int v2), (3, .int (0 : Int32)), (4, .int (0 : Int32))]) [2, 3, 1, 0] rfl ?_
    obtain ⟨x28, hx28, h⟩ := ob_s h
    refine (lp_Mod_planks_70_ok X hD v2 _ _ _ hx28 (fun x9 e9 => ?_) :)
    subst e9
    refine V_goto (pc' := 61) X d_Mod_planks_231 (by decide) ?_
    exact kc (x28.1, x28.2) (Option.some.inj h).symm
theorem lp_Mod_planks_61_ok {E : Ev} {G : Gw} {d : Nat} {post : Int32 → Mem → Prop} (X : Cx E G b_Mod_planks "WomenByTheRoofsModel" 8 d (some .int)) (hD : 5 ≤ d)  (v2 : Int32)   (n9 : Nat) (s : Int32 × Mem) (x : (Mem)) (h : iter (lb_Mod_planks_61 v2) n9 s = some x) (kx0 : ∀ x9 : Mem, x = x9 → V E (0, 0) G 8 (QI E G post) x9 234 [(0, .ref (G.2.2 + 162)), (2, .int v2)] []) : V E (0, 0) G 8 (QI E G post) s.2 61 [(0, .ref (G.2.2 + 162)), (2, .int v2), (3, .int s.1)] [] :=
  iter_P (P := fun s : Int32 × Mem => V E (0, 0) G 8 (QI E G post) s.2 61 [(0, .ref (G.2.2 + 162)), (2, .int v2), (3, .int s.1)] []) (fun s o hb kc ky => lb_Mod_planks_61_ok X hD v2 s o hb kc (fun x9 e9 => kx0 x9 (ky _ e9).symm)) n9 s h
def f_Mod_planks (v1 : Int32) (v2 : Int32) (M : Mem) : Option (Int32 × Mem) :=
  mem_ (s_i M 162 13 (0 : Int32)) fun M1 =>
  Option.bind (f_Mod_isPlaceOf (1 : Int32) v1 M1) fun x2 =>
  if x2 = 0 then
  some ((-1 : Int32), M1)
  else
  Option.bind (f_Mod_isPlaceOf (1 : Int32) v2 M1) fun x3 =>
  if x3 = 0 then
  some ((-1 : Int32), M1)
  else
  Option.bind (iter (lb_Mod_planks_27 v1 v2) FU ((0 : Int32), M1)) fun x6 =>
  Option.bind (f_Mod_placeOf (1 : Int32) v1) fun x7 =>
  if inb x7 72 = true then
  mem_ (s_i x6 180 x7.toNatClampNeg (0 : Int32)) fun M8 =>
  Option.bind (iter (lb_Mod_planks_61 v2) FU ((1 : Int32), M8)) fun x30 =>
  Option.bind (f_Mod_placeOf (1 : Int32) v2) fun x31 =>
  if inb x31 72 = true then
  if (x30.1 180 x31.toNatClampNeg) < (1000000 : Int32) then
  mem_ (s_i x30 162 12 (0 : Int32)) fun M32 =>
  Option.bind (f_Mod_put ((x30.1 180 x31.toNatClampNeg) - (x30.1 180 x31.toNatClampNeg) / (1000 : Int32) * (1000 : Int32)) M32) fun x33 =>
  some (((x30.1 180 x31.toNatClampNeg) / (1000 : Int32)), x33)
  else
  some ((-2 : Int32), x30)
  else none
  else none
theorem c_Mod_planks (l : Launch) (G : Gw)  (v1 : Int32) (v2 : Int32) (M : Mem) (x : Int32 × Mem) (h : f_Mod_planks v1 v2 M = some x) (d : Nat) (hD : 5 ≤ d) : Ci l G y_Mod_planks b_Mod_planks 8 (some .int) d [.ref (G.2.2 + 162), .int v1, .int v2] M (fun r9 M9 => r9 = x.1 ∧ M9 = x.2) := by
  refine Ci_of (by decide) (Nat.le_of_ble_eq_true rfl) (fun E hE X => ?_)
  subst hE
  have kr : ∀ x9 : Int32 × Mem, x = x9 → (fun r9 M9 => r9 = x.1 ∧ M9 = x.2) x9.1 x9.2 := fun x9 e9 => by subst e9; exact ⟨rfl, rfl⟩
  unfold f_Mod_planks at h
  refine V_aload_n (n := 0) X d_Mod_planks_0 rfl rfl rfl ?_
  refine V_iconst (v := 0) X d_Mod_planks_1 (by decide) rfl ?_
  obtain ⟨M1, eM1, h⟩ := memS h
  refine V_putI X fp_Mod_109 kd_162 rfl d_Mod_planks_2 rfl ?_
  rw [← eM1]
  refine V_aload_n (n := 0) X d_Mod_planks_5 rfl rfl rfl ?_
  refine V_iconst (v := 1) X d_Mod_planks_6 (by decide) rfl ?_
  refine V_iload_n (n := 1) X d_Mod_planks_7 rfl rfl rfl ?_
  obtain ⟨x2, hx2, h⟩ := ob_s h
  refine V_ci (As := [.int (1 : Int32), .int v1]) X (Z0 E) ml_Mod_374 yq_Mod_isPlaceOf (c_Mod_isPlaceOf E.2.1 G (1 : Int32) v1 M1 x2 hx2 _ (Nat.le_refl _)) kd_162 rfl rfl (by omega) rfl (Nat.le_of_ble_eq_true rfl) d_Mod_planks_8 rfl (fun r9 M9 hq => ?_)
  rw [hq.1, hq.2]
  refine V_if_eq (tgt := 23) X d_Mod_planks_11 (by decide) rfl (fun c36 => ?_) (fun c36 => ?_)
  · rw [if_pos c36] at h
    refine V_iconst (v := -1) X d_Mod_planks_23 (by decide) rfl ?_
    exact V_iret X (kr ((-1 : Int32), M1) (Option.some.inj h).symm) d_Mod_planks_24
  · rw [if_neg c36] at h
    refine V_aload_n (n := 0) X d_Mod_planks_14 rfl rfl rfl ?_
    refine V_iconst (v := 1) X d_Mod_planks_15 (by decide) rfl ?_
    refine V_iload_n (n := 2) X d_Mod_planks_16 rfl rfl rfl ?_
    obtain ⟨x3, hx3, h⟩ := ob_s h
    refine V_ci (As := [.int (1 : Int32), .int v2]) X (Z0 E) ml_Mod_374 yq_Mod_isPlaceOf (c_Mod_isPlaceOf E.2.1 G (1 : Int32) v2 M1 x3 hx3 _ (Nat.le_refl _)) kd_162 rfl rfl (by omega) rfl (Nat.le_of_ble_eq_true rfl) d_Mod_planks_17 rfl (fun r9 M9 hq => ?_)
    rw [hq.1, hq.2]
    refine V_if_ne (tgt := 25) X d_Mod_planks_20 (by decide) rfl (fun c35 => ?_) (fun c35 => ?_)
    · rw [if_neg c35] at h
      refine V_iconst (v := 0) X d_Mod_planks_25 (by decide) rfl ?_
      refine V_istore_n (lv' := [(3, .int (0 : Int32)), (0, .ref (G.2.2 + 162)), (1, .int v1), (2, .int v2)]) X d_Mod_planks_26 rfl (by decide) rfl rfl ?_
      refine V_sub (lv' := [(0, .ref (G.2.2 + 162)), (1, .int v1), (2, .int v2), (3, .int (0 : Int32))]) [1, 2, 3, 0] rfl ?_
      obtain ⟨x6, hx6, h⟩ := ob_s h
      refine (lp_Mod_planks_27_ok X hD v1 v2 _ _ _ hx6 (fun x9 e9 => ?_) :)
      subst e9
      refine V_aload_n (n := 0) X d_Mod_planks_48 rfl rfl rfl ?_
      refine V_getr (k2 := 180) X fo_Mod_73 kd_162 rfl rf_162_38 d_Mod_planks_49 rfl ?_
      refine V_iconst (v := 1) X d_Mod_planks_52 (by decide) rfl ?_
      refine V_iload_n (n := 1) X d_Mod_planks_53 rfl rfl rfl ?_
      obtain ⟨x7, hx7, h⟩ := ob_s h
      refine V_si (As := [.int (1 : Int32), .int v1]) X (Z0 E) ml_Mod_154 yq_Mod_placeOf (c_Mod_placeOf E.2.1 G (1 : Int32) v1 x6 x7 hx7 _ (Nat.le_refl _)) rfl (by omega) rfl (Nat.le_of_ble_eq_true rfl) d_Mod_planks_54 rfl (fun r9 M9 hq => ?_)
      rw [hq.1, hq.2]
      refine V_iconst (v := 0) X d_Mod_planks_57 (by decide) rfl ?_
      obtain ⟨hb, h⟩ := ifn h
      obtain ⟨M8, eM8, h⟩ := memS h
      refine V_iast X kd_180 (inb_in ln_180 hb) d_Mod_planks_58 rfl ?_
      rw [← eM8]
      refine V_iconst (v := 1) X d_Mod_planks_59 (by decide) rfl ?_
      refine V_istore_n (lv' := [(3, .int (1 : Int32)), (0, .ref (G.2.2 + 162)), (1, .int v1), (2, .int v2)]) X d_Mod_planks_60 rfl (by decide) rfl rfl ?_
      refine V_sub (lv' := [(0, .ref (G.2.2 + 162)), (2, .int v2), (3, .int (1 : Int32))]) [1, 3, 0] rfl ?_
      obtain ⟨x30, hx30, h⟩ := ob_s h
      refine (lp_Mod_planks_61_ok X hD v2 _ _ _ hx30 (fun x9 e9 => ?_) :)
      subst e9
      refine V_aload_n (n := 0) X d_Mod_planks_234 rfl rfl rfl ?_
      refine V_getr (k2 := 180) X fo_Mod_73 kd_162 rfl rf_162_38 d_Mod_planks_235 rfl ?_
      refine V_iconst (v := 1) X d_Mod_planks_238 (by decide) rfl ?_
      refine V_iload_n (n := 1) X d_Mod_planks_239 rfl rfl rfl ?_
      obtain ⟨x31, hx31, h⟩ := ob_s h
      refine V_si (As := [.int (1 : Int32), .int v2]) X (Z0 E) ml_Mod_154 yq_Mod_placeOf (c_Mod_placeOf E.2.1 G (1 : Int32) v2 x30 x31 hx31 _ (Nat.le_refl _)) rfl (by omega) rfl (Nat.le_of_ble_eq_true rfl) d_Mod_planks_240 rfl (fun r9 M9 hq => ?_)
      rw [hq.1, hq.2]
      obtain ⟨hb, h⟩ := ifn h
      refine V_iald X kd_180 (inb_in ln_180 hb) d_Mod_planks_243 rfl ?_
      refine V_istore (lv' := [(4, .int (x30.1 180 x31.toNatClampNeg)), (0, .ref (G.2.2 + 162)), (2, .int v2)]) X d_Mod_planks_244 (by decide) rfl rfl ?_
      refine V_iload (n := 0) X d_Mod_planks_246 rfl rfl ?_
      refine V_ldc_w (v := 1000000) X d_Mod_planks_248 kc_Mod_357 rfl ?_
      refine V_icmp_lt (tgt := 257) X d_Mod_planks_251 (by decide) rfl (fun c34 => ?_) (fun c34 => ?_)
      · rw [if_pos c34] at h
        refine V_aload_n (n := 1) X d_Mod_planks_257 rfl rfl rfl ?_
        refine V_iconst (v := 0) X d_Mod_planks_258 (by decide) rfl ?_
        obtain ⟨M32, eM32, h⟩ := memS h
        refine V_putI X fp_Mod_112 kd_162 rfl d_Mod_planks_259 rfl ?_
        rw [← eM32]
        refine V_aload_n (n := 1) X d_Mod_planks_262 rfl rfl rfl ?_
        refine V_iload (n := 0) X d_Mod_planks_263 rfl rfl ?_
        refine V_sipush (v := 1000) X d_Mod_planks_265 (by decide) rfl ?_
        refine V_irem X d_Mod_planks_268 (by decide) rfl ?_
        obtain ⟨x33, hx33, h⟩ := ob_s h
        refine V_cv (As := [.int ((x30.1 180 x31.toNatClampNeg) - (x30.1 180 x31.toNatClampNeg) / (1000 : Int32) * (1000 : Int32))]) X (Z0 E) ml_Mod_342 yq_Mod_put (c_Mod_put E.2.1 G ((x30.1 180 x31.toNatClampNeg) - (x30.1 180 x31.toNatClampNeg) / (1000 : Int32) * (1000 : Int32)) M32 x33 hx33 _ (Nat.le_refl _)) kd_162 rfl rfl (by omega) rfl (Nat.le_of_ble_eq_true rfl) d_Mod_planks_269 rfl (fun M9 hq => ?_)
        rw [hq]
        refine V_iload (n := 0) X d_Mod_planks_272 rfl rfl ?_
        refine V_sipush (v := 1000) X d_Mod_planks_274 (by decide) rfl ?_
        refine V_idiv X d_Mod_planks_277 (by decide) rfl ?_
        exact V_iret X (kr (((x30.1 180 x31.toNatClampNeg) / (1000 : Int32)), x33) (Option.some.inj h).symm) d_Mod_planks_278
      · rw [if_neg c34] at h
        refine V_bipush (v := -2) X d_Mod_planks_254 (by decide) rfl ?_
        exact V_iret X (kr ((-2 : Int32), x30) (Option.some.inj h).symm) d_Mod_planks_256
    · rw [if_pos c35] at h
      refine V_iconst (v := -1) X d_Mod_planks_23 (by decide) rfl ?_
      exact V_iret X (kr ((-1 : Int32), M1) (Option.some.inj h).symm) d_Mod_planks_24
def j_Mod_fire_21 (v1 : Int32) (M : Mem) : Option (Int32 × Mem) :=
  mem_ (s_i M 162 8 v1) fun M2 =>
  some ((M.1 162 8), M2)
theorem j_Mod_fire_21_ok {E : Ev} {G : Gw} {d : Nat} {post : Int32 → Mem → Prop} (X : Cx E G b_Mod_fire "WomenByTheRoofsModel" 3 d (some .int)) (hD : 3 ≤ d)  (v1 : Int32)  (M : Mem)  (o : Int32 × Mem) (h : j_Mod_fire_21 v1 M = some o) (kr : ∀ x9 : Int32 × Mem, o = x9 → post x9.1 x9.2) : V E (0, 0) G 3 (QI E G post) M 21 [(0, .ref (G.2.2 + 162)), (1, .int v1)] [] := by
  unfold j_Mod_fire_21 at h
  refine V_aload_n (n := 0) X d_Mod_fire_21 rfl rfl rfl ?_
  refine V_geti X fo_Mod_29 kd_162 rfl d_Mod_fire_22 rfl ?_
  refine V_istore_n (lv' := [(2, .int (M.1 162 8)), (0, .ref (G.2.2 + 162)), (1, .int v1)]) X d_Mod_fire_25 rfl (by decide) rfl rfl ?_
  refine V_aload_n (n := 1) X d_Mod_fire_26 rfl rfl rfl ?_
  refine V_iload_n (n := 2) X d_Mod_fire_27 rfl rfl rfl ?_
  obtain ⟨M2, eM2, h⟩ := memS h
  refine V_putI X fp_Mod_29 kd_162 rfl d_Mod_fire_28 rfl ?_
  rw [← eM2]
  refine V_iload_n (n := 0) X d_Mod_fire_31 rfl rfl rfl ?_
  exact V_iret X (kr ((M.1 162 8), M2) (Option.some.inj h).symm) d_Mod_fire_32
def f_Mod_fire (v1 : Int32) (M : Mem) : Option (Int32 × Mem) :=
  mem_ (s_i M 162 13 (0 : Int32)) fun M1 =>
  if v1 = (-1 : Int32) then
  j_Mod_fire_21 v1 M1
  else
  Option.bind (f_Mod_isCell v1 M1) fun x3 =>
  if x3 = 0 then
  some ((-2 : Int32), M1)
  else
  j_Mod_fire_21 v1 M1
theorem c_Mod_fire (l : Launch) (G : Gw)  (v1 : Int32) (M : Mem) (x : Int32 × Mem) (h : f_Mod_fire v1 M = some x) (d : Nat) (hD : 3 ≤ d) : Ci l G y_Mod_fire b_Mod_fire 3 (some .int) d [.ref (G.2.2 + 162), .int v1] M (fun r9 M9 => r9 = x.1 ∧ M9 = x.2) := by
  refine Ci_of (by decide) (Nat.le_of_ble_eq_true rfl) (fun E hE X => ?_)
  subst hE
  have kr : ∀ x9 : Int32 × Mem, x = x9 → (fun r9 M9 => r9 = x.1 ∧ M9 = x.2) x9.1 x9.2 := fun x9 e9 => by subst e9; exact ⟨rfl, rfl⟩
  unfold f_Mod_fire at h
  refine V_aload_n (n := 0) X d_Mod_fire_0 rfl rfl rfl ?_
  refine V_iconst (v := 0) X d_Mod_fire_1 (by decide) rfl ?_
  obtain ⟨M1, eM1, h⟩ := memS h
  refine V_putI X fp_Mod_109 kd_162 rfl d_Mod_fire_2 rfl ?_
  rw [← eM1]
  refine V_iload_n (n := 1) X d_Mod_fire_5 rfl rfl rfl ?_
  refine V_iconst (v := -1) X d_Mod_fire_6 (by decide) rfl ?_
  refine V_icmp_eq (tgt := 21) X d_Mod_fire_7 (by decide) rfl (fun c5 => ?_) (fun c5 => ?_)
  · rw [if_pos c5] at h
    exact j_Mod_fire_21_ok X hD v1 M1 _ h kr
  · rw [if_neg c5] at h
    refine V_aload_n (n := 0) X d_Mod_fire_10 rfl rfl rfl ?_
    refine V_iload_n (n := 1) X d_Mod_fire_11 rfl rfl rfl ?_
    obtain ⟨x3, hx3, h⟩ := ob_s h
    refine V_ci (As := [.int v1]) X (Z0 E) ml_Mod_137 yq_Mod_isCell (c_Mod_isCell E.2.1 G v1 M1 x3 hx3 _ (Nat.le_refl _)) kd_162 rfl rfl (by omega) rfl (Nat.le_of_ble_eq_true rfl) d_Mod_fire_12 rfl (fun r9 M9 hq => ?_)
    rw [hq.1, hq.2]
    refine V_if_ne (tgt := 21) X d_Mod_fire_15 (by decide) rfl (fun c4 => ?_) (fun c4 => ?_)
    · rw [if_neg c4] at h
      exact j_Mod_fire_21_ok X hD v1 M1 _ h kr
    · rw [if_pos c4] at h
      refine V_bipush (v := -2) X d_Mod_fire_18 (by decide) rfl ?_
      exact V_iret X (kr ((-2 : Int32), M1) (Option.some.inj h).symm) d_Mod_fire_20
def lb_Mod_fights1_16 (v1 : Int32) (M : Mem) (s : Int32 × Int32) : Option ((Int32 × Int32) ⊕ ((Int32))) :=
  if (4 : Int32) ≤ s.2 then
  some (.inr s.1)
  else
  Option.bind (f_Mod_beside (M.1 162 8) s.2 M) fun x2 =>
  if x2 = (-1 : Int32) then
  some (.inl (s.1, (s.2 + (1 : Int32))))
  else
  if inb v1 96 = true then
  Option.bind (f_Mod_levelOf (M.1 163 v1.toNatClampNeg)) fun x3 =>
  Option.bind (f_Mod_placeOf x3 x2) fun x4 =>
  if inb x4 72 = true then
  some (.inl ((if (M.1 177 x4.toNatClampNeg) < s.1 then (M.1 177 x4.toNatClampNeg) else s.1), (s.2 + (1 : Int32))))
  else none
  else none
theorem lb_Mod_fights1_16_ok {E : Ev} {G : Gw} {d : Nat} {post : Int32 → Mem → Prop} (X : Cx E G b_Mod_fights1 "WomenByTheRoofsModel" 5 d (some .int)) (hD : 7 ≤ d)  (v1 : Int32)  (M : Mem) (s : Int32 × Int32) (o : (Int32 × Int32) ⊕ ((Int32))) (h : lb_Mod_fights1_16 v1 M s = some o) (kc : ∀ s9 : Int32 × Int32, o = .inl s9 → V E (0, 0) G 5 (QI E G post) M 16 [(0, .ref (G.2.2 + 162)), (1, .int v1), (2, .int s9.1), (3, .int s9.2)] []) (kx0 : ∀ x9 : Int32, o = .inr x9 → V E (0, 0) G 5 (QI E G post) M 68 [(2, .int x9)] []) : V E (0, 0) G 5 (QI E G post) M 16 [(0, .ref (G.2.2 + 162)), (1, .int v1), (2, .int s.1), (3, .int s.2)] [] := by
  unfold lb_Mod_fights1_16 at h
  refine V_iload_n (n := 3) X d_Mod_fights1_16 rfl rfl rfl ?_
  refine V_iconst (v := 4) X d_Mod_fights1_17 (by decide) rfl ?_
  refine V_icmp_ge (tgt := 68) X d_Mod_fights1_18 (by decide) rfl (fun c6 => ?_) (fun c6 => ?_)
  · rw [if_pos c6] at h
    refine V_sub (lv' := [(2, .int s.1)]) [2] rfl ?_
    exact kx0 s.1 (Option.some.inj h).symm
  · rw [if_neg c6] at h
    refine V_aload_n (n := 0) X d_Mod_fights1_21 rfl rfl rfl ?_
    refine V_aload_n (n := 0) X d_Mod_fights1_22 rfl rfl rfl ?_
    refine V_geti X fo_Mod_29 kd_162 rfl d_Mod_fights1_23 rfl ?_
    refine V_iload_n (n := 3) X d_Mod_fights1_26 rfl rfl rfl ?_
    obtain ⟨x2, hx2, h⟩ := ob_s h
    refine V_ci (As := [.int (M.1 162 8), .int s.2]) X (Z0 E) ml_Mod_150 yq_Mod_beside (c_Mod_beside E.2.1 G (M.1 162 8) s.2 M x2 hx2 _ (Nat.le_refl _)) kd_162 rfl rfl (by omega) rfl (Nat.le_of_ble_eq_true rfl) d_Mod_fights1_27 rfl (fun r9 M9 hq => ?_)
    rw [hq.1, hq.2]
    refine V_istore (lv' := [(4, .int x2), (0, .ref (G.2.2 + 162)), (1, .int v1), (2, .int s.1), (3, .int s.2)]) X d_Mod_fights1_30 (by decide) rfl rfl ?_
    refine V_iload (n := 0) X d_Mod_fights1_32 rfl rfl ?_
    refine V_iconst (v := -1) X d_Mod_fights1_34 (by decide) rfl ?_
    refine V_icmp_eq (tgt := 62) X d_Mod_fights1_35 (by decide) rfl (fun c5 => ?_) (fun c5 => ?_)
    · rw [if_pos c5] at h
      refine V_iinc (n := 4) (v := (s.2 + (1 : Int32))) (lv' := [(3, .int (s.2 + (1 : Int32))), (4, .int x2), (0, .ref (G.2.2 + 162)), (1, .int v1), (2, .int s.1)]) X d_Mod_fights1_62 rfl rfl (by decide) rfl rfl ?_
      refine V_goto (pc' := 16) X d_Mod_fights1_65 (by decide) ?_
      refine V_sub (lv' := [(0, .ref (G.2.2 + 162)), (1, .int v1), (2, .int s.1), (3, .int (s.2 + (1 : Int32)))]) [2, 3, 4, 0] rfl ?_
      exact kc (s.1, (s.2 + (1 : Int32))) (Option.some.inj h).symm
    · rw [if_neg c5] at h
      refine V_iload_n (n := 3) X d_Mod_fights1_38 rfl rfl rfl ?_
      refine V_aload_n (n := 1) X d_Mod_fights1_39 rfl rfl rfl ?_
      refine V_getr (k2 := 177) X fo_Mod_63 kd_162 rfl rf_162_35 d_Mod_fights1_40 rfl ?_
      refine V_aload_n (n := 1) X d_Mod_fights1_43 rfl rfl rfl ?_
      refine V_getr (k2 := 163) X fo_Mod_9 kd_162 rfl rf_162_0 d_Mod_fights1_44 rfl ?_
      refine V_iload_n (n := 2) X d_Mod_fights1_47 rfl rfl rfl ?_
      obtain ⟨hb, h⟩ := ifn h
      refine V_iald X kd_163 (inb_in ln_163 hb) d_Mod_fights1_48 rfl ?_
      obtain ⟨x3, hx3, h⟩ := ob_s h
      refine V_si (As := [.int (M.1 163 v1.toNatClampNeg)]) X (Z0 E) ml_Mod_143 yq_Mod_levelOf (c_Mod_levelOf E.2.1 G (M.1 163 v1.toNatClampNeg) M x3 hx3 _ (Nat.le_refl _)) rfl (by omega) rfl (Nat.le_of_ble_eq_true rfl) d_Mod_fights1_49 rfl (fun r9 M9 hq => ?_)
      rw [hq.1, hq.2]
      refine V_iload (n := 0) X d_Mod_fights1_52 rfl rfl ?_
      obtain ⟨x4, hx4, h⟩ := ob_s h
      refine V_si (As := [.int x3, .int x2]) X (Z0 E) ml_Mod_154 yq_Mod_placeOf (c_Mod_placeOf E.2.1 G x3 x2 M x4 hx4 _ (Nat.le_refl _)) rfl (by omega) rfl (Nat.le_of_ble_eq_true rfl) d_Mod_fights1_54 rfl (fun r9 M9 hq => ?_)
      rw [hq.1, hq.2]
      obtain ⟨hb, h⟩ := ifn h
      refine V_iald X kd_177 (inb_in ln_177 hb) d_Mod_fights1_57 rfl ?_
      refine V_mmin X (Z0 E) mm_Mod_301 (by omega) (Nat.le_of_ble_eq_true rfl) d_Mod_fights1_58 rfl ?_
      refine V_istore_n (lv' := [(2, .int (if (M.1 177 x4.toNatClampNeg) < s.1 then (M.1 177 x4.toNatClampNeg) else s.1)), (4, .int x2), (0, .ref (G.2.2 + 162)), (1, .int v1), (3, .int s.2)]) X d_Mod_fights1_61 rfl (by decide) rfl rfl ?_
      refine V_iinc (n := 4) (v := (s.2 + (1 : Int32))) (lv' := [(3, .int (s.2 + (1 : Int32))), (2, .int (if (M.1 177 x4.toNatClampNeg) < s.1 then (M.1 177 x4.toNatClampNeg) else s.1)), (4, .int x2), (0, .ref (G.2.2 + 162)), (1, .int v1)]) X d_Mod_fights1_62 rfl rfl (by decide) rfl rfl ?_
      refine V_goto (pc' := 16) X d_Mod_fights1_65 (by decide) ?_
      refine V_sub (lv' := [(0, .ref (G.2.2 + 162)), (1, .int v1), (2, .int (if (M.1 177 x4.toNatClampNeg) < s.1 then (M.1 177 x4.toNatClampNeg) else s.1)), (3, .int (s.2 + (1 : Int32)))]) [3, 4, 1, 0] rfl ?_
      exact kc ((if (M.1 177 x4.toNatClampNeg) < s.1 then (M.1 177 x4.toNatClampNeg) else s.1), (s.2 + (1 : Int32))) (Option.some.inj h).symm
theorem lp_Mod_fights1_16_ok {E : Ev} {G : Gw} {d : Nat} {post : Int32 → Mem → Prop} (X : Cx E G b_Mod_fights1 "WomenByTheRoofsModel" 5 d (some .int)) (hD : 7 ≤ d)  (v1 : Int32)  (M : Mem) (n9 : Nat) (s : Int32 × Int32) (x : (Int32)) (h : iter (lb_Mod_fights1_16 v1 M) n9 s = some x) (kx0 : ∀ x9 : Int32, x = x9 → V E (0, 0) G 5 (QI E G post) M 68 [(2, .int x9)] []) : V E (0, 0) G 5 (QI E G post) M 16 [(0, .ref (G.2.2 + 162)), (1, .int v1), (2, .int s.1), (3, .int s.2)] [] :=
  iter_P (P := fun s : Int32 × Int32 => V E (0, 0) G 5 (QI E G post) M 16 [(0, .ref (G.2.2 + 162)), (1, .int v1), (2, .int s.1), (3, .int s.2)] []) (fun s o hb kc ky => lb_Mod_fights1_16_ok X hD v1 M s o hb kc (fun x9 e9 => kx0 x9 (ky _ e9).symm)) n9 s h
def f_Mod_fights1 (v1 : Int32) (M : Mem) : Option (Int32 × Mem) :=
  if inb v1 96 = true then
  Option.bind (f_Mod_findFar (M.1 163 v1.toNatClampNeg) M) fun x1 =>
  Option.bind (iter (lb_Mod_fights1_16 v1 x1) FU ((1000000 : Int32), (0 : Int32))) fun x7 =>
  some (x7, x1)
  else none
theorem c_Mod_fights1 (l : Launch) (G : Gw)  (v1 : Int32) (M : Mem) (x : Int32 × Mem) (h : f_Mod_fights1 v1 M = some x) (d : Nat) (hD : 7 ≤ d) : Ci l G y_Mod_fights1 b_Mod_fights1 5 (some .int) d [.ref (G.2.2 + 162), .int v1] M (fun r9 M9 => r9 = x.1 ∧ M9 = x.2) := by
  refine Ci_of (by decide) (Nat.le_of_ble_eq_true rfl) (fun E hE X => ?_)
  subst hE
  have kr : ∀ x9 : Int32 × Mem, x = x9 → (fun r9 M9 => r9 = x.1 ∧ M9 = x.2) x9.1 x9.2 := fun x9 e9 => by subst e9; exact ⟨rfl, rfl⟩
  unfold f_Mod_fights1 at h
  refine V_aload_n (n := 0) X d_Mod_fights1_0 rfl rfl rfl ?_
  refine V_aload_n (n := 0) X d_Mod_fights1_1 rfl rfl rfl ?_
  refine V_getr (k2 := 163) X fo_Mod_9 kd_162 rfl rf_162_0 d_Mod_fights1_2 rfl ?_
  refine V_iload_n (n := 1) X d_Mod_fights1_5 rfl rfl rfl ?_
  obtain ⟨hb, h⟩ := ifn h
  refine V_iald X kd_163 (inb_in ln_163 hb) d_Mod_fights1_6 rfl ?_
  obtain ⟨x1, hx1, h⟩ := ob_s h
  refine V_cv (As := [.int (M.1 163 v1.toNatClampNeg)]) X (Z0 E) ml_Mod_365 yq_Mod_findFar (c_Mod_findFar E.2.1 G (M.1 163 v1.toNatClampNeg) M x1 hx1 _ (Nat.le_refl _)) kd_162 rfl rfl (by omega) rfl (Nat.le_of_ble_eq_true rfl) d_Mod_fights1_7 rfl (fun M9 hq => ?_)
  rw [hq]
  refine V_ldc_w (v := 1000000) X d_Mod_fights1_10 kc_Mod_357 rfl ?_
  refine V_istore_n (lv' := [(2, .int (1000000 : Int32)), (0, .ref (G.2.2 + 162)), (1, .int v1)]) X d_Mod_fights1_13 rfl (by decide) rfl rfl ?_
  refine V_iconst (v := 0) X d_Mod_fights1_14 (by decide) rfl ?_
  refine V_istore_n (lv' := [(3, .int (0 : Int32)), (2, .int (1000000 : Int32)), (0, .ref (G.2.2 + 162)), (1, .int v1)]) X d_Mod_fights1_15 rfl (by decide) rfl rfl ?_
  refine V_sub (lv' := [(0, .ref (G.2.2 + 162)), (1, .int v1), (2, .int (1000000 : Int32)), (3, .int (0 : Int32))]) [2, 3, 1, 0] rfl ?_
  obtain ⟨x7, hx7, h⟩ := ob_s h
  refine (lp_Mod_fights1_16_ok X hD v1 x1 _ _ _ hx7 (fun x9 e9 => ?_) :)
  subst e9
  refine V_iload_n (n := 0) X d_Mod_fights1_68 rfl rfl rfl ?_
  exact V_iret X (kr (x7, x1) (Option.some.inj h).symm) d_Mod_fights1_69
def lb_Mod_fights_32 (v1 : Int32) (s : Int32 × Int32 × Mem) : Option ((Int32 × Int32 × Mem) ⊕ ((Int32 × Mem))) :=
  if (s.2.2.1 162 4) ≤ s.2.1 then
  some (.inr (s.1, s.2.2))
  else
  Option.bind (f_Mod_fights1 s.2.1 s.2.2) fun x3 =>
  if v1 < x3.1 then
  some (.inl ((s.1 ||| (0 : Int32)), (s.2.1 + (1 : Int32)), x3.2))
  else
  some (.inl ((s.1 ||| ((1 : Int32) <<< (s.2.1 &&& 31))), (s.2.1 + (1 : Int32)), x3.2))
theorem lb_Mod_fights_32_ok {E : Ev} {G : Gw} {d : Nat} {post : Int32 → Mem → Prop} (X : Cx E G b_Mod_fights "WomenByTheRoofsModel" 4 d (some .int)) (hD : 8 ≤ d)  (v1 : Int32)   (s : Int32 × Int32 × Mem) (o : (Int32 × Int32 × Mem) ⊕ ((Int32 × Mem))) (h : lb_Mod_fights_32 v1 s = some o) (kc : ∀ s9 : Int32 × Int32 × Mem, o = .inl s9 → V E (0, 0) G 4 (QI E G post) s9.2.2 32 [(0, .ref (G.2.2 + 162)), (1, .int v1), (2, .int s9.1), (3, .int s9.2.1)] []) (kx0 : ∀ x9 : Int32 × Mem, o = .inr x9 → V E (0, 0) G 4 (QI E G post) x9.2 65 [(0, .ref (G.2.2 + 162)), (2, .int x9.1)] []) : V E (0, 0) G 4 (QI E G post) s.2.2 32 [(0, .ref (G.2.2 + 162)), (1, .int v1), (2, .int s.1), (3, .int s.2.1)] [] := by
  unfold lb_Mod_fights_32 at h
  refine V_iload_n (n := 3) X d_Mod_fights_32 rfl rfl rfl ?_
  refine V_aload_n (n := 0) X d_Mod_fights_33 rfl rfl rfl ?_
  refine V_geti X fo_Mod_123 kd_162 rfl d_Mod_fights_34 rfl ?_
  refine V_icmp_ge (tgt := 65) X d_Mod_fights_37 (by decide) rfl (fun c5 => ?_) (fun c5 => ?_)
  · rw [if_pos c5] at h
    refine V_sub (lv' := [(0, .ref (G.2.2 + 162)), (2, .int s.1)]) [0, 2] rfl ?_
    exact kx0 (s.1, s.2.2) (Option.some.inj h).symm
  · rw [if_neg c5] at h
    refine V_iload_n (n := 2) X d_Mod_fights_40 rfl rfl rfl ?_
    refine V_aload_n (n := 0) X d_Mod_fights_41 rfl rfl rfl ?_
    refine V_iload_n (n := 3) X d_Mod_fights_42 rfl rfl rfl ?_
    obtain ⟨x3, hx3, h⟩ := ob_s h
    refine V_ci (As := [.int s.2.1]) X (Z0 E) ml_Mod_397 yq_Mod_fights1 (c_Mod_fights1 E.2.1 G s.2.1 s.2.2 x3 hx3 _ (Nat.le_refl _)) kd_162 rfl rfl (by omega) rfl (Nat.le_of_ble_eq_true rfl) d_Mod_fights_43 rfl (fun r9 M9 hq => ?_)
    rw [hq.1, hq.2]
    refine V_iload_n (n := 1) X d_Mod_fights_46 rfl rfl rfl ?_
    refine V_icmp_gt (tgt := 56) X d_Mod_fights_47 (by decide) rfl (fun c4 => ?_) (fun c4 => ?_)
    · rw [if_pos c4] at h
      refine V_iconst (v := 0) X d_Mod_fights_56 (by decide) rfl ?_
      refine V_ior X d_Mod_fights_57 rfl ?_
      refine V_istore_n (lv' := [(2, .int (s.1 ||| (0 : Int32))), (0, .ref (G.2.2 + 162)), (1, .int v1), (3, .int s.2.1)]) X d_Mod_fights_58 rfl (by decide) rfl rfl ?_
      refine V_iinc (n := 3) (v := (s.2.1 + (1 : Int32))) (lv' := [(3, .int (s.2.1 + (1 : Int32))), (2, .int (s.1 ||| (0 : Int32))), (0, .ref (G.2.2 + 162)), (1, .int v1)]) X d_Mod_fights_59 rfl rfl (by decide) rfl rfl ?_
      refine V_goto (pc' := 32) X d_Mod_fights_62 (by decide) ?_
      refine V_sub (lv' := [(0, .ref (G.2.2 + 162)), (1, .int v1), (2, .int (s.1 ||| (0 : Int32))), (3, .int (s.2.1 + (1 : Int32)))]) [2, 3, 1, 0] rfl ?_
      exact kc ((s.1 ||| (0 : Int32)), (s.2.1 + (1 : Int32)), x3.2) (Option.some.inj h).symm
    · rw [if_neg c4] at h
      refine V_iconst (v := 1) X d_Mod_fights_50 (by decide) rfl ?_
      refine V_iload_n (n := 3) X d_Mod_fights_51 rfl rfl rfl ?_
      refine V_ishl X d_Mod_fights_52 rfl ?_
      refine V_goto (pc' := 57) X d_Mod_fights_53 (by decide) ?_
      refine V_ior X d_Mod_fights_57 rfl ?_
      refine V_istore_n (lv' := [(2, .int (s.1 ||| ((1 : Int32) <<< (s.2.1 &&& 31)))), (0, .ref (G.2.2 + 162)), (1, .int v1), (3, .int s.2.1)]) X d_Mod_fights_58 rfl (by decide) rfl rfl ?_
      refine V_iinc (n := 3) (v := (s.2.1 + (1 : Int32))) (lv' := [(3, .int (s.2.1 + (1 : Int32))), (2, .int (s.1 ||| ((1 : Int32) <<< (s.2.1 &&& 31)))), (0, .ref (G.2.2 + 162)), (1, .int v1)]) X d_Mod_fights_59 rfl rfl (by decide) rfl rfl ?_
      refine V_goto (pc' := 32) X d_Mod_fights_62 (by decide) ?_
      refine V_sub (lv' := [(0, .ref (G.2.2 + 162)), (1, .int v1), (2, .int (s.1 ||| ((1 : Int32) <<< (s.2.1 &&& 31)))), (3, .int (s.2.1 + (1 : Int32)))]) [2, 3, 1, 0] rfl ?_
      exact kc ((s.1 ||| ((1 : Int32) <<< (s.2.1 &&& 31))), (s.2.1 + (1 : Int32)), x3.2) (Option.some.inj h).symm
theorem lp_Mod_fights_32_ok {E : Ev} {G : Gw} {d : Nat} {post : Int32 → Mem → Prop} (X : Cx E G b_Mod_fights "WomenByTheRoofsModel" 4 d (some .int)) (hD : 8 ≤ d)  (v1 : Int32)   (n9 : Nat) (s : Int32 × Int32 × Mem) (x : (Int32 × Mem)) (h : iter (lb_Mod_fights_32 v1) n9 s = some x) (kx0 : ∀ x9 : Int32 × Mem, x = x9 → V E (0, 0) G 4 (QI E G post) x9.2 65 [(0, .ref (G.2.2 + 162)), (2, .int x9.1)] []) : V E (0, 0) G 4 (QI E G post) s.2.2 32 [(0, .ref (G.2.2 + 162)), (1, .int v1), (2, .int s.1), (3, .int s.2.1)] [] :=
  iter_P (P := fun s : Int32 × Int32 × Mem => V E (0, 0) G 4 (QI E G post) s.2.2 32 [(0, .ref (G.2.2 + 162)), (1, .int v1), (2, .int s.1), (3, .int s.2.1)] []) (fun s o hb kc ky => lb_Mod_fights_32_ok X hD v1 s o hb kc (fun x9 e9 => kx0 x9 (ky _ e9).symm)) n9 s h
def f_Mod_fights (v1 : Int32) (M : Mem) : Option (Int32 × Mem) :=
  mem_ (s_i M 162 13 (0 : Int32)) fun M1 =>
  Option.bind (f_Mod_in v1 (0 : Int32) (60 : Int32)) fun x2 =>
  if x2 = 0 then
  some ((-1 : Int32), M1)
  else
  if (M1.1 162 8) = (-1 : Int32) then
  some ((-2 : Int32), M1)
  else
  Option.bind (iter (lb_Mod_fights_32 v1) FU ((0 : Int32), (0 : Int32), M1)) fun x6 =>
  mem_ (s_i x6.2 162 12 (0 : Int32)) fun M7 =>
  Option.bind (f_JInteger_bitCount (x6.1 &&& ((M7.1 162 5) ^^^ (-1 : Int32)))) fun x8 =>
  Option.bind (f_Mod_put x8 M7) fun x9 =>
  Option.bind (f_JInteger_bitCount (x6.1 &&& (x9.1 162 5))) fun x10 =>
  Option.bind (f_Mod_put x10 x9) fun x11 =>
  some (x6.1, x11)
theorem c_Mod_fights (l : Launch) (G : Gw)  (v1 : Int32) (M : Mem) (x : Int32 × Mem) (h : f_Mod_fights v1 M = some x) (d : Nat) (hD : 8 ≤ d) : Ci l G y_Mod_fights b_Mod_fights 4 (some .int) d [.ref (G.2.2 + 162), .int v1] M (fun r9 M9 => r9 = x.1 ∧ M9 = x.2) := by
  refine Ci_of (by decide) (Nat.le_of_ble_eq_true rfl) (fun E hE X => ?_)
  subst hE
  have kr : ∀ x9 : Int32 × Mem, x = x9 → (fun r9 M9 => r9 = x.1 ∧ M9 = x.2) x9.1 x9.2 := fun x9 e9 => by subst e9; exact ⟨rfl, rfl⟩
  unfold f_Mod_fights at h
  refine V_aload_n (n := 0) X d_Mod_fights_0 rfl rfl rfl ?_
  refine V_iconst (v := 0) X d_Mod_fights_1 (by decide) rfl ?_
  obtain ⟨M1, eM1, h⟩ := memS h
  refine V_putI X fp_Mod_109 kd_162 rfl d_Mod_fights_2 rfl ?_
  rw [← eM1]
  refine V_iload_n (n := 1) X d_Mod_fights_5 rfl rfl rfl ?_
  refine V_iconst (v := 0) X d_Mod_fights_6 (by decide) rfl ?_
  refine V_bipush (v := 60) X d_Mod_fights_7 (by decide) rfl ?_
  obtain ⟨x2, hx2, h⟩ := ob_s h
  refine V_si (As := [.int v1, .int (0 : Int32), .int (60 : Int32)]) X (Z0 E) ml_Mod_119 yq_Mod_in (c_Mod_in E.2.1 G v1 (0 : Int32) (60 : Int32) M1 x2 hx2 _ (Nat.le_refl _)) rfl (by omega) rfl (Nat.le_of_ble_eq_true rfl) d_Mod_fights_9 rfl (fun r9 M9 hq => ?_)
  rw [hq.1, hq.2]
  refine V_if_ne (tgt := 17) X d_Mod_fights_12 (by decide) rfl (fun c13 => ?_) (fun c13 => ?_)
  · rw [if_neg c13] at h
    refine V_aload_n (n := 0) X d_Mod_fights_17 rfl rfl rfl ?_
    refine V_geti X fo_Mod_29 kd_162 rfl d_Mod_fights_18 rfl ?_
    refine V_iconst (v := -1) X d_Mod_fights_21 (by decide) rfl ?_
    refine V_icmp_ne (tgt := 28) X d_Mod_fights_22 (by decide) rfl (fun c12 => ?_) (fun c12 => ?_)
    · rw [if_neg c12] at h
      refine V_iconst (v := 0) X d_Mod_fights_28 (by decide) rfl ?_
      refine V_istore_n (lv' := [(2, .int (0 : Int32)), (0, .ref (G.2.2 + 162)), (1, .int v1)]) X d_Mod_fights_29 rfl (by decide) rfl rfl ?_
      refine V_iconst (v := 0) X d_Mod_fights_30 (by decide) rfl ?_
      refine V_istore_n (lv' := [(3, .int (0 : Int32)), (2, .int (0 : Int32)), (0, .ref (G.2.2 + 162)), (1, .int v1)]) X d_Mod_fights_31 rfl (by decide) rfl rfl ?_
      refine V_sub (lv' := [(0, .ref (G.2.2 + 162)), (1, .int v1), (2, .int (0 : Int32)), (3, .int (0 : Int32))]) [2, 3, 1, 0] rfl ?_
      obtain ⟨x6, hx6, h⟩ := ob_s h
      refine (lp_Mod_fights_32_ok X hD v1 _ _ _ hx6 (fun x9 e9 => ?_) :)
      subst e9
      refine V_aload_n (n := 0) X d_Mod_fights_65 rfl rfl rfl ?_
      refine V_iconst (v := 0) X d_Mod_fights_66 (by decide) rfl ?_
      obtain ⟨M7, eM7, h⟩ := memS h
      refine V_putI X fp_Mod_112 kd_162 rfl d_Mod_fights_67 rfl ?_
      rw [← eM7]
      refine V_aload_n (n := 0) X d_Mod_fights_70 rfl rfl rfl ?_
      refine V_iload_n (n := 1) X d_Mod_fights_71 rfl rfl rfl ?_
      refine V_aload_n (n := 0) X d_Mod_fights_72 rfl rfl rfl ?_
      refine V_geti X fo_Mod_130 kd_162 rfl d_Mod_fights_73 rfl ?_
      refine V_iconst (v := -1) X d_Mod_fights_76 (by decide) rfl ?_
      refine V_ixor X d_Mod_fights_77 rfl ?_
      refine V_iand X d_Mod_fights_78 rfl ?_
      obtain ⟨x8, hx8, h⟩ := ob_s h
      refine V_si (As := [.int (x6.1 &&& ((M7.1 162 5) ^^^ (-1 : Int32)))]) X (Z0 E) ml_Mod_310 yq_JInteger_bitCount (c_JInteger_bitCount E.2.1 G (x6.1 &&& ((M7.1 162 5) ^^^ (-1 : Int32))) M7 x8 hx8 _ (Nat.le_refl _)) rfl (by omega) rfl (Nat.le_of_ble_eq_true rfl) d_Mod_fights_79 rfl (fun r9 M9 hq => ?_)
      rw [hq.1, hq.2]
      obtain ⟨x9, hx9, h⟩ := ob_s h
      refine V_cv (As := [.int x8]) X (Z0 E) ml_Mod_342 yq_Mod_put (c_Mod_put E.2.1 G x8 M7 x9 hx9 _ (Nat.le_refl _)) kd_162 rfl rfl (by omega) rfl (Nat.le_of_ble_eq_true rfl) d_Mod_fights_82 rfl (fun M9 hq => ?_)
      rw [hq]
      refine V_aload_n (n := 0) X d_Mod_fights_85 rfl rfl rfl ?_
      refine V_iload_n (n := 1) X d_Mod_fights_86 rfl rfl rfl ?_
      refine V_aload_n (n := 0) X d_Mod_fights_87 rfl rfl rfl ?_
      refine V_geti X fo_Mod_130 kd_162 rfl d_Mod_fights_88 rfl ?_
      refine V_iand X d_Mod_fights_91 rfl ?_
      obtain ⟨x10, hx10, h⟩ := ob_s h
      refine V_si (As := [.int (x6.1 &&& (x9.1 162 5))]) X (Z0 E) ml_Mod_310 yq_JInteger_bitCount (c_JInteger_bitCount E.2.1 G (x6.1 &&& (x9.1 162 5)) x9 x10 hx10 _ (Nat.le_refl _)) rfl (by omega) rfl (Nat.le_of_ble_eq_true rfl) d_Mod_fights_92 rfl (fun r9 M9 hq => ?_)
      rw [hq.1, hq.2]
      obtain ⟨x11, hx11, h⟩ := ob_s h
      refine V_cv (As := [.int x10]) X (Z0 E) ml_Mod_342 yq_Mod_put (c_Mod_put E.2.1 G x10 x9 x11 hx11 _ (Nat.le_refl _)) kd_162 rfl rfl (by omega) rfl (Nat.le_of_ble_eq_true rfl) d_Mod_fights_95 rfl (fun M9 hq => ?_)
      rw [hq]
      refine V_iload_n (n := 1) X d_Mod_fights_98 rfl rfl rfl ?_
      exact V_iret X (kr (x6.1, x11) (Option.some.inj h).symm) d_Mod_fights_99
    · rw [if_pos c12] at h
      refine V_bipush (v := -2) X d_Mod_fights_25 (by decide) rfl ?_
      exact V_iret X (kr ((-2 : Int32), M1) (Option.some.inj h).symm) d_Mod_fights_27
  · rw [if_pos c13] at h
    refine V_iconst (v := -1) X d_Mod_fights_15 (by decide) rfl ?_
    exact V_iret X (kr ((-1 : Int32), M1) (Option.some.inj h).symm) d_Mod_fights_16
def j_Mod_saved_75_32 (v1 : Int32) (v2 : Int32) (v3 : Int32) (v4 : Int32) (v5 : Int32) (v6 : Int32) (M : Mem) : Option ((Int32 × Int32 × Int32 × Int32 × Int32 × Mem) ⊕ ((Int32 × Int32 × Int32 × Int32 × Mem))) :=
  Option.bind (f_Mod_has (M.1 162 5) v5) fun x4 =>
  if x4 = 0 then
  if v3 ≤ v6 then
  some (.inl (v1, v2, v3, v4, (v5 + (1 : Int32)), M))
  else
  some (.inl (v5, v2, v6, v4, (v5 + (1 : Int32)), M))
  else
  some (.inl (v1, v2, v3, v4, (v5 + (1 : Int32)), M))
theorem j_Mod_saved_75_32_ok {E : Ev} {G : Gw} {d : Nat} {post : Int32 → Mem → Prop} (X : Cx E G b_Mod_saved "WomenByTheRoofsModel" 7 d (some .int)) (hD : 8 ≤ d)  (v1 : Int32) (v2 : Int32) (v3 : Int32) (v4 : Int32) (v5 : Int32) (v6 : Int32)  (M : Mem)  (o : (Int32 × Int32 × Int32 × Int32 × Int32 × Mem) ⊕ ((Int32 × Int32 × Int32 × Int32 × Mem))) (h : j_Mod_saved_75_32 v1 v2 v3 v4 v5 v6 M = some o) (kc : ∀ s9 : Int32 × Int32 × Int32 × Int32 × Int32 × Mem, o = .inl s9 → V E (0, 0) G 7 (QI E G post) s9.2.2.2.2.2 32 [(0, .ref (G.2.2 + 162)), (1, .int s9.1), (2, .int s9.2.1), (3, .int s9.2.2.1), (4, .int s9.2.2.2.1), (5, .int s9.2.2.2.2.1)] []) (kx0 : ∀ x9 : Int32 × Int32 × Int32 × Int32 × Mem, o = .inr x9 → V E (0, 0) G 7 (QI E G post) x9.2.2.2.2 105 [(0, .ref (G.2.2 + 162)), (1, .int x9.1), (2, .int x9.2.1), (3, .int x9.2.2.1), (4, .int x9.2.2.2.1)] []) : V E (0, 0) G 7 (QI E G post) M 75 [(0, .ref (G.2.2 + 162)), (1, .int v1), (2, .int v2), (3, .int v3), (4, .int v4), (5, .int v5), (6, .int v6)] [] := by
  unfold j_Mod_saved_75_32 at h
  refine V_aload_n (n := 0) X d_Mod_saved_75 rfl rfl rfl ?_
  refine V_geti X fo_Mod_130 kd_162 rfl d_Mod_saved_76 rfl ?_
  refine V_iload (n := 5) X d_Mod_saved_79 rfl rfl ?_
  obtain ⟨x4, hx4, h⟩ := ob_s h
  refine V_si (As := [.int (M.1 162 5), .int v5]) X (Z0 E) ml_Mod_133 yq_Mod_has (c_Mod_has E.2.1 G (M.1 162 5) v5 M x4 hx4 _ (Nat.le_refl _)) rfl (by omega) rfl (Nat.le_of_ble_eq_true rfl) d_Mod_saved_81 rfl (fun r9 M9 hq => ?_)
  rw [hq.1, hq.2]
  refine V_if_ne (tgt := 99) X d_Mod_saved_84 (by decide) rfl (fun c6 => ?_) (fun c6 => ?_)
  · rw [if_neg c6] at h
    refine V_iinc (n := 5) (v := (v5 + (1 : Int32))) (lv' := [(5, .int (v5 + (1 : Int32))), (0, .ref (G.2.2 + 162)), (1, .int v1), (2, .int v2), (3, .int v3), (4, .int v4), (6, .int v6)]) X d_Mod_saved_99 rfl rfl (by decide) rfl rfl ?_
    refine V_goto (pc' := 32) X d_Mod_saved_102 (by decide) ?_
    refine V_sub (lv' := [(0, .ref (G.2.2 + 162)), (1, .int v1), (2, .int v2), (3, .int v3), (4, .int v4), (5, .int (v5 + (1 : Int32)))]) [1, 2, 3, 4, 5, 0] rfl ?_
    exact kc (v1, v2, v3, v4, (v5 + (1 : Int32)), M) (Option.some.inj h).symm
  · rw [if_pos c6] at h
    refine V_iload (n := 6) X d_Mod_saved_87 rfl rfl ?_
    refine V_iload_n (n := 3) X d_Mod_saved_89 rfl rfl rfl ?_
    refine V_icmp_ge (tgt := 99) X d_Mod_saved_90 (by decide) rfl (fun c5 => ?_) (fun c5 => ?_)
    · rw [if_pos c5] at h
      refine V_iinc (n := 5) (v := (v5 + (1 : Int32))) (lv' := [(5, .int (v5 + (1 : Int32))), (0, .ref (G.2.2 + 162)), (1, .int v1), (2, .int v2), (3, .int v3), (4, .int v4), (6, .int v6)]) X d_Mod_saved_99 rfl rfl (by decide) rfl rfl ?_
      refine V_goto (pc' := 32) X d_Mod_saved_102 (by decide) ?_
      refine V_sub (lv' := [(0, .ref (G.2.2 + 162)), (1, .int v1), (2, .int v2), (3, .int v3), (4, .int v4), (5, .int (v5 + (1 : Int32)))]) [1, 2, 3, 4, 5, 0] rfl ?_
      exact kc (v1, v2, v3, v4, (v5 + (1 : Int32)), M) (Option.some.inj h).symm
    · rw [if_neg c5] at h
      refine V_iload (n := 6) X d_Mod_saved_93 rfl rfl ?_
      refine V_istore_n (lv' := [(3, .int v6), (0, .ref (G.2.2 + 162)), (1, .int v1), (2, .int v2), (4, .int v4), (5, .int v5), (6, .int v6)]) X d_Mod_saved_95 rfl (by decide) rfl rfl ?_
      refine V_iload (n := 5) X d_Mod_saved_96 rfl rfl ?_
      refine V_istore_n (lv' := [(1, .int v5), (3, .int v6), (0, .ref (G.2.2 + 162)), (2, .int v2), (4, .int v4), (5, .int v5), (6, .int v6)]) X d_Mod_saved_98 rfl (by decide) rfl rfl ?_
      refine V_iinc (n := 5) (v := (v5 + (1 : Int32))) (lv' := [(5, .int (v5 + (1 : Int32))), (1, .int v5), (3, .int v6), (0, .ref (G.2.2 + 162)), (2, .int v2), (4, .int v4), (6, .int v6)]) X d_Mod_saved_99 rfl rfl (by decide) rfl rfl ?_
      refine V_goto (pc' := 32) X d_Mod_saved_102 (by decide) ?_
      refine V_sub (lv' := [(0, .ref (G.2.2 + 162)), (1, .int v5), (2, .int v2), (3, .int v6), (4, .int v4), (5, .int (v5 + (1 : Int32)))]) [3, 1, 4, 2, 5, 0] rfl ?_
      exact kc (v5, v2, v6, v4, (v5 + (1 : Int32)), M) (Option.some.inj h).symm
def lb_Mod_saved_32  (s : Int32 × Int32 × Int32 × Int32 × Int32 × Mem) : Option ((Int32 × Int32 × Int32 × Int32 × Int32 × Mem) ⊕ ((Int32 × Int32 × Int32 × Int32 × Mem))) :=
  if (s.2.2.2.2.2.1 162 4) ≤ s.2.2.2.2.1 then
  some (.inr (s.1, s.2.1, s.2.2.1, s.2.2.2.1, s.2.2.2.2.2))
  else
  Option.bind (f_Mod_fights1 s.2.2.2.2.1 s.2.2.2.2.2) fun x2 =>
  Option.bind (f_Mod_has (x2.2.1 162 5) s.2.2.2.2.1) fun x3 =>
  if x3 = 0 then
  j_Mod_saved_75_32 s.1 s.2.1 s.2.2.1 s.2.2.2.1 s.2.2.2.2.1 x2.1 x2.2
  else
  if s.2.2.2.1 ≤ x2.1 then
  j_Mod_saved_75_32 s.1 s.2.1 s.2.2.1 s.2.2.2.1 s.2.2.2.2.1 x2.1 x2.2
  else
  j_Mod_saved_75_32 s.1 s.2.2.2.2.1 s.2.2.1 x2.1 s.2.2.2.2.1 x2.1 x2.2
theorem lb_Mod_saved_32_ok {E : Ev} {G : Gw} {d : Nat} {post : Int32 → Mem → Prop} (X : Cx E G b_Mod_saved "WomenByTheRoofsModel" 7 d (some .int)) (hD : 8 ≤ d)     (s : Int32 × Int32 × Int32 × Int32 × Int32 × Mem) (o : (Int32 × Int32 × Int32 × Int32 × Int32 × Mem) ⊕ ((Int32 × Int32 × Int32 × Int32 × Mem))) (h : lb_Mod_saved_32 s = some o) (kc : ∀ s9 : Int32 × Int32 × Int32 × Int32 × Int32 × Mem, o = .inl s9 → V E (0, 0) G 7 (QI E G post) s9.2.2.2.2.2 32 [(0, .ref (G.2.2 + 162)), (1, .int s9.1), (2, .int s9.2.1), (3, .int s9.2.2.1), (4, .int s9.2.2.2.1), (5, .int s9.2.2.2.2.1)] []) (kx0 : ∀ x9 : Int32 × Int32 × Int32 × Int32 × Mem, o = .inr x9 → V E (0, 0) G 7 (QI E G post) x9.2.2.2.2 105 [(0, .ref (G.2.2 + 162)), (1, .int x9.1), (2, .int x9.2.1), (3, .int x9.2.2.1), (4, .int x9.2.2.2.1)] []) : V E (0, 0) G 7 (QI E G post) s.2.2.2.2.2 32 [(0, .ref (G.2.2 + 162)), (1, .int s.1), (2, .int s.2.1), (3, .int s.2.2.1), (4, .int s.2.2.2.1), (5, .int s.2.2.2.2.1)] [] := by
  unfold lb_Mod_saved_32 at h
  refine V_iload (n := 5) X d_Mod_saved_32 rfl rfl ?_
  refine V_aload_n (n := 0) X d_Mod_saved_34 rfl rfl rfl ?_
  refine V_geti X fo_Mod_123 kd_162 rfl d_Mod_saved_35 rfl ?_
  refine V_icmp_ge (tgt := 105) X d_Mod_saved_38 (by decide) rfl (fun c9 => ?_) (fun c9 => ?_)
  · rw [if_pos c9] at h
    refine V_sub (lv' := [(0, .ref (G.2.2 + 162)), (1, .int s.1), (2, .int s.2.1), (3, .int s.2.2.1), (4, .int s.2.2.2.1)]) [0, 1, 2, 3, 4] rfl ?_
    exact kx0 (s.1, s.2.1, s.2.2.1, s.2.2.2.1, s.2.2.2.2.2) (Option.some.inj h).symm
  · rw [if_neg c9] at h
    refine V_aload_n (n := 0) X d_Mod_saved_41 rfl rfl rfl ?_
    refine V_iload (n := 5) X d_Mod_saved_42 rfl rfl ?_
    obtain ⟨x2, hx2, h⟩ := ob_s h
    refine V_ci (As := [.int s.2.2.2.2.1]) X (Z0 E) ml_Mod_397 yq_Mod_fights1 (c_Mod_fights1 E.2.1 G s.2.2.2.2.1 s.2.2.2.2.2 x2 hx2 _ (Nat.le_refl _)) kd_162 rfl rfl (by omega) rfl (Nat.le_of_ble_eq_true rfl) d_Mod_saved_44 rfl (fun r9 M9 hq => ?_)
    rw [hq.1, hq.2]
    refine V_istore (lv' := [(6, .int x2.1), (0, .ref (G.2.2 + 162)), (1, .int s.1), (2, .int s.2.1), (3, .int s.2.2.1), (4, .int s.2.2.2.1), (5, .int s.2.2.2.2.1)]) X d_Mod_saved_47 (by decide) rfl rfl ?_
    refine V_aload_n (n := 1) X d_Mod_saved_49 rfl rfl rfl ?_
    refine V_geti X fo_Mod_130 kd_162 rfl d_Mod_saved_50 rfl ?_
    refine V_iload (n := 6) X d_Mod_saved_53 rfl rfl ?_
    obtain ⟨x3, hx3, h⟩ := ob_s h
    refine V_si (As := [.int (x2.2.1 162 5), .int s.2.2.2.2.1]) X (Z0 E) ml_Mod_133 yq_Mod_has (c_Mod_has E.2.1 G (x2.2.1 162 5) s.2.2.2.2.1 x2.2 x3 hx3 _ (Nat.le_refl _)) rfl (by omega) rfl (Nat.le_of_ble_eq_true rfl) d_Mod_saved_55 rfl (fun r9 M9 hq => ?_)
    rw [hq.1, hq.2]
    refine V_if_eq (tgt := 75) X d_Mod_saved_58 (by decide) rfl (fun c8 => ?_) (fun c8 => ?_)
    · rw [if_pos c8] at h
      refine V_sub (lv' := [(0, .ref (G.2.2 + 162)), (1, .int s.1), (2, .int s.2.1), (3, .int s.2.2.1), (4, .int s.2.2.2.1), (5, .int s.2.2.2.2.1), (6, .int x2.1)]) [1, 2, 3, 4, 5, 6, 0] rfl ?_
      exact j_Mod_saved_75_32_ok X hD s.1 s.2.1 s.2.2.1 s.2.2.2.1 s.2.2.2.2.1 x2.1 x2.2 _ h kc kx0
    · rw [if_neg c8] at h
      refine V_iload (n := 0) X d_Mod_saved_61 rfl rfl ?_
      refine V_iload (n := 5) X d_Mod_saved_63 rfl rfl ?_
      refine V_icmp_ge (tgt := 75) X d_Mod_saved_65 (by decide) rfl (fun c7 => ?_) (fun c7 => ?_)
      · rw [if_pos c7] at h
        refine V_sub (lv' := [(0, .ref (G.2.2 + 162)), (1, .int s.1), (2, .int s.2.1), (3, .int s.2.2.1), (4, .int s.2.2.2.1), (5, .int s.2.2.2.2.1), (6, .int x2.1)]) [1, 2, 3, 4, 5, 6, 0] rfl ?_
        exact j_Mod_saved_75_32_ok X hD s.1 s.2.1 s.2.2.1 s.2.2.2.1 s.2.2.2.2.1 x2.1 x2.2 _ h kc kx0
      · rw [if_neg c7] at h
        refine V_iload (n := 0) X d_Mod_saved_68 rfl rfl ?_
        refine V_istore (lv' := [(4, .int x2.1), (6, .int x2.1), (0, .ref (G.2.2 + 162)), (1, .int s.1), (2, .int s.2.1), (3, .int s.2.2.1), (5, .int s.2.2.2.2.1)]) X d_Mod_saved_70 (by decide) rfl rfl ?_
        refine V_iload (n := 6) X d_Mod_saved_72 rfl rfl ?_
        refine V_istore_n (lv' := [(2, .int s.2.2.2.2.1), (4, .int x2.1), (6, .int x2.1), (0, .ref (G.2.2 + 162)), (1, .int s.1), (3, .int s.2.2.1), (5, .int s.2.2.2.2.1)]) X d_Mod_saved_74 rfl (by decide) rfl rfl ?_
        refine V_sub (lv' := [(0, .ref (G.2.2 + 162)), (1, .int s.1), (2, .int s.2.2.2.2.1), (3, .int s.2.2.1), (4, .int x2.1), (5, .int s.2.2.2.2.1), (6, .int x2.1)]) [3, 4, 0, 5, 1, 6, 2] rfl ?_
        exact j_Mod_saved_75_32_ok X hD s.1 s.2.2.2.2.1 s.2.2.1 x2.1 s.2.2.2.2.1 x2.1 x2.2 _ h kc kx0
theorem lp_Mod_saved_32_ok {E : Ev} {G : Gw} {d : Nat} {post : Int32 → Mem → Prop} (X : Cx E G b_Mod_saved "WomenByTheRoofsModel" 7 d (some .int)) (hD : 8 ≤ d)     (n9 : Nat) (s : Int32 × Int32 × Int32 × Int32 × Int32 × Mem) (x : (Int32 × Int32 × Int32 × Int32 × Mem)) (h : iter (lb_Mod_saved_32) n9 s = some x) (kx0 : ∀ x9 : Int32 × Int32 × Int32 × Int32 × Mem, x = x9 → V E (0, 0) G 7 (QI E G post) x9.2.2.2.2 105 [(0, .ref (G.2.2 + 162)), (1, .int x9.1), (2, .int x9.2.1), (3, .int x9.2.2.1), (4, .int x9.2.2.2.1)] []) : V E (0, 0) G 7 (QI E G post) s.2.2.2.2.2 32 [(0, .ref (G.2.2 + 162)), (1, .int s.1), (2, .int s.2.1), (3, .int s.2.2.1), (4, .int s.2.2.2.1), (5, .int s.2.2.2.2.1)] [] :=
  iter_P (P := fun s : Int32 × Int32 × Int32 × Int32 × Int32 × Mem => V E (0, 0) G 7 (QI E G post) s.2.2.2.2.2 32 [(0, .ref (G.2.2 + 162)), (1, .int s.1), (2, .int s.2.1), (3, .int s.2.2.1), (4, .int s.2.2.2.1), (5, .int s.2.2.2.2.1)] []) (fun s o hb kc ky => lb_Mod_saved_32_ok X hD  s o hb kc (fun x9 e9 => kx0 x9 (ky _ e9).symm)) n9 s h
def f_Mod_saved (M : Mem) : Option (Int32 × Mem) :=
  mem_ (s_i M 162 13 (0 : Int32)) fun M1 =>
  if (M1.1 162 8) = (-1 : Int32) then
  some ((-2 : Int32), M1)
  else
  Option.bind (iter (lb_Mod_saved_32) FU ((-1 : Int32), (-1 : Int32), (1000000 : Int32), (1000000 : Int32), (0 : Int32), M1)) fun x10 =>
  if (if x10.2.2.1 < x10.2.2.2.1 then x10.2.2.2.1 else x10.2.2.1) ≤ (60 : Int32) then
  mem_ (s_i x10.2.2.2.2 162 12 (0 : Int32)) fun M11 =>
  Option.bind (f_Mod_put x10.1 M11) fun x12 =>
  Option.bind (f_Mod_put x10.2.1 x12) fun x13 =>
  some ((if x10.2.2.1 < x10.2.2.2.1 then x10.2.2.2.1 else x10.2.2.1), x13)
  else
  some ((-2 : Int32), x10.2.2.2.2)
theorem c_Mod_saved (l : Launch) (G : Gw)   (M : Mem) (x : Int32 × Mem) (h : f_Mod_saved M = some x) (d : Nat) (hD : 8 ≤ d) : Ci l G y_Mod_saved b_Mod_saved 7 (some .int) d [.ref (G.2.2 + 162)] M (fun r9 M9 => r9 = x.1 ∧ M9 = x.2) := by
  refine Ci_of (by decide) (Nat.le_of_ble_eq_true rfl) (fun E hE X => ?_)
  subst hE
  have kr : ∀ x9 : Int32 × Mem, x = x9 → (fun r9 M9 => r9 = x.1 ∧ M9 = x.2) x9.1 x9.2 := fun x9 e9 => by subst e9; exact ⟨rfl, rfl⟩
  unfold f_Mod_saved at h
  refine V_aload_n (n := 0) X d_Mod_saved_0 rfl rfl rfl ?_
  refine V_iconst (v := 0) X d_Mod_saved_1 (by decide) rfl ?_
  obtain ⟨M1, eM1, h⟩ := memS h
  refine V_putI X fp_Mod_109 kd_162 rfl d_Mod_saved_2 rfl ?_
  rw [← eM1]
  refine V_aload_n (n := 0) X d_Mod_saved_5 rfl rfl rfl ?_
  refine V_geti X fo_Mod_29 kd_162 rfl d_Mod_saved_6 rfl ?_
  refine V_iconst (v := -1) X d_Mod_saved_9 (by decide) rfl ?_
  refine V_icmp_ne (tgt := 16) X d_Mod_saved_10 (by decide) rfl (fun c15 => ?_) (fun c15 => ?_)
  · rw [if_neg c15] at h
    refine V_iconst (v := -1) X d_Mod_saved_16 (by decide) rfl ?_
    refine V_istore_n (lv' := [(1, .int (-1 : Int32)), (0, .ref (G.2.2 + 162))]) X d_Mod_saved_17 rfl (by decide) rfl rfl ?_
    refine V_iconst (v := -1) X d_Mod_saved_18 (by decide) rfl ?_
    refine V_istore_n (lv' := [(2, .int (-1 : Int32)), (1, .int (-1 : Int32)), (0, .ref (G.2.2 + 162))]) X d_Mod_saved_19 rfl (by decide) rfl rfl ?_
    refine V_ldc_w (v := 1000000) X d_Mod_saved_20 kc_Mod_357 rfl ?_
    refine V_istore_n (lv' := [(3, .int (1000000 : Int32)), (2, .int (-1 : Int32)), (1, .int (-1 : Int32)), (0, .ref (G.2.2 + 162))]) X d_Mod_saved_23 rfl (by decide) rfl rfl ?_
    refine V_ldc_w (v := 1000000) X d_Mod_saved_24 kc_Mod_357 rfl ?_
    refine V_istore (lv' := [(4, .int (1000000 : Int32)), (3, .int (1000000 : Int32)), (2, .int (-1 : Int32)), (1, .int (-1 : Int32)), (0, .ref (G.2.2 + 162))]) X d_Mod_saved_27 (by decide) rfl rfl ?_
    refine V_iconst (v := 0) X d_Mod_saved_29 (by decide) rfl ?_
    refine V_istore (lv' := [(5, .int (0 : Int32)), (4, .int (1000000 : Int32)), (3, .int (1000000 : Int32)), (2, .int (-1 : Int32)), (1, .int (-1 : Int32)), (0, .ref (G.2.2 + 162))]) X d_Mod_saved_30 (by decide) rfl rfl ?_
    refine V_sub (lv' := [(0, .ref (G.2.2 + 162)), (1, .int (-1 : Int32)), (2, .int (-1 : Int32)), (3, .int (1000000 : Int32)), (4, .int (1000000 : Int32)), (5, .int (0 : Int32))]) [5, 4, 3, 2, 1, 0] rfl ?_
    obtain ⟨x10, hx10, h⟩ := ob_s h
    refine (lp_Mod_saved_32_ok X hD  _ _ _ hx10 (fun x9 e9 => ?_) :)
    subst e9
    refine V_iload_n (n := 3) X d_Mod_saved_105 rfl rfl rfl ?_
    refine V_iload (n := 4) X d_Mod_saved_106 rfl rfl ?_
    refine V_mmax X (Z0 E) mm_Mod_304 (by omega) (Nat.le_of_ble_eq_true rfl) d_Mod_saved_108 rfl ?_
    refine V_bipush (v := 60) X d_Mod_saved_111 (by decide) rfl ?_
    refine V_icmp_le (tgt := 119) X d_Mod_saved_113 (by decide) rfl (fun c14 => ?_) (fun c14 => ?_)
    · rw [if_pos c14] at h
      refine V_aload_n (n := 0) X d_Mod_saved_119 rfl rfl rfl ?_
      refine V_iconst (v := 0) X d_Mod_saved_120 (by decide) rfl ?_
      obtain ⟨M11, eM11, h⟩ := memS h
      refine V_putI X fp_Mod_112 kd_162 rfl d_Mod_saved_121 rfl ?_
      rw [← eM11]
      refine V_aload_n (n := 0) X d_Mod_saved_124 rfl rfl rfl ?_
      refine V_iload_n (n := 1) X d_Mod_saved_125 rfl rfl rfl ?_
      obtain ⟨x12, hx12, h⟩ := ob_s h
      refine V_cv (As := [.int x10.1]) X (Z0 E) ml_Mod_342 yq_Mod_put (c_Mod_put E.2.1 G x10.1 M11 x12 hx12 _ (Nat.le_refl _)) kd_162 rfl rfl (by omega) rfl (Nat.le_of_ble_eq_true rfl) d_Mod_saved_126 rfl (fun M9 hq => ?_)
      rw [hq]
      refine V_aload_n (n := 0) X d_Mod_saved_129 rfl rfl rfl ?_
      refine V_iload_n (n := 2) X d_Mod_saved_130 rfl rfl rfl ?_
      obtain ⟨x13, hx13, h⟩ := ob_s h
      refine V_cv (As := [.int x10.2.1]) X (Z0 E) ml_Mod_342 yq_Mod_put (c_Mod_put E.2.1 G x10.2.1 x12 x13 hx13 _ (Nat.le_refl _)) kd_162 rfl rfl (by omega) rfl (Nat.le_of_ble_eq_true rfl) d_Mod_saved_131 rfl (fun M9 hq => ?_)
      rw [hq]
      refine V_iload_n (n := 3) X d_Mod_saved_134 rfl rfl rfl ?_
      refine V_iload (n := 4) X d_Mod_saved_135 rfl rfl ?_
      refine V_mmax X (Z0 E) mm_Mod_304 (by omega) (Nat.le_of_ble_eq_true rfl) d_Mod_saved_137 rfl ?_
      exact V_iret X (kr ((if x10.2.2.1 < x10.2.2.2.1 then x10.2.2.2.1 else x10.2.2.1), x13) (Option.some.inj h).symm) d_Mod_saved_140
    · rw [if_neg c14] at h
      refine V_bipush (v := -2) X d_Mod_saved_116 (by decide) rfl ?_
      exact V_iret X (kr ((-2 : Int32), x10.2.2.2.2) (Option.some.inj h).symm) d_Mod_saved_118
  · rw [if_pos c15] at h
    refine V_bipush (v := -2) X d_Mod_saved_13 (by decide) rfl ?_
    exact V_iret X (kr ((-2 : Int32), M1) (Option.some.inj h).symm) d_Mod_saved_15
def lb_Mod_areNear_9 (v1 : Int32) (v2 : Int32) (M : Mem) (s : Int32) : Option ((Int32) ⊕ ((Unit) ⊕ (Unit))) :=
  if (4 : Int32) ≤ s then
  some (.inr (Sum.inl ()))
  else
  Option.bind (f_Mod_beside v1 s M) fun x1 =>
  if x1 = v2 then
  some (.inr (Sum.inr ()))
  else
  some (.inl (s + (1 : Int32)))
theorem lb_Mod_areNear_9_ok {E : Ev} {G : Gw} {d : Nat} {post : Int32 → Mem → Prop} (X : Cx E G b_Mod_areNear "WomenByTheRoofsModel" 4 d (some .boolean)) (hD : 3 ≤ d)  (v1 : Int32) (v2 : Int32)  (M : Mem) (s : Int32) (o : (Int32) ⊕ ((Unit) ⊕ (Unit))) (h : lb_Mod_areNear_9 v1 v2 M s = some o) (kc : ∀ s9 : Int32, o = .inl s9 → V E (0, 0) G 4 (QI E G post) M 9 [(0, .ref (G.2.2 + 162)), (1, .int v1), (2, .int v2), (3, .int s9)] []) (kx0 : ∀ x9 : Unit, o = .inr (Sum.inl x9) → V E (0, 0) G 4 (QI E G post) M 32 [] []) (kx1 : ∀ x9 : Unit, o = .inr (Sum.inr x9) → V E (0, 0) G 4 (QI E G post) M 24 [] []) : V E (0, 0) G 4 (QI E G post) M 9 [(0, .ref (G.2.2 + 162)), (1, .int v1), (2, .int v2), (3, .int s)] [] := by
  unfold lb_Mod_areNear_9 at h
  refine V_iload_n (n := 3) X d_Mod_areNear_9 rfl rfl rfl ?_
  refine V_iconst (v := 4) X d_Mod_areNear_10 (by decide) rfl ?_
  refine V_icmp_ge (tgt := 32) X d_Mod_areNear_11 (by decide) rfl (fun c3 => ?_) (fun c3 => ?_)
  · rw [if_pos c3] at h
    refine V_sub (lv' := []) [] rfl ?_
    exact kx0 () (Option.some.inj h).symm
  · rw [if_neg c3] at h
    refine V_aload_n (n := 0) X d_Mod_areNear_14 rfl rfl rfl ?_
    refine V_iload_n (n := 1) X d_Mod_areNear_15 rfl rfl rfl ?_
    refine V_iload_n (n := 3) X d_Mod_areNear_16 rfl rfl rfl ?_
    obtain ⟨x1, hx1, h⟩ := ob_s h
    refine V_ci (As := [.int v1, .int s]) X (Z0 E) ml_Mod_150 yq_Mod_beside (c_Mod_beside E.2.1 G v1 s M x1 hx1 _ (Nat.le_refl _)) kd_162 rfl rfl (by omega) rfl (Nat.le_of_ble_eq_true rfl) d_Mod_areNear_17 rfl (fun r9 M9 hq => ?_)
    rw [hq.1, hq.2]
    refine V_iload_n (n := 2) X d_Mod_areNear_20 rfl rfl rfl ?_
    refine V_icmp_ne (tgt := 26) X d_Mod_areNear_21 (by decide) rfl (fun c2 => ?_) (fun c2 => ?_)
    · rw [if_neg c2] at h
      refine V_iinc (n := 3) (v := (s + (1 : Int32))) (lv' := [(3, .int (s + (1 : Int32))), (0, .ref (G.2.2 + 162)), (1, .int v1), (2, .int v2)]) X d_Mod_areNear_26 rfl rfl (by decide) rfl rfl ?_
      refine V_goto (pc' := 9) X d_Mod_areNear_29 (by decide) ?_
      refine V_sub (lv' := [(0, .ref (G.2.2 + 162)), (1, .int v1), (2, .int v2), (3, .int (s + (1 : Int32)))]) [1, 2, 3, 0] rfl ?_
      exact kc (s + (1 : Int32)) (Option.some.inj h).symm
    · rw [if_pos c2] at h
      refine V_sub (lv' := []) [] rfl ?_
      exact kx1 () (Option.some.inj h).symm
theorem lp_Mod_areNear_9_ok {E : Ev} {G : Gw} {d : Nat} {post : Int32 → Mem → Prop} (X : Cx E G b_Mod_areNear "WomenByTheRoofsModel" 4 d (some .boolean)) (hD : 3 ≤ d)  (v1 : Int32) (v2 : Int32)  (M : Mem) (n9 : Nat) (s : Int32) (x : (Unit) ⊕ (Unit)) (h : iter (lb_Mod_areNear_9 v1 v2 M) n9 s = some x) (kx0 : ∀ x9 : Unit, x = (Sum.inl x9) → V E (0, 0) G 4 (QI E G post) M 32 [] []) (kx1 : ∀ x9 : Unit, x = (Sum.inr x9) → V E (0, 0) G 4 (QI E G post) M 24 [] []) : V E (0, 0) G 4 (QI E G post) M 9 [(0, .ref (G.2.2 + 162)), (1, .int v1), (2, .int v2), (3, .int s)] [] :=
  iter_P (P := fun s : Int32 => V E (0, 0) G 4 (QI E G post) M 9 [(0, .ref (G.2.2 + 162)), (1, .int v1), (2, .int v2), (3, .int s)] []) (fun s o hb kc ky => lb_Mod_areNear_9_ok X hD v1 v2 M s o hb kc (fun x9 e9 => kx0 x9 (ky _ e9).symm) (fun x9 e9 => kx1 x9 (ky _ e9).symm)) n9 s h
def f_Mod_areNear (v1 : Int32) (v2 : Int32) (M : Mem) : Option (Int32) :=
  if v1 = v2 then
  some (1 : Int32)
  else
  Option.bind (iter (lb_Mod_areNear_9 v1 v2 M) FU (0 : Int32)) (Sum.elim (fun y5 => some (0 : Int32)) (fun y6 => some (1 : Int32)))
theorem c_Mod_areNear (l : Launch) (G : Gw)  (v1 : Int32) (v2 : Int32) (M : Mem) (x : Int32) (h : f_Mod_areNear v1 v2 M = some x) (d : Nat) (hD : 3 ≤ d) : Ci l G y_Mod_areNear b_Mod_areNear 4 (some .boolean) d [.ref (G.2.2 + 162), .int v1, .int v2] M (fun r9 M9 => r9 = x ∧ M9 = M) := by
  refine Ci_of (by decide) (Nat.le_of_ble_eq_true rfl) (fun E hE X => ?_)
  subst hE
  have kr : ∀ x9 : Int32, x = x9 → (fun r9 M9 => r9 = x ∧ M9 = M) x9 M := fun x9 e9 => by subst e9; exact ⟨rfl, rfl⟩
  unfold f_Mod_areNear at h
  refine V_iload_n (n := 1) X d_Mod_areNear_0 rfl rfl rfl ?_
  refine V_iload_n (n := 2) X d_Mod_areNear_1 rfl rfl rfl ?_
  refine V_icmp_ne (tgt := 7) X d_Mod_areNear_2 (by decide) rfl (fun c7 => ?_) (fun c7 => ?_)
  · rw [if_neg c7] at h
    refine V_iconst (v := 0) X d_Mod_areNear_7 (by decide) rfl ?_
    refine V_istore_n (lv' := [(3, .int (0 : Int32)), (0, .ref (G.2.2 + 162)), (1, .int v1), (2, .int v2)]) X d_Mod_areNear_8 rfl (by decide) rfl rfl ?_
    refine V_sub (lv' := [(0, .ref (G.2.2 + 162)), (1, .int v1), (2, .int v2), (3, .int (0 : Int32))]) [1, 2, 3, 0] rfl ?_
    obtain ⟨x4, hx4, h⟩ := ob_s h
    rcases x4 with y5 | y6
    · simp only [Sum.elim_inl, Sum.elim_inr] at h
      refine (lp_Mod_areNear_9_ok X hD v1 v2 M _ _ _ hx4 (fun x9 e9 => ?_) (fun x9 e9 => by cases e9) :)
      cases e9
      refine V_iconst (v := 0) X d_Mod_areNear_32 (by decide) rfl ?_
      exact V_zret X (kr (0 : Int32) (Option.some.inj h).symm) (by decide) d_Mod_areNear_33
    · simp only [Sum.elim_inl, Sum.elim_inr] at h
      refine (lp_Mod_areNear_9_ok X hD v1 v2 M _ _ _ hx4 (fun x9 e9 => by cases e9) (fun x9 e9 => ?_) :)
      cases e9
      refine V_iconst (v := 1) X d_Mod_areNear_24 (by decide) rfl ?_
      exact V_zret X (kr (1 : Int32) (Option.some.inj h).symm) (by decide) d_Mod_areNear_25
  · rw [if_pos c7] at h
    refine V_iconst (v := 1) X d_Mod_areNear_5 (by decide) rfl ?_
    exact V_zret X (kr (1 : Int32) (Option.some.inj h).symm) (by decide) d_Mod_areNear_6
def f_Mod_plain (v1 : Int32) (v2 : Int32) (v3 : Int32) (M : Mem) : Option (Int32) :=
  if v3 = (4 : Int32) then
  some v2
  else
  Option.bind (f_Mod_beside v2 v3 M) fun x1 =>
  if x1 = (-1 : Int32) then
  some (-1 : Int32)
  else
  Option.bind (f_Mod_isOf v1 x1 M) fun x2 =>
  if x2 = 0 then
  some (-1 : Int32)
  else
  some x1
theorem c_Mod_plain (l : Launch) (G : Gw)  (v1 : Int32) (v2 : Int32) (v3 : Int32) (M : Mem) (x : Int32) (h : f_Mod_plain v1 v2 v3 M = some x) (d : Nat) (hD : 4 ≤ d) : Ci l G y_Mod_plain b_Mod_plain 5 (some .int) d [.ref (G.2.2 + 162), .int v1, .int v2, .int v3] M (fun r9 M9 => r9 = x ∧ M9 = M) := by
  refine Ci_of (by decide) (Nat.le_of_ble_eq_true rfl) (fun E hE X => ?_)
  subst hE
  have kr : ∀ x9 : Int32, x = x9 → (fun r9 M9 => r9 = x ∧ M9 = M) x9 M := fun x9 e9 => by subst e9; exact ⟨rfl, rfl⟩
  unfold f_Mod_plain at h
  refine V_iload_n (n := 3) X d_Mod_plain_0 rfl rfl rfl ?_
  refine V_iconst (v := 4) X d_Mod_plain_1 (by decide) rfl ?_
  refine V_icmp_ne (tgt := 7) X d_Mod_plain_2 (by decide) rfl (fun c5 => ?_) (fun c5 => ?_)
  · rw [if_neg c5] at h
    refine V_aload_n (n := 0) X d_Mod_plain_7 rfl rfl rfl ?_
    refine V_iload_n (n := 2) X d_Mod_plain_8 rfl rfl rfl ?_
    refine V_iload_n (n := 3) X d_Mod_plain_9 rfl rfl rfl ?_
    obtain ⟨x1, hx1, h⟩ := ob_s h
    refine V_ci (As := [.int v2, .int v3]) X (Z0 E) ml_Mod_150 yq_Mod_beside (c_Mod_beside E.2.1 G v2 v3 M x1 hx1 _ (Nat.le_refl _)) kd_162 rfl rfl (by omega) rfl (Nat.le_of_ble_eq_true rfl) d_Mod_plain_10 rfl (fun r9 M9 hq => ?_)
    rw [hq.1, hq.2]
    refine V_istore (lv' := [(4, .int x1), (0, .ref (G.2.2 + 162)), (1, .int v1), (2, .int v2), (3, .int v3)]) X d_Mod_plain_13 (by decide) rfl rfl ?_
    refine V_iload (n := 0) X d_Mod_plain_15 rfl rfl ?_
    refine V_iconst (v := -1) X d_Mod_plain_17 (by decide) rfl ?_
    refine V_icmp_eq (tgt := 36) X d_Mod_plain_18 (by decide) rfl (fun c4 => ?_) (fun c4 => ?_)
    · rw [if_pos c4] at h
      refine V_iconst (v := -1) X d_Mod_plain_36 (by decide) rfl ?_
      exact V_iret X (kr (-1 : Int32) (Option.some.inj h).symm) d_Mod_plain_37
    · rw [if_neg c4] at h
      refine V_aload_n (n := 1) X d_Mod_plain_21 rfl rfl rfl ?_
      refine V_iload_n (n := 2) X d_Mod_plain_22 rfl rfl rfl ?_
      refine V_iload (n := 0) X d_Mod_plain_23 rfl rfl ?_
      obtain ⟨x2, hx2, h⟩ := ob_s h
      refine V_ci (As := [.int v1, .int x1]) X (Z0 E) ml_Mod_140 yq_Mod_isOf (c_Mod_isOf E.2.1 G v1 x1 M x2 hx2 _ (Nat.le_refl _)) kd_162 rfl rfl (by omega) rfl (Nat.le_of_ble_eq_true rfl) d_Mod_plain_25 rfl (fun r9 M9 hq => ?_)
      rw [hq.1, hq.2]
      refine V_if_eq (tgt := 36) X d_Mod_plain_28 (by decide) rfl (fun c3 => ?_) (fun c3 => ?_)
      · rw [if_pos c3] at h
        refine V_iconst (v := -1) X d_Mod_plain_36 (by decide) rfl ?_
        exact V_iret X (kr (-1 : Int32) (Option.some.inj h).symm) d_Mod_plain_37
      · rw [if_neg c3] at h
        refine V_iload (n := 0) X d_Mod_plain_31 rfl rfl ?_
        refine V_goto (pc' := 37) X d_Mod_plain_33 (by decide) ?_
        exact V_iret X (kr x1 (Option.some.inj h).symm) d_Mod_plain_37
  · rw [if_pos c5] at h
    refine V_iload_n (n := 2) X d_Mod_plain_5 rfl rfl rfl ?_
    exact V_iret X (kr v2 (Option.some.inj h).symm) d_Mod_plain_6
def f_Mod_carryTo (v1 : Int32) (v2 : Int32) (v3 : Int32) (M : Mem) : Option (Int32) :=
  Option.bind (f_Mod_plain (0 : Int32) v1 (v3 / (10 : Int32)) M) fun x1 =>
  Option.bind (f_Mod_plain (1 : Int32) v2 (v3 - v3 / (10 : Int32) * (10 : Int32)) M) fun x2 =>
  if x1 = (-1 : Int32) then
  some (-1 : Int32)
  else
  if x2 = (-1 : Int32) then
  some (-1 : Int32)
  else
  Option.bind (f_Mod_areNear x1 x2 M) fun x3 =>
  if x3 = 0 then
  some (-1 : Int32)
  else
  some (((36 : Int32) * x1) + x2)
theorem c_Mod_carryTo (l : Launch) (G : Gw)  (v1 : Int32) (v2 : Int32) (v3 : Int32) (M : Mem) (x : Int32) (h : f_Mod_carryTo v1 v2 v3 M = some x) (d : Nat) (hD : 5 ≤ d) : Ci l G y_Mod_carryTo b_Mod_carryTo 6 (some .int) d [.ref (G.2.2 + 162), .int v1, .int v2, .int v3] M (fun r9 M9 => r9 = x ∧ M9 = M) := by
  refine Ci_of (by decide) (Nat.le_of_ble_eq_true rfl) (fun E hE X => ?_)
  subst hE
  have kr : ∀ x9 : Int32, x = x9 → (fun r9 M9 => r9 = x ∧ M9 = M) x9 M := fun x9 e9 => by subst e9; exact ⟨rfl, rfl⟩
  unfold f_Mod_carryTo at h
  refine V_aload_n (n := 0) X d_Mod_carryTo_0 rfl rfl rfl ?_
  refine V_iconst (v := 0) X d_Mod_carryTo_1 (by decide) rfl ?_
  refine V_iload_n (n := 1) X d_Mod_carryTo_2 rfl rfl rfl ?_
  refine V_iload_n (n := 3) X d_Mod_carryTo_3 rfl rfl rfl ?_
  refine V_bipush (v := 10) X d_Mod_carryTo_4 (by decide) rfl ?_
  refine V_idiv X d_Mod_carryTo_6 (by decide) rfl ?_
  obtain ⟨x1, hx1, h⟩ := ob_s h
  refine V_ci (As := [.int (0 : Int32), .int v1, .int (v3 / (10 : Int32))]) X (Z0 E) ml_Mod_400 yq_Mod_plain (c_Mod_plain E.2.1 G (0 : Int32) v1 (v3 / (10 : Int32)) M x1 hx1 _ (Nat.le_refl _)) kd_162 rfl rfl (by omega) rfl (Nat.le_of_ble_eq_true rfl) d_Mod_carryTo_7 rfl (fun r9 M9 hq => ?_)
  rw [hq.1, hq.2]
  refine V_istore (lv' := [(4, .int x1), (0, .ref (G.2.2 + 162)), (1, .int v1), (2, .int v2), (3, .int v3)]) X d_Mod_carryTo_10 (by decide) rfl rfl ?_
  refine V_aload_n (n := 1) X d_Mod_carryTo_12 rfl rfl rfl ?_
  refine V_iconst (v := 1) X d_Mod_carryTo_13 (by decide) rfl ?_
  refine V_iload_n (n := 3) X d_Mod_carryTo_14 rfl rfl rfl ?_
  refine V_iload_n (n := 4) X d_Mod_carryTo_15 rfl rfl rfl ?_
  refine V_bipush (v := 10) X d_Mod_carryTo_16 (by decide) rfl ?_
  refine V_irem X d_Mod_carryTo_18 (by decide) rfl ?_
  obtain ⟨x2, hx2, h⟩ := ob_s h
  refine V_ci (As := [.int (1 : Int32), .int v2, .int (v3 - v3 / (10 : Int32) * (10 : Int32))]) X (Z0 E) ml_Mod_400 yq_Mod_plain (c_Mod_plain E.2.1 G (1 : Int32) v2 (v3 - v3 / (10 : Int32) * (10 : Int32)) M x2 hx2 _ (Nat.le_refl _)) kd_162 rfl rfl (by omega) rfl (Nat.le_of_ble_eq_true rfl) d_Mod_carryTo_19 rfl (fun r9 M9 hq => ?_)
  rw [hq.1, hq.2]
  refine V_istore (lv' := [(5, .int x2), (4, .int x1), (0, .ref (G.2.2 + 162)), (1, .int v1), (2, .int v2), (3, .int v3)]) X d_Mod_carryTo_22 (by decide) rfl rfl ?_
  refine V_iload (n := 1) X d_Mod_carryTo_24 rfl rfl ?_
  refine V_iconst (v := -1) X d_Mod_carryTo_26 (by decide) rfl ?_
  refine V_icmp_eq (tgt := 47) X d_Mod_carryTo_27 (by decide) rfl (fun c6 => ?_) (fun c6 => ?_)
  · rw [if_pos c6] at h
    refine V_iconst (v := -1) X d_Mod_carryTo_47 (by decide) rfl ?_
    refine V_goto (pc' := 59) X d_Mod_carryTo_48 (by decide) ?_
    exact V_iret X (kr (-1 : Int32) (Option.some.inj h).symm) d_Mod_carryTo_59
  · rw [if_neg c6] at h
    refine V_iload (n := 0) X d_Mod_carryTo_30 rfl rfl ?_
    refine V_iconst (v := -1) X d_Mod_carryTo_32 (by decide) rfl ?_
    refine V_icmp_eq (tgt := 47) X d_Mod_carryTo_33 (by decide) rfl (fun c5 => ?_) (fun c5 => ?_)
    · rw [if_pos c5] at h
      refine V_iconst (v := -1) X d_Mod_carryTo_47 (by decide) rfl ?_
      refine V_goto (pc' := 59) X d_Mod_carryTo_48 (by decide) ?_
      exact V_iret X (kr (-1 : Int32) (Option.some.inj h).symm) d_Mod_carryTo_59
    · rw [if_neg c5] at h
      refine V_aload_n (n := 2) X d_Mod_carryTo_36 rfl rfl rfl ?_
      refine V_iload (n := 1) X d_Mod_carryTo_37 rfl rfl ?_
      refine V_iload (n := 0) X d_Mod_carryTo_39 rfl rfl ?_
      obtain ⟨x3, hx3, h⟩ := ob_s h
      refine V_ci (As := [.int x1, .int x2]) X (Z0 E) ml_Mod_404 yq_Mod_areNear (c_Mod_areNear E.2.1 G x1 x2 M x3 hx3 _ (Nat.le_refl _)) kd_162 rfl rfl (by omega) rfl (Nat.le_of_ble_eq_true rfl) d_Mod_carryTo_41 rfl (fun r9 M9 hq => ?_)
      rw [hq.1, hq.2]
      refine V_if_ne (tgt := 51) X d_Mod_carryTo_44 (by decide) rfl (fun c4 => ?_) (fun c4 => ?_)
      · rw [if_neg c4] at h
        refine V_bipush (v := 36) X d_Mod_carryTo_51 (by decide) rfl ?_
        refine V_iload (n := 1) X d_Mod_carryTo_53 rfl rfl ?_
        refine V_imul X d_Mod_carryTo_55 rfl ?_
        refine V_iload (n := 0) X d_Mod_carryTo_56 rfl rfl ?_
        refine V_iadd X d_Mod_carryTo_58 rfl ?_
        exact V_iret X (kr (((36 : Int32) * x1) + x2) (Option.some.inj h).symm) d_Mod_carryTo_59
      · rw [if_pos c4] at h
        refine V_iconst (v := -1) X d_Mod_carryTo_47 (by decide) rfl ?_
        refine V_goto (pc' := 59) X d_Mod_carryTo_48 (by decide) ?_
        exact V_iret X (kr (-1 : Int32) (Option.some.inj h).symm) d_Mod_carryTo_59
