theorem d_Top_soonestAtFire_0 : decode b_Top_soonestAtFire 0 = .ok (.iconst (-1), 1) := kq_2 byq_r (by decide +kernel)
theorem d_Top_soonestAtFire_1 : decode b_Top_soonestAtFire 1 = .ok (.istore_n 2, 1) := kq_61 byq_r (by decide +kernel)
theorem d_Top_soonestAtFire_2 : decode b_Top_soonestAtFire 2 = .ok (.ldc_w 319, 3) := kq_19 byq_r (a := 1) (b := 63) (by decide +kernel)
theorem d_Top_soonestAtFire_5 : decode b_Top_soonestAtFire 5 = .ok (.istore_n 3, 1) := kq_62 byq_r (by decide +kernel)
theorem d_Top_soonestAtFire_6 : decode b_Top_soonestAtFire 6 = .ok (.iconst 0, 1) := kq_3 byq_r (by decide +kernel)
theorem d_Top_soonestAtFire_7 : decode b_Top_soonestAtFire 7 = .ok (.istore 4, 2) := kq_54 byq_r (by decide +kernel)
theorem d_Top_soonestAtFire_9 : decode b_Top_soonestAtFire 9 = .ok (.iload 4, 2) := kq_21 byq_r (by decide +kernel)
theorem d_Top_soonestAtFire_11 : decode b_Top_soonestAtFire 11 = .ok (.aload_n 0, 1) := kq_42 byq_r (by decide +kernel)
theorem d_Top_soonestAtFire_12 : decode b_Top_soonestAtFire 12 = .ok (.getfield 26, 3) := kq_180 byq_r (a := 0) (b := 26) (by decide +kernel)
theorem d_Top_soonestAtFire_15 : decode b_Top_soonestAtFire 15 = .ok (.getfield 129, 3) := kq_180 byq_r (a := 0) (b := 129) (by decide +kernel)
theorem d_Top_soonestAtFire_18 : decode b_Top_soonestAtFire 18 = .ok (.if_icmp .ge 42, 3) := kq_162 byq_r (a := 0) (b := 42) (by decide +kernel)
theorem d_Top_soonestAtFire_21 : decode b_Top_soonestAtFire 21 = .ok (.aload_n 0, 1) := kq_42 byq_r (by decide +kernel)
theorem d_Top_soonestAtFire_22 : decode b_Top_soonestAtFire 22 = .ok (.getfield 26, 3) := kq_180 byq_r (a := 0) (b := 26) (by decide +kernel)
theorem d_Top_soonestAtFire_25 : decode b_Top_soonestAtFire 25 = .ok (.iload 4, 2) := kq_21 byq_r (by decide +kernel)
theorem d_Top_soonestAtFire_27 : decode b_Top_soonestAtFire 27 = .ok (.invokevirtual 139, 3) := kq_182 byq_r (a := 0) (b := 139) (by decide +kernel)
theorem d_Top_soonestAtFire_30 : decode b_Top_soonestAtFire 30 = .ok (.iload_n 1, 1) := kq_27 byq_r (by decide +kernel)
theorem d_Top_soonestAtFire_31 : decode b_Top_soonestAtFire 31 = .ok (.if_icmp .ne 23, 3) := kq_160 byq_r (a := 0) (b := 23) (by decide +kernel)
theorem d_Top_soonestAtFire_34 : decode b_Top_soonestAtFire 34 = .ok (.aload_n 0, 1) := kq_42 byq_r (by decide +kernel)
theorem d_Top_soonestAtFire_35 : decode b_Top_soonestAtFire 35 = .ok (.iload 4, 2) := kq_21 byq_r (by decide +kernel)
theorem d_Top_soonestAtFire_37 : decode b_Top_soonestAtFire 37 = .ok (.invokevirtual 371, 3) := kq_182 byq_r (a := 1) (b := 115) (by decide +kernel)
theorem d_Top_soonestAtFire_40 : decode b_Top_soonestAtFire 40 = .ok (.iload_n 3, 1) := kq_29 byq_r (by decide +kernel)
theorem d_Top_soonestAtFire_41 : decode b_Top_soonestAtFire 41 = .ok (.if_icmp .ge 13, 3) := kq_162 byq_r (a := 0) (b := 13) (by decide +kernel)
theorem d_Top_soonestAtFire_44 : decode b_Top_soonestAtFire 44 = .ok (.aload_n 0, 1) := kq_42 byq_r (by decide +kernel)
theorem d_Top_soonestAtFire_45 : decode b_Top_soonestAtFire 45 = .ok (.iload 4, 2) := kq_21 byq_r (by decide +kernel)
theorem d_Top_soonestAtFire_47 : decode b_Top_soonestAtFire 47 = .ok (.invokevirtual 371, 3) := kq_182 byq_r (a := 1) (b := 115) (by decide +kernel)
theorem d_Top_soonestAtFire_50 : decode b_Top_soonestAtFire 50 = .ok (.istore_n 3, 1) := kq_62 byq_r (by decide +kernel)
theorem d_Top_soonestAtFire_51 : decode b_Top_soonestAtFire 51 = .ok (.iload 4, 2) := kq_21 byq_r (by decide +kernel)
theorem d_Top_soonestAtFire_53 : decode b_Top_soonestAtFire 53 = .ok (.istore_n 2, 1) := kq_61 byq_r (by decide +kernel)
theorem d_Top_soonestAtFire_54 : decode b_Top_soonestAtFire 54 = .ok (.iinc 4 1, 3) := kq_132 byq_r (b := 1) (by decide +kernel)
theorem d_Top_soonestAtFire_57 : decode b_Top_soonestAtFire 57 = .ok (.goto (-48), 3) := kq_167 byq_r (a := 255) (b := 208) (by decide +kernel)
theorem d_Top_soonestAtFire_60 : decode b_Top_soonestAtFire 60 = .ok (.iload_n 2, 1) := kq_28 byq_r (by decide +kernel)
theorem d_Top_soonestAtFire_61 : decode b_Top_soonestAtFire 61 = .ok (.ireturn, 1) := kq_172 byq_r (by decide +kernel)
theorem d_Top_saved_0 : decode b_Top_saved 0 = .ok (.aload_n 0, 1) := kq_42 byq_r (by decide +kernel)
theorem d_Top_saved_1 : decode b_Top_saved 1 = .ok (.getfield 103, 3) := kq_180 byq_r (a := 0) (b := 103) (by decide +kernel)
theorem d_Top_saved_4 : decode b_Top_saved 4 = .ok (.iconst (-1), 1) := kq_2 byq_r (by decide +kernel)
theorem d_Top_saved_5 : decode b_Top_saved 5 = .ok (.if_icmp .ne 6, 3) := kq_160 byq_r (a := 0) (b := 6) (by decide +kernel)
theorem d_Top_saved_8 : decode b_Top_saved 8 = .ok (.bipush (-2), 2) := kq_16 byq_r (b := 254) (by decide +kernel)
theorem d_Top_saved_10 : decode b_Top_saved 10 = .ok (.ireturn, 1) := kq_172 byq_r (by decide +kernel)
theorem d_Top_saved_11 : decode b_Top_saved 11 = .ok (.aload_n 0, 1) := kq_42 byq_r (by decide +kernel)
theorem d_Top_saved_12 : decode b_Top_saved 12 = .ok (.iconst 0, 1) := kq_3 byq_r (by decide +kernel)
theorem d_Top_saved_13 : decode b_Top_saved 13 = .ok (.invokevirtual 377, 3) := kq_182 byq_r (a := 1) (b := 121) (by decide +kernel)
theorem d_Top_saved_16 : decode b_Top_saved 16 = .ok (.istore_n 1, 1) := kq_60 byq_r (by decide +kernel)
theorem d_Top_saved_17 : decode b_Top_saved 17 = .ok (.aload_n 0, 1) := kq_42 byq_r (by decide +kernel)
theorem d_Top_saved_18 : decode b_Top_saved 18 = .ok (.iconst 1, 1) := kq_4 byq_r (by decide +kernel)
theorem d_Top_saved_19 : decode b_Top_saved 19 = .ok (.invokevirtual 377, 3) := kq_182 byq_r (a := 1) (b := 121) (by decide +kernel)
theorem d_Top_saved_22 : decode b_Top_saved 22 = .ok (.istore_n 2, 1) := kq_61 byq_r (by decide +kernel)
theorem d_Top_saved_23 : decode b_Top_saved 23 = .ok (.iload_n 1, 1) := kq_27 byq_r (by decide +kernel)
theorem d_Top_saved_24 : decode b_Top_saved 24 = .ok (.iconst (-1), 1) := kq_2 byq_r (by decide +kernel)
theorem d_Top_saved_25 : decode b_Top_saved 25 = .ok (.if_icmp .eq 8, 3) := kq_159 byq_r (a := 0) (b := 8) (by decide +kernel)
theorem d_Top_saved_28 : decode b_Top_saved 28 = .ok (.iload_n 2, 1) := kq_28 byq_r (by decide +kernel)
theorem d_Top_saved_29 : decode b_Top_saved 29 = .ok (.iconst (-1), 1) := kq_2 byq_r (by decide +kernel)
theorem d_Top_saved_30 : decode b_Top_saved 30 = .ok (.if_icmp .ne 6, 3) := kq_160 byq_r (a := 0) (b := 6) (by decide +kernel)
theorem d_Top_saved_33 : decode b_Top_saved 33 = .ok (.bipush (-2), 2) := kq_16 byq_r (b := 254) (by decide +kernel)
theorem d_Top_saved_35 : decode b_Top_saved 35 = .ok (.ireturn, 1) := kq_172 byq_r (by decide +kernel)
theorem d_Top_saved_36 : decode b_Top_saved 36 = .ok (.aload_n 0, 1) := kq_42 byq_r (by decide +kernel)
theorem d_Top_saved_37 : decode b_Top_saved 37 = .ok (.invokevirtual 251, 3) := kq_182 byq_r (a := 0) (b := 251) (by decide +kernel)
theorem d_Top_saved_40 : decode b_Top_saved 40 = .ok (.aload_n 0, 1) := kq_42 byq_r (by decide +kernel)
theorem d_Top_saved_41 : decode b_Top_saved 41 = .ok (.iload_n 1, 1) := kq_27 byq_r (by decide +kernel)
theorem d_Top_saved_42 : decode b_Top_saved 42 = .ok (.invokevirtual 257, 3) := kq_182 byq_r (a := 1) (b := 1) (by decide +kernel)
theorem d_Top_saved_45 : decode b_Top_saved 45 = .ok (.aload_n 0, 1) := kq_42 byq_r (by decide +kernel)
theorem d_Top_saved_46 : decode b_Top_saved 46 = .ok (.iload_n 2, 1) := kq_28 byq_r (by decide +kernel)
theorem d_Top_saved_47 : decode b_Top_saved 47 = .ok (.invokevirtual 257, 3) := kq_182 byq_r (a := 1) (b := 1) (by decide +kernel)
theorem d_Top_saved_50 : decode b_Top_saved 50 = .ok (.aload_n 0, 1) := kq_42 byq_r (by decide +kernel)
theorem d_Top_saved_51 : decode b_Top_saved 51 = .ok (.iload_n 1, 1) := kq_27 byq_r (by decide +kernel)
theorem d_Top_saved_52 : decode b_Top_saved 52 = .ok (.invokevirtual 371, 3) := kq_182 byq_r (a := 1) (b := 115) (by decide +kernel)
theorem d_Top_saved_55 : decode b_Top_saved 55 = .ok (.aload_n 0, 1) := kq_42 byq_r (by decide +kernel)
theorem d_Top_saved_56 : decode b_Top_saved 56 = .ok (.iload_n 2, 1) := kq_28 byq_r (by decide +kernel)
theorem d_Top_saved_57 : decode b_Top_saved 57 = .ok (.invokevirtual 371, 3) := kq_182 byq_r (a := 1) (b := 115) (by decide +kernel)
theorem d_Top_saved_60 : decode b_Top_saved 60 = .ok (.invokestatic 381, 3) := kq_184 byq_r (a := 1) (b := 125) (by decide +kernel)
theorem d_Top_saved_63 : decode b_Top_saved 63 = .ok (.ireturn, 1) := kq_172 byq_r (by decide +kernel)
theorem d_Top_wardrobe_0 : decode b_Top_wardrobe 0 = .ok (.aload_n 0, 1) := kq_42 byq_r (by decide +kernel)
theorem d_Top_wardrobe_1 : decode b_Top_wardrobe 1 = .ok (.getfield 19, 3) := kq_180 byq_r (a := 0) (b := 19) (by decide +kernel)
theorem d_Top_wardrobe_4 : decode b_Top_wardrobe 4 = .ok (.iload_n 1, 1) := kq_27 byq_r (by decide +kernel)
theorem d_Top_wardrobe_5 : decode b_Top_wardrobe 5 = .ok (.invokevirtual 290, 3) := kq_182 byq_r (a := 1) (b := 34) (by decide +kernel)
theorem d_Top_wardrobe_8 : decode b_Top_wardrobe 8 = .ok (.ifCond .eq 14, 3) := kq_153 byq_r (a := 0) (b := 14) (by decide +kernel)
theorem d_Top_wardrobe_11 : decode b_Top_wardrobe 11 = .ok (.aload_n 0, 1) := kq_42 byq_r (by decide +kernel)
theorem d_Top_wardrobe_12 : decode b_Top_wardrobe 12 = .ok (.getfield 19, 3) := kq_180 byq_r (a := 0) (b := 19) (by decide +kernel)
theorem d_Top_wardrobe_15 : decode b_Top_wardrobe 15 = .ok (.iload_n 2, 1) := kq_28 byq_r (by decide +kernel)
theorem d_Top_wardrobe_16 : decode b_Top_wardrobe 16 = .ok (.invokevirtual 290, 3) := kq_182 byq_r (a := 1) (b := 34) (by decide +kernel)
theorem d_Top_wardrobe_19 : decode b_Top_wardrobe 19 = .ok (.ifCond .ne 5, 3) := kq_154 byq_r (a := 0) (b := 5) (by decide +kernel)
theorem d_Top_wardrobe_22 : decode b_Top_wardrobe 22 = .ok (.iconst (-1), 1) := kq_2 byq_r (by decide +kernel)
theorem d_Top_wardrobe_23 : decode b_Top_wardrobe 23 = .ok (.ireturn, 1) := kq_172 byq_r (by decide +kernel)
theorem d_Top_wardrobe_24 : decode b_Top_wardrobe 24 = .ok (.aload_n 0, 1) := kq_42 byq_r (by decide +kernel)
theorem d_Top_wardrobe_25 : decode b_Top_wardrobe 25 = .ok (.getfield 91, 3) := kq_180 byq_r (a := 0) (b := 91) (by decide +kernel)
theorem d_Top_wardrobe_28 : decode b_Top_wardrobe 28 = .ok (.aload_n 0, 1) := kq_42 byq_r (by decide +kernel)
theorem d_Top_wardrobe_29 : decode b_Top_wardrobe 29 = .ok (.getfield 19, 3) := kq_180 byq_r (a := 0) (b := 19) (by decide +kernel)
theorem d_Top_wardrobe_32 : decode b_Top_wardrobe 32 = .ok (.iload_n 2, 1) := kq_28 byq_r (by decide +kernel)
theorem d_Top_wardrobe_33 : decode b_Top_wardrobe 33 = .ok (.invokevirtual 386, 3) := kq_182 byq_r (a := 1) (b := 130) (by decide +kernel)
theorem d_Top_wardrobe_36 : decode b_Top_wardrobe 36 = .ok (.iload_n 1, 1) := kq_27 byq_r (by decide +kernel)
theorem d_Top_wardrobe_37 : decode b_Top_wardrobe 37 = .ok (.iconst 5, 1) := kq_8 byq_r (by decide +kernel)
theorem d_Top_wardrobe_38 : decode b_Top_wardrobe 38 = .ok (.imul, 1) := kq_104 byq_r (by decide +kernel)
theorem d_Top_wardrobe_39 : decode b_Top_wardrobe 39 = .ok (.iconst 4, 1) := kq_7 byq_r (by decide +kernel)
theorem d_Top_wardrobe_40 : decode b_Top_wardrobe 40 = .ok (.iadd, 1) := kq_96 byq_r (by decide +kernel)
theorem d_Top_wardrobe_41 : decode b_Top_wardrobe 41 = .ok (.istore_n 3, 1) := kq_62 byq_r (by decide +kernel)
theorem d_Top_wardrobe_42 : decode b_Top_wardrobe 42 = .ok (.aload_n 0, 1) := kq_42 byq_r (by decide +kernel)
theorem d_Top_wardrobe_43 : decode b_Top_wardrobe 43 = .ok (.getfield 91, 3) := kq_180 byq_r (a := 0) (b := 91) (by decide +kernel)
theorem d_Top_wardrobe_46 : decode b_Top_wardrobe 46 = .ok (.getfield 390, 3) := kq_180 byq_r (a := 1) (b := 134) (by decide +kernel)
theorem d_Top_wardrobe_49 : decode b_Top_wardrobe 49 = .ok (.iload_n 3, 1) := kq_29 byq_r (by decide +kernel)
theorem d_Top_wardrobe_50 : decode b_Top_wardrobe 50 = .ok (.iaload, 1) := kq_46 byq_r (by decide +kernel)
theorem d_Top_wardrobe_51 : decode b_Top_wardrobe 51 = .ok (.istore 4, 2) := kq_54 byq_r (by decide +kernel)
theorem d_Top_wardrobe_53 : decode b_Top_wardrobe 53 = .ok (.iload 4, 2) := kq_21 byq_r (by decide +kernel)
theorem d_Top_wardrobe_55 : decode b_Top_wardrobe 55 = .ok (.ldc_w 319, 3) := kq_19 byq_r (a := 1) (b := 63) (by decide +kernel)
theorem d_Top_wardrobe_58 : decode b_Top_wardrobe 58 = .ok (.if_icmp .lt 6, 3) := kq_161 byq_r (a := 0) (b := 6) (by decide +kernel)
theorem d_Top_wardrobe_61 : decode b_Top_wardrobe 61 = .ok (.bipush (-2), 2) := kq_16 byq_r (b := 254) (by decide +kernel)
theorem d_Top_wardrobe_63 : decode b_Top_wardrobe 63 = .ok (.ireturn, 1) := kq_172 byq_r (by decide +kernel)
theorem d_Top_wardrobe_64 : decode b_Top_wardrobe 64 = .ok (.aload_n 0, 1) := kq_42 byq_r (by decide +kernel)
theorem d_Top_wardrobe_65 : decode b_Top_wardrobe 65 = .ok (.invokevirtual 251, 3) := kq_182 byq_r (a := 0) (b := 251) (by decide +kernel)
theorem d_Top_wardrobe_68 : decode b_Top_wardrobe 68 = .ok (.iconst 0, 1) := kq_3 byq_r (by decide +kernel)
theorem d_Top_wardrobe_69 : decode b_Top_wardrobe 69 = .ok (.istore 5, 2) := kq_54 byq_r (by decide +kernel)
theorem d_Top_wardrobe_71 : decode b_Top_wardrobe 71 = .ok (.iload 5, 2) := kq_21 byq_r (by decide +kernel)
theorem d_Top_wardrobe_73 : decode b_Top_wardrobe 73 = .ok (.iload 4, 2) := kq_21 byq_r (by decide +kernel)
theorem d_Top_wardrobe_75 : decode b_Top_wardrobe 75 = .ok (.if_icmp .ge 66, 3) := kq_162 byq_r (a := 0) (b := 66) (by decide +kernel)
theorem d_Top_wardrobe_78 : decode b_Top_wardrobe 78 = .ok (.iload 5, 2) := kq_21 byq_r (by decide +kernel)
theorem d_Top_wardrobe_80 : decode b_Top_wardrobe 80 = .ok (.bipush 10, 2) := kq_16 byq_r (b := 10) (by decide +kernel)
theorem d_Top_wardrobe_82 : decode b_Top_wardrobe 82 = .ok (.if_icmp .ge 59, 3) := kq_162 byq_r (a := 0) (b := 59) (by decide +kernel)
theorem d_Top_wardrobe_85 : decode b_Top_wardrobe 85 = .ok (.iload_n 3, 1) := kq_29 byq_r (by decide +kernel)
theorem d_Top_wardrobe_86 : decode b_Top_wardrobe 86 = .ok (.iconst (-1), 1) := kq_2 byq_r (by decide +kernel)
theorem d_Top_wardrobe_87 : decode b_Top_wardrobe 87 = .ok (.if_icmp .eq 54, 3) := kq_159 byq_r (a := 0) (b := 54) (by decide +kernel)
theorem d_Top_wardrobe_90 : decode b_Top_wardrobe 90 = .ok (.aload_n 0, 1) := kq_42 byq_r (by decide +kernel)
theorem d_Top_wardrobe_91 : decode b_Top_wardrobe 91 = .ok (.getfield 91, 3) := kq_180 byq_r (a := 0) (b := 91) (by decide +kernel)
theorem d_Top_wardrobe_94 : decode b_Top_wardrobe 94 = .ok (.aload_n 0, 1) := kq_42 byq_r (by decide +kernel)
theorem d_Top_wardrobe_95 : decode b_Top_wardrobe 95 = .ok (.getfield 19, 3) := kq_180 byq_r (a := 0) (b := 19) (by decide +kernel)
theorem d_Top_wardrobe_98 : decode b_Top_wardrobe 98 = .ok (.iload_n 3, 1) := kq_29 byq_r (by decide +kernel)
theorem d_Top_wardrobe_99 : decode b_Top_wardrobe 99 = .ok (.invokevirtual 393, 3) := kq_182 byq_r (a := 1) (b := 137) (by decide +kernel)
theorem d_Top_wardrobe_102 : decode b_Top_wardrobe 102 = .ok (.istore 6, 2) := kq_54 byq_r (by decide +kernel)
theorem d_Top_wardrobe_104 : decode b_Top_wardrobe 104 = .ok (.aload_n 0, 1) := kq_42 byq_r (by decide +kernel)
theorem d_Top_wardrobe_105 : decode b_Top_wardrobe 105 = .ok (.iload 6, 2) := kq_21 byq_r (by decide +kernel)
theorem d_Top_wardrobe_107 : decode b_Top_wardrobe 107 = .ok (.iconst 5, 1) := kq_8 byq_r (by decide +kernel)
theorem d_Top_wardrobe_108 : decode b_Top_wardrobe 108 = .ok (.idiv, 1) := kq_108 byq_r (by decide +kernel)
theorem d_Top_wardrobe_109 : decode b_Top_wardrobe 109 = .ok (.bipush 10, 2) := kq_16 byq_r (b := 10) (by decide +kernel)
theorem d_Top_wardrobe_111 : decode b_Top_wardrobe 111 = .ok (.imul, 1) := kq_104 byq_r (by decide +kernel)
theorem d_Top_wardrobe_112 : decode b_Top_wardrobe 112 = .ok (.iload 6, 2) := kq_21 byq_r (by decide +kernel)
theorem d_Top_wardrobe_114 : decode b_Top_wardrobe 114 = .ok (.iconst 5, 1) := kq_8 byq_r (by decide +kernel)
theorem d_Top_wardrobe_115 : decode b_Top_wardrobe 115 = .ok (.irem, 1) := kq_112 byq_r (by decide +kernel)
theorem d_Top_wardrobe_116 : decode b_Top_wardrobe 116 = .ok (.iadd, 1) := kq_96 byq_r (by decide +kernel)
theorem d_Top_wardrobe_117 : decode b_Top_wardrobe 117 = .ok (.invokevirtual 257, 3) := kq_182 byq_r (a := 1) (b := 1) (by decide +kernel)
theorem d_Top_wardrobe_120 : decode b_Top_wardrobe 120 = .ok (.aload_n 0, 1) := kq_42 byq_r (by decide +kernel)
theorem d_Top_wardrobe_121 : decode b_Top_wardrobe 121 = .ok (.getfield 91, 3) := kq_180 byq_r (a := 0) (b := 91) (by decide +kernel)
theorem d_Top_wardrobe_124 : decode b_Top_wardrobe 124 = .ok (.aload_n 0, 1) := kq_42 byq_r (by decide +kernel)
theorem d_Top_wardrobe_125 : decode b_Top_wardrobe 125 = .ok (.getfield 19, 3) := kq_180 byq_r (a := 0) (b := 19) (by decide +kernel)
theorem d_Top_wardrobe_128 : decode b_Top_wardrobe 128 = .ok (.iload_n 3, 1) := kq_29 byq_r (by decide +kernel)
theorem d_Top_wardrobe_129 : decode b_Top_wardrobe 129 = .ok (.iload 6, 2) := kq_21 byq_r (by decide +kernel)
theorem d_Top_wardrobe_131 : decode b_Top_wardrobe 131 = .ok (.invokevirtual 397, 3) := kq_182 byq_r (a := 1) (b := 141) (by decide +kernel)
theorem d_Top_wardrobe_134 : decode b_Top_wardrobe 134 = .ok (.istore_n 3, 1) := kq_62 byq_r (by decide +kernel)
theorem d_Top_wardrobe_135 : decode b_Top_wardrobe 135 = .ok (.iinc 5 1, 3) := kq_132 byq_r (b := 1) (by decide +kernel)
theorem d_Top_wardrobe_138 : decode b_Top_wardrobe 138 = .ok (.goto (-67), 3) := kq_167 byq_r (a := 255) (b := 189) (by decide +kernel)
theorem d_Top_wardrobe_141 : decode b_Top_wardrobe 141 = .ok (.iload 4, 2) := kq_21 byq_r (by decide +kernel)
theorem d_Top_wardrobe_143 : decode b_Top_wardrobe 143 = .ok (.ireturn, 1) := kq_172 byq_r (by decide +kernel)
theorem d_Top_hunt_0 : decode b_Top_hunt 0 = .ok (.aload_n 0, 1) := kq_42 byq_r (by decide +kernel)
theorem d_Top_hunt_1 : decode b_Top_hunt 1 = .ok (.getfield 63, 3) := kq_180 byq_r (a := 0) (b := 63) (by decide +kernel)
theorem d_Top_hunt_4 : decode b_Top_hunt 4 = .ok (.aload_n 0, 1) := kq_42 byq_r (by decide +kernel)
theorem d_Top_hunt_5 : decode b_Top_hunt 5 = .ok (.getfield 40, 3) := kq_180 byq_r (a := 0) (b := 40) (by decide +kernel)
theorem d_Top_hunt_8 : decode b_Top_hunt 8 = .ok (.aload_n 0, 1) := kq_42 byq_r (by decide +kernel)
theorem d_Top_hunt_9 : decode b_Top_hunt 9 = .ok (.getfield 26, 3) := kq_180 byq_r (a := 0) (b := 26) (by decide +kernel)
theorem d_Top_hunt_12 : decode b_Top_hunt 12 = .ok (.aload_n 0, 1) := kq_42 byq_r (by decide +kernel)
theorem d_Top_hunt_13 : decode b_Top_hunt 13 = .ok (.getfield 19, 3) := kq_180 byq_r (a := 0) (b := 19) (by decide +kernel)
theorem d_Top_hunt_16 : decode b_Top_hunt 16 = .ok (.aload_n 0, 1) := kq_42 byq_r (by decide +kernel)
theorem d_Top_hunt_17 : decode b_Top_hunt 17 = .ok (.getfield 56, 3) := kq_180 byq_r (a := 0) (b := 56) (by decide +kernel)
theorem d_Top_hunt_20 : decode b_Top_hunt 20 = .ok (.aload_n 0, 1) := kq_42 byq_r (by decide +kernel)
theorem d_Top_hunt_21 : decode b_Top_hunt 21 = .ok (.getfield 46, 3) := kq_180 byq_r (a := 0) (b := 46) (by decide +kernel)
theorem d_Top_hunt_24 : decode b_Top_hunt 24 = .ok (.invokevirtual 247, 3) := kq_182 byq_r (a := 0) (b := 247) (by decide +kernel)
theorem d_Top_hunt_27 : decode b_Top_hunt 27 = .ok (.aload_n 0, 1) := kq_42 byq_r (by decide +kernel)
theorem d_Top_hunt_28 : decode b_Top_hunt 28 = .ok (.getfield 84, 3) := kq_180 byq_r (a := 0) (b := 84) (by decide +kernel)
theorem d_Top_hunt_31 : decode b_Top_hunt 31 = .ok (.aload_n 0, 1) := kq_42 byq_r (by decide +kernel)
theorem d_Top_hunt_32 : decode b_Top_hunt 32 = .ok (.getfield 46, 3) := kq_180 byq_r (a := 0) (b := 46) (by decide +kernel)
theorem d_Top_hunt_35 : decode b_Top_hunt 35 = .ok (.invokevirtual 429, 3) := kq_182 byq_r (a := 1) (b := 173) (by decide +kernel)
theorem d_Top_hunt_38 : decode b_Top_hunt 38 = .ok (.aload_n 0, 1) := kq_42 byq_r (by decide +kernel)
theorem d_Top_hunt_39 : decode b_Top_hunt 39 = .ok (.getfield 84, 3) := kq_180 byq_r (a := 0) (b := 84) (by decide +kernel)
theorem d_Top_hunt_42 : decode b_Top_hunt 42 = .ok (.iconst 0, 1) := kq_3 byq_r (by decide +kernel)
theorem d_Top_hunt_43 : decode b_Top_hunt 43 = .ok (.aload_n 0, 1) := kq_42 byq_r (by decide +kernel)
theorem d_Top_hunt_44 : decode b_Top_hunt 44 = .ok (.getfield 40, 3) := kq_180 byq_r (a := 0) (b := 40) (by decide +kernel)
theorem d_Top_hunt_47 : decode b_Top_hunt 47 = .ok (.iconst 0, 1) := kq_3 byq_r (by decide +kernel)
theorem d_Top_hunt_48 : decode b_Top_hunt 48 = .ok (.aload_n 0, 1) := kq_42 byq_r (by decide +kernel)
theorem d_Top_hunt_49 : decode b_Top_hunt 49 = .ok (.getfield 26, 3) := kq_180 byq_r (a := 0) (b := 26) (by decide +kernel)
theorem d_Top_hunt_52 : decode b_Top_hunt 52 = .ok (.getfield 129, 3) := kq_180 byq_r (a := 0) (b := 129) (by decide +kernel)
theorem d_Top_hunt_55 : decode b_Top_hunt 55 = .ok (.invokevirtual 418, 3) := kq_182 byq_r (a := 1) (b := 162) (by decide +kernel)
theorem d_Top_hunt_58 : decode b_Top_hunt 58 = .ok (.aload_n 0, 1) := kq_42 byq_r (by decide +kernel)
theorem d_Top_hunt_59 : decode b_Top_hunt 59 = .ok (.getfield 40, 3) := kq_180 byq_r (a := 0) (b := 40) (by decide +kernel)
theorem d_Top_hunt_62 : decode b_Top_hunt 62 = .ok (.iconst 1, 1) := kq_4 byq_r (by decide +kernel)
theorem d_Top_hunt_63 : decode b_Top_hunt 63 = .ok (.aload_n 0, 1) := kq_42 byq_r (by decide +kernel)
theorem d_Top_hunt_64 : decode b_Top_hunt 64 = .ok (.getfield 26, 3) := kq_180 byq_r (a := 0) (b := 26) (by decide +kernel)
theorem d_Top_hunt_67 : decode b_Top_hunt 67 = .ok (.getfield 129, 3) := kq_180 byq_r (a := 0) (b := 129) (by decide +kernel)
theorem d_Top_hunt_70 : decode b_Top_hunt 70 = .ok (.invokevirtual 418, 3) := kq_182 byq_r (a := 1) (b := 162) (by decide +kernel)
theorem d_Top_hunt_73 : decode b_Top_hunt 73 = .ok (.invokevirtual 422, 3) := kq_182 byq_r (a := 1) (b := 166) (by decide +kernel)
theorem d_Top_hunt_76 : decode b_Top_hunt 76 = .ok (.aload_n 0, 1) := kq_42 byq_r (by decide +kernel)
theorem d_Top_hunt_77 : decode b_Top_hunt 77 = .ok (.getfield 84, 3) := kq_180 byq_r (a := 0) (b := 84) (by decide +kernel)
theorem d_Top_hunt_80 : decode b_Top_hunt 80 = .ok (.iconst 0, 1) := kq_3 byq_r (by decide +kernel)
theorem d_Top_hunt_81 : decode b_Top_hunt 81 = .ok (.invokevirtual 426, 3) := kq_182 byq_r (a := 1) (b := 170) (by decide +kernel)
theorem d_Top_hunt_84 : decode b_Top_hunt 84 = .ok (.return_, 1) := kq_177 byq_r (by decide +kernel)
theorem d_Top_flees_0 : decode b_Top_flees 0 = .ok (.aload_n 0, 1) := kq_42 byq_r (by decide +kernel)
theorem d_Top_flees_1 : decode b_Top_flees 1 = .ok (.getfield 19, 3) := kq_180 byq_r (a := 0) (b := 19) (by decide +kernel)
theorem d_Top_flees_4 : decode b_Top_flees 4 = .ok (.iload_n 2, 1) := kq_28 byq_r (by decide +kernel)
theorem d_Top_flees_5 : decode b_Top_flees 5 = .ok (.iload_n 1, 1) := kq_27 byq_r (by decide +kernel)
theorem d_Top_flees_6 : decode b_Top_flees 6 = .ok (.invokevirtual 305, 3) := kq_182 byq_r (a := 1) (b := 49) (by decide +kernel)
theorem d_Top_flees_9 : decode b_Top_flees 9 = .ok (.ifCond .eq 14, 3) := kq_153 byq_r (a := 0) (b := 14) (by decide +kernel)
theorem d_Top_flees_12 : decode b_Top_flees 12 = .ok (.iload_n 3, 1) := kq_29 byq_r (by decide +kernel)
theorem d_Top_flees_13 : decode b_Top_flees 13 = .ok (.iconst 1, 1) := kq_4 byq_r (by decide +kernel)
theorem d_Top_flees_14 : decode b_Top_flees 14 = .ok (.if_icmp .lt 9, 3) := kq_161 byq_r (a := 0) (b := 9) (by decide +kernel)
theorem d_Top_flees_17 : decode b_Top_flees 17 = .ok (.iload_n 3, 1) := kq_29 byq_r (by decide +kernel)
theorem d_Top_flees_18 : decode b_Top_flees 18 = .ok (.bipush 30, 2) := kq_16 byq_r (b := 30) (by decide +kernel)
theorem d_Top_flees_20 : decode b_Top_flees 20 = .ok (.if_icmp .le 5, 3) := kq_164 byq_r (a := 0) (b := 5) (by decide +kernel)
theorem d_Top_flees_23 : decode b_Top_flees 23 = .ok (.iconst (-1), 1) := kq_2 byq_r (by decide +kernel)
theorem d_Top_flees_24 : decode b_Top_flees 24 = .ok (.ireturn, 1) := kq_172 byq_r (by decide +kernel)
theorem d_Top_flees_25 : decode b_Top_flees 25 = .ok (.aload_n 0, 1) := kq_42 byq_r (by decide +kernel)
theorem d_Top_flees_26 : decode b_Top_flees 26 = .ok (.getfield 40, 3) := kq_180 byq_r (a := 0) (b := 40) (by decide +kernel)
theorem d_Top_flees_29 : decode b_Top_flees 29 = .ok (.aload_n 0, 1) := kq_42 byq_r (by decide +kernel)
theorem d_Top_flees_30 : decode b_Top_flees 30 = .ok (.getfield 33, 3) := kq_180 byq_r (a := 0) (b := 33) (by decide +kernel)
theorem d_Top_flees_33 : decode b_Top_flees 33 = .ok (.invokevirtual 211, 3) := kq_182 byq_r (a := 0) (b := 211) (by decide +kernel)
theorem d_Top_flees_36 : decode b_Top_flees 36 = .ok (.aload_n 0, 1) := kq_42 byq_r (by decide +kernel)
theorem d_Top_flees_37 : decode b_Top_flees 37 = .ok (.getfield 84, 3) := kq_180 byq_r (a := 0) (b := 84) (by decide +kernel)
theorem d_Top_flees_40 : decode b_Top_flees 40 = .ok (.iload_n 2, 1) := kq_28 byq_r (by decide +kernel)
theorem d_Top_flees_41 : decode b_Top_flees 41 = .ok (.iload_n 1, 1) := kq_27 byq_r (by decide +kernel)
theorem d_Top_flees_42 : decode b_Top_flees 42 = .ok (.invokevirtual 401, 3) := kq_182 byq_r (a := 1) (b := 145) (by decide +kernel)
theorem d_Top_flees_45 : decode b_Top_flees 45 = .ok (.iconst 0, 1) := kq_3 byq_r (by decide +kernel)
theorem d_Top_flees_46 : decode b_Top_flees 46 = .ok (.istore 4, 2) := kq_54 byq_r (by decide +kernel)
theorem d_Top_flees_48 : decode b_Top_flees 48 = .ok (.iload 4, 2) := kq_21 byq_r (by decide +kernel)
theorem d_Top_flees_50 : decode b_Top_flees 50 = .ok (.iload_n 3, 1) := kq_29 byq_r (by decide +kernel)
theorem d_Top_flees_51 : decode b_Top_flees 51 = .ok (.if_icmp .ge 13, 3) := kq_162 byq_r (a := 0) (b := 13) (by decide +kernel)
theorem d_Top_flees_54 : decode b_Top_flees 54 = .ok (.aload_n 0, 1) := kq_42 byq_r (by decide +kernel)
theorem d_Top_flees_55 : decode b_Top_flees 55 = .ok (.invokevirtual 405, 3) := kq_182 byq_r (a := 1) (b := 149) (by decide +kernel)
theorem d_Top_flees_58 : decode b_Top_flees 58 = .ok (.iinc 4 1, 3) := kq_132 byq_r (b := 1) (by decide +kernel)
theorem d_Top_flees_61 : decode b_Top_flees 61 = .ok (.goto (-13), 3) := kq_167 byq_r (a := 255) (b := 243) (by decide +kernel)
theorem d_Top_flees_64 : decode b_Top_flees 64 = .ok (.aload_n 0, 1) := kq_42 byq_r (by decide +kernel)
theorem d_Top_flees_65 : decode b_Top_flees 65 = .ok (.invokevirtual 251, 3) := kq_182 byq_r (a := 0) (b := 251) (by decide +kernel)
theorem d_Top_flees_68 : decode b_Top_flees 68 = .ok (.aload_n 0, 1) := kq_42 byq_r (by decide +kernel)
theorem d_Top_flees_69 : decode b_Top_flees 69 = .ok (.aload_n 0, 1) := kq_42 byq_r (by decide +kernel)
theorem d_Top_flees_70 : decode b_Top_flees 70 = .ok (.getfield 84, 3) := kq_180 byq_r (a := 0) (b := 84) (by decide +kernel)
theorem d_Top_flees_73 : decode b_Top_flees 73 = .ok (.getfield 408, 3) := kq_180 byq_r (a := 1) (b := 152) (by decide +kernel)
theorem d_Top_flees_76 : decode b_Top_flees 76 = .ok (.invokevirtual 308, 3) := kq_182 byq_r (a := 1) (b := 52) (by decide +kernel)
theorem d_Top_flees_79 : decode b_Top_flees 79 = .ok (.aload_n 0, 1) := kq_42 byq_r (by decide +kernel)
theorem d_Top_flees_80 : decode b_Top_flees 80 = .ok (.aload_n 0, 1) := kq_42 byq_r (by decide +kernel)
theorem d_Top_flees_81 : decode b_Top_flees 81 = .ok (.getfield 84, 3) := kq_180 byq_r (a := 0) (b := 84) (by decide +kernel)
theorem d_Top_flees_84 : decode b_Top_flees 84 = .ok (.getfield 412, 3) := kq_180 byq_r (a := 1) (b := 156) (by decide +kernel)
theorem d_Top_flees_87 : decode b_Top_flees 87 = .ok (.invokevirtual 308, 3) := kq_182 byq_r (a := 1) (b := 52) (by decide +kernel)
theorem d_Top_flees_90 : decode b_Top_flees 90 = .ok (.aload_n 0, 1) := kq_42 byq_r (by decide +kernel)
theorem d_Top_flees_91 : decode b_Top_flees 91 = .ok (.getfield 84, 3) := kq_180 byq_r (a := 0) (b := 84) (by decide +kernel)
theorem d_Top_flees_94 : decode b_Top_flees 94 = .ok (.invokevirtual 415, 3) := kq_182 byq_r (a := 1) (b := 159) (by decide +kernel)
theorem d_Top_flees_97 : decode b_Top_flees 97 = .ok (.ifCond .eq 7, 3) := kq_153 byq_r (a := 0) (b := 7) (by decide +kernel)
theorem d_Top_flees_100 : decode b_Top_flees 100 = .ok (.iconst 0, 1) := kq_3 byq_r (by decide +kernel)
theorem d_Top_flees_101 : decode b_Top_flees 101 = .ok (.goto 4, 3) := kq_167 byq_r (a := 0) (b := 4) (by decide +kernel)
theorem d_Top_flees_104 : decode b_Top_flees 104 = .ok (.iconst 1, 1) := kq_4 byq_r (by decide +kernel)
theorem d_Top_flees_105 : decode b_Top_flees 105 = .ok (.ireturn, 1) := kq_172 byq_r (by decide +kernel)
theorem d_Top_lairs_0 : decode b_Top_lairs 0 = .ok (.iload_n 1, 1) := kq_27 byq_r (by decide +kernel)
theorem d_Top_lairs_1 : decode b_Top_lairs 1 = .ok (.iconst 1, 1) := kq_4 byq_r (by decide +kernel)
theorem d_Top_lairs_2 : decode b_Top_lairs 2 = .ok (.if_icmp .lt 9, 3) := kq_161 byq_r (a := 0) (b := 9) (by decide +kernel)
theorem d_Top_lairs_5 : decode b_Top_lairs 5 = .ok (.iload_n 1, 1) := kq_27 byq_r (by decide +kernel)
theorem d_Top_lairs_6 : decode b_Top_lairs 6 = .ok (.bipush 30, 2) := kq_16 byq_r (b := 30) (by decide +kernel)
theorem d_Top_lairs_8 : decode b_Top_lairs 8 = .ok (.if_icmp .le 5, 3) := kq_164 byq_r (a := 0) (b := 5) (by decide +kernel)
theorem d_Top_lairs_11 : decode b_Top_lairs 11 = .ok (.iconst (-1), 1) := kq_2 byq_r (by decide +kernel)
theorem d_Top_lairs_12 : decode b_Top_lairs 12 = .ok (.ireturn, 1) := kq_172 byq_r (by decide +kernel)
theorem d_Top_lairs_13 : decode b_Top_lairs 13 = .ok (.aload_n 0, 1) := kq_42 byq_r (by decide +kernel)
theorem d_Top_lairs_14 : decode b_Top_lairs 14 = .ok (.getfield 40, 3) := kq_180 byq_r (a := 0) (b := 40) (by decide +kernel)
theorem d_Top_lairs_17 : decode b_Top_lairs 17 = .ok (.aload_n 0, 1) := kq_42 byq_r (by decide +kernel)
theorem d_Top_lairs_18 : decode b_Top_lairs 18 = .ok (.getfield 33, 3) := kq_180 byq_r (a := 0) (b := 33) (by decide +kernel)
theorem d_Top_lairs_21 : decode b_Top_lairs 21 = .ok (.invokevirtual 211, 3) := kq_182 byq_r (a := 0) (b := 211) (by decide +kernel)
theorem d_Top_lairs_24 : decode b_Top_lairs 24 = .ok (.iconst 0, 1) := kq_3 byq_r (by decide +kernel)
theorem d_Top_lairs_25 : decode b_Top_lairs 25 = .ok (.istore_n 2, 1) := kq_61 byq_r (by decide +kernel)
theorem d_Top_lairs_26 : decode b_Top_lairs 26 = .ok (.iload_n 2, 1) := kq_28 byq_r (by decide +kernel)
theorem d_Top_lairs_27 : decode b_Top_lairs 27 = .ok (.iload_n 1, 1) := kq_27 byq_r (by decide +kernel)
theorem d_Top_lairs_28 : decode b_Top_lairs 28 = .ok (.if_icmp .ge 74, 3) := kq_162 byq_r (a := 0) (b := 74) (by decide +kernel)
theorem d_Top_lairs_31 : decode b_Top_lairs 31 = .ok (.aload_n 0, 1) := kq_42 byq_r (by decide +kernel)
theorem d_Top_lairs_32 : decode b_Top_lairs 32 = .ok (.getfield 63, 3) := kq_180 byq_r (a := 0) (b := 63) (by decide +kernel)
theorem d_Top_lairs_35 : decode b_Top_lairs 35 = .ok (.aload_n 0, 1) := kq_42 byq_r (by decide +kernel)
theorem d_Top_lairs_36 : decode b_Top_lairs 36 = .ok (.getfield 40, 3) := kq_180 byq_r (a := 0) (b := 40) (by decide +kernel)
theorem d_Top_lairs_39 : decode b_Top_lairs 39 = .ok (.aload_n 0, 1) := kq_42 byq_r (by decide +kernel)
theorem d_Top_lairs_40 : decode b_Top_lairs 40 = .ok (.getfield 26, 3) := kq_180 byq_r (a := 0) (b := 26) (by decide +kernel)
theorem d_Top_lairs_43 : decode b_Top_lairs 43 = .ok (.aload_n 0, 1) := kq_42 byq_r (by decide +kernel)
theorem d_Top_lairs_44 : decode b_Top_lairs 44 = .ok (.getfield 19, 3) := kq_180 byq_r (a := 0) (b := 19) (by decide +kernel)
theorem d_Top_lairs_47 : decode b_Top_lairs 47 = .ok (.aload_n 0, 1) := kq_42 byq_r (by decide +kernel)
theorem d_Top_lairs_48 : decode b_Top_lairs 48 = .ok (.getfield 56, 3) := kq_180 byq_r (a := 0) (b := 56) (by decide +kernel)
theorem d_Top_lairs_51 : decode b_Top_lairs 51 = .ok (.aload_n 0, 1) := kq_42 byq_r (by decide +kernel)
theorem d_Top_lairs_52 : decode b_Top_lairs 52 = .ok (.getfield 46, 3) := kq_180 byq_r (a := 0) (b := 46) (by decide +kernel)
theorem d_Top_lairs_55 : decode b_Top_lairs 55 = .ok (.invokevirtual 247, 3) := kq_182 byq_r (a := 0) (b := 247) (by decide +kernel)
theorem d_Top_lairs_58 : decode b_Top_lairs 58 = .ok (.aload_n 0, 1) := kq_42 byq_r (by decide +kernel)
theorem d_Top_lairs_59 : decode b_Top_lairs 59 = .ok (.getfield 84, 3) := kq_180 byq_r (a := 0) (b := 84) (by decide +kernel)
theorem d_Top_lairs_62 : decode b_Top_lairs 62 = .ok (.iload_n 2, 1) := kq_28 byq_r (by decide +kernel)
theorem d_Top_lairs_63 : decode b_Top_lairs 63 = .ok (.aload_n 0, 1) := kq_42 byq_r (by decide +kernel)
theorem d_Top_lairs_64 : decode b_Top_lairs 64 = .ok (.getfield 40, 3) := kq_180 byq_r (a := 0) (b := 40) (by decide +kernel)
theorem d_Top_lairs_67 : decode b_Top_lairs 67 = .ok (.iconst 0, 1) := kq_3 byq_r (by decide +kernel)
theorem d_Top_lairs_68 : decode b_Top_lairs 68 = .ok (.aload_n 0, 1) := kq_42 byq_r (by decide +kernel)
theorem d_Top_lairs_69 : decode b_Top_lairs 69 = .ok (.getfield 26, 3) := kq_180 byq_r (a := 0) (b := 26) (by decide +kernel)
theorem d_Top_lairs_72 : decode b_Top_lairs 72 = .ok (.getfield 129, 3) := kq_180 byq_r (a := 0) (b := 129) (by decide +kernel)
theorem d_Top_lairs_75 : decode b_Top_lairs 75 = .ok (.invokevirtual 418, 3) := kq_182 byq_r (a := 1) (b := 162) (by decide +kernel)
theorem d_Top_lairs_78 : decode b_Top_lairs 78 = .ok (.aload_n 0, 1) := kq_42 byq_r (by decide +kernel)
theorem d_Top_lairs_79 : decode b_Top_lairs 79 = .ok (.getfield 40, 3) := kq_180 byq_r (a := 0) (b := 40) (by decide +kernel)
theorem d_Top_lairs_82 : decode b_Top_lairs 82 = .ok (.iconst 1, 1) := kq_4 byq_r (by decide +kernel)
theorem d_Top_lairs_83 : decode b_Top_lairs 83 = .ok (.aload_n 0, 1) := kq_42 byq_r (by decide +kernel)
theorem d_Top_lairs_84 : decode b_Top_lairs 84 = .ok (.getfield 26, 3) := kq_180 byq_r (a := 0) (b := 26) (by decide +kernel)
theorem d_Top_lairs_87 : decode b_Top_lairs 87 = .ok (.getfield 129, 3) := kq_180 byq_r (a := 0) (b := 129) (by decide +kernel)
theorem d_Top_lairs_90 : decode b_Top_lairs 90 = .ok (.invokevirtual 418, 3) := kq_182 byq_r (a := 1) (b := 162) (by decide +kernel)
theorem d_Top_lairs_93 : decode b_Top_lairs 93 = .ok (.invokevirtual 422, 3) := kq_182 byq_r (a := 1) (b := 166) (by decide +kernel)
theorem d_Top_lairs_96 : decode b_Top_lairs 96 = .ok (.iinc 2 1, 3) := kq_132 byq_r (b := 1) (by decide +kernel)
theorem d_Top_lairs_99 : decode b_Top_lairs 99 = .ok (.goto (-73), 3) := kq_167 byq_r (a := 255) (b := 183) (by decide +kernel)
theorem d_Top_lairs_102 : decode b_Top_lairs 102 = .ok (.aload_n 0, 1) := kq_42 byq_r (by decide +kernel)
theorem d_Top_lairs_103 : decode b_Top_lairs 103 = .ok (.getfield 84, 3) := kq_180 byq_r (a := 0) (b := 84) (by decide +kernel)
theorem d_Top_lairs_106 : decode b_Top_lairs 106 = .ok (.aload_n 0, 1) := kq_42 byq_r (by decide +kernel)
theorem d_Top_lairs_107 : decode b_Top_lairs 107 = .ok (.getfield 46, 3) := kq_180 byq_r (a := 0) (b := 46) (by decide +kernel)
theorem d_Top_lairs_110 : decode b_Top_lairs 110 = .ok (.getfield 296, 3) := kq_180 byq_r (a := 1) (b := 40) (by decide +kernel)
theorem d_Top_lairs_113 : decode b_Top_lairs 113 = .ok (.iconst 0, 1) := kq_3 byq_r (by decide +kernel)
theorem d_Top_lairs_114 : decode b_Top_lairs 114 = .ok (.laload, 1) := kq_47 byq_r (by decide +kernel)
theorem d_Top_lairs_115 : decode b_Top_lairs 115 = .ok (.putfield 408, 3) := kq_181 byq_r (a := 1) (b := 152) (by decide +kernel)
theorem d_Top_lairs_118 : decode b_Top_lairs 118 = .ok (.aload_n 0, 1) := kq_42 byq_r (by decide +kernel)
theorem d_Top_lairs_119 : decode b_Top_lairs 119 = .ok (.getfield 84, 3) := kq_180 byq_r (a := 0) (b := 84) (by decide +kernel)
theorem d_Top_lairs_122 : decode b_Top_lairs 122 = .ok (.aload_n 0, 1) := kq_42 byq_r (by decide +kernel)
theorem d_Top_lairs_123 : decode b_Top_lairs 123 = .ok (.getfield 46, 3) := kq_180 byq_r (a := 0) (b := 46) (by decide +kernel)
theorem d_Top_lairs_126 : decode b_Top_lairs 126 = .ok (.getfield 296, 3) := kq_180 byq_r (a := 1) (b := 40) (by decide +kernel)
theorem d_Top_lairs_129 : decode b_Top_lairs 129 = .ok (.iconst 1, 1) := kq_4 byq_r (by decide +kernel)
theorem d_Top_lairs_130 : decode b_Top_lairs 130 = .ok (.laload, 1) := kq_47 byq_r (by decide +kernel)
theorem d_Top_lairs_131 : decode b_Top_lairs 131 = .ok (.putfield 412, 3) := kq_181 byq_r (a := 1) (b := 156) (by decide +kernel)
theorem d_Top_lairs_134 : decode b_Top_lairs 134 = .ok (.iload_n 1, 1) := kq_27 byq_r (by decide +kernel)
theorem d_Top_lairs_135 : decode b_Top_lairs 135 = .ok (.iconst 1, 1) := kq_4 byq_r (by decide +kernel)
theorem d_Top_lairs_136 : decode b_Top_lairs 136 = .ok (.isub, 1) := kq_100 byq_r (by decide +kernel)
theorem d_Top_lairs_137 : decode b_Top_lairs 137 = .ok (.istore_n 2, 1) := kq_61 byq_r (by decide +kernel)
theorem d_Top_lairs_138 : decode b_Top_lairs 138 = .ok (.iload_n 2, 1) := kq_28 byq_r (by decide +kernel)
theorem d_Top_lairs_139 : decode b_Top_lairs 139 = .ok (.ifCond .lt 28, 3) := kq_155 byq_r (a := 0) (b := 28) (by decide +kernel)
theorem d_Top_lairs_142 : decode b_Top_lairs 142 = .ok (.aload_n 0, 1) := kq_42 byq_r (by decide +kernel)
theorem d_Top_lairs_143 : decode b_Top_lairs 143 = .ok (.getfield 84, 3) := kq_180 byq_r (a := 0) (b := 84) (by decide +kernel)
theorem d_Top_lairs_146 : decode b_Top_lairs 146 = .ok (.iload_n 2, 1) := kq_28 byq_r (by decide +kernel)
theorem d_Top_lairs_147 : decode b_Top_lairs 147 = .ok (.invokevirtual 426, 3) := kq_182 byq_r (a := 1) (b := 170) (by decide +kernel)
theorem d_Top_lairs_150 : decode b_Top_lairs 150 = .ok (.aload_n 0, 1) := kq_42 byq_r (by decide +kernel)
theorem d_Top_lairs_151 : decode b_Top_lairs 151 = .ok (.getfield 84, 3) := kq_180 byq_r (a := 0) (b := 84) (by decide +kernel)
theorem d_Top_lairs_154 : decode b_Top_lairs 154 = .ok (.aload_n 0, 1) := kq_42 byq_r (by decide +kernel)
theorem d_Top_lairs_155 : decode b_Top_lairs 155 = .ok (.getfield 46, 3) := kq_180 byq_r (a := 0) (b := 46) (by decide +kernel)
theorem d_Top_lairs_158 : decode b_Top_lairs 158 = .ok (.invokevirtual 429, 3) := kq_182 byq_r (a := 1) (b := 173) (by decide +kernel)
theorem d_Top_lairs_161 : decode b_Top_lairs 161 = .ok (.iinc 2 (-1), 3) := kq_132 byq_r (b := 255) (by decide +kernel)
theorem d_Top_lairs_164 : decode b_Top_lairs 164 = .ok (.goto (-26), 3) := kq_167 byq_r (a := 255) (b := 230) (by decide +kernel)
theorem d_Top_lairs_167 : decode b_Top_lairs 167 = .ok (.aload_n 0, 1) := kq_42 byq_r (by decide +kernel)
theorem d_Top_lairs_168 : decode b_Top_lairs 168 = .ok (.invokevirtual 251, 3) := kq_182 byq_r (a := 0) (b := 251) (by decide +kernel)
theorem d_Top_lairs_171 : decode b_Top_lairs 171 = .ok (.aload_n 0, 1) := kq_42 byq_r (by decide +kernel)
theorem d_Top_lairs_172 : decode b_Top_lairs 172 = .ok (.aload_n 0, 1) := kq_42 byq_r (by decide +kernel)
theorem d_Top_lairs_173 : decode b_Top_lairs 173 = .ok (.getfield 84, 3) := kq_180 byq_r (a := 0) (b := 84) (by decide +kernel)
theorem d_Top_lairs_176 : decode b_Top_lairs 176 = .ok (.getfield 408, 3) := kq_180 byq_r (a := 1) (b := 152) (by decide +kernel)
theorem d_Top_lairs_179 : decode b_Top_lairs 179 = .ok (.invokevirtual 308, 3) := kq_182 byq_r (a := 1) (b := 52) (by decide +kernel)
theorem d_Top_lairs_182 : decode b_Top_lairs 182 = .ok (.aload_n 0, 1) := kq_42 byq_r (by decide +kernel)
theorem d_Top_lairs_183 : decode b_Top_lairs 183 = .ok (.aload_n 0, 1) := kq_42 byq_r (by decide +kernel)
theorem d_Top_lairs_184 : decode b_Top_lairs 184 = .ok (.getfield 84, 3) := kq_180 byq_r (a := 0) (b := 84) (by decide +kernel)
theorem d_Top_lairs_187 : decode b_Top_lairs 187 = .ok (.getfield 412, 3) := kq_180 byq_r (a := 1) (b := 156) (by decide +kernel)
theorem d_Top_lairs_190 : decode b_Top_lairs 190 = .ok (.invokevirtual 308, 3) := kq_182 byq_r (a := 1) (b := 52) (by decide +kernel)
theorem d_Top_lairs_193 : decode b_Top_lairs 193 = .ok (.aload_n 0, 1) := kq_42 byq_r (by decide +kernel)
theorem d_Top_lairs_194 : decode b_Top_lairs 194 = .ok (.getfield 84, 3) := kq_180 byq_r (a := 0) (b := 84) (by decide +kernel)
theorem d_Top_lairs_197 : decode b_Top_lairs 197 = .ok (.getfield 408, 3) := kq_180 byq_r (a := 1) (b := 152) (by decide +kernel)
theorem d_Top_lairs_200 : decode b_Top_lairs 200 = .ok (.invokestatic 182, 3) := kq_184 byq_r (a := 0) (b := 182) (by decide +kernel)
theorem d_Top_lairs_203 : decode b_Top_lairs 203 = .ok (.aload_n 0, 1) := kq_42 byq_r (by decide +kernel)
theorem d_Top_lairs_204 : decode b_Top_lairs 204 = .ok (.getfield 84, 3) := kq_180 byq_r (a := 0) (b := 84) (by decide +kernel)
theorem d_Top_lairs_207 : decode b_Top_lairs 207 = .ok (.getfield 412, 3) := kq_180 byq_r (a := 1) (b := 156) (by decide +kernel)
theorem d_Top_lairs_210 : decode b_Top_lairs 210 = .ok (.invokestatic 182, 3) := kq_184 byq_r (a := 0) (b := 182) (by decide +kernel)
theorem d_Top_lairs_213 : decode b_Top_lairs 213 = .ok (.iadd, 1) := kq_96 byq_r (by decide +kernel)
theorem d_Top_lairs_214 : decode b_Top_lairs 214 = .ok (.ireturn, 1) := kq_172 byq_r (by decide +kernel)
theorem d_Top_caught_0 : decode b_Top_caught 0 = .ok (.aload_n 0, 1) := kq_42 byq_r (by decide +kernel)
theorem d_Top_caught_1 : decode b_Top_caught 1 = .ok (.getfield 19, 3) := kq_180 byq_r (a := 0) (b := 19) (by decide +kernel)
theorem d_Top_caught_4 : decode b_Top_caught 4 = .ok (.iload_n 2, 1) := kq_28 byq_r (by decide +kernel)
theorem d_Top_caught_5 : decode b_Top_caught 5 = .ok (.iload_n 1, 1) := kq_27 byq_r (by decide +kernel)
theorem d_Top_caught_6 : decode b_Top_caught 6 = .ok (.invokevirtual 305, 3) := kq_182 byq_r (a := 1) (b := 49) (by decide +kernel)
theorem d_Top_caught_9 : decode b_Top_caught 9 = .ok (.ifCond .ne 5, 3) := kq_154 byq_r (a := 0) (b := 5) (by decide +kernel)
theorem d_Top_caught_12 : decode b_Top_caught 12 = .ok (.iconst (-1), 1) := kq_2 byq_r (by decide +kernel)
theorem d_Top_caught_13 : decode b_Top_caught 13 = .ok (.ireturn, 1) := kq_172 byq_r (by decide +kernel)
theorem d_Top_caught_14 : decode b_Top_caught 14 = .ok (.aload_n 0, 1) := kq_42 byq_r (by decide +kernel)
theorem d_Top_caught_15 : decode b_Top_caught 15 = .ok (.getfield 40, 3) := kq_180 byq_r (a := 0) (b := 40) (by decide +kernel)
theorem d_Top_caught_18 : decode b_Top_caught 18 = .ok (.aload_n 0, 1) := kq_42 byq_r (by decide +kernel)
theorem d_Top_caught_19 : decode b_Top_caught 19 = .ok (.getfield 33, 3) := kq_180 byq_r (a := 0) (b := 33) (by decide +kernel)
theorem d_Top_caught_22 : decode b_Top_caught 22 = .ok (.invokevirtual 211, 3) := kq_182 byq_r (a := 0) (b := 211) (by decide +kernel)
theorem d_Top_caught_25 : decode b_Top_caught 25 = .ok (.aload_n 0, 1) := kq_42 byq_r (by decide +kernel)
theorem d_Top_caught_26 : decode b_Top_caught 26 = .ok (.getfield 84, 3) := kq_180 byq_r (a := 0) (b := 84) (by decide +kernel)
theorem d_Top_caught_29 : decode b_Top_caught 29 = .ok (.iload_n 2, 1) := kq_28 byq_r (by decide +kernel)
theorem d_Top_caught_30 : decode b_Top_caught 30 = .ok (.iload_n 1, 1) := kq_27 byq_r (by decide +kernel)
theorem d_Top_caught_31 : decode b_Top_caught 31 = .ok (.invokevirtual 401, 3) := kq_182 byq_r (a := 1) (b := 145) (by decide +kernel)
theorem d_Top_caught_34 : decode b_Top_caught 34 = .ok (.iconst 1, 1) := kq_4 byq_r (by decide +kernel)
theorem d_Top_caught_35 : decode b_Top_caught 35 = .ok (.istore_n 3, 1) := kq_62 byq_r (by decide +kernel)
theorem d_Top_caught_36 : decode b_Top_caught 36 = .ok (.iload_n 3, 1) := kq_29 byq_r (by decide +kernel)
theorem d_Top_caught_37 : decode b_Top_caught 37 = .ok (.bipush 30, 2) := kq_16 byq_r (b := 30) (by decide +kernel)
theorem d_Top_caught_39 : decode b_Top_caught 39 = .ok (.if_icmp .gt 25, 3) := kq_163 byq_r (a := 0) (b := 25) (by decide +kernel)
theorem d_Top_caught_42 : decode b_Top_caught 42 = .ok (.aload_n 0, 1) := kq_42 byq_r (by decide +kernel)
theorem d_Top_caught_43 : decode b_Top_caught 43 = .ok (.invokevirtual 405, 3) := kq_182 byq_r (a := 1) (b := 149) (by decide +kernel)
theorem d_Top_caught_46 : decode b_Top_caught 46 = .ok (.aload_n 0, 1) := kq_42 byq_r (by decide +kernel)
theorem d_Top_caught_47 : decode b_Top_caught 47 = .ok (.getfield 84, 3) := kq_180 byq_r (a := 0) (b := 84) (by decide +kernel)
theorem d_Top_caught_50 : decode b_Top_caught 50 = .ok (.invokevirtual 415, 3) := kq_182 byq_r (a := 1) (b := 159) (by decide +kernel)
theorem d_Top_caught_53 : decode b_Top_caught 53 = .ok (.ifCond .eq 5, 3) := kq_153 byq_r (a := 0) (b := 5) (by decide +kernel)
theorem d_Top_caught_56 : decode b_Top_caught 56 = .ok (.iload_n 3, 1) := kq_29 byq_r (by decide +kernel)
theorem d_Top_caught_57 : decode b_Top_caught 57 = .ok (.ireturn, 1) := kq_172 byq_r (by decide +kernel)
theorem d_Top_caught_58 : decode b_Top_caught 58 = .ok (.iinc 3 1, 3) := kq_132 byq_r (b := 1) (by decide +kernel)
theorem d_Top_caught_61 : decode b_Top_caught 61 = .ok (.goto (-25), 3) := kq_167 byq_r (a := 255) (b := 231) (by decide +kernel)
theorem d_Top_caught_64 : decode b_Top_caught 64 = .ok (.bipush (-2), 2) := kq_16 byq_r (b := 254) (by decide +kernel)
theorem d_Top_caught_66 : decode b_Top_caught 66 = .ok (.ireturn, 1) := kq_172 byq_r (by decide +kernel)
theorem d_Top_slipsBy_0 : decode b_Top_slipsBy 0 = .ok (.aload_n 0, 1) := kq_42 byq_r (by decide +kernel)
theorem d_Top_slipsBy_1 : decode b_Top_slipsBy 1 = .ok (.getfield 84, 3) := kq_180 byq_r (a := 0) (b := 84) (by decide +kernel)
theorem d_Top_slipsBy_4 : decode b_Top_slipsBy 4 = .ok (.iload_n 2, 1) := kq_28 byq_r (by decide +kernel)
theorem d_Top_slipsBy_5 : decode b_Top_slipsBy 5 = .ok (.iload_n 3, 1) := kq_29 byq_r (by decide +kernel)
theorem d_Top_slipsBy_6 : decode b_Top_slipsBy 6 = .ok (.invokevirtual 401, 3) := kq_182 byq_r (a := 1) (b := 145) (by decide +kernel)
theorem d_Top_slipsBy_9 : decode b_Top_slipsBy 9 = .ok (.aload_n 0, 1) := kq_42 byq_r (by decide +kernel)
theorem d_Top_slipsBy_10 : decode b_Top_slipsBy 10 = .ok (.getfield 84, 3) := kq_180 byq_r (a := 0) (b := 84) (by decide +kernel)
theorem d_Top_slipsBy_13 : decode b_Top_slipsBy 13 = .ok (.iconst 0, 1) := kq_3 byq_r (by decide +kernel)
theorem d_Top_slipsBy_14 : decode b_Top_slipsBy 14 = .ok (.aload_n 0, 1) := kq_42 byq_r (by decide +kernel)
theorem d_Top_slipsBy_15 : decode b_Top_slipsBy 15 = .ok (.getfield 33, 3) := kq_180 byq_r (a := 0) (b := 33) (by decide +kernel)
theorem d_Top_slipsBy_18 : decode b_Top_slipsBy 18 = .ok (.iconst 0, 1) := kq_3 byq_r (by decide +kernel)
theorem d_Top_slipsBy_19 : decode b_Top_slipsBy 19 = .ok (.iload_n 1, 1) := kq_27 byq_r (by decide +kernel)
theorem d_Top_slipsBy_20 : decode b_Top_slipsBy 20 = .ok (.invokevirtual 498, 3) := kq_182 byq_r (a := 1) (b := 242) (by decide +kernel)
theorem d_Top_slipsBy_23 : decode b_Top_slipsBy 23 = .ok (.aload_n 0, 1) := kq_42 byq_r (by decide +kernel)
theorem d_Top_slipsBy_24 : decode b_Top_slipsBy 24 = .ok (.getfield 33, 3) := kq_180 byq_r (a := 0) (b := 33) (by decide +kernel)
theorem d_Top_slipsBy_27 : decode b_Top_slipsBy 27 = .ok (.iconst 1, 1) := kq_4 byq_r (by decide +kernel)
theorem d_Top_slipsBy_28 : decode b_Top_slipsBy 28 = .ok (.iload_n 1, 1) := kq_27 byq_r (by decide +kernel)
theorem d_Top_slipsBy_29 : decode b_Top_slipsBy 29 = .ok (.invokevirtual 498, 3) := kq_182 byq_r (a := 1) (b := 242) (by decide +kernel)
theorem d_Top_slipsBy_32 : decode b_Top_slipsBy 32 = .ok (.invokevirtual 422, 3) := kq_182 byq_r (a := 1) (b := 166) (by decide +kernel)
theorem d_Top_slipsBy_35 : decode b_Top_slipsBy 35 = .ok (.aload_n 0, 1) := kq_42 byq_r (by decide +kernel)
theorem d_Top_slipsBy_36 : decode b_Top_slipsBy 36 = .ok (.getfield 84, 3) := kq_180 byq_r (a := 0) (b := 84) (by decide +kernel)
theorem d_Top_slipsBy_39 : decode b_Top_slipsBy 39 = .ok (.aload_n 0, 1) := kq_42 byq_r (by decide +kernel)
theorem d_Top_slipsBy_40 : decode b_Top_slipsBy 40 = .ok (.getfield 46, 3) := kq_180 byq_r (a := 0) (b := 46) (by decide +kernel)
theorem d_Top_slipsBy_43 : decode b_Top_slipsBy 43 = .ok (.invokevirtual 501, 3) := kq_182 byq_r (a := 1) (b := 245) (by decide +kernel)
theorem d_Top_slipsBy_46 : decode b_Top_slipsBy 46 = .ok (.aload_n 0, 1) := kq_42 byq_r (by decide +kernel)
theorem d_Top_slipsBy_47 : decode b_Top_slipsBy 47 = .ok (.getfield 84, 3) := kq_180 byq_r (a := 0) (b := 84) (by decide +kernel)
theorem d_Top_slipsBy_50 : decode b_Top_slipsBy 50 = .ok (.iload 4, 2) := kq_21 byq_r (by decide +kernel)
theorem d_Top_slipsBy_52 : decode b_Top_slipsBy 52 = .ok (.iload 5, 2) := kq_21 byq_r (by decide +kernel)
theorem d_Top_slipsBy_54 : decode b_Top_slipsBy 54 = .ok (.invokevirtual 504, 3) := kq_182 byq_r (a := 1) (b := 248) (by decide +kernel)
theorem d_Top_slipsBy_57 : decode b_Top_slipsBy 57 = .ok (.ireturn, 1) := kq_172 byq_r (by decide +kernel)
theorem d_Top_watch_0 : decode b_Top_watch 0 = .ok (.aload_n 0, 1) := kq_42 byq_r (by decide +kernel)
theorem d_Top_watch_1 : decode b_Top_watch 1 = .ok (.getfield 19, 3) := kq_180 byq_r (a := 0) (b := 19) (by decide +kernel)
theorem d_Top_watch_4 : decode b_Top_watch 4 = .ok (.iload_n 2, 1) := kq_28 byq_r (by decide +kernel)
theorem d_Top_watch_5 : decode b_Top_watch 5 = .ok (.iload_n 1, 1) := kq_27 byq_r (by decide +kernel)
theorem d_Top_watch_6 : decode b_Top_watch 6 = .ok (.invokevirtual 305, 3) := kq_182 byq_r (a := 1) (b := 49) (by decide +kernel)
theorem d_Top_watch_9 : decode b_Top_watch 9 = .ok (.ifCond .eq 16, 3) := kq_153 byq_r (a := 0) (b := 16) (by decide +kernel)
theorem d_Top_watch_12 : decode b_Top_watch 12 = .ok (.aload_n 0, 1) := kq_42 byq_r (by decide +kernel)
theorem d_Top_watch_13 : decode b_Top_watch 13 = .ok (.getfield 19, 3) := kq_180 byq_r (a := 0) (b := 19) (by decide +kernel)
theorem d_Top_watch_16 : decode b_Top_watch 16 = .ok (.iload 4, 2) := kq_21 byq_r (by decide +kernel)
theorem d_Top_watch_18 : decode b_Top_watch 18 = .ok (.iload_n 3, 1) := kq_29 byq_r (by decide +kernel)
theorem d_Top_watch_19 : decode b_Top_watch 19 = .ok (.invokevirtual 305, 3) := kq_182 byq_r (a := 1) (b := 49) (by decide +kernel)
theorem d_Top_watch_22 : decode b_Top_watch 22 = .ok (.ifCond .ne 5, 3) := kq_154 byq_r (a := 0) (b := 5) (by decide +kernel)
theorem d_Top_watch_25 : decode b_Top_watch 25 = .ok (.iconst (-1), 1) := kq_2 byq_r (by decide +kernel)
theorem d_Top_watch_26 : decode b_Top_watch 26 = .ok (.ireturn, 1) := kq_172 byq_r (by decide +kernel)
theorem d_Top_watch_27 : decode b_Top_watch 27 = .ok (.iconst 0, 1) := kq_3 byq_r (by decide +kernel)
theorem d_Top_watch_28 : decode b_Top_watch 28 = .ok (.istore 5, 2) := kq_54 byq_r (by decide +kernel)
theorem d_Top_watch_30 : decode b_Top_watch 30 = .ok (.iload 5, 2) := kq_21 byq_r (by decide +kernel)
theorem d_Top_watch_32 : decode b_Top_watch 32 = .ok (.aload_n 0, 1) := kq_42 byq_r (by decide +kernel)
theorem d_Top_watch_33 : decode b_Top_watch 33 = .ok (.getfield 26, 3) := kq_180 byq_r (a := 0) (b := 26) (by decide +kernel)
theorem d_Top_watch_36 : decode b_Top_watch 36 = .ok (.getfield 129, 3) := kq_180 byq_r (a := 0) (b := 129) (by decide +kernel)
theorem d_Top_watch_39 : decode b_Top_watch 39 = .ok (.if_icmp .gt 69, 3) := kq_163 byq_r (a := 0) (b := 69) (by decide +kernel)
theorem d_Top_watch_42 : decode b_Top_watch 42 = .ok (.iconst 0, 1) := kq_3 byq_r (by decide +kernel)
theorem d_Top_watch_43 : decode b_Top_watch 43 = .ok (.istore 6, 2) := kq_54 byq_r (by decide +kernel)
theorem d_Top_watch_45 : decode b_Top_watch 45 = .ok (.iload 6, 2) := kq_21 byq_r (by decide +kernel)
theorem d_Top_watch_47 : decode b_Top_watch 47 = .ok (.iconst 1, 1) := kq_4 byq_r (by decide +kernel)
theorem d_Top_watch_48 : decode b_Top_watch 48 = .ok (.aload_n 0, 1) := kq_42 byq_r (by decide +kernel)
theorem d_Top_watch_49 : decode b_Top_watch 49 = .ok (.getfield 26, 3) := kq_180 byq_r (a := 0) (b := 26) (by decide +kernel)
theorem d_Top_watch_52 : decode b_Top_watch 52 = .ok (.getfield 129, 3) := kq_180 byq_r (a := 0) (b := 129) (by decide +kernel)
theorem d_Top_watch_55 : decode b_Top_watch 55 = .ok (.ishl, 1) := kq_120 byq_r (by decide +kernel)
theorem d_Top_watch_56 : decode b_Top_watch 56 = .ok (.if_icmp .ge 46, 3) := kq_162 byq_r (a := 0) (b := 46) (by decide +kernel)
theorem d_Top_watch_59 : decode b_Top_watch 59 = .ok (.iload 6, 2) := kq_21 byq_r (by decide +kernel)
theorem d_Top_watch_61 : decode b_Top_watch 61 = .ok (.invokestatic 236, 3) := kq_184 byq_r (a := 0) (b := 236) (by decide +kernel)
theorem d_Top_watch_64 : decode b_Top_watch 64 = .ok (.iload 5, 2) := kq_21 byq_r (by decide +kernel)
theorem d_Top_watch_66 : decode b_Top_watch 66 = .ok (.if_icmp .ne 30, 3) := kq_160 byq_r (a := 0) (b := 30) (by decide +kernel)
theorem d_Top_watch_69 : decode b_Top_watch 69 = .ok (.aload_n 0, 1) := kq_42 byq_r (by decide +kernel)
theorem d_Top_watch_70 : decode b_Top_watch 70 = .ok (.iload 6, 2) := kq_21 byq_r (by decide +kernel)
theorem d_Top_watch_72 : decode b_Top_watch 72 = .ok (.iload_n 2, 1) := kq_28 byq_r (by decide +kernel)
theorem d_Top_watch_73 : decode b_Top_watch 73 = .ok (.iload_n 1, 1) := kq_27 byq_r (by decide +kernel)
theorem d_Top_watch_74 : decode b_Top_watch 74 = .ok (.iload 4, 2) := kq_21 byq_r (by decide +kernel)
theorem d_Top_watch_76 : decode b_Top_watch 76 = .ok (.iload_n 3, 1) := kq_29 byq_r (by decide +kernel)
theorem d_Top_watch_77 : decode b_Top_watch 77 = .ok (.invokevirtual 433, 3) := kq_182 byq_r (a := 1) (b := 177) (by decide +kernel)
theorem d_Top_watch_80 : decode b_Top_watch 80 = .ok (.ifCond .ne 16, 3) := kq_154 byq_r (a := 0) (b := 16) (by decide +kernel)
theorem d_Top_watch_83 : decode b_Top_watch 83 = .ok (.aload_n 0, 1) := kq_42 byq_r (by decide +kernel)
theorem d_Top_watch_84 : decode b_Top_watch 84 = .ok (.invokevirtual 251, 3) := kq_182 byq_r (a := 0) (b := 251) (by decide +kernel)
theorem d_Top_watch_87 : decode b_Top_watch 87 = .ok (.aload_n 0, 1) := kq_42 byq_r (by decide +kernel)
theorem d_Top_watch_88 : decode b_Top_watch 88 = .ok (.iload 6, 2) := kq_21 byq_r (by decide +kernel)
theorem d_Top_watch_90 : decode b_Top_watch 90 = .ok (.invokevirtual 257, 3) := kq_182 byq_r (a := 1) (b := 1) (by decide +kernel)
theorem d_Top_watch_93 : decode b_Top_watch 93 = .ok (.iload 5, 2) := kq_21 byq_r (by decide +kernel)
theorem d_Top_watch_95 : decode b_Top_watch 95 = .ok (.ireturn, 1) := kq_172 byq_r (by decide +kernel)
theorem d_Top_watch_96 : decode b_Top_watch 96 = .ok (.iinc 6 1, 3) := kq_132 byq_r (b := 1) (by decide +kernel)
theorem d_Top_watch_99 : decode b_Top_watch 99 = .ok (.goto (-54), 3) := kq_167 byq_r (a := 255) (b := 202) (by decide +kernel)
theorem d_Top_watch_102 : decode b_Top_watch 102 = .ok (.iinc 5 1, 3) := kq_132 byq_r (b := 1) (by decide +kernel)
theorem d_Top_watch_105 : decode b_Top_watch 105 = .ok (.goto (-75), 3) := kq_167 byq_r (a := 255) (b := 181) (by decide +kernel)
theorem d_Top_watch_108 : decode b_Top_watch 108 = .ok (.bipush (-2), 2) := kq_16 byq_r (b := 254) (by decide +kernel)
theorem d_Top_watch_110 : decode b_Top_watch 110 = .ok (.ireturn, 1) := kq_172 byq_r (by decide +kernel)
theorem d_Top_keep_0 : decode b_Top_keep 0 = .ok (.aload_n 0, 1) := kq_42 byq_r (by decide +kernel)
theorem d_Top_keep_1 : decode b_Top_keep 1 = .ok (.getfield 70, 3) := kq_180 byq_r (a := 0) (b := 70) (by decide +kernel)
theorem d_Top_keep_4 : decode b_Top_keep 4 = .ok (.iload_n 1, 1) := kq_27 byq_r (by decide +kernel)
theorem d_Top_keep_5 : decode b_Top_keep 5 = .ok (.aload_n 0, 1) := kq_42 byq_r (by decide +kernel)
theorem d_Top_keep_6 : decode b_Top_keep 6 = .ok (.getfield 33, 3) := kq_180 byq_r (a := 0) (b := 33) (by decide +kernel)
theorem d_Top_keep_9 : decode b_Top_keep 9 = .ok (.invokevirtual 437, 3) := kq_182 byq_r (a := 1) (b := 181) (by decide +kernel)
theorem d_Top_keep_12 : decode b_Top_keep 12 = .ok (.ireturn, 1) := kq_172 byq_r (by decide +kernel)
theorem d_Top_again_0 : decode b_Top_again 0 = .ok (.aload_n 0, 1) := kq_42 byq_r (by decide +kernel)
theorem d_Top_again_1 : decode b_Top_again 1 = .ok (.getfield 70, 3) := kq_180 byq_r (a := 0) (b := 70) (by decide +kernel)
theorem d_Top_again_4 : decode b_Top_again 4 = .ok (.iload_n 1, 1) := kq_27 byq_r (by decide +kernel)
theorem d_Top_again_5 : decode b_Top_again 5 = .ok (.aload_n 0, 1) := kq_42 byq_r (by decide +kernel)
theorem d_Top_again_6 : decode b_Top_again 6 = .ok (.getfield 33, 3) := kq_180 byq_r (a := 0) (b := 33) (by decide +kernel)
theorem d_Top_again_9 : decode b_Top_again 9 = .ok (.invokevirtual 441, 3) := kq_182 byq_r (a := 1) (b := 185) (by decide +kernel)
theorem d_Top_again_12 : decode b_Top_again 12 = .ok (.ifCond .ne 5, 3) := kq_154 byq_r (a := 0) (b := 5) (by decide +kernel)
theorem d_Top_again_15 : decode b_Top_again 15 = .ok (.iconst 0, 1) := kq_3 byq_r (by decide +kernel)
theorem d_Top_again_16 : decode b_Top_again 16 = .ok (.ireturn, 1) := kq_172 byq_r (by decide +kernel)
theorem d_Top_again_17 : decode b_Top_again 17 = .ok (.aload_n 0, 1) := kq_42 byq_r (by decide +kernel)
theorem d_Top_again_18 : decode b_Top_again 18 = .ok (.getfield 70, 3) := kq_180 byq_r (a := 0) (b := 70) (by decide +kernel)
theorem d_Top_again_21 : decode b_Top_again 21 = .ok (.invokevirtual 146, 3) := kq_182 byq_r (a := 0) (b := 146) (by decide +kernel)
theorem d_Top_again_24 : decode b_Top_again 24 = .ok (.aload_n 0, 1) := kq_42 byq_r (by decide +kernel)
theorem d_Top_again_25 : decode b_Top_again 25 = .ok (.getfield 46, 3) := kq_180 byq_r (a := 0) (b := 46) (by decide +kernel)
theorem d_Top_again_28 : decode b_Top_again 28 = .ok (.aload_n 0, 1) := kq_42 byq_r (by decide +kernel)
theorem d_Top_again_29 : decode b_Top_again 29 = .ok (.getfield 19, 3) := kq_180 byq_r (a := 0) (b := 19) (by decide +kernel)
theorem d_Top_again_32 : decode b_Top_again 32 = .ok (.aload_n 0, 1) := kq_42 byq_r (by decide +kernel)
theorem d_Top_again_33 : decode b_Top_again 33 = .ok (.getfield 33, 3) := kq_180 byq_r (a := 0) (b := 33) (by decide +kernel)
theorem d_Top_again_36 : decode b_Top_again 36 = .ok (.iconst (-1), 1) := kq_2 byq_r (by decide +kernel)
theorem d_Top_again_37 : decode b_Top_again 37 = .ok (.invokevirtual 122, 3) := kq_182 byq_r (a := 0) (b := 122) (by decide +kernel)
theorem d_Top_again_40 : decode b_Top_again 40 = .ok (.iconst 1, 1) := kq_4 byq_r (by decide +kernel)
theorem d_Top_again_41 : decode b_Top_again 41 = .ok (.ireturn, 1) := kq_172 byq_r (by decide +kernel)
theorem d_Top_count_0 : decode b_Top_count 0 = .ok (.iload_n 1, 1) := kq_27 byq_r (by decide +kernel)
theorem d_Top_count_1 : decode b_Top_count 1 = .ok (.tableswitch 165 0 12 #[67, 75, 83, 91, 99, 107, 115, 123, 131, 139, 144, 152, 157], 67) := by decide +kernel
theorem d_Top_count_68 : decode b_Top_count 68 = .ok (.aload_n 0, 1) := kq_42 byq_r (by decide +kernel)
theorem d_Top_count_69 : decode b_Top_count 69 = .ok (.getfield 19, 3) := kq_180 byq_r (a := 0) (b := 19) (by decide +kernel)
theorem d_Top_count_72 : decode b_Top_count 72 = .ok (.getfield 346, 3) := kq_180 byq_r (a := 1) (b := 90) (by decide +kernel)
theorem d_Top_count_75 : decode b_Top_count 75 = .ok (.ireturn, 1) := kq_172 byq_r (by decide +kernel)
theorem d_Top_count_76 : decode b_Top_count 76 = .ok (.aload_n 0, 1) := kq_42 byq_r (by decide +kernel)
theorem d_Top_count_77 : decode b_Top_count 77 = .ok (.getfield 19, 3) := kq_180 byq_r (a := 0) (b := 19) (by decide +kernel)
theorem d_Top_count_80 : decode b_Top_count 80 = .ok (.getfield 444, 3) := kq_180 byq_r (a := 1) (b := 188) (by decide +kernel)
theorem d_Top_count_83 : decode b_Top_count 83 = .ok (.ireturn, 1) := kq_172 byq_r (by decide +kernel)
theorem d_Top_count_84 : decode b_Top_count 84 = .ok (.aload_n 0, 1) := kq_42 byq_r (by decide +kernel)
theorem d_Top_count_85 : decode b_Top_count 85 = .ok (.getfield 26, 3) := kq_180 byq_r (a := 0) (b := 26) (by decide +kernel)
theorem d_Top_count_88 : decode b_Top_count 88 = .ok (.getfield 129, 3) := kq_180 byq_r (a := 0) (b := 129) (by decide +kernel)
theorem d_Top_count_91 : decode b_Top_count 91 = .ok (.ireturn, 1) := kq_172 byq_r (by decide +kernel)
theorem d_Top_count_92 : decode b_Top_count 92 = .ok (.aload_n 0, 1) := kq_42 byq_r (by decide +kernel)
theorem d_Top_count_93 : decode b_Top_count 93 = .ok (.getfield 33, 3) := kq_180 byq_r (a := 0) (b := 33) (by decide +kernel)
theorem d_Top_count_96 : decode b_Top_count 96 = .ok (.getfield 447, 3) := kq_180 byq_r (a := 1) (b := 191) (by decide +kernel)
theorem d_Top_count_99 : decode b_Top_count 99 = .ok (.ireturn, 1) := kq_172 byq_r (by decide +kernel)
theorem d_Top_count_100 : decode b_Top_count 100 = .ok (.aload_n 0, 1) := kq_42 byq_r (by decide +kernel)
theorem d_Top_count_101 : decode b_Top_count 101 = .ok (.getfield 33, 3) := kq_180 byq_r (a := 0) (b := 33) (by decide +kernel)
theorem d_Top_count_104 : decode b_Top_count 104 = .ok (.getfield 224, 3) := kq_180 byq_r (a := 0) (b := 224) (by decide +kernel)
theorem d_Top_count_107 : decode b_Top_count 107 = .ok (.ireturn, 1) := kq_172 byq_r (by decide +kernel)
theorem d_Top_count_108 : decode b_Top_count 108 = .ok (.aload_n 0, 1) := kq_42 byq_r (by decide +kernel)
theorem d_Top_count_109 : decode b_Top_count 109 = .ok (.getfield 26, 3) := kq_180 byq_r (a := 0) (b := 26) (by decide +kernel)
theorem d_Top_count_112 : decode b_Top_count 112 = .ok (.getfield 374, 3) := kq_180 byq_r (a := 1) (b := 118) (by decide +kernel)
theorem d_Top_count_115 : decode b_Top_count 115 = .ok (.ireturn, 1) := kq_172 byq_r (by decide +kernel)
theorem d_Top_count_116 : decode b_Top_count 116 = .ok (.aload_n 0, 1) := kq_42 byq_r (by decide +kernel)
theorem d_Top_count_117 : decode b_Top_count 117 = .ok (.getfield 33, 3) := kq_180 byq_r (a := 0) (b := 33) (by decide +kernel)
theorem d_Top_count_120 : decode b_Top_count 120 = .ok (.getfield 197, 3) := kq_180 byq_r (a := 0) (b := 197) (by decide +kernel)
theorem d_Top_count_123 : decode b_Top_count 123 = .ok (.ireturn, 1) := kq_172 byq_r (by decide +kernel)
theorem d_Top_count_124 : decode b_Top_count 124 = .ok (.aload_n 0, 1) := kq_42 byq_r (by decide +kernel)
theorem d_Top_count_125 : decode b_Top_count 125 = .ok (.getfield 33, 3) := kq_180 byq_r (a := 0) (b := 33) (by decide +kernel)
theorem d_Top_count_128 : decode b_Top_count 128 = .ok (.getfield 450, 3) := kq_180 byq_r (a := 1) (b := 194) (by decide +kernel)
theorem d_Top_count_131 : decode b_Top_count 131 = .ok (.ireturn, 1) := kq_172 byq_r (by decide +kernel)
theorem d_Top_count_132 : decode b_Top_count 132 = .ok (.aload_n 0, 1) := kq_42 byq_r (by decide +kernel)
theorem d_Top_count_133 : decode b_Top_count 133 = .ok (.getfield 33, 3) := kq_180 byq_r (a := 0) (b := 33) (by decide +kernel)
theorem d_Top_count_136 : decode b_Top_count 136 = .ok (.invokevirtual 453, 3) := kq_182 byq_r (a := 1) (b := 197) (by decide +kernel)
theorem d_Top_count_139 : decode b_Top_count 139 = .ok (.ireturn, 1) := kq_172 byq_r (by decide +kernel)
theorem d_Top_count_140 : decode b_Top_count 140 = .ok (.aload_n 0, 1) := kq_42 byq_r (by decide +kernel)
theorem d_Top_count_141 : decode b_Top_count 141 = .ok (.getfield 103, 3) := kq_180 byq_r (a := 0) (b := 103) (by decide +kernel)
theorem d_Top_count_144 : decode b_Top_count 144 = .ok (.ireturn, 1) := kq_172 byq_r (by decide +kernel)
theorem d_Top_count_145 : decode b_Top_count 145 = .ok (.aload_n 0, 1) := kq_42 byq_r (by decide +kernel)
theorem d_Top_count_146 : decode b_Top_count 146 = .ok (.getfield 70, 3) := kq_180 byq_r (a := 0) (b := 70) (by decide +kernel)
theorem d_Top_count_149 : decode b_Top_count 149 = .ok (.getfield 283, 3) := kq_180 byq_r (a := 1) (b := 27) (by decide +kernel)
theorem d_Top_count_152 : decode b_Top_count 152 = .ok (.ireturn, 1) := kq_172 byq_r (by decide +kernel)
theorem d_Top_count_153 : decode b_Top_count 153 = .ok (.aload_n 0, 1) := kq_42 byq_r (by decide +kernel)
theorem d_Top_count_154 : decode b_Top_count 154 = .ok (.getfield 99, 3) := kq_180 byq_r (a := 0) (b := 99) (by decide +kernel)
theorem d_Top_count_157 : decode b_Top_count 157 = .ok (.ireturn, 1) := kq_172 byq_r (by decide +kernel)
theorem d_Top_count_158 : decode b_Top_count 158 = .ok (.aload_n 0, 1) := kq_42 byq_r (by decide +kernel)
theorem d_Top_count_159 : decode b_Top_count 159 = .ok (.getfield 10, 3) := kq_180 byq_r (a := 0) (b := 10) (by decide +kernel)
theorem d_Top_count_162 : decode b_Top_count 162 = .ok (.getfield 110, 3) := kq_180 byq_r (a := 0) (b := 110) (by decide +kernel)
theorem d_Top_count_165 : decode b_Top_count 165 = .ok (.ireturn, 1) := kq_172 byq_r (by decide +kernel)
theorem d_Top_count_166 : decode b_Top_count 166 = .ok (.bipush (-100), 2) := kq_16 byq_r (b := 156) (by decide +kernel)
theorem d_Top_count_168 : decode b_Top_count 168 = .ok (.ireturn, 1) := kq_172 byq_r (by decide +kernel)
def lb_Top_soonestAtFire_9 (v1 : Int32) (s : Int32 × Int32 × Int32 × Mem) : Option ((Int32 × Int32 × Int32 × Mem) ⊕ ((Int32 × Mem))) :=
  if (s.2.2.2.1 6 4) ≤ s.2.2.1 then
  some (.inr (s.1, s.2.2.2))
  else
  Option.bind (f_Crowd_woman s.2.2.1 s.2.2.2) fun x1 =>
  if x1 = v1 then
  Option.bind (f_Top_stepsToFire s.2.2.1 s.2.2.2) fun x2 =>
  if s.2.1 ≤ x2.1 then
  some (.inl (s.1, s.2.1, (s.2.2.1 + (1 : Int32)), x2.2))
  else
  Option.bind (f_Top_stepsToFire s.2.2.1 x2.2) fun x3 =>
  some (.inl (s.2.2.1, x3.1, (s.2.2.1 + (1 : Int32)), x3.2))
  else
  some (.inl (s.1, s.2.1, (s.2.2.1 + (1 : Int32)), s.2.2.2))
theorem lb_Top_soonestAtFire_9_ok {E : Ev} {G : Gw} {d : Nat} {post : Int32 → Mem → Prop} (X : Cx E G b_Top_soonestAtFire "WomenByTheRoofs" 5 d (some .int)) (hD : 4 ≤ d)  (v1 : Int32)   (s : Int32 × Int32 × Int32 × Mem) (o : (Int32 × Int32 × Int32 × Mem) ⊕ ((Int32 × Mem))) (h : lb_Top_soonestAtFire_9 v1 s = some o) (kc : ∀ s9 : Int32 × Int32 × Int32 × Mem, o = .inl s9 → V E (0, 0) G 5 (QI E G post) s9.2.2.2 9 [(0, .ref (G.2.2 + 0)), (1, .int v1), (2, .int s9.1), (3, .int s9.2.1), (4, .int s9.2.2.1)] []) (kx0 : ∀ x9 : Int32 × Mem, o = .inr x9 → V E (0, 0) G 5 (QI E G post) x9.2 60 [(2, .int x9.1)] []) : V E (0, 0) G 5 (QI E G post) s.2.2.2 9 [(0, .ref (G.2.2 + 0)), (1, .int v1), (2, .int s.1), (3, .int s.2.1), (4, .int s.2.2.1)] [] := by
  unfold lb_Top_soonestAtFire_9 at h
  refine V_iload (n := 4) X d_Top_soonestAtFire_9 rfl rfl ?_
  refine V_aload_n (n := 0) X d_Top_soonestAtFire_11 rfl rfl rfl ?_
  refine V_getr (k2 := 6) X fo_Top_26 kd_0 rfl rf_0_2 d_Top_soonestAtFire_12 rfl ?_
  refine V_geti X fo_Top_129 kd_6 rfl d_Top_soonestAtFire_15 rfl ?_
  refine V_icmp_ge (tgt := 60) X d_Top_soonestAtFire_18 (by decide) rfl (fun c6 => ?_) (fun c6 => ?_)
  · rw [if_pos c6] at h
    refine V_sub (lv' := [(2, .int s.1)]) [2] rfl ?_
    exact kx0 (s.1, s.2.2.2) (Option.some.inj h).symm
  · rw [if_neg c6] at h
    refine V_aload_n (n := 0) X d_Top_soonestAtFire_21 rfl rfl rfl ?_
    refine V_getr (k2 := 6) X fo_Top_26 kd_0 rfl rf_0_2 d_Top_soonestAtFire_22 rfl ?_
    refine V_iload (n := 4) X d_Top_soonestAtFire_25 rfl rfl ?_
    obtain ⟨x1, hx1, h⟩ := ob_s h
    refine V_ci (As := [.int s.2.2.1]) X (Z0 E) ml_Top_139 yq_Crowd_woman (c_Crowd_woman E.2.1 G s.2.2.1 s.2.2.2 x1 hx1 _ (Nat.le_refl _)) kd_6 rfl rfl (by omega) rfl (Nat.le_of_ble_eq_true rfl) d_Top_soonestAtFire_27 rfl (fun r9 M9 hq => ?_)
    rw [hq.1, hq.2]
    refine V_iload_n (n := 1) X d_Top_soonestAtFire_30 rfl rfl rfl ?_
    refine V_icmp_ne (tgt := 54) X d_Top_soonestAtFire_31 (by decide) rfl (fun c5 => ?_) (fun c5 => ?_)
    · rw [if_neg c5] at h
      refine V_iinc (n := 4) (v := (s.2.2.1 + (1 : Int32))) (lv' := [(4, .int (s.2.2.1 + (1 : Int32))), (0, .ref (G.2.2 + 0)), (1, .int v1), (2, .int s.1), (3, .int s.2.1)]) X d_Top_soonestAtFire_54 rfl rfl (by decide) rfl rfl ?_
      refine V_goto (pc' := 9) X d_Top_soonestAtFire_57 (by decide) ?_
      refine V_sub (lv' := [(0, .ref (G.2.2 + 0)), (1, .int v1), (2, .int s.1), (3, .int s.2.1), (4, .int (s.2.2.1 + (1 : Int32)))]) [1, 2, 3, 4, 0] rfl ?_
      exact kc (s.1, s.2.1, (s.2.2.1 + (1 : Int32)), s.2.2.2) (Option.some.inj h).symm
    · rw [if_pos c5] at h
      refine V_aload_n (n := 0) X d_Top_soonestAtFire_34 rfl rfl rfl ?_
      refine V_iload (n := 4) X d_Top_soonestAtFire_35 rfl rfl ?_
      obtain ⟨x2, hx2, h⟩ := ob_s h
      refine V_ci (As := [.int s.2.2.1]) X (Z0 E) ml_Top_371 yq_Top_stepsToFire (c_Top_stepsToFire E.2.1 G s.2.2.1 s.2.2.2 x2 hx2 _ (Nat.le_refl _)) kd_0 rfl rfl (by omega) rfl (Nat.le_of_ble_eq_true rfl) d_Top_soonestAtFire_37 rfl (fun r9 M9 hq => ?_)
      rw [hq.1, hq.2]
      refine V_iload_n (n := 3) X d_Top_soonestAtFire_40 rfl rfl rfl ?_
      refine V_icmp_ge (tgt := 54) X d_Top_soonestAtFire_41 (by decide) rfl (fun c4 => ?_) (fun c4 => ?_)
      · rw [if_pos c4] at h
        refine V_iinc (n := 4) (v := (s.2.2.1 + (1 : Int32))) (lv' := [(4, .int (s.2.2.1 + (1 : Int32))), (0, .ref (G.2.2 + 0)), (1, .int v1), (2, .int s.1), (3, .int s.2.1)]) X d_Top_soonestAtFire_54 rfl rfl (by decide) rfl rfl ?_
        refine V_goto (pc' := 9) X d_Top_soonestAtFire_57 (by decide) ?_
        refine V_sub (lv' := [(0, .ref (G.2.2 + 0)), (1, .int v1), (2, .int s.1), (3, .int s.2.1), (4, .int (s.2.2.1 + (1 : Int32)))]) [1, 2, 3, 4, 0] rfl ?_
        exact kc (s.1, s.2.1, (s.2.2.1 + (1 : Int32)), x2.2) (Option.some.inj h).symm
      · rw [if_neg c4] at h
        refine V_aload_n (n := 0) X d_Top_soonestAtFire_44 rfl rfl rfl ?_
        refine V_iload (n := 4) X d_Top_soonestAtFire_45 rfl rfl ?_
        obtain ⟨x3, hx3, h⟩ := ob_s h
        refine V_ci (As := [.int s.2.2.1]) X (Z0 E) ml_Top_371 yq_Top_stepsToFire (c_Top_stepsToFire E.2.1 G s.2.2.1 x2.2 x3 hx3 _ (Nat.le_refl _)) kd_0 rfl rfl (by omega) rfl (Nat.le_of_ble_eq_true rfl) d_Top_soonestAtFire_47 rfl (fun r9 M9 hq => ?_)
        rw [hq.1, hq.2]
        refine V_istore_n (lv' := [(3, .int x3.1), (0, .ref (G.2.2 + 0)), (1, .int v1), (2, .int s.1), (4, .int s.2.2.1)]) X d_Top_soonestAtFire_50 rfl (by decide) rfl rfl ?_
        refine V_iload (n := 4) X d_Top_soonestAtFire_51 rfl rfl ?_
        refine V_istore_n (lv' := [(2, .int s.2.2.1), (3, .int x3.1), (0, .ref (G.2.2 + 0)), (1, .int v1), (4, .int s.2.2.1)]) X d_Top_soonestAtFire_53 rfl (by decide) rfl rfl ?_
        refine V_iinc (n := 4) (v := (s.2.2.1 + (1 : Int32))) (lv' := [(4, .int (s.2.2.1 + (1 : Int32))), (2, .int s.2.2.1), (3, .int x3.1), (0, .ref (G.2.2 + 0)), (1, .int v1)]) X d_Top_soonestAtFire_54 rfl rfl (by decide) rfl rfl ?_
        refine V_goto (pc' := 9) X d_Top_soonestAtFire_57 (by decide) ?_
        refine V_sub (lv' := [(0, .ref (G.2.2 + 0)), (1, .int v1), (2, .int s.2.2.1), (3, .int x3.1), (4, .int (s.2.2.1 + (1 : Int32)))]) [3, 4, 1, 2, 0] rfl ?_
        exact kc (s.2.2.1, x3.1, (s.2.2.1 + (1 : Int32)), x3.2) (Option.some.inj h).symm
theorem lp_Top_soonestAtFire_9_ok {E : Ev} {G : Gw} {d : Nat} {post : Int32 → Mem → Prop} (X : Cx E G b_Top_soonestAtFire "WomenByTheRoofs" 5 d (some .int)) (hD : 4 ≤ d)  (v1 : Int32)   (n9 : Nat) (s : Int32 × Int32 × Int32 × Mem) (x : (Int32 × Mem)) (h : iter (lb_Top_soonestAtFire_9 v1) n9 s = some x) (kx0 : ∀ x9 : Int32 × Mem, x = x9 → V E (0, 0) G 5 (QI E G post) x9.2 60 [(2, .int x9.1)] []) : V E (0, 0) G 5 (QI E G post) s.2.2.2 9 [(0, .ref (G.2.2 + 0)), (1, .int v1), (2, .int s.1), (3, .int s.2.1), (4, .int s.2.2.1)] [] :=
  iter_P (P := fun s : Int32 × Int32 × Int32 × Mem => V E (0, 0) G 5 (QI E G post) s.2.2.2 9 [(0, .ref (G.2.2 + 0)), (1, .int v1), (2, .int s.1), (3, .int s.2.1), (4, .int s.2.2.1)] []) (fun s o hb kc ky => lb_Top_soonestAtFire_9_ok X hD v1 s o hb kc (fun x9 e9 => kx0 x9 (ky _ e9).symm)) n9 s h
def f_Top_soonestAtFire (v1 : Int32) (M : Mem) : Option (Int32 × Mem) :=
  Option.bind (iter (lb_Top_soonestAtFire_9 v1) FU ((-1 : Int32), (1000000 : Int32), (0 : Int32), M)) fun x7 =>
  some (x7.1, x7.2)
theorem c_Top_soonestAtFire (l : Launch) (G : Gw)  (v1 : Int32) (M : Mem) (x : Int32 × Mem) (h : f_Top_soonestAtFire v1 M = some x) (d : Nat) (hD : 4 ≤ d) : Ci l G y_Top_soonestAtFire b_Top_soonestAtFire 5 (some .int) d [.ref (G.2.2 + 0), .int v1] M (fun r9 M9 => r9 = x.1 ∧ M9 = x.2) := by
  refine Ci_of (by decide) (Nat.le_of_ble_eq_true rfl) (fun E hE X => ?_)
  subst hE
  have kr : ∀ x9 : Int32 × Mem, x = x9 → (fun r9 M9 => r9 = x.1 ∧ M9 = x.2) x9.1 x9.2 := fun x9 e9 => by subst e9; exact ⟨rfl, rfl⟩
  unfold f_Top_soonestAtFire at h
  refine V_iconst (v := -1) X d_Top_soonestAtFire_0 (by decide) rfl ?_
  refine V_istore_n (lv' := [(2, .int (-1 : Int32)), (0, .ref (G.2.2 + 0)), (1, .int v1)]) X d_Top_soonestAtFire_1 rfl (by decide) rfl rfl ?_
  refine V_ldc_w (v := 1000000) X d_Top_soonestAtFire_2 kc_Top_319 rfl ?_
  refine V_istore_n (lv' := [(3, .int (1000000 : Int32)), (2, .int (-1 : Int32)), (0, .ref (G.2.2 + 0)), (1, .int v1)]) X d_Top_soonestAtFire_5 rfl (by decide) rfl rfl ?_
  refine V_iconst (v := 0) X d_Top_soonestAtFire_6 (by decide) rfl ?_
  refine V_istore (lv' := [(4, .int (0 : Int32)), (3, .int (1000000 : Int32)), (2, .int (-1 : Int32)), (0, .ref (G.2.2 + 0)), (1, .int v1)]) X d_Top_soonestAtFire_7 (by decide) rfl rfl ?_
  refine V_sub (lv' := [(0, .ref (G.2.2 + 0)), (1, .int v1), (2, .int (-1 : Int32)), (3, .int (1000000 : Int32)), (4, .int (0 : Int32))]) [3, 4, 2, 1, 0] rfl ?_
  obtain ⟨x7, hx7, h⟩ := ob_s h
  refine (lp_Top_soonestAtFire_9_ok X hD v1 _ _ _ hx7 (fun x9 e9 => ?_) :)
  subst e9
  refine V_iload_n (n := 0) X d_Top_soonestAtFire_60 rfl rfl rfl ?_
  exact V_iret X (kr (x7.1, x7.2) (Option.some.inj h).symm) d_Top_soonestAtFire_61
def f_Top_saved (M : Mem) : Option (Int32 × Mem) :=
  if (M.1 0 16) = (-1 : Int32) then
  some ((-2 : Int32), M)
  else
  Option.bind (f_Top_soonestAtFire (0 : Int32) M) fun x1 =>
  Option.bind (f_Top_soonestAtFire (1 : Int32) x1.2) fun x2 =>
  if x1.1 = (-1 : Int32) then
  some ((-2 : Int32), x2.2)
  else
  if x2.1 = (-1 : Int32) then
  some ((-2 : Int32), x2.2)
  else
  Option.bind (f_Top_emptyRow x2.2) fun x3 =>
  Option.bind (f_Top_note x1.1 x3) fun x4 =>
  Option.bind (f_Top_note x2.1 x4) fun x5 =>
  Option.bind (f_Top_stepsToFire x1.1 x5) fun x6 =>
  Option.bind (f_Top_stepsToFire x2.1 x6.2) fun x7 =>
  some ((if x6.1 < x7.1 then x7.1 else x6.1), x7.2)
theorem c_Top_saved (l : Launch) (G : Gw)   (M : Mem) (x : Int32 × Mem) (h : f_Top_saved M = some x) (d : Nat) (hD : 5 ≤ d) : Ci l G y_Top_saved b_Top_saved 3 (some .int) d [.ref (G.2.2 + 0)] M (fun r9 M9 => r9 = x.1 ∧ M9 = x.2) := by
  refine Ci_of (by decide) (Nat.le_of_ble_eq_true rfl) (fun E hE X => ?_)
  subst hE
  have kr : ∀ x9 : Int32 × Mem, x = x9 → (fun r9 M9 => r9 = x.1 ∧ M9 = x.2) x9.1 x9.2 := fun x9 e9 => by subst e9; exact ⟨rfl, rfl⟩
  unfold f_Top_saved at h
  refine V_aload_n (n := 0) X d_Top_saved_0 rfl rfl rfl ?_
  refine V_geti X fo_Top_103 kd_0 rfl d_Top_saved_1 rfl ?_
  refine V_iconst (v := -1) X d_Top_saved_4 (by decide) rfl ?_
  refine V_icmp_ne (tgt := 11) X d_Top_saved_5 (by decide) rfl (fun c10 => ?_) (fun c10 => ?_)
  · rw [if_neg c10] at h
    refine V_aload_n (n := 0) X d_Top_saved_11 rfl rfl rfl ?_
    refine V_iconst (v := 0) X d_Top_saved_12 (by decide) rfl ?_
    obtain ⟨x1, hx1, h⟩ := ob_s h
    refine V_ci (As := [.int (0 : Int32)]) X (Z0 E) ml_Top_377 yq_Top_soonestAtFire (c_Top_soonestAtFire E.2.1 G (0 : Int32) M x1 hx1 _ (Nat.le_refl _)) kd_0 rfl rfl (by omega) rfl (Nat.le_of_ble_eq_true rfl) d_Top_saved_13 rfl (fun r9 M9 hq => ?_)
    rw [hq.1, hq.2]
    refine V_istore_n (lv' := [(1, .int x1.1), (0, .ref (G.2.2 + 0))]) X d_Top_saved_16 rfl (by decide) rfl rfl ?_
    refine V_aload_n (n := 1) X d_Top_saved_17 rfl rfl rfl ?_
    refine V_iconst (v := 1) X d_Top_saved_18 (by decide) rfl ?_
    obtain ⟨x2, hx2, h⟩ := ob_s h
    refine V_ci (As := [.int (1 : Int32)]) X (Z0 E) ml_Top_377 yq_Top_soonestAtFire (c_Top_soonestAtFire E.2.1 G (1 : Int32) x1.2 x2 hx2 _ (Nat.le_refl _)) kd_0 rfl rfl (by omega) rfl (Nat.le_of_ble_eq_true rfl) d_Top_saved_19 rfl (fun r9 M9 hq => ?_)
    rw [hq.1, hq.2]
    refine V_istore_n (lv' := [(2, .int x2.1), (1, .int x1.1), (0, .ref (G.2.2 + 0))]) X d_Top_saved_22 rfl (by decide) rfl rfl ?_
    refine V_iload_n (n := 1) X d_Top_saved_23 rfl rfl rfl ?_
    refine V_iconst (v := -1) X d_Top_saved_24 (by decide) rfl ?_
    refine V_icmp_eq (tgt := 33) X d_Top_saved_25 (by decide) rfl (fun c9 => ?_) (fun c9 => ?_)
    · rw [if_pos c9] at h
      refine V_bipush (v := -2) X d_Top_saved_33 (by decide) rfl ?_
      exact V_iret X (kr ((-2 : Int32), x2.2) (Option.some.inj h).symm) d_Top_saved_35
    · rw [if_neg c9] at h
      refine V_iload_n (n := 0) X d_Top_saved_28 rfl rfl rfl ?_
      refine V_iconst (v := -1) X d_Top_saved_29 (by decide) rfl ?_
      refine V_icmp_ne (tgt := 36) X d_Top_saved_30 (by decide) rfl (fun c8 => ?_) (fun c8 => ?_)
      · rw [if_neg c8] at h
        refine V_aload_n (n := 2) X d_Top_saved_36 rfl rfl rfl ?_
        obtain ⟨x3, hx3, h⟩ := ob_s h
        refine V_cv (As := []) X (Z0 E) ml_Top_251 yq_Top_emptyRow (c_Top_emptyRow E.2.1 G  x2.2 x3 hx3 _ (Nat.le_refl _)) kd_0 rfl rfl (by omega) rfl (Nat.le_of_ble_eq_true rfl) d_Top_saved_37 rfl (fun M9 hq => ?_)
        rw [hq]
        refine V_aload_n (n := 2) X d_Top_saved_40 rfl rfl rfl ?_
        refine V_iload_n (n := 1) X d_Top_saved_41 rfl rfl rfl ?_
        obtain ⟨x4, hx4, h⟩ := ob_s h
        refine V_cv (As := [.int x1.1]) X (Z0 E) ml_Top_257 yq_Top_note (c_Top_note E.2.1 G x1.1 x3 x4 hx4 _ (Nat.le_refl _)) kd_0 rfl rfl (by omega) rfl (Nat.le_of_ble_eq_true rfl) d_Top_saved_42 rfl (fun M9 hq => ?_)
        rw [hq]
        refine V_aload_n (n := 2) X d_Top_saved_45 rfl rfl rfl ?_
        refine V_iload_n (n := 0) X d_Top_saved_46 rfl rfl rfl ?_
        obtain ⟨x5, hx5, h⟩ := ob_s h
        refine V_cv (As := [.int x2.1]) X (Z0 E) ml_Top_257 yq_Top_note (c_Top_note E.2.1 G x2.1 x4 x5 hx5 _ (Nat.le_refl _)) kd_0 rfl rfl (by omega) rfl (Nat.le_of_ble_eq_true rfl) d_Top_saved_47 rfl (fun M9 hq => ?_)
        rw [hq]
        refine V_aload_n (n := 2) X d_Top_saved_50 rfl rfl rfl ?_
        refine V_iload_n (n := 1) X d_Top_saved_51 rfl rfl rfl ?_
        obtain ⟨x6, hx6, h⟩ := ob_s h
        refine V_ci (As := [.int x1.1]) X (Z0 E) ml_Top_371 yq_Top_stepsToFire (c_Top_stepsToFire E.2.1 G x1.1 x5 x6 hx6 _ (Nat.le_refl _)) kd_0 rfl rfl (by omega) rfl (Nat.le_of_ble_eq_true rfl) d_Top_saved_52 rfl (fun r9 M9 hq => ?_)
        rw [hq.1, hq.2]
        refine V_aload_n (n := 2) X d_Top_saved_55 rfl rfl rfl ?_
        refine V_iload_n (n := 0) X d_Top_saved_56 rfl rfl rfl ?_
        obtain ⟨x7, hx7, h⟩ := ob_s h
        refine V_ci (As := [.int x2.1]) X (Z0 E) ml_Top_371 yq_Top_stepsToFire (c_Top_stepsToFire E.2.1 G x2.1 x6.2 x7 hx7 _ (Nat.le_refl _)) kd_0 rfl rfl (by omega) rfl (Nat.le_of_ble_eq_true rfl) d_Top_saved_57 rfl (fun r9 M9 hq => ?_)
        rw [hq.1, hq.2]
        refine V_mmax X (Z0 E) mm_Top_381 (by omega) (Nat.le_of_ble_eq_true rfl) d_Top_saved_60 rfl ?_
        exact V_iret X (kr ((if x6.1 < x7.1 then x7.1 else x6.1), x7.2) (Option.some.inj h).symm) d_Top_saved_63
      · rw [if_pos c8] at h
        refine V_bipush (v := -2) X d_Top_saved_33 (by decide) rfl ?_
        exact V_iret X (kr ((-2 : Int32), x2.2) (Option.some.inj h).symm) d_Top_saved_35
  · rw [if_pos c10] at h
    refine V_bipush (v := -2) X d_Top_saved_8 (by decide) rfl ?_
    exact V_iret X (kr ((-2 : Int32), M) (Option.some.inj h).symm) d_Top_saved_10
def lb_Top_wardrobe_71 (v4 : Int32) (s : Int32 × Int32 × Mem) : Option ((Int32 × Int32 × Mem) ⊕ ((Mem))) :=
  if v4 ≤ s.2.1 then
  some (.inr s.2.2)
  else
  if (10 : Int32) ≤ s.2.1 then
  some (.inr s.2.2)
  else
  if s.1 = (-1 : Int32) then
  some (.inr s.2.2)
  else
  Option.bind (f_Ways_pairNearer s.1 s.2.2) fun x5 =>
  Option.bind (f_Top_note (((x5 / (5 : Int32)) * (10 : Int32)) + (x5 - x5 / (5 : Int32) * (5 : Int32))) s.2.2) fun x6 =>
  Option.bind (f_Ways_pairAfter s.1 x5 x6) fun x7 =>
  some (.inl (x7, (s.2.1 + (1 : Int32)), x6))
theorem lb_Top_wardrobe_71_ok {E : Ev} {G : Gw} {d : Nat} {post : Int32 → Mem → Prop} (X : Cx E G b_Top_wardrobe "WomenByTheRoofs" 7 d (some .int)) (hD : 5 ≤ d)  (v4 : Int32)   (s : Int32 × Int32 × Mem) (o : (Int32 × Int32 × Mem) ⊕ ((Mem))) (h : lb_Top_wardrobe_71 v4 s = some o) (kc : ∀ s9 : Int32 × Int32 × Mem, o = .inl s9 → V E (0, 0) G 7 (QI E G post) s9.2.2 71 [(0, .ref (G.2.2 + 0)), (3, .int s9.1), (4, .int v4), (5, .int s9.2.1)] []) (kx0 : ∀ x9 : Mem, o = .inr x9 → V E (0, 0) G 7 (QI E G post) x9 141 [(4, .int v4)] []) : V E (0, 0) G 7 (QI E G post) s.2.2 71 [(0, .ref (G.2.2 + 0)), (3, .int s.1), (4, .int v4), (5, .int s.2.1)] [] := by
  unfold lb_Top_wardrobe_71 at h
  refine V_iload (n := 3) X d_Top_wardrobe_71 rfl rfl ?_
  refine V_iload (n := 2) X d_Top_wardrobe_73 rfl rfl ?_
  refine V_icmp_ge (tgt := 141) X d_Top_wardrobe_75 (by decide) rfl (fun c10 => ?_) (fun c10 => ?_)
  · rw [if_pos c10] at h
    refine V_sub (lv' := [(4, .int v4)]) [2] rfl ?_
    exact kx0 s.2.2 (Option.some.inj h).symm
  · rw [if_neg c10] at h
    refine V_iload (n := 3) X d_Top_wardrobe_78 rfl rfl ?_
    refine V_bipush (v := 10) X d_Top_wardrobe_80 (by decide) rfl ?_
    refine V_icmp_ge (tgt := 141) X d_Top_wardrobe_82 (by decide) rfl (fun c9 => ?_) (fun c9 => ?_)
    · rw [if_pos c9] at h
      refine V_sub (lv' := [(4, .int v4)]) [2] rfl ?_
      exact kx0 s.2.2 (Option.some.inj h).symm
    · rw [if_neg c9] at h
      refine V_iload_n (n := 1) X d_Top_wardrobe_85 rfl rfl rfl ?_
      refine V_iconst (v := -1) X d_Top_wardrobe_86 (by decide) rfl ?_
      refine V_icmp_eq (tgt := 141) X d_Top_wardrobe_87 (by decide) rfl (fun c8 => ?_) (fun c8 => ?_)
      · rw [if_pos c8] at h
        refine V_sub (lv' := [(4, .int v4)]) [2] rfl ?_
        exact kx0 s.2.2 (Option.some.inj h).symm
      · rw [if_neg c8] at h
        refine V_aload_n (n := 0) X d_Top_wardrobe_90 rfl rfl rfl ?_
        refine V_getr (k2 := 154) X fo_Top_91 kd_0 rfl rf_0_13 d_Top_wardrobe_91 rfl ?_
        refine V_aload_n (n := 0) X d_Top_wardrobe_94 rfl rfl rfl ?_
        refine V_getr (k2 := 3) X fo_Top_19 kd_0 rfl rf_0_1 d_Top_wardrobe_95 rfl ?_
        refine V_iload_n (n := 1) X d_Top_wardrobe_98 rfl rfl rfl ?_
        obtain ⟨x5, hx5, h⟩ := ob_s h
        refine V_ci (As := [.ref (G.2.2 + 3), .int s.1]) X (Z0 E) ml_Top_393 yq_Ways_pairNearer (c_Ways_pairNearer E.2.1 G s.1 s.2.2 x5 hx5 _ (Nat.le_refl _)) kd_154 rfl rfl (by omega) rfl (Nat.le_of_ble_eq_true rfl) d_Top_wardrobe_99 rfl (fun r9 M9 hq => ?_)
        rw [hq.1, hq.2]
        refine V_istore (lv' := [(6, .int x5), (0, .ref (G.2.2 + 0)), (3, .int s.1), (4, .int v4), (5, .int s.2.1)]) X d_Top_wardrobe_102 (by decide) rfl rfl ?_
        refine V_aload_n (n := 1) X d_Top_wardrobe_104 rfl rfl rfl ?_
        refine V_iload (n := 0) X d_Top_wardrobe_105 rfl rfl ?_
        refine V_iconst (v := 5) X d_Top_wardrobe_107 (by decide) rfl ?_
        refine V_idiv X d_Top_wardrobe_108 (by decide) rfl ?_
        refine V_bipush (v := 10) X d_Top_wardrobe_109 (by decide) rfl ?_
        refine V_imul X d_Top_wardrobe_111 rfl ?_
        refine V_iload (n := 0) X d_Top_wardrobe_112 rfl rfl ?_
        refine V_iconst (v := 5) X d_Top_wardrobe_114 (by decide) rfl ?_
        refine V_irem X d_Top_wardrobe_115 (by decide) rfl ?_
        refine V_iadd X d_Top_wardrobe_116 rfl ?_
        obtain ⟨x6, hx6, h⟩ := ob_s h
        refine V_cv (As := [.int (((x5 / (5 : Int32)) * (10 : Int32)) + (x5 - x5 / (5 : Int32) * (5 : Int32)))]) X (Z0 E) ml_Top_257 yq_Top_note (c_Top_note E.2.1 G (((x5 / (5 : Int32)) * (10 : Int32)) + (x5 - x5 / (5 : Int32) * (5 : Int32))) s.2.2 x6 hx6 _ (Nat.le_refl _)) kd_0 rfl rfl (by omega) rfl (Nat.le_of_ble_eq_true rfl) d_Top_wardrobe_117 rfl (fun M9 hq => ?_)
        rw [hq]
        refine V_aload_n (n := 1) X d_Top_wardrobe_120 rfl rfl rfl ?_
        refine V_getr (k2 := 154) X fo_Top_91 kd_0 rfl rf_0_13 d_Top_wardrobe_121 rfl ?_
        refine V_aload_n (n := 1) X d_Top_wardrobe_124 rfl rfl rfl ?_
        refine V_getr (k2 := 3) X fo_Top_19 kd_0 rfl rf_0_1 d_Top_wardrobe_125 rfl ?_
        refine V_iload_n (n := 2) X d_Top_wardrobe_128 rfl rfl rfl ?_
        refine V_iload (n := 0) X d_Top_wardrobe_129 rfl rfl ?_
        obtain ⟨x7, hx7, h⟩ := ob_s h
        refine V_ci (As := [.ref (G.2.2 + 3), .int s.1, .int x5]) X (Z0 E) ml_Top_397 yq_Ways_pairAfter (c_Ways_pairAfter E.2.1 G s.1 x5 x6 x7 hx7 _ (Nat.le_refl _)) kd_154 rfl rfl (by omega) rfl (Nat.le_of_ble_eq_true rfl) d_Top_wardrobe_131 rfl (fun r9 M9 hq => ?_)
        rw [hq.1, hq.2]
        refine V_istore_n (lv' := [(3, .int x7), (6, .int x5), (0, .ref (G.2.2 + 0)), (4, .int v4), (5, .int s.2.1)]) X d_Top_wardrobe_134 rfl (by decide) rfl rfl ?_
        refine V_iinc (n := 4) (v := (s.2.1 + (1 : Int32))) (lv' := [(5, .int (s.2.1 + (1 : Int32))), (3, .int x7), (6, .int x5), (0, .ref (G.2.2 + 0)), (4, .int v4)]) X d_Top_wardrobe_135 rfl rfl (by decide) rfl rfl ?_
        refine V_goto (pc' := 71) X d_Top_wardrobe_138 (by decide) ?_
        refine V_sub (lv' := [(0, .ref (G.2.2 + 0)), (3, .int x7), (4, .int v4), (5, .int (s.2.1 + (1 : Int32)))]) [3, 1, 4, 0] rfl ?_
        exact kc (x7, (s.2.1 + (1 : Int32)), x6) (Option.some.inj h).symm
theorem lp_Top_wardrobe_71_ok {E : Ev} {G : Gw} {d : Nat} {post : Int32 → Mem → Prop} (X : Cx E G b_Top_wardrobe "WomenByTheRoofs" 7 d (some .int)) (hD : 5 ≤ d)  (v4 : Int32)   (n9 : Nat) (s : Int32 × Int32 × Mem) (x : (Mem)) (h : iter (lb_Top_wardrobe_71 v4) n9 s = some x) (kx0 : ∀ x9 : Mem, x = x9 → V E (0, 0) G 7 (QI E G post) x9 141 [(4, .int v4)] []) : V E (0, 0) G 7 (QI E G post) s.2.2 71 [(0, .ref (G.2.2 + 0)), (3, .int s.1), (4, .int v4), (5, .int s.2.1)] [] :=
  iter_P (P := fun s : Int32 × Int32 × Mem => V E (0, 0) G 7 (QI E G post) s.2.2 71 [(0, .ref (G.2.2 + 0)), (3, .int s.1), (4, .int v4), (5, .int s.2.1)] []) (fun s o hb kc ky => lb_Top_wardrobe_71_ok X hD v4 s o hb kc (fun x9 e9 => kx0 x9 (ky _ e9).symm)) n9 s h
def f_Top_wardrobe (v1 : Int32) (v2 : Int32) (M : Mem) : Option (Int32 × Mem) :=
  Option.bind (f_Ground_isStair v1 M) fun x1 =>
  if x1 = 0 then
  some ((-1 : Int32), M)
  else
  Option.bind (f_Ground_isStair v2 M) fun x2 =>
  if x2 = 0 then
  some ((-1 : Int32), M)
  else
  Option.bind (f_Ways_measurePairs v2 M) fun x3 =>
  if inb ((v1 * (5 : Int32)) + (4 : Int32)) 180 = true then
  if (x3.1 159 ((v1 * (5 : Int32)) + (4 : Int32)).toNatClampNeg) < (1000000 : Int32) then
  Option.bind (f_Top_emptyRow x3) fun x4 =>
  Option.bind (iter (lb_Top_wardrobe_71 (x3.1 159 ((v1 * (5 : Int32)) + (4 : Int32)).toNatClampNeg)) FU (((v1 * (5 : Int32)) + (4 : Int32)), (0 : Int32), x4)) fun x11 =>
  some ((x3.1 159 ((v1 * (5 : Int32)) + (4 : Int32)).toNatClampNeg), x11)
  else
  some ((-2 : Int32), x3)
  else none
theorem c_Top_wardrobe (l : Launch) (G : Gw)  (v1 : Int32) (v2 : Int32) (M : Mem) (x : Int32 × Mem) (h : f_Top_wardrobe v1 v2 M = some x) (d : Nat) (hD : 5 ≤ d) : Ci l G y_Top_wardrobe b_Top_wardrobe 7 (some .int) d [.ref (G.2.2 + 0), .int v1, .int v2] M (fun r9 M9 => r9 = x.1 ∧ M9 = x.2) := by
  refine Ci_of (by decide) (Nat.le_of_ble_eq_true rfl) (fun E hE X => ?_)
  subst hE
  have kr : ∀ x9 : Int32 × Mem, x = x9 → (fun r9 M9 => r9 = x.1 ∧ M9 = x.2) x9.1 x9.2 := fun x9 e9 => by subst e9; exact ⟨rfl, rfl⟩
  unfold f_Top_wardrobe at h
  refine V_aload_n (n := 0) X d_Top_wardrobe_0 rfl rfl rfl ?_
  refine V_getr (k2 := 3) X fo_Top_19 kd_0 rfl rf_0_1 d_Top_wardrobe_1 rfl ?_
  refine V_iload_n (n := 1) X d_Top_wardrobe_4 rfl rfl rfl ?_
  obtain ⟨x1, hx1, h⟩ := ob_s h
  refine V_ci (As := [.int v1]) X (Z0 E) ml_Top_290 yq_Ground_isStair (c_Ground_isStair E.2.1 G v1 M x1 hx1 _ (Nat.le_refl _)) kd_3 rfl rfl (by omega) rfl (Nat.le_of_ble_eq_true rfl) d_Top_wardrobe_5 rfl (fun r9 M9 hq => ?_)
  rw [hq.1, hq.2]
  refine V_if_eq (tgt := 22) X d_Top_wardrobe_8 (by decide) rfl (fun c14 => ?_) (fun c14 => ?_)
  · rw [if_pos c14] at h
    refine V_iconst (v := -1) X d_Top_wardrobe_22 (by decide) rfl ?_
    exact V_iret X (kr ((-1 : Int32), M) (Option.some.inj h).symm) d_Top_wardrobe_23
  · rw [if_neg c14] at h
    refine V_aload_n (n := 0) X d_Top_wardrobe_11 rfl rfl rfl ?_
    refine V_getr (k2 := 3) X fo_Top_19 kd_0 rfl rf_0_1 d_Top_wardrobe_12 rfl ?_
    refine V_iload_n (n := 2) X d_Top_wardrobe_15 rfl rfl rfl ?_
    obtain ⟨x2, hx2, h⟩ := ob_s h
    refine V_ci (As := [.int v2]) X (Z0 E) ml_Top_290 yq_Ground_isStair (c_Ground_isStair E.2.1 G v2 M x2 hx2 _ (Nat.le_refl _)) kd_3 rfl rfl (by omega) rfl (Nat.le_of_ble_eq_true rfl) d_Top_wardrobe_16 rfl (fun r9 M9 hq => ?_)
    rw [hq.1, hq.2]
    refine V_if_ne (tgt := 24) X d_Top_wardrobe_19 (by decide) rfl (fun c13 => ?_) (fun c13 => ?_)
    · rw [if_neg c13] at h
      refine V_aload_n (n := 0) X d_Top_wardrobe_24 rfl rfl rfl ?_
      refine V_getr (k2 := 154) X fo_Top_91 kd_0 rfl rf_0_13 d_Top_wardrobe_25 rfl ?_
      refine V_aload_n (n := 0) X d_Top_wardrobe_28 rfl rfl rfl ?_
      refine V_getr (k2 := 3) X fo_Top_19 kd_0 rfl rf_0_1 d_Top_wardrobe_29 rfl ?_
      refine V_iload_n (n := 2) X d_Top_wardrobe_32 rfl rfl rfl ?_
      obtain ⟨x3, hx3, h⟩ := ob_s h
      refine V_cv (As := [.ref (G.2.2 + 3), .int v2]) X (Z0 E) ml_Top_386 yq_Ways_measurePairs (c_Ways_measurePairs E.2.1 G v2 M x3 hx3 _ (Nat.le_refl _)) kd_154 rfl rfl (by omega) rfl (Nat.le_of_ble_eq_true rfl) d_Top_wardrobe_33 rfl (fun M9 hq => ?_)
      rw [hq]
      refine V_iload_n (n := 1) X d_Top_wardrobe_36 rfl rfl rfl ?_
      refine V_iconst (v := 5) X d_Top_wardrobe_37 (by decide) rfl ?_
      refine V_imul X d_Top_wardrobe_38 rfl ?_
      refine V_iconst (v := 4) X d_Top_wardrobe_39 (by decide) rfl ?_
      refine V_iadd X d_Top_wardrobe_40 rfl ?_
      refine V_istore_n (lv' := [(3, .int ((v1 * (5 : Int32)) + (4 : Int32))), (0, .ref (G.2.2 + 0)), (1, .int v1), (2, .int v2)]) X d_Top_wardrobe_41 rfl (by decide) rfl rfl ?_
      refine V_aload_n (n := 1) X d_Top_wardrobe_42 rfl rfl rfl ?_
      refine V_getr (k2 := 154) X fo_Top_91 kd_0 rfl rf_0_13 d_Top_wardrobe_43 rfl ?_
      refine V_getr (k2 := 159) X fo_Top_390 kd_154 rfl rf_154_4 d_Top_wardrobe_46 rfl ?_
      refine V_iload_n (n := 0) X d_Top_wardrobe_49 rfl rfl rfl ?_
      obtain ⟨hb, h⟩ := ifn h
      refine V_iald X kd_159 (inb_in ln_159 hb) d_Top_wardrobe_50 rfl ?_
      refine V_istore (lv' := [(4, .int (x3.1 159 ((v1 * (5 : Int32)) + (4 : Int32)).toNatClampNeg)), (3, .int ((v1 * (5 : Int32)) + (4 : Int32))), (0, .ref (G.2.2 + 0)), (1, .int v1), (2, .int v2)]) X d_Top_wardrobe_51 (by decide) rfl rfl ?_
      refine V_iload (n := 0) X d_Top_wardrobe_53 rfl rfl ?_
      refine V_ldc_w (v := 1000000) X d_Top_wardrobe_55 kc_Top_319 rfl ?_
      refine V_icmp_lt (tgt := 64) X d_Top_wardrobe_58 (by decide) rfl (fun c12 => ?_) (fun c12 => ?_)
      · rw [if_pos c12] at h
        refine V_aload_n (n := 2) X d_Top_wardrobe_64 rfl rfl rfl ?_
        obtain ⟨x4, hx4, h⟩ := ob_s h
        refine V_cv (As := []) X (Z0 E) ml_Top_251 yq_Top_emptyRow (c_Top_emptyRow E.2.1 G  x3 x4 hx4 _ (Nat.le_refl _)) kd_0 rfl rfl (by omega) rfl (Nat.le_of_ble_eq_true rfl) d_Top_wardrobe_65 rfl (fun M9 hq => ?_)
        rw [hq]
        refine V_iconst (v := 0) X d_Top_wardrobe_68 (by decide) rfl ?_
        refine V_istore (lv' := [(5, .int (0 : Int32)), (4, .int (x3.1 159 ((v1 * (5 : Int32)) + (4 : Int32)).toNatClampNeg)), (3, .int ((v1 * (5 : Int32)) + (4 : Int32))), (0, .ref (G.2.2 + 0)), (1, .int v1), (2, .int v2)]) X d_Top_wardrobe_69 (by decide) rfl rfl ?_
        refine V_sub (lv' := [(0, .ref (G.2.2 + 0)), (3, .int ((v1 * (5 : Int32)) + (4 : Int32))), (4, .int (x3.1 159 ((v1 * (5 : Int32)) + (4 : Int32)).toNatClampNeg)), (5, .int (0 : Int32))]) [3, 2, 1, 0] rfl ?_
        obtain ⟨x11, hx11, h⟩ := ob_s h
        refine (lp_Top_wardrobe_71_ok X hD (x3.1 159 ((v1 * (5 : Int32)) + (4 : Int32)).toNatClampNeg) _ _ _ hx11 (fun x9 e9 => ?_) :)
        subst e9
        refine V_iload (n := 0) X d_Top_wardrobe_141 rfl rfl ?_
        exact V_iret X (kr ((x3.1 159 ((v1 * (5 : Int32)) + (4 : Int32)).toNatClampNeg), x11) (Option.some.inj h).symm) d_Top_wardrobe_143
      · rw [if_neg c12] at h
        refine V_bipush (v := -2) X d_Top_wardrobe_61 (by decide) rfl ?_
        exact V_iret X (kr ((-2 : Int32), x3) (Option.some.inj h).symm) d_Top_wardrobe_63
    · rw [if_pos c13] at h
      refine V_iconst (v := -1) X d_Top_wardrobe_22 (by decide) rfl ?_
      exact V_iret X (kr ((-1 : Int32), M) (Option.some.inj h).symm) d_Top_wardrobe_23
def f_Top_hunt (M : Mem) : Option (Mem) :=
  Option.bind (f_Clock_pass 25 32 M) fun x1 =>
  Option.bind (f_Thief_stir 32 x1) fun x2 =>
  Option.bind (f_Scene_occupied 25 (0 : Int32) (x2.1 6 4) x2) fun x3 =>
  Option.bind (f_Scene_occupied 25 (1 : Int32) (x2.1 6 4) x2) fun x4 =>
  Option.bind (f_Thief_record (0 : Int32) x3 x4 x2) fun x5 =>
  Option.bind (f_Thief_strike (0 : Int32) x5) fun x6 =>
  some x6
theorem c_Top_hunt (l : Launch) (G : Gw)   (M : Mem) (x : Mem) (h : f_Top_hunt M = some x) (d : Nat) (hD : 5 ≤ d) : Cv l G y_Top_hunt b_Top_hunt 1 none d [.ref (G.2.2 + 0)] M (fun M9 => M9 = x) := by
  refine Cv_of (by decide) (Nat.le_of_ble_eq_true rfl) (fun E hE X => ?_)
  subst hE
  have kr : ∀ x9 : Mem, x = x9 → (fun M9 => M9 = x) x9 := fun x9 e9 => by subst e9; exact rfl
  unfold f_Top_hunt at h
  refine V_aload_n (n := 0) X d_Top_hunt_0 rfl rfl rfl ?_
  refine V_getr (k2 := 45) X fo_Top_63 kd_0 rfl rf_0_9 d_Top_hunt_1 rfl ?_
  refine V_aload_n (n := 0) X d_Top_hunt_4 rfl rfl rfl ?_
  refine V_getr (k2 := 25) X fo_Top_40 kd_0 rfl rf_0_5 d_Top_hunt_5 rfl ?_
  refine V_aload_n (n := 0) X d_Top_hunt_8 rfl rfl rfl ?_
  refine V_getr (k2 := 6) X fo_Top_26 kd_0 rfl rf_0_2 d_Top_hunt_9 rfl ?_
  refine V_aload_n (n := 0) X d_Top_hunt_12 rfl rfl rfl ?_
  refine V_getr (k2 := 3) X fo_Top_19 kd_0 rfl rf_0_1 d_Top_hunt_13 rfl ?_
  refine V_aload_n (n := 0) X d_Top_hunt_16 rfl rfl rfl ?_
  refine V_getr (k2 := 40) X fo_Top_56 kd_0 rfl rf_0_8 d_Top_hunt_17 rfl ?_
  refine V_aload_n (n := 0) X d_Top_hunt_20 rfl rfl rfl ?_
  refine V_getr (k2 := 32) X fo_Top_46 kd_0 rfl rf_0_6 d_Top_hunt_21 rfl ?_
  obtain ⟨x1, hx1, h⟩ := ob_s h
  refine V_cv (As := [.ref (G.2.2 + 25), .ref (G.2.2 + 6), .ref (G.2.2 + 3), .ref (G.2.2 + 40), .ref (G.2.2 + 32)]) X (Z0 E) ml_Top_247 yq_Clock_pass (c_Clock_pass E.2.1 G 25 32 M x1 hx1 _ (Nat.le_refl _)) kd_45 rfl rfl (by omega) rfl (Nat.le_of_ble_eq_true rfl) d_Top_hunt_24 rfl (fun M9 hq => ?_)
  rw [hq]
  refine V_aload_n (n := 0) X d_Top_hunt_27 rfl rfl rfl ?_
  refine V_getr (k2 := 151) X fo_Top_84 kd_0 rfl rf_0_12 d_Top_hunt_28 rfl ?_
  refine V_aload_n (n := 0) X d_Top_hunt_31 rfl rfl rfl ?_
  refine V_getr (k2 := 32) X fo_Top_46 kd_0 rfl rf_0_6 d_Top_hunt_32 rfl ?_
  obtain ⟨x2, hx2, h⟩ := ob_s h
  refine V_cv (As := [.ref (G.2.2 + 32)]) X (Z0 E) ml_Top_429 yq_Thief_stir (c_Thief_stir E.2.1 G 32 x1 x2 hx2 _ (Nat.le_refl _)) kd_151 rfl rfl (by omega) rfl (Nat.le_of_ble_eq_true rfl) d_Top_hunt_35 rfl (fun M9 hq => ?_)
  rw [hq]
  refine V_aload_n (n := 0) X d_Top_hunt_38 rfl rfl rfl ?_
  refine V_getr (k2 := 151) X fo_Top_84 kd_0 rfl rf_0_12 d_Top_hunt_39 rfl ?_
  refine V_iconst (v := 0) X d_Top_hunt_42 (by decide) rfl ?_
  refine V_aload_n (n := 0) X d_Top_hunt_43 rfl rfl rfl ?_
  refine V_getr (k2 := 25) X fo_Top_40 kd_0 rfl rf_0_5 d_Top_hunt_44 rfl ?_
  refine V_iconst (v := 0) X d_Top_hunt_47 (by decide) rfl ?_
  refine V_aload_n (n := 0) X d_Top_hunt_48 rfl rfl rfl ?_
  refine V_getr (k2 := 6) X fo_Top_26 kd_0 rfl rf_0_2 d_Top_hunt_49 rfl ?_
  refine V_geti X fo_Top_129 kd_6 rfl d_Top_hunt_52 rfl ?_
  obtain ⟨x3, hx3, h⟩ := ob_s h
  refine V_cl (As := [.int (0 : Int32), .int (x2.1 6 4)]) X (Z0 E) ml_Top_418 yq_Scene_occupied (c_Scene_occupied E.2.1 G 25 (0 : Int32) (x2.1 6 4) x2 x3 hx3 _ (Nat.le_refl _)) kd_25 rfl rfl (by omega) rfl (Nat.le_of_ble_eq_true rfl) d_Top_hunt_55 rfl (fun r9 M9 hq => ?_)
  rw [hq.1, hq.2]
  refine V_aload_n (n := 0) X d_Top_hunt_58 rfl rfl rfl ?_
  refine V_getr (k2 := 25) X fo_Top_40 kd_0 rfl rf_0_5 d_Top_hunt_59 rfl ?_
  refine V_iconst (v := 1) X d_Top_hunt_62 (by decide) rfl ?_
  refine V_aload_n (n := 0) X d_Top_hunt_63 rfl rfl rfl ?_
  refine V_getr (k2 := 6) X fo_Top_26 kd_0 rfl rf_0_2 d_Top_hunt_64 rfl ?_
  refine V_geti X fo_Top_129 kd_6 rfl d_Top_hunt_67 rfl ?_
  obtain ⟨x4, hx4, h⟩ := ob_s h
  refine V_cl (As := [.int (1 : Int32), .int (x2.1 6 4)]) X (Z0 E) ml_Top_418 yq_Scene_occupied (c_Scene_occupied E.2.1 G 25 (1 : Int32) (x2.1 6 4) x2 x4 hx4 _ (Nat.le_refl _)) kd_25 rfl rfl (by omega) rfl (Nat.le_of_ble_eq_true rfl) d_Top_hunt_70 rfl (fun r9 M9 hq => ?_)
  rw [hq.1, hq.2]
  obtain ⟨x5, hx5, h⟩ := ob_s h
  refine V_cv (As := [.int (0 : Int32), .long x3, .long x4]) X (Z0 E) ml_Top_422 yq_Thief_record (c_Thief_record E.2.1 G (0 : Int32) x3 x4 x2 x5 hx5 _ (Nat.le_refl _)) kd_151 rfl rfl (by omega) rfl (Nat.le_of_ble_eq_true rfl) d_Top_hunt_73 rfl (fun M9 hq => ?_)
  rw [hq]
  refine V_aload_n (n := 0) X d_Top_hunt_76 rfl rfl rfl ?_
  refine V_getr (k2 := 151) X fo_Top_84 kd_0 rfl rf_0_12 d_Top_hunt_77 rfl ?_
  refine V_iconst (v := 0) X d_Top_hunt_80 (by decide) rfl ?_
  obtain ⟨x6, hx6, h⟩ := ob_s h
  refine V_cv (As := [.int (0 : Int32)]) X (Z0 E) ml_Top_426 yq_Thief_strike (c_Thief_strike E.2.1 G (0 : Int32) x5 x6 hx6 _ (Nat.le_refl _)) kd_151 rfl rfl (by omega) rfl (Nat.le_of_ble_eq_true rfl) d_Top_hunt_81 rfl (fun M9 hq => ?_)
  rw [hq]
  exact V_vret X (kr x6 (Option.some.inj h).symm) d_Top_hunt_84
def lb_Top_flees_48 (v3 : Int32) (s : Int32 × Mem) : Option ((Int32 × Mem) ⊕ ((Mem))) :=
  if v3 ≤ s.1 then
  some (.inr s.2)
  else
  Option.bind (f_Top_hunt s.2) fun x4 =>
  some (.inl ((s.1 + (1 : Int32)), x4))
theorem lb_Top_flees_48_ok {E : Ev} {G : Gw} {d : Nat} {post : Int32 → Mem → Prop} (X : Cx E G b_Top_flees "WomenByTheRoofs" 5 d (some .int)) (hD : 6 ≤ d)  (v3 : Int32)   (s : Int32 × Mem) (o : (Int32 × Mem) ⊕ ((Mem))) (h : lb_Top_flees_48 v3 s = some o) (kc : ∀ s9 : Int32 × Mem, o = .inl s9 → V E (0, 0) G 5 (QI E G post) s9.2 48 [(0, .ref (G.2.2 + 0)), (3, .int v3), (4, .int s9.1)] []) (kx0 : ∀ x9 : Mem, o = .inr x9 → V E (0, 0) G 5 (QI E G post) x9 64 [(0, .ref (G.2.2 + 0))] []) : V E (0, 0) G 5 (QI E G post) s.2 48 [(0, .ref (G.2.2 + 0)), (3, .int v3), (4, .int s.1)] [] := by
  unfold lb_Top_flees_48 at h
  refine V_iload (n := 2) X d_Top_flees_48 rfl rfl ?_
  refine V_iload_n (n := 1) X d_Top_flees_50 rfl rfl rfl ?_
  refine V_icmp_ge (tgt := 64) X d_Top_flees_51 (by decide) rfl (fun c5 => ?_) (fun c5 => ?_)
  · rw [if_pos c5] at h
    refine V_sub (lv' := [(0, .ref (G.2.2 + 0))]) [0] rfl ?_
    exact kx0 s.2 (Option.some.inj h).symm
  · rw [if_neg c5] at h
    refine V_aload_n (n := 0) X d_Top_flees_54 rfl rfl rfl ?_
    obtain ⟨x4, hx4, h⟩ := ob_s h
    refine V_cv (As := []) X (Z0 E) ml_Top_405 yq_Top_hunt (c_Top_hunt E.2.1 G  s.2 x4 hx4 _ (Nat.le_refl _)) kd_0 rfl rfl (by omega) rfl (Nat.le_of_ble_eq_true rfl) d_Top_flees_55 rfl (fun M9 hq => ?_)
    rw [hq]
    refine V_iinc (n := 2) (v := (s.1 + (1 : Int32))) (lv' := [(4, .int (s.1 + (1 : Int32))), (0, .ref (G.2.2 + 0)), (3, .int v3)]) X d_Top_flees_58 rfl rfl (by decide) rfl rfl ?_
    refine V_goto (pc' := 48) X d_Top_flees_61 (by decide) ?_
    refine V_sub (lv' := [(0, .ref (G.2.2 + 0)), (3, .int v3), (4, .int (s.1 + (1 : Int32)))]) [1, 2, 0] rfl ?_
    exact kc ((s.1 + (1 : Int32)), x4) (Option.some.inj h).symm
theorem lp_Top_flees_48_ok {E : Ev} {G : Gw} {d : Nat} {post : Int32 → Mem → Prop} (X : Cx E G b_Top_flees "WomenByTheRoofs" 5 d (some .int)) (hD : 6 ≤ d)  (v3 : Int32)   (n9 : Nat) (s : Int32 × Mem) (x : (Mem)) (h : iter (lb_Top_flees_48 v3) n9 s = some x) (kx0 : ∀ x9 : Mem, x = x9 → V E (0, 0) G 5 (QI E G post) x9 64 [(0, .ref (G.2.2 + 0))] []) : V E (0, 0) G 5 (QI E G post) s.2 48 [(0, .ref (G.2.2 + 0)), (3, .int v3), (4, .int s.1)] [] :=
  iter_P (P := fun s : Int32 × Mem => V E (0, 0) G 5 (QI E G post) s.2 48 [(0, .ref (G.2.2 + 0)), (3, .int v3), (4, .int s.1)] []) (fun s o hb kc ky => lb_Top_flees_48_ok X hD v3 s o hb kc (fun x9 e9 => kx0 x9 (ky _ e9).symm)) n9 s h
def f_Top_flees (v1 : Int32) (v2 : Int32) (v3 : Int32) (M : Mem) : Option (Int32 × Mem) :=
  Option.bind (f_Ground_holds v2 v1 M) fun x1 =>
  if x1 = 0 then
  some ((-1 : Int32), M)
  else
  if v3 < (1 : Int32) then
  some ((-1 : Int32), M)
  else
  if v3 ≤ (30 : Int32) then
  Option.bind (f_Scene_copy 25 11 M) fun x2 =>
  Option.bind (f_Thief_start v2 v1 x2) fun x3 =>
  Option.bind (iter (lb_Top_flees_48 v3) FU ((0 : Int32), x3)) fun x6 =>
  Option.bind (f_Top_emptyRow x6) fun x7 =>
  Option.bind (f_Top_noteSet (x7.2.1 151 2) x7) fun x8 =>
  Option.bind (f_Top_noteSet (x8.2.1 151 3) x8) fun x9 =>
  Option.bind (f_Thief_gone x9) fun x10 =>
  if x10 = 0 then
  some ((1 : Int32), x9)
  else
  some ((0 : Int32), x9)
  else
  some ((-1 : Int32), M)
theorem c_Top_flees (l : Launch) (G : Gw)  (v1 : Int32) (v2 : Int32) (v3 : Int32) (M : Mem) (x : Int32 × Mem) (h : f_Top_flees v1 v2 v3 M = some x) (d : Nat) (hD : 6 ≤ d) : Ci l G y_Top_flees b_Top_flees 5 (some .int) d [.ref (G.2.2 + 0), .int v1, .int v2, .int v3] M (fun r9 M9 => r9 = x.1 ∧ M9 = x.2) := by
  refine Ci_of (by decide) (Nat.le_of_ble_eq_true rfl) (fun E hE X => ?_)
  subst hE
  have kr : ∀ x9 : Int32 × Mem, x = x9 → (fun r9 M9 => r9 = x.1 ∧ M9 = x.2) x9.1 x9.2 := fun x9 e9 => by subst e9; exact ⟨rfl, rfl⟩
  unfold f_Top_flees at h
  refine V_aload_n (n := 0) X d_Top_flees_0 rfl rfl rfl ?_
  refine V_getr (k2 := 3) X fo_Top_19 kd_0 rfl rf_0_1 d_Top_flees_1 rfl ?_
  refine V_iload_n (n := 2) X d_Top_flees_4 rfl rfl rfl ?_
  refine V_iload_n (n := 1) X d_Top_flees_5 rfl rfl rfl ?_
  obtain ⟨x1, hx1, h⟩ := ob_s h
  refine V_ci (As := [.int v2, .int v1]) X (Z0 E) ml_Top_305 yq_Ground_holds (c_Ground_holds E.2.1 G v2 v1 M x1 hx1 _ (Nat.le_refl _)) kd_3 rfl rfl (by omega) rfl (Nat.le_of_ble_eq_true rfl) d_Top_flees_6 rfl (fun r9 M9 hq => ?_)
  rw [hq.1, hq.2]
  refine V_if_eq (tgt := 23) X d_Top_flees_9 (by decide) rfl (fun c14 => ?_) (fun c14 => ?_)
  · rw [if_pos c14] at h
    refine V_iconst (v := -1) X d_Top_flees_23 (by decide) rfl ?_
    exact V_iret X (kr ((-1 : Int32), M) (Option.some.inj h).symm) d_Top_flees_24
  · rw [if_neg c14] at h
    refine V_iload_n (n := 3) X d_Top_flees_12 rfl rfl rfl ?_
    refine V_iconst (v := 1) X d_Top_flees_13 (by decide) rfl ?_
    refine V_icmp_lt (tgt := 23) X d_Top_flees_14 (by decide) rfl (fun c13 => ?_) (fun c13 => ?_)
    · rw [if_pos c13] at h
      refine V_iconst (v := -1) X d_Top_flees_23 (by decide) rfl ?_
      exact V_iret X (kr ((-1 : Int32), M) (Option.some.inj h).symm) d_Top_flees_24
    · rw [if_neg c13] at h
      refine V_iload_n (n := 3) X d_Top_flees_17 rfl rfl rfl ?_
      refine V_bipush (v := 30) X d_Top_flees_18 (by decide) rfl ?_
      refine V_icmp_le (tgt := 25) X d_Top_flees_20 (by decide) rfl (fun c12 => ?_) (fun c12 => ?_)
      · rw [if_pos c12] at h
        refine V_aload_n (n := 0) X d_Top_flees_25 rfl rfl rfl ?_
        refine V_getr (k2 := 25) X fo_Top_40 kd_0 rfl rf_0_5 d_Top_flees_26 rfl ?_
        refine V_aload_n (n := 0) X d_Top_flees_29 rfl rfl rfl ?_
        refine V_getr (k2 := 11) X fo_Top_33 kd_0 rfl rf_0_3 d_Top_flees_30 rfl ?_
        obtain ⟨x2, hx2, h⟩ := ob_s h
        refine V_cv (As := [.ref (G.2.2 + 11)]) X (Z0 E) ml_Top_211 yq_Scene_copy (c_Scene_copy E.2.1 G 25 11 M x2 hx2 _ (Nat.le_refl _)) kd_25 rfl rfl (by omega) rfl (Nat.le_of_ble_eq_true rfl) d_Top_flees_33 rfl (fun M9 hq => ?_)
        rw [hq]
        refine V_aload_n (n := 0) X d_Top_flees_36 rfl rfl rfl ?_
        refine V_getr (k2 := 151) X fo_Top_84 kd_0 rfl rf_0_12 d_Top_flees_37 rfl ?_
        refine V_iload_n (n := 2) X d_Top_flees_40 rfl rfl rfl ?_
        refine V_iload_n (n := 1) X d_Top_flees_41 rfl rfl rfl ?_
        obtain ⟨x3, hx3, h⟩ := ob_s h
        refine V_cv (As := [.int v2, .int v1]) X (Z0 E) ml_Top_401 yq_Thief_start (c_Thief_start E.2.1 G v2 v1 x2 x3 hx3 _ (Nat.le_refl _)) kd_151 rfl rfl (by omega) rfl (Nat.le_of_ble_eq_true rfl) d_Top_flees_42 rfl (fun M9 hq => ?_)
        rw [hq]
        refine V_iconst (v := 0) X d_Top_flees_45 (by decide) rfl ?_
        refine V_istore (lv' := [(4, .int (0 : Int32)), (0, .ref (G.2.2 + 0)), (1, .int v1), (2, .int v2), (3, .int v3)]) X d_Top_flees_46 (by decide) rfl rfl ?_
        refine V_sub (lv' := [(0, .ref (G.2.2 + 0)), (3, .int v3), (4, .int (0 : Int32))]) [1, 4, 0] rfl ?_
        obtain ⟨x6, hx6, h⟩ := ob_s h
        refine (lp_Top_flees_48_ok X hD v3 _ _ _ hx6 (fun x9 e9 => ?_) :)
        subst e9
        refine V_aload_n (n := 0) X d_Top_flees_64 rfl rfl rfl ?_
        obtain ⟨x7, hx7, h⟩ := ob_s h
        refine V_cv (As := []) X (Z0 E) ml_Top_251 yq_Top_emptyRow (c_Top_emptyRow E.2.1 G  x6 x7 hx7 _ (Nat.le_refl _)) kd_0 rfl rfl (by omega) rfl (Nat.le_of_ble_eq_true rfl) d_Top_flees_65 rfl (fun M9 hq => ?_)
        rw [hq]
        refine V_aload_n (n := 0) X d_Top_flees_68 rfl rfl rfl ?_
        refine V_aload_n (n := 0) X d_Top_flees_69 rfl rfl rfl ?_
        refine V_getr (k2 := 151) X fo_Top_84 kd_0 rfl rf_0_12 d_Top_flees_70 rfl ?_
        refine V_getl X fo_Top_408 kd_151 rfl d_Top_flees_73 rfl ?_
        obtain ⟨x8, hx8, h⟩ := ob_s h
        refine V_cv (As := [.long (x7.2.1 151 2)]) X (Z0 E) ml_Top_308 yq_Top_noteSet (c_Top_noteSet E.2.1 G (x7.2.1 151 2) x7 x8 hx8 _ (Nat.le_refl _)) kd_0 rfl rfl (by omega) rfl (Nat.le_of_ble_eq_true rfl) d_Top_flees_76 rfl (fun M9 hq => ?_)
        rw [hq]
        refine V_aload_n (n := 0) X d_Top_flees_79 rfl rfl rfl ?_
        refine V_aload_n (n := 0) X d_Top_flees_80 rfl rfl rfl ?_
        refine V_getr (k2 := 151) X fo_Top_84 kd_0 rfl rf_0_12 d_Top_flees_81 rfl ?_
        refine V_getl X fo_Top_412 kd_151 rfl d_Top_flees_84 rfl ?_
        obtain ⟨x9, hx9, h⟩ := ob_s h
        refine V_cv (As := [.long (x8.2.1 151 3)]) X (Z0 E) ml_Top_308 yq_Top_noteSet (c_Top_noteSet E.2.1 G (x8.2.1 151 3) x8 x9 hx9 _ (Nat.le_refl _)) kd_0 rfl rfl (by omega) rfl (Nat.le_of_ble_eq_true rfl) d_Top_flees_87 rfl (fun M9 hq => ?_)
        rw [hq]
        refine V_aload_n (n := 0) X d_Top_flees_90 rfl rfl rfl ?_
        refine V_getr (k2 := 151) X fo_Top_84 kd_0 rfl rf_0_12 d_Top_flees_91 rfl ?_
        obtain ⟨x10, hx10, h⟩ := ob_s h
        refine V_ci (As := []) X (Z0 E) ml_Top_415 yq_Thief_gone (c_Thief_gone E.2.1 G  x9 x10 hx10 _ (Nat.le_refl _)) kd_151 rfl rfl (by omega) rfl (Nat.le_of_ble_eq_true rfl) d_Top_flees_94 rfl (fun r9 M9 hq => ?_)
        rw [hq.1, hq.2]
        refine V_if_eq (tgt := 104) X d_Top_flees_97 (by decide) rfl (fun c11 => ?_) (fun c11 => ?_)
        · rw [if_pos c11] at h
          refine V_iconst (v := 1) X d_Top_flees_104 (by decide) rfl ?_
          exact V_iret X (kr ((1 : Int32), x9) (Option.some.inj h).symm) d_Top_flees_105
        · rw [if_neg c11] at h
          refine V_iconst (v := 0) X d_Top_flees_100 (by decide) rfl ?_
          refine V_goto (pc' := 105) X d_Top_flees_101 (by decide) ?_
          exact V_iret X (kr ((0 : Int32), x9) (Option.some.inj h).symm) d_Top_flees_105
      · rw [if_neg c12] at h
        refine V_iconst (v := -1) X d_Top_flees_23 (by decide) rfl ?_
        exact V_iret X (kr ((-1 : Int32), M) (Option.some.inj h).symm) d_Top_flees_24
def lb_Top_lairs_26 (v1 : Int32) (s : Int32 × Mem) : Option ((Int32 × Mem) ⊕ ((Mem))) :=
  if v1 ≤ s.1 then
  some (.inr s.2)
  else
  Option.bind (f_Clock_pass 25 32 s.2) fun x2 =>
  Option.bind (f_Scene_occupied 25 (0 : Int32) (x2.1 6 4) x2) fun x3 =>
  Option.bind (f_Scene_occupied 25 (1 : Int32) (x2.1 6 4) x2) fun x4 =>
  Option.bind (f_Thief_record s.1 x3 x4 x2) fun x5 =>
  some (.inl ((s.1 + (1 : Int32)), x5))
theorem lb_Top_lairs_26_ok {E : Ev} {G : Gw} {d : Nat} {post : Int32 → Mem → Prop} (X : Cx E G b_Top_lairs "WomenByTheRoofs" 3 d (some .int)) (hD : 5 ≤ d)  (v1 : Int32)   (s : Int32 × Mem) (o : (Int32 × Mem) ⊕ ((Mem))) (h : lb_Top_lairs_26 v1 s = some o) (kc : ∀ s9 : Int32 × Mem, o = .inl s9 → V E (0, 0) G 3 (QI E G post) s9.2 26 [(0, .ref (G.2.2 + 0)), (1, .int v1), (2, .int s9.1)] []) (kx0 : ∀ x9 : Mem, o = .inr x9 → V E (0, 0) G 3 (QI E G post) x9 102 [(0, .ref (G.2.2 + 0)), (1, .int v1)] []) : V E (0, 0) G 3 (QI E G post) s.2 26 [(0, .ref (G.2.2 + 0)), (1, .int v1), (2, .int s.1)] [] := by
  unfold lb_Top_lairs_26 at h
  refine V_iload_n (n := 2) X d_Top_lairs_26 rfl rfl rfl ?_
  refine V_iload_n (n := 1) X d_Top_lairs_27 rfl rfl rfl ?_
  refine V_icmp_ge (tgt := 102) X d_Top_lairs_28 (by decide) rfl (fun c6 => ?_) (fun c6 => ?_)
  · rw [if_pos c6] at h
    refine V_sub (lv' := [(0, .ref (G.2.2 + 0)), (1, .int v1)]) [0, 1] rfl ?_
    exact kx0 s.2 (Option.some.inj h).symm
  · rw [if_neg c6] at h
    refine V_aload_n (n := 0) X d_Top_lairs_31 rfl rfl rfl ?_
    refine V_getr (k2 := 45) X fo_Top_63 kd_0 rfl rf_0_9 d_Top_lairs_32 rfl ?_
    refine V_aload_n (n := 0) X d_Top_lairs_35 rfl rfl rfl ?_
    refine V_getr (k2 := 25) X fo_Top_40 kd_0 rfl rf_0_5 d_Top_lairs_36 rfl ?_
    refine V_aload_n (n := 0) X d_Top_lairs_39 rfl rfl rfl ?_
    refine V_getr (k2 := 6) X fo_Top_26 kd_0 rfl rf_0_2 d_Top_lairs_40 rfl ?_
    refine V_aload_n (n := 0) X d_Top_lairs_43 rfl rfl rfl ?_
    refine V_getr (k2 := 3) X fo_Top_19 kd_0 rfl rf_0_1 d_Top_lairs_44 rfl ?_
    refine V_aload_n (n := 0) X d_Top_lairs_47 rfl rfl rfl ?_
    refine V_getr (k2 := 40) X fo_Top_56 kd_0 rfl rf_0_8 d_Top_lairs_48 rfl ?_
    refine V_aload_n (n := 0) X d_Top_lairs_51 rfl rfl rfl ?_
    refine V_getr (k2 := 32) X fo_Top_46 kd_0 rfl rf_0_6 d_Top_lairs_52 rfl ?_
    obtain ⟨x2, hx2, h⟩ := ob_s h
    refine V_cv (As := [.ref (G.2.2 + 25), .ref (G.2.2 + 6), .ref (G.2.2 + 3), .ref (G.2.2 + 40), .ref (G.2.2 + 32)]) X (Z0 E) ml_Top_247 yq_Clock_pass (c_Clock_pass E.2.1 G 25 32 s.2 x2 hx2 _ (Nat.le_refl _)) kd_45 rfl rfl (by omega) rfl (Nat.le_of_ble_eq_true rfl) d_Top_lairs_55 rfl (fun M9 hq => ?_)
    rw [hq]
    refine V_aload_n (n := 0) X d_Top_lairs_58 rfl rfl rfl ?_
    refine V_getr (k2 := 151) X fo_Top_84 kd_0 rfl rf_0_12 d_Top_lairs_59 rfl ?_
    refine V_iload_n (n := 2) X d_Top_lairs_62 rfl rfl rfl ?_
    refine V_aload_n (n := 0) X d_Top_lairs_63 rfl rfl rfl ?_
    refine V_getr (k2 := 25) X fo_Top_40 kd_0 rfl rf_0_5 d_Top_lairs_64 rfl ?_
    refine V_iconst (v := 0) X d_Top_lairs_67 (by decide) rfl ?_
    refine V_aload_n (n := 0) X d_Top_lairs_68 rfl rfl rfl ?_
    refine V_getr (k2 := 6) X fo_Top_26 kd_0 rfl rf_0_2 d_Top_lairs_69 rfl ?_
    refine V_geti X fo_Top_129 kd_6 rfl d_Top_lairs_72 rfl ?_
    obtain ⟨x3, hx3, h⟩ := ob_s h
    refine V_cl (As := [.int (0 : Int32), .int (x2.1 6 4)]) X (Z0 E) ml_Top_418 yq_Scene_occupied (c_Scene_occupied E.2.1 G 25 (0 : Int32) (x2.1 6 4) x2 x3 hx3 _ (Nat.le_refl _)) kd_25 rfl rfl (by omega) rfl (Nat.le_of_ble_eq_true rfl) d_Top_lairs_75 rfl (fun r9 M9 hq => ?_)
    rw [hq.1, hq.2]
    refine V_aload_n (n := 0) X d_Top_lairs_78 rfl rfl rfl ?_
    refine V_getr (k2 := 25) X fo_Top_40 kd_0 rfl rf_0_5 d_Top_lairs_79 rfl ?_
    refine V_iconst (v := 1) X d_Top_lairs_82 (by decide) rfl ?_
    refine V_aload_n (n := 0) X d_Top_lairs_83 rfl rfl rfl ?_
    refine V_getr (k2 := 6) X fo_Top_26 kd_0 rfl rf_0_2 d_Top_lairs_84 rfl ?_
    refine V_geti X fo_Top_129 kd_6 rfl d_Top_lairs_87 rfl ?_
    obtain ⟨x4, hx4, h⟩ := ob_s h
    refine V_cl (As := [.int (1 : Int32), .int (x2.1 6 4)]) X (Z0 E) ml_Top_418 yq_Scene_occupied (c_Scene_occupied E.2.1 G 25 (1 : Int32) (x2.1 6 4) x2 x4 hx4 _ (Nat.le_refl _)) kd_25 rfl rfl (by omega) rfl (Nat.le_of_ble_eq_true rfl) d_Top_lairs_90 rfl (fun r9 M9 hq => ?_)
    rw [hq.1, hq.2]
    obtain ⟨x5, hx5, h⟩ := ob_s h
    refine V_cv (As := [.int s.1, .long x3, .long x4]) X (Z0 E) ml_Top_422 yq_Thief_record (c_Thief_record E.2.1 G s.1 x3 x4 x2 x5 hx5 _ (Nat.le_refl _)) kd_151 rfl rfl (by omega) rfl (Nat.le_of_ble_eq_true rfl) d_Top_lairs_93 rfl (fun M9 hq => ?_)
    rw [hq]
    refine V_iinc (n := 2) (v := (s.1 + (1 : Int32))) (lv' := [(2, .int (s.1 + (1 : Int32))), (0, .ref (G.2.2 + 0)), (1, .int v1)]) X d_Top_lairs_96 rfl rfl (by decide) rfl rfl ?_
    refine V_goto (pc' := 26) X d_Top_lairs_99 (by decide) ?_
    refine V_sub (lv' := [(0, .ref (G.2.2 + 0)), (1, .int v1), (2, .int (s.1 + (1 : Int32)))]) [1, 2, 0] rfl ?_
    exact kc ((s.1 + (1 : Int32)), x5) (Option.some.inj h).symm
theorem lp_Top_lairs_26_ok {E : Ev} {G : Gw} {d : Nat} {post : Int32 → Mem → Prop} (X : Cx E G b_Top_lairs "WomenByTheRoofs" 3 d (some .int)) (hD : 5 ≤ d)  (v1 : Int32)   (n9 : Nat) (s : Int32 × Mem) (x : (Mem)) (h : iter (lb_Top_lairs_26 v1) n9 s = some x) (kx0 : ∀ x9 : Mem, x = x9 → V E (0, 0) G 3 (QI E G post) x9 102 [(0, .ref (G.2.2 + 0)), (1, .int v1)] []) : V E (0, 0) G 3 (QI E G post) s.2 26 [(0, .ref (G.2.2 + 0)), (1, .int v1), (2, .int s.1)] [] :=
  iter_P (P := fun s : Int32 × Mem => V E (0, 0) G 3 (QI E G post) s.2 26 [(0, .ref (G.2.2 + 0)), (1, .int v1), (2, .int s.1)] []) (fun s o hb kc ky => lb_Top_lairs_26_ok X hD v1 s o hb kc (fun x9 e9 => kx0 x9 (ky _ e9).symm)) n9 s h
def lb_Top_lairs_138  (s : Int32 × Mem) : Option ((Int32 × Mem) ⊕ ((Mem))) :=
  if s.1 < 0 then
  some (.inr s.2)
  else
  Option.bind (f_Thief_strike s.1 s.2) fun x10 =>
  Option.bind (f_Thief_stir 32 x10) fun x11 =>
  some (.inl ((s.1 + (-1 : Int32)), x11))
theorem lb_Top_lairs_138_ok {E : Ev} {G : Gw} {d : Nat} {post : Int32 → Mem → Prop} (X : Cx E G b_Top_lairs "WomenByTheRoofs" 3 d (some .int)) (hD : 5 ≤ d)     (s : Int32 × Mem) (o : (Int32 × Mem) ⊕ ((Mem))) (h : lb_Top_lairs_138 s = some o) (kc : ∀ s9 : Int32 × Mem, o = .inl s9 → V E (0, 0) G 3 (QI E G post) s9.2 138 [(0, .ref (G.2.2 + 0)), (2, .int s9.1)] []) (kx0 : ∀ x9 : Mem, o = .inr x9 → V E (0, 0) G 3 (QI E G post) x9 167 [(0, .ref (G.2.2 + 0))] []) : V E (0, 0) G 3 (QI E G post) s.2 138 [(0, .ref (G.2.2 + 0)), (2, .int s.1)] [] := by
  unfold lb_Top_lairs_138 at h
  refine V_iload_n (n := 1) X d_Top_lairs_138 rfl rfl rfl ?_
  refine V_if_lt (tgt := 167) X d_Top_lairs_139 (by decide) rfl (fun c12 => ?_) (fun c12 => ?_)
  · rw [if_pos c12] at h
    refine V_sub (lv' := [(0, .ref (G.2.2 + 0))]) [0] rfl ?_
    exact kx0 s.2 (Option.some.inj h).symm
  · rw [if_neg c12] at h
    refine V_aload_n (n := 0) X d_Top_lairs_142 rfl rfl rfl ?_
    refine V_getr (k2 := 151) X fo_Top_84 kd_0 rfl rf_0_12 d_Top_lairs_143 rfl ?_
    refine V_iload_n (n := 1) X d_Top_lairs_146 rfl rfl rfl ?_
    obtain ⟨x10, hx10, h⟩ := ob_s h
    refine V_cv (As := [.int s.1]) X (Z0 E) ml_Top_426 yq_Thief_strike (c_Thief_strike E.2.1 G s.1 s.2 x10 hx10 _ (Nat.le_refl _)) kd_151 rfl rfl (by omega) rfl (Nat.le_of_ble_eq_true rfl) d_Top_lairs_147 rfl (fun M9 hq => ?_)
    rw [hq]
    refine V_aload_n (n := 0) X d_Top_lairs_150 rfl rfl rfl ?_
    refine V_getr (k2 := 151) X fo_Top_84 kd_0 rfl rf_0_12 d_Top_lairs_151 rfl ?_
    refine V_aload_n (n := 0) X d_Top_lairs_154 rfl rfl rfl ?_
    refine V_getr (k2 := 32) X fo_Top_46 kd_0 rfl rf_0_6 d_Top_lairs_155 rfl ?_
    obtain ⟨x11, hx11, h⟩ := ob_s h
    refine V_cv (As := [.ref (G.2.2 + 32)]) X (Z0 E) ml_Top_429 yq_Thief_stir (c_Thief_stir E.2.1 G 32 x10 x11 hx11 _ (Nat.le_refl _)) kd_151 rfl rfl (by omega) rfl (Nat.le_of_ble_eq_true rfl) d_Top_lairs_158 rfl (fun M9 hq => ?_)
    rw [hq]
    refine V_iinc (n := 1) (v := (s.1 + (-1 : Int32))) (lv' := [(2, .int (s.1 + (-1 : Int32))), (0, .ref (G.2.2 + 0))]) X d_Top_lairs_161 rfl rfl (by decide) rfl rfl ?_
    refine V_goto (pc' := 138) X d_Top_lairs_164 (by decide) ?_
    refine V_sub (lv' := [(0, .ref (G.2.2 + 0)), (2, .int (s.1 + (-1 : Int32)))]) [1, 0] rfl ?_
    exact kc ((s.1 + (-1 : Int32)), x11) (Option.some.inj h).symm
theorem lp_Top_lairs_138_ok {E : Ev} {G : Gw} {d : Nat} {post : Int32 → Mem → Prop} (X : Cx E G b_Top_lairs "WomenByTheRoofs" 3 d (some .int)) (hD : 5 ≤ d)     (n9 : Nat) (s : Int32 × Mem) (x : (Mem)) (h : iter (lb_Top_lairs_138) n9 s = some x) (kx0 : ∀ x9 : Mem, x = x9 → V E (0, 0) G 3 (QI E G post) x9 167 [(0, .ref (G.2.2 + 0))] []) : V E (0, 0) G 3 (QI E G post) s.2 138 [(0, .ref (G.2.2 + 0)), (2, .int s.1)] [] :=
  iter_P (P := fun s : Int32 × Mem => V E (0, 0) G 3 (QI E G post) s.2 138 [(0, .ref (G.2.2 + 0)), (2, .int s.1)] []) (fun s o hb kc ky => lb_Top_lairs_138_ok X hD  s o hb kc (fun x9 e9 => kx0 x9 (ky _ e9).symm)) n9 s h
def f_Top_lairs (v1 : Int32) (M : Mem) : Option (Int32 × Mem) :=
  if v1 < (1 : Int32) then
  some ((-1 : Int32), M)
  else
  if v1 ≤ (30 : Int32) then
  Option.bind (f_Scene_copy 25 11 M) fun x1 =>
  Option.bind (iter (lb_Top_lairs_26 v1) FU ((0 : Int32), x1)) fun x7 =>
  mem_ (s_l x7 151 2 (x7.2.1 33 (0 : Int32).toNatClampNeg)) fun M8 =>
  mem_ (s_l M8 151 3 (M8.2.1 33 (1 : Int32).toNatClampNeg)) fun M9 =>
  Option.bind (iter (lb_Top_lairs_138) FU ((v1 - (1 : Int32)), M9)) fun x13 =>
  Option.bind (f_Top_emptyRow x13) fun x14 =>
  Option.bind (f_Top_noteSet (x14.2.1 151 2) x14) fun x15 =>
  Option.bind (f_Top_noteSet (x15.2.1 151 3) x15) fun x16 =>
  Option.bind (f_JLong_bitCount (x16.2.1 151 2)) fun x17 =>
  Option.bind (f_JLong_bitCount (x16.2.1 151 3)) fun x18 =>
  some ((x17 + x18), x16)
  else
  some ((-1 : Int32), M)
theorem c_Top_lairs (l : Launch) (G : Gw)  (v1 : Int32) (M : Mem) (x : Int32 × Mem) (h : f_Top_lairs v1 M = some x) (d : Nat) (hD : 5 ≤ d) : Ci l G y_Top_lairs b_Top_lairs 3 (some .int) d [.ref (G.2.2 + 0), .int v1] M (fun r9 M9 => r9 = x.1 ∧ M9 = x.2) := by
  refine Ci_of (by decide) (Nat.le_of_ble_eq_true rfl) (fun E hE X => ?_)
  subst hE
  have kr : ∀ x9 : Int32 × Mem, x = x9 → (fun r9 M9 => r9 = x.1 ∧ M9 = x.2) x9.1 x9.2 := fun x9 e9 => by subst e9; exact ⟨rfl, rfl⟩
  unfold f_Top_lairs at h
  refine V_iload_n (n := 1) X d_Top_lairs_0 rfl rfl rfl ?_
  refine V_iconst (v := 1) X d_Top_lairs_1 (by decide) rfl ?_
  refine V_icmp_lt (tgt := 11) X d_Top_lairs_2 (by decide) rfl (fun c20 => ?_) (fun c20 => ?_)
  · rw [if_pos c20] at h
    refine V_iconst (v := -1) X d_Top_lairs_11 (by decide) rfl ?_
    exact V_iret X (kr ((-1 : Int32), M) (Option.some.inj h).symm) d_Top_lairs_12
  · rw [if_neg c20] at h
    refine V_iload_n (n := 1) X d_Top_lairs_5 rfl rfl rfl ?_
    refine V_bipush (v := 30) X d_Top_lairs_6 (by decide) rfl ?_
    refine V_icmp_le (tgt := 13) X d_Top_lairs_8 (by decide) rfl (fun c19 => ?_) (fun c19 => ?_)
    · rw [if_pos c19] at h
      refine V_aload_n (n := 0) X d_Top_lairs_13 rfl rfl rfl ?_
      refine V_getr (k2 := 25) X fo_Top_40 kd_0 rfl rf_0_5 d_Top_lairs_14 rfl ?_
      refine V_aload_n (n := 0) X d_Top_lairs_17 rfl rfl rfl ?_
      refine V_getr (k2 := 11) X fo_Top_33 kd_0 rfl rf_0_3 d_Top_lairs_18 rfl ?_
      obtain ⟨x1, hx1, h⟩ := ob_s h
      refine V_cv (As := [.ref (G.2.2 + 11)]) X (Z0 E) ml_Top_211 yq_Scene_copy (c_Scene_copy E.2.1 G 25 11 M x1 hx1 _ (Nat.le_refl _)) kd_25 rfl rfl (by omega) rfl (Nat.le_of_ble_eq_true rfl) d_Top_lairs_21 rfl (fun M9 hq => ?_)
      rw [hq]
      refine V_iconst (v := 0) X d_Top_lairs_24 (by decide) rfl ?_
      refine V_istore_n (lv' := [(2, .int (0 : Int32)), (0, .ref (G.2.2 + 0)), (1, .int v1)]) X d_Top_lairs_25 rfl (by decide) rfl rfl ?_
      refine V_sub (lv' := [(0, .ref (G.2.2 + 0)), (1, .int v1), (2, .int (0 : Int32))]) [1, 2, 0] rfl ?_
      obtain ⟨x7, hx7, h⟩ := ob_s h
      refine (lp_Top_lairs_26_ok X hD v1 _ _ _ hx7 (fun x9 e9 => ?_) :)
      subst e9
      refine V_aload_n (n := 0) X d_Top_lairs_102 rfl rfl rfl ?_
      refine V_getr (k2 := 151) X fo_Top_84 kd_0 rfl rf_0_12 d_Top_lairs_103 rfl ?_
      refine V_aload_n (n := 0) X d_Top_lairs_106 rfl rfl rfl ?_
      refine V_getr (k2 := 32) X fo_Top_46 kd_0 rfl rf_0_6 d_Top_lairs_107 rfl ?_
      refine V_getr (k2 := 33) X fo_Top_296 kd_32 rfl rf_32_0 d_Top_lairs_110 rfl ?_
      refine V_iconst (v := 0) X d_Top_lairs_113 (by decide) rfl ?_
      refine V_lald X kd_33 (inb_in ln_33 (by decide)) d_Top_lairs_114 rfl ?_
      obtain ⟨M8, eM8, h⟩ := memS h
      refine V_putl X fp_Top_408 kd_151 rfl d_Top_lairs_115 rfl ?_
      rw [← eM8]
      refine V_aload_n (n := 0) X d_Top_lairs_118 rfl rfl rfl ?_
      refine V_getr (k2 := 151) X fo_Top_84 kd_0 rfl rf_0_12 d_Top_lairs_119 rfl ?_
      refine V_aload_n (n := 0) X d_Top_lairs_122 rfl rfl rfl ?_
      refine V_getr (k2 := 32) X fo_Top_46 kd_0 rfl rf_0_6 d_Top_lairs_123 rfl ?_
      refine V_getr (k2 := 33) X fo_Top_296 kd_32 rfl rf_32_0 d_Top_lairs_126 rfl ?_
      refine V_iconst (v := 1) X d_Top_lairs_129 (by decide) rfl ?_
      refine V_lald X kd_33 (inb_in ln_33 (by decide)) d_Top_lairs_130 rfl ?_
      obtain ⟨M9, eM9, h⟩ := memS h
      refine V_putl X fp_Top_412 kd_151 rfl d_Top_lairs_131 rfl ?_
      rw [← eM9]
      refine V_iload_n (n := 1) X d_Top_lairs_134 rfl rfl rfl ?_
      refine V_iconst (v := 1) X d_Top_lairs_135 (by decide) rfl ?_
      refine V_isub X d_Top_lairs_136 rfl ?_
      refine V_istore_n (lv' := [(2, .int (v1 - (1 : Int32))), (0, .ref (G.2.2 + 0)), (1, .int v1)]) X d_Top_lairs_137 rfl (by decide) rfl rfl ?_
      refine V_sub (lv' := [(0, .ref (G.2.2 + 0)), (2, .int (v1 - (1 : Int32)))]) [1, 0] rfl ?_
      obtain ⟨x13, hx13, h⟩ := ob_s h
      refine (lp_Top_lairs_138_ok X hD  _ _ _ hx13 (fun x9 e9 => ?_) :)
      subst e9
      refine V_aload_n (n := 0) X d_Top_lairs_167 rfl rfl rfl ?_
      obtain ⟨x14, hx14, h⟩ := ob_s h
      refine V_cv (As := []) X (Z0 E) ml_Top_251 yq_Top_emptyRow (c_Top_emptyRow E.2.1 G  x13 x14 hx14 _ (Nat.le_refl _)) kd_0 rfl rfl (by omega) rfl (Nat.le_of_ble_eq_true rfl) d_Top_lairs_168 rfl (fun M9 hq => ?_)
      rw [hq]
      refine V_aload_n (n := 0) X d_Top_lairs_171 rfl rfl rfl ?_
      refine V_aload_n (n := 0) X d_Top_lairs_172 rfl rfl rfl ?_
      refine V_getr (k2 := 151) X fo_Top_84 kd_0 rfl rf_0_12 d_Top_lairs_173 rfl ?_
      refine V_getl X fo_Top_408 kd_151 rfl d_Top_lairs_176 rfl ?_
      obtain ⟨x15, hx15, h⟩ := ob_s h
      refine V_cv (As := [.long (x14.2.1 151 2)]) X (Z0 E) ml_Top_308 yq_Top_noteSet (c_Top_noteSet E.2.1 G (x14.2.1 151 2) x14 x15 hx15 _ (Nat.le_refl _)) kd_0 rfl rfl (by omega) rfl (Nat.le_of_ble_eq_true rfl) d_Top_lairs_179 rfl (fun M9 hq => ?_)
      rw [hq]
      refine V_aload_n (n := 0) X d_Top_lairs_182 rfl rfl rfl ?_
      refine V_aload_n (n := 0) X d_Top_lairs_183 rfl rfl rfl ?_
      refine V_getr (k2 := 151) X fo_Top_84 kd_0 rfl rf_0_12 d_Top_lairs_184 rfl ?_
      refine V_getl X fo_Top_412 kd_151 rfl d_Top_lairs_187 rfl ?_
      obtain ⟨x16, hx16, h⟩ := ob_s h
      refine V_cv (As := [.long (x15.2.1 151 3)]) X (Z0 E) ml_Top_308 yq_Top_noteSet (c_Top_noteSet E.2.1 G (x15.2.1 151 3) x15 x16 hx16 _ (Nat.le_refl _)) kd_0 rfl rfl (by omega) rfl (Nat.le_of_ble_eq_true rfl) d_Top_lairs_190 rfl (fun M9 hq => ?_)
      rw [hq]
      refine V_aload_n (n := 0) X d_Top_lairs_193 rfl rfl rfl ?_
      refine V_getr (k2 := 151) X fo_Top_84 kd_0 rfl rf_0_12 d_Top_lairs_194 rfl ?_
      refine V_getl X fo_Top_408 kd_151 rfl d_Top_lairs_197 rfl ?_
      obtain ⟨x17, hx17, h⟩ := ob_s h
      refine V_si (As := [.long (x16.2.1 151 2)]) X (Z0 E) ml_Top_182 yq_JLong_bitCount (c_JLong_bitCount E.2.1 G (x16.2.1 151 2) x16 x17 hx17 _ (Nat.le_refl _)) rfl (by omega) rfl (Nat.le_of_ble_eq_true rfl) d_Top_lairs_200 rfl (fun r9 M9 hq => ?_)
      rw [hq.1, hq.2]
      refine V_aload_n (n := 0) X d_Top_lairs_203 rfl rfl rfl ?_
      refine V_getr (k2 := 151) X fo_Top_84 kd_0 rfl rf_0_12 d_Top_lairs_204 rfl ?_
      refine V_getl X fo_Top_412 kd_151 rfl d_Top_lairs_207 rfl ?_
      obtain ⟨x18, hx18, h⟩ := ob_s h
      refine V_si (As := [.long (x16.2.1 151 3)]) X (Z0 E) ml_Top_182 yq_JLong_bitCount (c_JLong_bitCount E.2.1 G (x16.2.1 151 3) x16 x18 hx18 _ (Nat.le_refl _)) rfl (by omega) rfl (Nat.le_of_ble_eq_true rfl) d_Top_lairs_210 rfl (fun r9 M9 hq => ?_)
      rw [hq.1, hq.2]
      refine V_iadd X d_Top_lairs_213 rfl ?_
      exact V_iret X (kr ((x17 + x18), x16) (Option.some.inj h).symm) d_Top_lairs_214
    · rw [if_neg c19] at h
      refine V_iconst (v := -1) X d_Top_lairs_11 (by decide) rfl ?_
      exact V_iret X (kr ((-1 : Int32), M) (Option.some.inj h).symm) d_Top_lairs_12
def lb_Top_caught_36  (s : Int32 × Mem) : Option ((Int32 × Mem) ⊕ ((Mem) ⊕ (Int32 × Mem))) :=
  if (30 : Int32) < s.1 then
  some (.inr (Sum.inl s.2))
  else
  Option.bind (f_Top_hunt s.2) fun x4 =>
  Option.bind (f_Thief_gone x4) fun x5 =>
  if x5 = 0 then
  some (.inl ((s.1 + (1 : Int32)), x4))
  else
  some (.inr (Sum.inr (s.1, x4)))
theorem lb_Top_caught_36_ok {E : Ev} {G : Gw} {d : Nat} {post : Int32 → Mem → Prop} (X : Cx E G b_Top_caught "WomenByTheRoofs" 4 d (some .int)) (hD : 6 ≤ d)     (s : Int32 × Mem) (o : (Int32 × Mem) ⊕ ((Mem) ⊕ (Int32 × Mem))) (h : lb_Top_caught_36 s = some o) (kc : ∀ s9 : Int32 × Mem, o = .inl s9 → V E (0, 0) G 4 (QI E G post) s9.2 36 [(0, .ref (G.2.2 + 0)), (3, .int s9.1)] []) (kx0 : ∀ x9 : Mem, o = .inr (Sum.inl x9) → V E (0, 0) G 4 (QI E G post) x9 64 [] []) (kx1 : ∀ x9 : Int32 × Mem, o = .inr (Sum.inr x9) → V E (0, 0) G 4 (QI E G post) x9.2 56 [(3, .int x9.1)] []) : V E (0, 0) G 4 (QI E G post) s.2 36 [(0, .ref (G.2.2 + 0)), (3, .int s.1)] [] := by
  unfold lb_Top_caught_36 at h
  refine V_iload_n (n := 1) X d_Top_caught_36 rfl rfl rfl ?_
  refine V_bipush (v := 30) X d_Top_caught_37 (by decide) rfl ?_
  refine V_icmp_gt (tgt := 64) X d_Top_caught_39 (by decide) rfl (fun c7 => ?_) (fun c7 => ?_)
  · rw [if_pos c7] at h
    refine V_sub (lv' := []) [] rfl ?_
    exact kx0 s.2 (Option.some.inj h).symm
  · rw [if_neg c7] at h
    refine V_aload_n (n := 0) X d_Top_caught_42 rfl rfl rfl ?_
    obtain ⟨x4, hx4, h⟩ := ob_s h
    refine V_cv (As := []) X (Z0 E) ml_Top_405 yq_Top_hunt (c_Top_hunt E.2.1 G  s.2 x4 hx4 _ (Nat.le_refl _)) kd_0 rfl rfl (by omega) rfl (Nat.le_of_ble_eq_true rfl) d_Top_caught_43 rfl (fun M9 hq => ?_)
    rw [hq]
    refine V_aload_n (n := 0) X d_Top_caught_46 rfl rfl rfl ?_
    refine V_getr (k2 := 151) X fo_Top_84 kd_0 rfl rf_0_12 d_Top_caught_47 rfl ?_
    obtain ⟨x5, hx5, h⟩ := ob_s h
    refine V_ci (As := []) X (Z0 E) ml_Top_415 yq_Thief_gone (c_Thief_gone E.2.1 G  x4 x5 hx5 _ (Nat.le_refl _)) kd_151 rfl rfl (by omega) rfl (Nat.le_of_ble_eq_true rfl) d_Top_caught_50 rfl (fun r9 M9 hq => ?_)
    rw [hq.1, hq.2]
    refine V_if_eq (tgt := 58) X d_Top_caught_53 (by decide) rfl (fun c6 => ?_) (fun c6 => ?_)
    · rw [if_pos c6] at h
      refine V_iinc (n := 1) (v := (s.1 + (1 : Int32))) (lv' := [(3, .int (s.1 + (1 : Int32))), (0, .ref (G.2.2 + 0))]) X d_Top_caught_58 rfl rfl (by decide) rfl rfl ?_
      refine V_goto (pc' := 36) X d_Top_caught_61 (by decide) ?_
      refine V_sub (lv' := [(0, .ref (G.2.2 + 0)), (3, .int (s.1 + (1 : Int32)))]) [1, 0] rfl ?_
      exact kc ((s.1 + (1 : Int32)), x4) (Option.some.inj h).symm
    · rw [if_neg c6] at h
      refine V_sub (lv' := [(3, .int s.1)]) [1] rfl ?_
      exact kx1 (s.1, x4) (Option.some.inj h).symm
theorem lp_Top_caught_36_ok {E : Ev} {G : Gw} {d : Nat} {post : Int32 → Mem → Prop} (X : Cx E G b_Top_caught "WomenByTheRoofs" 4 d (some .int)) (hD : 6 ≤ d)     (n9 : Nat) (s : Int32 × Mem) (x : (Mem) ⊕ (Int32 × Mem)) (h : iter (lb_Top_caught_36) n9 s = some x) (kx0 : ∀ x9 : Mem, x = (Sum.inl x9) → V E (0, 0) G 4 (QI E G post) x9 64 [] []) (kx1 : ∀ x9 : Int32 × Mem, x = (Sum.inr x9) → V E (0, 0) G 4 (QI E G post) x9.2 56 [(3, .int x9.1)] []) : V E (0, 0) G 4 (QI E G post) s.2 36 [(0, .ref (G.2.2 + 0)), (3, .int s.1)] [] :=
  iter_P (P := fun s : Int32 × Mem => V E (0, 0) G 4 (QI E G post) s.2 36 [(0, .ref (G.2.2 + 0)), (3, .int s.1)] []) (fun s o hb kc ky => lb_Top_caught_36_ok X hD  s o hb kc (fun x9 e9 => kx0 x9 (ky _ e9).symm) (fun x9 e9 => kx1 x9 (ky _ e9).symm)) n9 s h
def f_Top_caught (v1 : Int32) (v2 : Int32) (M : Mem) : Option (Int32 × Mem) :=
  Option.bind (f_Ground_holds v2 v1 M) fun x1 =>
  if x1 = 0 then
  some ((-1 : Int32), M)
  else
  Option.bind (f_Scene_copy 25 11 M) fun x2 =>
  Option.bind (f_Thief_start v2 v1 x2) fun x3 =>
  Option.bind (iter (lb_Top_caught_36) FU ((1 : Int32), x3)) (Sum.elim (fun y9 => some ((-2 : Int32), y9)) (fun y10 => some (y10.1, y10.2)))
theorem c_Top_caught (l : Launch) (G : Gw)  (v1 : Int32) (v2 : Int32) (M : Mem) (x : Int32 × Mem) (h : f_Top_caught v1 v2 M = some x) (d : Nat) (hD : 6 ≤ d) : Ci l G y_Top_caught b_Top_caught 4 (some .int) d [.ref (G.2.2 + 0), .int v1, .int v2] M (fun r9 M9 => r9 = x.1 ∧ M9 = x.2) := by
  refine Ci_of (by decide) (Nat.le_of_ble_eq_true rfl) (fun E hE X => ?_)
  subst hE
  have kr : ∀ x9 : Int32 × Mem, x = x9 → (fun r9 M9 => r9 = x.1 ∧ M9 = x.2) x9.1 x9.2 := fun x9 e9 => by subst e9; exact ⟨rfl, rfl⟩
  unfold f_Top_caught at h
  refine V_aload_n (n := 0) X d_Top_caught_0 rfl rfl rfl ?_
  refine V_getr (k2 := 3) X fo_Top_19 kd_0 rfl rf_0_1 d_Top_caught_1 rfl ?_
  refine V_iload_n (n := 2) X d_Top_caught_4 rfl rfl rfl ?_
  refine V_iload_n (n := 1) X d_Top_caught_5 rfl rfl rfl ?_
  obtain ⟨x1, hx1, h⟩ := ob_s h
  refine V_ci (As := [.int v2, .int v1]) X (Z0 E) ml_Top_305 yq_Ground_holds (c_Ground_holds E.2.1 G v2 v1 M x1 hx1 _ (Nat.le_refl _)) kd_3 rfl rfl (by omega) rfl (Nat.le_of_ble_eq_true rfl) d_Top_caught_6 rfl (fun r9 M9 hq => ?_)
  rw [hq.1, hq.2]
  refine V_if_ne (tgt := 14) X d_Top_caught_9 (by decide) rfl (fun c11 => ?_) (fun c11 => ?_)
  · rw [if_neg c11] at h
    refine V_aload_n (n := 0) X d_Top_caught_14 rfl rfl rfl ?_
    refine V_getr (k2 := 25) X fo_Top_40 kd_0 rfl rf_0_5 d_Top_caught_15 rfl ?_
    refine V_aload_n (n := 0) X d_Top_caught_18 rfl rfl rfl ?_
    refine V_getr (k2 := 11) X fo_Top_33 kd_0 rfl rf_0_3 d_Top_caught_19 rfl ?_
    obtain ⟨x2, hx2, h⟩ := ob_s h
    refine V_cv (As := [.ref (G.2.2 + 11)]) X (Z0 E) ml_Top_211 yq_Scene_copy (c_Scene_copy E.2.1 G 25 11 M x2 hx2 _ (Nat.le_refl _)) kd_25 rfl rfl (by omega) rfl (Nat.le_of_ble_eq_true rfl) d_Top_caught_22 rfl (fun M9 hq => ?_)
    rw [hq]
    refine V_aload_n (n := 0) X d_Top_caught_25 rfl rfl rfl ?_
    refine V_getr (k2 := 151) X fo_Top_84 kd_0 rfl rf_0_12 d_Top_caught_26 rfl ?_
    refine V_iload_n (n := 2) X d_Top_caught_29 rfl rfl rfl ?_
    refine V_iload_n (n := 1) X d_Top_caught_30 rfl rfl rfl ?_
    obtain ⟨x3, hx3, h⟩ := ob_s h
    refine V_cv (As := [.int v2, .int v1]) X (Z0 E) ml_Top_401 yq_Thief_start (c_Thief_start E.2.1 G v2 v1 x2 x3 hx3 _ (Nat.le_refl _)) kd_151 rfl rfl (by omega) rfl (Nat.le_of_ble_eq_true rfl) d_Top_caught_31 rfl (fun M9 hq => ?_)
    rw [hq]
    refine V_iconst (v := 1) X d_Top_caught_34 (by decide) rfl ?_
    refine V_istore_n (lv' := [(3, .int (1 : Int32)), (0, .ref (G.2.2 + 0)), (1, .int v1), (2, .int v2)]) X d_Top_caught_35 rfl (by decide) rfl rfl ?_
    refine V_sub (lv' := [(0, .ref (G.2.2 + 0)), (3, .int (1 : Int32))]) [1, 0] rfl ?_
    obtain ⟨x8, hx8, h⟩ := ob_s h
    rcases x8 with y9 | y10
    · simp only [Sum.elim_inl, Sum.elim_inr] at h
      refine (lp_Top_caught_36_ok X hD  _ _ _ hx8 (fun x9 e9 => ?_) (fun x9 e9 => by cases e9) :)
      cases e9
      refine V_bipush (v := -2) X d_Top_caught_64 (by decide) rfl ?_
      exact V_iret X (kr ((-2 : Int32), y9) (Option.some.inj h).symm) d_Top_caught_66
    · simp only [Sum.elim_inl, Sum.elim_inr] at h
      refine (lp_Top_caught_36_ok X hD  _ _ _ hx8 (fun x9 e9 => by cases e9) (fun x9 e9 => ?_) :)
      cases e9
      refine V_iload_n (n := 0) X d_Top_caught_56 rfl rfl rfl ?_
      exact V_iret X (kr (y10.1, y10.2) (Option.some.inj h).symm) d_Top_caught_57
  · rw [if_pos c11] at h
    refine V_iconst (v := -1) X d_Top_caught_12 (by decide) rfl ?_
    exact V_iret X (kr ((-1 : Int32), M) (Option.some.inj h).symm) d_Top_caught_13
def f_Top_slipsBy (v1 : Int32) (v2 : Int32) (v3 : Int32) (v4 : Int32) (v5 : Int32) (M : Mem) : Option (Int32 × Mem) :=
  Option.bind (f_Thief_start v2 v3 M) fun x1 =>
  Option.bind (f_Scene_guarded 11 (0 : Int32) v1 x1) fun x2 =>
  Option.bind (f_Scene_guarded 11 (1 : Int32) v1 x1) fun x3 =>
  Option.bind (f_Thief_record (0 : Int32) x2 x3 x1) fun x4 =>
  Option.bind (f_Thief_roam 32 x4) fun x5 =>
  Option.bind (f_Thief_isIn v4 v5 x5) fun x6 =>
  if x6 = 0 ∨ x6 = 1 then some (x6, x5) else none
theorem c_Top_slipsBy (l : Launch) (G : Gw)  (v1 : Int32) (v2 : Int32) (v3 : Int32) (v4 : Int32) (v5 : Int32) (M : Mem) (x : Int32 × Mem) (h : f_Top_slipsBy v1 v2 v3 v4 v5 M = some x) (d : Nat) (hD : 4 ≤ d) : Ci l G y_Top_slipsBy b_Top_slipsBy 6 (some .boolean) d [.ref (G.2.2 + 0), .int v1, .int v2, .int v3, .int v4, .int v5] M (fun r9 M9 => r9 = x.1 ∧ M9 = x.2) := by
  refine Ci_of (by decide) (Nat.le_of_ble_eq_true rfl) (fun E hE X => ?_)
  subst hE
  have kr : ∀ x9 : Int32 × Mem, x = x9 → (fun r9 M9 => r9 = x.1 ∧ M9 = x.2) x9.1 x9.2 := fun x9 e9 => by subst e9; exact ⟨rfl, rfl⟩
  unfold f_Top_slipsBy at h
  refine V_aload_n (n := 0) X d_Top_slipsBy_0 rfl rfl rfl ?_
  refine V_getr (k2 := 151) X fo_Top_84 kd_0 rfl rf_0_12 d_Top_slipsBy_1 rfl ?_
  refine V_iload_n (n := 2) X d_Top_slipsBy_4 rfl rfl rfl ?_
  refine V_iload_n (n := 3) X d_Top_slipsBy_5 rfl rfl rfl ?_
  obtain ⟨x1, hx1, h⟩ := ob_s h
  refine V_cv (As := [.int v2, .int v3]) X (Z0 E) ml_Top_401 yq_Thief_start (c_Thief_start E.2.1 G v2 v3 M x1 hx1 _ (Nat.le_refl _)) kd_151 rfl rfl (by omega) rfl (Nat.le_of_ble_eq_true rfl) d_Top_slipsBy_6 rfl (fun M9 hq => ?_)
  rw [hq]
  refine V_aload_n (n := 0) X d_Top_slipsBy_9 rfl rfl rfl ?_
  refine V_getr (k2 := 151) X fo_Top_84 kd_0 rfl rf_0_12 d_Top_slipsBy_10 rfl ?_
  refine V_iconst (v := 0) X d_Top_slipsBy_13 (by decide) rfl ?_
  refine V_aload_n (n := 0) X d_Top_slipsBy_14 rfl rfl rfl ?_
  refine V_getr (k2 := 11) X fo_Top_33 kd_0 rfl rf_0_3 d_Top_slipsBy_15 rfl ?_
  refine V_iconst (v := 0) X d_Top_slipsBy_18 (by decide) rfl ?_
  refine V_iload_n (n := 1) X d_Top_slipsBy_19 rfl rfl rfl ?_
  obtain ⟨x2, hx2, h⟩ := ob_s h
  refine V_cl (As := [.int (0 : Int32), .int v1]) X (Z0 E) ml_Top_498 yq_Scene_guarded (c_Scene_guarded E.2.1 G 11 (0 : Int32) v1 x1 x2 hx2 _ (Nat.le_refl _)) kd_11 rfl rfl (by omega) rfl (Nat.le_of_ble_eq_true rfl) d_Top_slipsBy_20 rfl (fun r9 M9 hq => ?_)
  rw [hq.1, hq.2]
  refine V_aload_n (n := 0) X d_Top_slipsBy_23 rfl rfl rfl ?_
  refine V_getr (k2 := 11) X fo_Top_33 kd_0 rfl rf_0_3 d_Top_slipsBy_24 rfl ?_
  refine V_iconst (v := 1) X d_Top_slipsBy_27 (by decide) rfl ?_
  refine V_iload_n (n := 1) X d_Top_slipsBy_28 rfl rfl rfl ?_
  obtain ⟨x3, hx3, h⟩ := ob_s h
  refine V_cl (As := [.int (1 : Int32), .int v1]) X (Z0 E) ml_Top_498 yq_Scene_guarded (c_Scene_guarded E.2.1 G 11 (1 : Int32) v1 x1 x3 hx3 _ (Nat.le_refl _)) kd_11 rfl rfl (by omega) rfl (Nat.le_of_ble_eq_true rfl) d_Top_slipsBy_29 rfl (fun r9 M9 hq => ?_)
  rw [hq.1, hq.2]
  obtain ⟨x4, hx4, h⟩ := ob_s h
  refine V_cv (As := [.int (0 : Int32), .long x2, .long x3]) X (Z0 E) ml_Top_422 yq_Thief_record (c_Thief_record E.2.1 G (0 : Int32) x2 x3 x1 x4 hx4 _ (Nat.le_refl _)) kd_151 rfl rfl (by omega) rfl (Nat.le_of_ble_eq_true rfl) d_Top_slipsBy_32 rfl (fun M9 hq => ?_)
  rw [hq]
  refine V_aload_n (n := 0) X d_Top_slipsBy_35 rfl rfl rfl ?_
  refine V_getr (k2 := 151) X fo_Top_84 kd_0 rfl rf_0_12 d_Top_slipsBy_36 rfl ?_
  refine V_aload_n (n := 0) X d_Top_slipsBy_39 rfl rfl rfl ?_
  refine V_getr (k2 := 32) X fo_Top_46 kd_0 rfl rf_0_6 d_Top_slipsBy_40 rfl ?_
  obtain ⟨x5, hx5, h⟩ := ob_s h
  refine V_cv (As := [.ref (G.2.2 + 32)]) X (Z0 E) ml_Top_501 yq_Thief_roam (c_Thief_roam E.2.1 G 32 x4 x5 hx5 _ (Nat.le_refl _)) kd_151 rfl rfl (by omega) rfl (Nat.le_of_ble_eq_true rfl) d_Top_slipsBy_43 rfl (fun M9 hq => ?_)
  rw [hq]
  refine V_aload_n (n := 0) X d_Top_slipsBy_46 rfl rfl rfl ?_
  refine V_getr (k2 := 151) X fo_Top_84 kd_0 rfl rf_0_12 d_Top_slipsBy_47 rfl ?_
  refine V_iload (n := 4) X d_Top_slipsBy_50 rfl rfl ?_
  refine V_iload (n := 5) X d_Top_slipsBy_52 rfl rfl ?_
  obtain ⟨x6, hx6, h⟩ := ob_s h
  refine V_ci (As := [.int v4, .int v5]) X (Z0 E) ml_Top_504 yq_Thief_isIn (c_Thief_isIn E.2.1 G v4 v5 x5 x6 hx6 _ (Nat.le_refl _)) kd_151 rfl rfl (by omega) rfl (Nat.le_of_ble_eq_true rfl) d_Top_slipsBy_54 rfl (fun r9 M9 hq => ?_)
  rw [hq.1, hq.2]
  obtain ⟨hq, h⟩ := ifn h
  exact V_zret X (kr (x6, x5) (Option.some.inj h).symm) hq d_Top_slipsBy_57
def lb_Top_watch_45 (v1 : Int32) (v2 : Int32) (v3 : Int32) (v4 : Int32) (v5 : Int32) (s : Int32 × Mem) : Option ((Int32 × Mem) ⊕ ((Mem) ⊕ (Int32 × Mem))) :=
  if ((1 : Int32) <<< ((s.2.1 6 4) &&& 31)) ≤ s.1 then
  some (.inr (Sum.inl s.2))
  else
  Option.bind (f_JInteger_bitCount s.1) fun x3 =>
  if x3 = v5 then
  Option.bind (f_Top_slipsBy s.1 v2 v1 v4 v3 s.2) fun x4 =>
  if x4.1 = 0 then
  some (.inr (Sum.inr (s.1, x4.2)))
  else
  some (.inl ((s.1 + (1 : Int32)), x4.2))
  else
  some (.inl ((s.1 + (1 : Int32)), s.2))
theorem lb_Top_watch_45_ok {E : Ev} {G : Gw} {d : Nat} {post : Int32 → Mem → Prop} (X : Cx E G b_Top_watch "WomenByTheRoofs" 7 d (some .int)) (hD : 5 ≤ d)  (v1 : Int32) (v2 : Int32) (v3 : Int32) (v4 : Int32) (v5 : Int32)   (s : Int32 × Mem) (o : (Int32 × Mem) ⊕ ((Mem) ⊕ (Int32 × Mem))) (h : lb_Top_watch_45 v1 v2 v3 v4 v5 s = some o) (kc : ∀ s9 : Int32 × Mem, o = .inl s9 → V E (0, 0) G 7 (QI E G post) s9.2 45 [(0, .ref (G.2.2 + 0)), (1, .int v1), (2, .int v2), (3, .int v3), (4, .int v4), (5, .int v5), (6, .int s9.1)] []) (kx0 : ∀ x9 : Mem, o = .inr (Sum.inl x9) → V E (0, 0) G 7 (QI E G post) x9 102 [(0, .ref (G.2.2 + 0)), (1, .int v1), (2, .int v2), (3, .int v3), (4, .int v4), (5, .int v5)] []) (kx1 : ∀ x9 : Int32 × Mem, o = .inr (Sum.inr x9) → V E (0, 0) G 7 (QI E G post) x9.2 83 [(0, .ref (G.2.2 + 0)), (5, .int v5), (6, .int x9.1)] []) : V E (0, 0) G 7 (QI E G post) s.2 45 [(0, .ref (G.2.2 + 0)), (1, .int v1), (2, .int v2), (3, .int v3), (4, .int v4), (5, .int v5), (6, .int s.1)] [] := by
  unfold lb_Top_watch_45 at h
  refine V_iload (n := 6) X d_Top_watch_45 rfl rfl ?_
  refine V_iconst (v := 1) X d_Top_watch_47 (by decide) rfl ?_
  refine V_aload_n (n := 0) X d_Top_watch_48 rfl rfl rfl ?_
  refine V_getr (k2 := 6) X fo_Top_26 kd_0 rfl rf_0_2 d_Top_watch_49 rfl ?_
  refine V_geti X fo_Top_129 kd_6 rfl d_Top_watch_52 rfl ?_
  refine V_ishl X d_Top_watch_55 rfl ?_
  refine V_icmp_ge (tgt := 102) X d_Top_watch_56 (by decide) rfl (fun c7 => ?_) (fun c7 => ?_)
  · rw [if_pos c7] at h
    refine V_sub (lv' := [(0, .ref (G.2.2 + 0)), (1, .int v1), (2, .int v2), (3, .int v3), (4, .int v4), (5, .int v5)]) [0, 1, 2, 3, 4, 5] rfl ?_
    exact kx0 s.2 (Option.some.inj h).symm
  · rw [if_neg c7] at h
    refine V_iload (n := 6) X d_Top_watch_59 rfl rfl ?_
    obtain ⟨x3, hx3, h⟩ := ob_s h
    refine V_si (As := [.int s.1]) X (Z0 E) ml_Top_236 yq_JInteger_bitCount (c_JInteger_bitCount E.2.1 G s.1 s.2 x3 hx3 _ (Nat.le_refl _)) rfl (by omega) rfl (Nat.le_of_ble_eq_true rfl) d_Top_watch_61 rfl (fun r9 M9 hq => ?_)
    rw [hq.1, hq.2]
    refine V_iload (n := 5) X d_Top_watch_64 rfl rfl ?_
    refine V_icmp_ne (tgt := 96) X d_Top_watch_66 (by decide) rfl (fun c6 => ?_) (fun c6 => ?_)
    · rw [if_neg c6] at h
      refine V_iinc (n := 6) (v := (s.1 + (1 : Int32))) (lv' := [(6, .int (s.1 + (1 : Int32))), (0, .ref (G.2.2 + 0)), (1, .int v1), (2, .int v2), (3, .int v3), (4, .int v4), (5, .int v5)]) X d_Top_watch_96 rfl rfl (by decide) rfl rfl ?_
      refine V_goto (pc' := 45) X d_Top_watch_99 (by decide) ?_
      refine V_sub (lv' := [(0, .ref (G.2.2 + 0)), (1, .int v1), (2, .int v2), (3, .int v3), (4, .int v4), (5, .int v5), (6, .int (s.1 + (1 : Int32)))]) [1, 2, 3, 4, 5, 6, 0] rfl ?_
      exact kc ((s.1 + (1 : Int32)), s.2) (Option.some.inj h).symm
    · rw [if_pos c6] at h
      refine V_aload_n (n := 0) X d_Top_watch_69 rfl rfl rfl ?_
      refine V_iload (n := 6) X d_Top_watch_70 rfl rfl ?_
      refine V_iload_n (n := 2) X d_Top_watch_72 rfl rfl rfl ?_
      refine V_iload_n (n := 1) X d_Top_watch_73 rfl rfl rfl ?_
      refine V_iload (n := 4) X d_Top_watch_74 rfl rfl ?_
      refine V_iload_n (n := 3) X d_Top_watch_76 rfl rfl rfl ?_
      obtain ⟨x4, hx4, h⟩ := ob_s h
      refine V_ci (As := [.int s.1, .int v2, .int v1, .int v4, .int v3]) X (Z0 E) ml_Top_433 yq_Top_slipsBy (c_Top_slipsBy E.2.1 G s.1 v2 v1 v4 v3 s.2 x4 hx4 _ (Nat.le_refl _)) kd_0 rfl rfl (by omega) rfl (Nat.le_of_ble_eq_true rfl) d_Top_watch_77 rfl (fun r9 M9 hq => ?_)
      rw [hq.1, hq.2]
      refine V_if_ne (tgt := 96) X d_Top_watch_80 (by decide) rfl (fun c5 => ?_) (fun c5 => ?_)
      · rw [if_neg c5] at h
        refine V_iinc (n := 6) (v := (s.1 + (1 : Int32))) (lv' := [(6, .int (s.1 + (1 : Int32))), (0, .ref (G.2.2 + 0)), (1, .int v1), (2, .int v2), (3, .int v3), (4, .int v4), (5, .int v5)]) X d_Top_watch_96 rfl rfl (by decide) rfl rfl ?_
        refine V_goto (pc' := 45) X d_Top_watch_99 (by decide) ?_
        refine V_sub (lv' := [(0, .ref (G.2.2 + 0)), (1, .int v1), (2, .int v2), (3, .int v3), (4, .int v4), (5, .int v5), (6, .int (s.1 + (1 : Int32)))]) [1, 2, 3, 4, 5, 6, 0] rfl ?_
        exact kc ((s.1 + (1 : Int32)), x4.2) (Option.some.inj h).symm
      · rw [if_pos c5] at h
        refine V_sub (lv' := [(0, .ref (G.2.2 + 0)), (5, .int v5), (6, .int s.1)]) [0, 5, 6] rfl ?_
        exact kx1 (s.1, x4.2) (Option.some.inj h).symm
theorem lp_Top_watch_45_ok {E : Ev} {G : Gw} {d : Nat} {post : Int32 → Mem → Prop} (X : Cx E G b_Top_watch "WomenByTheRoofs" 7 d (some .int)) (hD : 5 ≤ d)  (v1 : Int32) (v2 : Int32) (v3 : Int32) (v4 : Int32) (v5 : Int32)   (n9 : Nat) (s : Int32 × Mem) (x : (Mem) ⊕ (Int32 × Mem)) (h : iter (lb_Top_watch_45 v1 v2 v3 v4 v5) n9 s = some x) (kx0 : ∀ x9 : Mem, x = (Sum.inl x9) → V E (0, 0) G 7 (QI E G post) x9 102 [(0, .ref (G.2.2 + 0)), (1, .int v1), (2, .int v2), (3, .int v3), (4, .int v4), (5, .int v5)] []) (kx1 : ∀ x9 : Int32 × Mem, x = (Sum.inr x9) → V E (0, 0) G 7 (QI E G post) x9.2 83 [(0, .ref (G.2.2 + 0)), (5, .int v5), (6, .int x9.1)] []) : V E (0, 0) G 7 (QI E G post) s.2 45 [(0, .ref (G.2.2 + 0)), (1, .int v1), (2, .int v2), (3, .int v3), (4, .int v4), (5, .int v5), (6, .int s.1)] [] :=
  iter_P (P := fun s : Int32 × Mem => V E (0, 0) G 7 (QI E G post) s.2 45 [(0, .ref (G.2.2 + 0)), (1, .int v1), (2, .int v2), (3, .int v3), (4, .int v4), (5, .int v5), (6, .int s.1)] []) (fun s o hb kc ky => lb_Top_watch_45_ok X hD v1 v2 v3 v4 v5 s o hb kc (fun x9 e9 => kx0 x9 (ky _ e9).symm) (fun x9 e9 => kx1 x9 (ky _ e9).symm)) n9 s h
def lb_Top_watch_30 (v1 : Int32) (v2 : Int32) (v3 : Int32) (v4 : Int32) (s : Int32 × Mem) : Option ((Int32 × Mem) ⊕ ((Mem) ⊕ (Int32 × Int32 × Mem))) :=
  if (s.2.1 6 4) < s.1 then
  some (.inr (Sum.inl s.2))
  else
  Option.bind (iter (lb_Top_watch_45 v1 v2 v3 v4 s.1) FU ((0 : Int32), s.2)) (Sum.elim (fun y9 => some (.inl ((s.1 + (1 : Int32)), y9))) (fun y10 => some (.inr (Sum.inr (s.1, y10.1, y10.2)))))
theorem lb_Top_watch_30_ok {E : Ev} {G : Gw} {d : Nat} {post : Int32 → Mem → Prop} (X : Cx E G b_Top_watch "WomenByTheRoofs" 7 d (some .int)) (hD : 5 ≤ d)  (v1 : Int32) (v2 : Int32) (v3 : Int32) (v4 : Int32)   (s : Int32 × Mem) (o : (Int32 × Mem) ⊕ ((Mem) ⊕ (Int32 × Int32 × Mem))) (h : lb_Top_watch_30 v1 v2 v3 v4 s = some o) (kc : ∀ s9 : Int32 × Mem, o = .inl s9 → V E (0, 0) G 7 (QI E G post) s9.2 30 [(0, .ref (G.2.2 + 0)), (1, .int v1), (2, .int v2), (3, .int v3), (4, .int v4), (5, .int s9.1)] []) (kx0 : ∀ x9 : Mem, o = .inr (Sum.inl x9) → V E (0, 0) G 7 (QI E G post) x9 108 [] []) (kx1 : ∀ x9 : Int32 × Int32 × Mem, o = .inr (Sum.inr x9) → V E (0, 0) G 7 (QI E G post) x9.2.2 83 [(0, .ref (G.2.2 + 0)), (5, .int x9.1), (6, .int x9.2.1)] []) : V E (0, 0) G 7 (QI E G post) s.2 30 [(0, .ref (G.2.2 + 0)), (1, .int v1), (2, .int v2), (3, .int v3), (4, .int v4), (5, .int s.1)] [] := by
  unfold lb_Top_watch_30 at h
  refine V_iload (n := 5) X d_Top_watch_30 rfl rfl ?_
  refine V_aload_n (n := 0) X d_Top_watch_32 rfl rfl rfl ?_
  refine V_getr (k2 := 6) X fo_Top_26 kd_0 rfl rf_0_2 d_Top_watch_33 rfl ?_
  refine V_geti X fo_Top_129 kd_6 rfl d_Top_watch_36 rfl ?_
  refine V_icmp_gt (tgt := 108) X d_Top_watch_39 (by decide) rfl (fun c11 => ?_) (fun c11 => ?_)
  · rw [if_pos c11] at h
    refine V_sub (lv' := []) [] rfl ?_
    exact kx0 s.2 (Option.some.inj h).symm
  · rw [if_neg c11] at h
    refine V_iconst (v := 0) X d_Top_watch_42 (by decide) rfl ?_
    refine V_istore (lv' := [(6, .int (0 : Int32)), (0, .ref (G.2.2 + 0)), (1, .int v1), (2, .int v2), (3, .int v3), (4, .int v4), (5, .int s.1)]) X d_Top_watch_43 (by decide) rfl rfl ?_
    refine V_sub (lv' := [(0, .ref (G.2.2 + 0)), (1, .int v1), (2, .int v2), (3, .int v3), (4, .int v4), (5, .int s.1), (6, .int (0 : Int32))]) [1, 2, 3, 4, 5, 6, 0] rfl ?_
    obtain ⟨x8, hx8, h⟩ := ob_s h
    rcases x8 with y9 | y10
    · simp only [Sum.elim_inl, Sum.elim_inr] at h
      refine (lp_Top_watch_45_ok X hD v1 v2 v3 v4 s.1 _ _ _ hx8 (fun x9 e9 => ?_) (fun x9 e9 => by cases e9) :)
      cases e9
      refine V_iinc (n := 5) (v := (s.1 + (1 : Int32))) (lv' := [(5, .int (s.1 + (1 : Int32))), (0, .ref (G.2.2 + 0)), (1, .int v1), (2, .int v2), (3, .int v3), (4, .int v4)]) X d_Top_watch_102 rfl rfl (by decide) rfl rfl ?_
      refine V_goto (pc' := 30) X d_Top_watch_105 (by decide) ?_
      refine V_sub (lv' := [(0, .ref (G.2.2 + 0)), (1, .int v1), (2, .int v2), (3, .int v3), (4, .int v4), (5, .int (s.1 + (1 : Int32)))]) [1, 2, 3, 4, 5, 0] rfl ?_
      exact kc ((s.1 + (1 : Int32)), y9) (Option.some.inj h).symm
    · simp only [Sum.elim_inl, Sum.elim_inr] at h
      refine (lp_Top_watch_45_ok X hD v1 v2 v3 v4 s.1 _ _ _ hx8 (fun x9 e9 => by cases e9) (fun x9 e9 => ?_) :)
      cases e9
      exact kx1 (s.1, y10.1, y10.2) (Option.some.inj h).symm
theorem lp_Top_watch_30_ok {E : Ev} {G : Gw} {d : Nat} {post : Int32 → Mem → Prop} (X : Cx E G b_Top_watch "WomenByTheRoofs" 7 d (some .int)) (hD : 5 ≤ d)  (v1 : Int32) (v2 : Int32) (v3 : Int32) (v4 : Int32)   (n9 : Nat) (s : Int32 × Mem) (x : (Mem) ⊕ (Int32 × Int32 × Mem)) (h : iter (lb_Top_watch_30 v1 v2 v3 v4) n9 s = some x) (kx0 : ∀ x9 : Mem, x = (Sum.inl x9) → V E (0, 0) G 7 (QI E G post) x9 108 [] []) (kx1 : ∀ x9 : Int32 × Int32 × Mem, x = (Sum.inr x9) → V E (0, 0) G 7 (QI E G post) x9.2.2 83 [(0, .ref (G.2.2 + 0)), (5, .int x9.1), (6, .int x9.2.1)] []) : V E (0, 0) G 7 (QI E G post) s.2 30 [(0, .ref (G.2.2 + 0)), (1, .int v1), (2, .int v2), (3, .int v3), (4, .int v4), (5, .int s.1)] [] :=
  iter_P (P := fun s : Int32 × Mem => V E (0, 0) G 7 (QI E G post) s.2 30 [(0, .ref (G.2.2 + 0)), (1, .int v1), (2, .int v2), (3, .int v3), (4, .int v4), (5, .int s.1)] []) (fun s o hb kc ky => lb_Top_watch_30_ok X hD v1 v2 v3 v4 s o hb kc (fun x9 e9 => kx0 x9 (ky _ e9).symm) (fun x9 e9 => kx1 x9 (ky _ e9).symm)) n9 s h
def f_Top_watch (v1 : Int32) (v2 : Int32) (v3 : Int32) (v4 : Int32) (M : Mem) : Option (Int32 × Mem) :=
  Option.bind (f_Ground_holds v2 v1 M) fun x1 =>
  if x1 = 0 then
  some ((-1 : Int32), M)
  else
  Option.bind (f_Ground_holds v4 v3 M) fun x2 =>
  if x2 = 0 then
  some ((-1 : Int32), M)
  else
  Option.bind (iter (lb_Top_watch_30 v1 v2 v3 v4) FU ((0 : Int32), M)) (Sum.elim (fun y13 => some ((-2 : Int32), y13)) (fun y14 => Option.bind (f_Top_emptyRow y14.2.2) fun x15 =>
  Option.bind (f_Top_note y14.2.1 x15) fun x16 =>
  some (y14.1, x16)))
theorem c_Top_watch (l : Launch) (G : Gw)  (v1 : Int32) (v2 : Int32) (v3 : Int32) (v4 : Int32) (M : Mem) (x : Int32 × Mem) (h : f_Top_watch v1 v2 v3 v4 M = some x) (d : Nat) (hD : 5 ≤ d) : Ci l G y_Top_watch b_Top_watch 7 (some .int) d [.ref (G.2.2 + 0), .int v1, .int v2, .int v3, .int v4] M (fun r9 M9 => r9 = x.1 ∧ M9 = x.2) := by
  refine Ci_of (by decide) (Nat.le_of_ble_eq_true rfl) (fun E hE X => ?_)
  subst hE
  have kr : ∀ x9 : Int32 × Mem, x = x9 → (fun r9 M9 => r9 = x.1 ∧ M9 = x.2) x9.1 x9.2 := fun x9 e9 => by subst e9; exact ⟨rfl, rfl⟩
  unfold f_Top_watch at h
  refine V_aload_n (n := 0) X d_Top_watch_0 rfl rfl rfl ?_
  refine V_getr (k2 := 3) X fo_Top_19 kd_0 rfl rf_0_1 d_Top_watch_1 rfl ?_
  refine V_iload_n (n := 2) X d_Top_watch_4 rfl rfl rfl ?_
  refine V_iload_n (n := 1) X d_Top_watch_5 rfl rfl rfl ?_
  obtain ⟨x1, hx1, h⟩ := ob_s h
  refine V_ci (As := [.int v2, .int v1]) X (Z0 E) ml_Top_305 yq_Ground_holds (c_Ground_holds E.2.1 G v2 v1 M x1 hx1 _ (Nat.le_refl _)) kd_3 rfl rfl (by omega) rfl (Nat.le_of_ble_eq_true rfl) d_Top_watch_6 rfl (fun r9 M9 hq => ?_)
  rw [hq.1, hq.2]
  refine V_if_eq (tgt := 25) X d_Top_watch_9 (by decide) rfl (fun c18 => ?_) (fun c18 => ?_)
  · rw [if_pos c18] at h
    refine V_iconst (v := -1) X d_Top_watch_25 (by decide) rfl ?_
    exact V_iret X (kr ((-1 : Int32), M) (Option.some.inj h).symm) d_Top_watch_26
  · rw [if_neg c18] at h
    refine V_aload_n (n := 0) X d_Top_watch_12 rfl rfl rfl ?_
    refine V_getr (k2 := 3) X fo_Top_19 kd_0 rfl rf_0_1 d_Top_watch_13 rfl ?_
    refine V_iload (n := 4) X d_Top_watch_16 rfl rfl ?_
    refine V_iload_n (n := 3) X d_Top_watch_18 rfl rfl rfl ?_
    obtain ⟨x2, hx2, h⟩ := ob_s h
    refine V_ci (As := [.int v4, .int v3]) X (Z0 E) ml_Top_305 yq_Ground_holds (c_Ground_holds E.2.1 G v4 v3 M x2 hx2 _ (Nat.le_refl _)) kd_3 rfl rfl (by omega) rfl (Nat.le_of_ble_eq_true rfl) d_Top_watch_19 rfl (fun r9 M9 hq => ?_)
    rw [hq.1, hq.2]
    refine V_if_ne (tgt := 27) X d_Top_watch_22 (by decide) rfl (fun c17 => ?_) (fun c17 => ?_)
    · rw [if_neg c17] at h
      refine V_iconst (v := 0) X d_Top_watch_27 (by decide) rfl ?_
      refine V_istore (lv' := [(5, .int (0 : Int32)), (0, .ref (G.2.2 + 0)), (1, .int v1), (2, .int v2), (3, .int v3), (4, .int v4)]) X d_Top_watch_28 (by decide) rfl rfl ?_
      refine V_sub (lv' := [(0, .ref (G.2.2 + 0)), (1, .int v1), (2, .int v2), (3, .int v3), (4, .int v4), (5, .int (0 : Int32))]) [1, 2, 3, 4, 5, 0] rfl ?_
      obtain ⟨x12, hx12, h⟩ := ob_s h
      rcases x12 with y13 | y14
      · simp only [Sum.elim_inl, Sum.elim_inr] at h
        refine (lp_Top_watch_30_ok X hD v1 v2 v3 v4 _ _ _ hx12 (fun x9 e9 => ?_) (fun x9 e9 => by cases e9) :)
        cases e9
        refine V_bipush (v := -2) X d_Top_watch_108 (by decide) rfl ?_
        exact V_iret X (kr ((-2 : Int32), y13) (Option.some.inj h).symm) d_Top_watch_110
      · simp only [Sum.elim_inl, Sum.elim_inr] at h
        refine (lp_Top_watch_30_ok X hD v1 v2 v3 v4 _ _ _ hx12 (fun x9 e9 => by cases e9) (fun x9 e9 => ?_) :)
        cases e9
        refine V_aload_n (n := 0) X d_Top_watch_83 rfl rfl rfl ?_
        obtain ⟨x15, hx15, h⟩ := ob_s h
        refine V_cv (As := []) X (Z0 E) ml_Top_251 yq_Top_emptyRow (c_Top_emptyRow E.2.1 G  y14.2.2 x15 hx15 _ (Nat.le_refl _)) kd_0 rfl rfl (by omega) rfl (Nat.le_of_ble_eq_true rfl) d_Top_watch_84 rfl (fun M9 hq => ?_)
        rw [hq]
        refine V_aload_n (n := 0) X d_Top_watch_87 rfl rfl rfl ?_
        refine V_iload (n := 2) X d_Top_watch_88 rfl rfl ?_
        obtain ⟨x16, hx16, h⟩ := ob_s h
        refine V_cv (As := [.int y14.2.1]) X (Z0 E) ml_Top_257 yq_Top_note (c_Top_note E.2.1 G y14.2.1 x15 x16 hx16 _ (Nat.le_refl _)) kd_0 rfl rfl (by omega) rfl (Nat.le_of_ble_eq_true rfl) d_Top_watch_90 rfl (fun M9 hq => ?_)
        rw [hq]
        refine V_iload (n := 1) X d_Top_watch_93 rfl rfl ?_
        exact V_iret X (kr (y14.1, x16) (Option.some.inj h).symm) d_Top_watch_95
    · rw [if_pos c17] at h
      refine V_iconst (v := -1) X d_Top_watch_25 (by decide) rfl ?_
      exact V_iret X (kr ((-1 : Int32), M) (Option.some.inj h).symm) d_Top_watch_26
def f_Top_keep (v1 : Int32) (M : Mem) : Option (Int32 × Mem) :=
  Option.bind (f_History_store v1 11 M) fun x1 =>
  if x1.1 = 0 ∨ x1.1 = 1 then some (x1.1, x1.2) else none
theorem c_Top_keep (l : Launch) (G : Gw)  (v1 : Int32) (M : Mem) (x : Int32 × Mem) (h : f_Top_keep v1 M = some x) (d : Nat) (hD : 4 ≤ d) : Ci l G y_Top_keep b_Top_keep 2 (some .boolean) d [.ref (G.2.2 + 0), .int v1] M (fun r9 M9 => r9 = x.1 ∧ M9 = x.2) := by
  refine Ci_of (by decide) (Nat.le_of_ble_eq_true rfl) (fun E hE X => ?_)
  subst hE
  have kr : ∀ x9 : Int32 × Mem, x = x9 → (fun r9 M9 => r9 = x.1 ∧ M9 = x.2) x9.1 x9.2 := fun x9 e9 => by subst e9; exact ⟨rfl, rfl⟩
  unfold f_Top_keep at h
  refine V_aload_n (n := 0) X d_Top_keep_0 rfl rfl rfl ?_
  refine V_getr (k2 := 46) X fo_Top_70 kd_0 rfl rf_0_10 d_Top_keep_1 rfl ?_
  refine V_iload_n (n := 1) X d_Top_keep_4 rfl rfl rfl ?_
  refine V_aload_n (n := 0) X d_Top_keep_5 rfl rfl rfl ?_
  refine V_getr (k2 := 11) X fo_Top_33 kd_0 rfl rf_0_3 d_Top_keep_6 rfl ?_
  obtain ⟨x1, hx1, h⟩ := ob_s h
  refine V_ci (As := [.int v1, .ref (G.2.2 + 11)]) X (Z0 E) ml_Top_437 yq_History_store (c_History_store E.2.1 G v1 11 M x1 hx1 _ (Nat.le_refl _)) kd_46 rfl rfl (by omega) rfl (Nat.le_of_ble_eq_true rfl) d_Top_keep_9 rfl (fun r9 M9 hq => ?_)
  rw [hq.1, hq.2]
  obtain ⟨hq, h⟩ := ifn h
  exact V_zret X (kr (x1.1, x1.2) (Option.some.inj h).symm) hq d_Top_keep_12
def f_Top_again (v1 : Int32) (M : Mem) : Option (Int32 × Mem) :=
  Option.bind (f_History_restore v1 11 M) fun x1 =>
  if x1.1 = 0 then
  some ((0 : Int32), x1.2)
  else
  Option.bind (f_History_forget x1.2) fun x2 =>
  Option.bind (f_Nets_lay 32 11 (-1 : Int32) x2) fun x3 =>
  some ((1 : Int32), x3)
theorem c_Top_again (l : Launch) (G : Gw)  (v1 : Int32) (M : Mem) (x : Int32 × Mem) (h : f_Top_again v1 M = some x) (d : Nat) (hD : 5 ≤ d) : Ci l G y_Top_again b_Top_again 2 (some .boolean) d [.ref (G.2.2 + 0), .int v1] M (fun r9 M9 => r9 = x.1 ∧ M9 = x.2) := by
  refine Ci_of (by decide) (Nat.le_of_ble_eq_true rfl) (fun E hE X => ?_)
  subst hE
  have kr : ∀ x9 : Int32 × Mem, x = x9 → (fun r9 M9 => r9 = x.1 ∧ M9 = x.2) x9.1 x9.2 := fun x9 e9 => by subst e9; exact ⟨rfl, rfl⟩
  unfold f_Top_again at h
  refine V_aload_n (n := 0) X d_Top_again_0 rfl rfl rfl ?_
  refine V_getr (k2 := 46) X fo_Top_70 kd_0 rfl rf_0_10 d_Top_again_1 rfl ?_
  refine V_iload_n (n := 1) X d_Top_again_4 rfl rfl rfl ?_
  refine V_aload_n (n := 0) X d_Top_again_5 rfl rfl rfl ?_
  refine V_getr (k2 := 11) X fo_Top_33 kd_0 rfl rf_0_3 d_Top_again_6 rfl ?_
  obtain ⟨x1, hx1, h⟩ := ob_s h
  refine V_ci (As := [.int v1, .ref (G.2.2 + 11)]) X (Z0 E) ml_Top_441 yq_History_restore (c_History_restore E.2.1 G v1 11 M x1 hx1 _ (Nat.le_refl _)) kd_46 rfl rfl (by omega) rfl (Nat.le_of_ble_eq_true rfl) d_Top_again_9 rfl (fun r9 M9 hq => ?_)
  rw [hq.1, hq.2]
  refine V_if_ne (tgt := 17) X d_Top_again_12 (by decide) rfl (fun c4 => ?_) (fun c4 => ?_)
  · rw [if_neg c4] at h
    refine V_aload_n (n := 0) X d_Top_again_17 rfl rfl rfl ?_
    refine V_getr (k2 := 46) X fo_Top_70 kd_0 rfl rf_0_10 d_Top_again_18 rfl ?_
    obtain ⟨x2, hx2, h⟩ := ob_s h
    refine V_cv (As := []) X (Z0 E) ml_Top_146 yq_History_forget (c_History_forget E.2.1 G  x1.2 x2 hx2 _ (Nat.le_refl _)) kd_46 rfl rfl (by omega) rfl (Nat.le_of_ble_eq_true rfl) d_Top_again_21 rfl (fun M9 hq => ?_)
    rw [hq]
    refine V_aload_n (n := 0) X d_Top_again_24 rfl rfl rfl ?_
    refine V_getr (k2 := 32) X fo_Top_46 kd_0 rfl rf_0_6 d_Top_again_25 rfl ?_
    refine V_aload_n (n := 0) X d_Top_again_28 rfl rfl rfl ?_
    refine V_getr (k2 := 3) X fo_Top_19 kd_0 rfl rf_0_1 d_Top_again_29 rfl ?_
    refine V_aload_n (n := 0) X d_Top_again_32 rfl rfl rfl ?_
    refine V_getr (k2 := 11) X fo_Top_33 kd_0 rfl rf_0_3 d_Top_again_33 rfl ?_
    refine V_iconst (v := -1) X d_Top_again_36 (by decide) rfl ?_
    obtain ⟨x3, hx3, h⟩ := ob_s h
    refine V_cv (As := [.ref (G.2.2 + 3), .ref (G.2.2 + 11), .int (-1 : Int32)]) X (Z0 E) ml_Top_122 yq_Nets_lay (c_Nets_lay E.2.1 G 32 11 (-1 : Int32) x2 x3 hx3 _ (Nat.le_refl _)) kd_32 rfl rfl (by omega) rfl (Nat.le_of_ble_eq_true rfl) d_Top_again_37 rfl (fun M9 hq => ?_)
    rw [hq]
    refine V_iconst (v := 1) X d_Top_again_40 (by decide) rfl ?_
    exact V_zret X (kr ((1 : Int32), x3) (Option.some.inj h).symm) (by decide) d_Top_again_41
  · rw [if_pos c4] at h
    refine V_iconst (v := 0) X d_Top_again_15 (by decide) rfl ?_
    exact V_zret X (kr ((0 : Int32), x1.2) (Option.some.inj h).symm) (by decide) d_Top_again_16
def f_Top_count (v1 : Int32) (M : Mem) : Option (Int32) :=
  if v1 = (0 : Int32) then
  some (M.1 3 3)
  else if v1 = (1 : Int32) then
  some (M.1 3 2)
  else if v1 = (2 : Int32) then
  some (M.1 6 4)
  else if v1 = (3 : Int32) then
  some (M.1 11 7)
  else if v1 = (4 : Int32) then
  some (M.1 11 6)
  else if v1 = (5 : Int32) then
  some (M.1 6 5)
  else if v1 = (6 : Int32) then
  some (M.1 11 8)
  else if v1 = (7 : Int32) then
  some (M.1 11 9)
  else if v1 = (8 : Int32) then
  Option.bind (f_Scene_allMeetings 11 M) fun x9 =>
  some x9
  else if v1 = (9 : Int32) then
  some (M.1 0 16)
  else if v1 = (10 : Int32) then
  some (M.1 46 2)
  else if v1 = (11 : Int32) then
  some (M.1 0 15)
  else if v1 = (12 : Int32) then
  some (M.1 1 1)
  else some (-100 : Int32)
theorem c_Top_count (l : Launch) (G : Gw)  (v1 : Int32) (M : Mem) (x : Int32) (h : f_Top_count v1 M = some x) (d : Nat) (hD : 2 ≤ d) : Ci l G y_Top_count b_Top_count 2 (some .int) d [.ref (G.2.2 + 0), .int v1] M (fun r9 M9 => r9 = x ∧ M9 = M) := by
  refine Ci_of (by decide) (Nat.le_of_ble_eq_true rfl) (fun E hE X => ?_)
  subst hE
  have kr : ∀ x9 : Int32, x = x9 → (fun r9 M9 => r9 = x ∧ M9 = M) x9 M := fun x9 e9 => by subst e9; exact ⟨rfl, rfl⟩
  unfold f_Top_count at h
  refine V_iload_n (n := 1) X d_Top_count_0 rfl rfl rfl ?_
  by_cases c1 : v1 = (0 : Int32)
  · rw [if_pos c1] at h
    refine V_tbl (v := 0) (pc' := 68) (off := 67) X d_Top_count_1 c1 (by decide) (by decide) (by decide +kernel) (by decide) ?_
    refine V_aload_n (n := 0) X d_Top_count_68 rfl rfl rfl ?_
    refine V_getr (k2 := 3) X fo_Top_19 kd_0 rfl rf_0_1 d_Top_count_69 rfl ?_
    refine V_geti X fo_Top_346 kd_3 rfl d_Top_count_72 rfl ?_
    exact V_iret X (kr (M.1 3 3) (Option.some.inj h).symm) d_Top_count_75
  · rw [if_neg c1] at h
    by_cases c2 : v1 = (1 : Int32)
    · rw [if_pos c2] at h
      refine V_tbl (v := 1) (pc' := 76) (off := 75) X d_Top_count_1 c2 (by decide) (by decide) (by decide +kernel) (by decide) ?_
      refine V_aload_n (n := 0) X d_Top_count_76 rfl rfl rfl ?_
      refine V_getr (k2 := 3) X fo_Top_19 kd_0 rfl rf_0_1 d_Top_count_77 rfl ?_
      refine V_geti X fo_Top_444 kd_3 rfl d_Top_count_80 rfl ?_
      exact V_iret X (kr (M.1 3 2) (Option.some.inj h).symm) d_Top_count_83
    · rw [if_neg c2] at h
      by_cases c3 : v1 = (2 : Int32)
      · rw [if_pos c3] at h
        refine V_tbl (v := 2) (pc' := 84) (off := 83) X d_Top_count_1 c3 (by decide) (by decide) (by decide +kernel) (by decide) ?_
        refine V_aload_n (n := 0) X d_Top_count_84 rfl rfl rfl ?_
        refine V_getr (k2 := 6) X fo_Top_26 kd_0 rfl rf_0_2 d_Top_count_85 rfl ?_
        refine V_geti X fo_Top_129 kd_6 rfl d_Top_count_88 rfl ?_
        exact V_iret X (kr (M.1 6 4) (Option.some.inj h).symm) d_Top_count_91
      · rw [if_neg c3] at h
        by_cases c4 : v1 = (3 : Int32)
        · rw [if_pos c4] at h
          refine V_tbl (v := 3) (pc' := 92) (off := 91) X d_Top_count_1 c4 (by decide) (by decide) (by decide +kernel) (by decide) ?_
          refine V_aload_n (n := 0) X d_Top_count_92 rfl rfl rfl ?_
          refine V_getr (k2 := 11) X fo_Top_33 kd_0 rfl rf_0_3 d_Top_count_93 rfl ?_
          refine V_geti X fo_Top_447 kd_11 rfl d_Top_count_96 rfl ?_
          exact V_iret X (kr (M.1 11 7) (Option.some.inj h).symm) d_Top_count_99
        · rw [if_neg c4] at h
          by_cases c5 : v1 = (4 : Int32)
          · rw [if_pos c5] at h
            refine V_tbl (v := 4) (pc' := 100) (off := 99) X d_Top_count_1 c5 (by decide) (by decide) (by decide +kernel) (by decide) ?_
            refine V_aload_n (n := 0) X d_Top_count_100 rfl rfl rfl ?_
            refine V_getr (k2 := 11) X fo_Top_33 kd_0 rfl rf_0_3 d_Top_count_101 rfl ?_
            refine V_geti X fo_Top_224 kd_11 rfl d_Top_count_104 rfl ?_
            exact V_iret X (kr (M.1 11 6) (Option.some.inj h).symm) d_Top_count_107
          · rw [if_neg c5] at h
            by_cases c6 : v1 = (5 : Int32)
            · rw [if_pos c6] at h
              refine V_tbl (v := 5) (pc' := 108) (off := 107) X d_Top_count_1 c6 (by decide) (by decide) (by decide +kernel) (by decide) ?_
              refine V_aload_n (n := 0) X d_Top_count_108 rfl rfl rfl ?_
              refine V_getr (k2 := 6) X fo_Top_26 kd_0 rfl rf_0_2 d_Top_count_109 rfl ?_
              refine V_geti X fo_Top_374 kd_6 rfl d_Top_count_112 rfl ?_
              exact V_iret X (kr (M.1 6 5) (Option.some.inj h).symm) d_Top_count_115
            · rw [if_neg c6] at h
              by_cases c7 : v1 = (6 : Int32)
              · rw [if_pos c7] at h
                refine V_tbl (v := 6) (pc' := 116) (off := 115) X d_Top_count_1 c7 (by decide) (by decide) (by decide +kernel) (by decide) ?_
                refine V_aload_n (n := 0) X d_Top_count_116 rfl rfl rfl ?_
                refine V_getr (k2 := 11) X fo_Top_33 kd_0 rfl rf_0_3 d_Top_count_117 rfl ?_
                refine V_geti X fo_Top_197 kd_11 rfl d_Top_count_120 rfl ?_
                exact V_iret X (kr (M.1 11 8) (Option.some.inj h).symm) d_Top_count_123
              · rw [if_neg c7] at h
                by_cases c8 : v1 = (7 : Int32)
                · rw [if_pos c8] at h
                  refine V_tbl (v := 7) (pc' := 124) (off := 123) X d_Top_count_1 c8 (by decide) (by decide) (by decide +kernel) (by decide) ?_
                  refine V_aload_n (n := 0) X d_Top_count_124 rfl rfl rfl ?_
                  refine V_getr (k2 := 11) X fo_Top_33 kd_0 rfl rf_0_3 d_Top_count_125 rfl ?_
                  refine V_geti X fo_Top_450 kd_11 rfl d_Top_count_128 rfl ?_
                  exact V_iret X (kr (M.1 11 9) (Option.some.inj h).symm) d_Top_count_131
                · rw [if_neg c8] at h
                  by_cases c10 : v1 = (8 : Int32)
                  · rw [if_pos c10] at h
                    refine V_tbl (v := 8) (pc' := 132) (off := 131) X d_Top_count_1 c10 (by decide) (by decide) (by decide +kernel) (by decide) ?_
                    refine V_aload_n (n := 0) X d_Top_count_132 rfl rfl rfl ?_
                    refine V_getr (k2 := 11) X fo_Top_33 kd_0 rfl rf_0_3 d_Top_count_133 rfl ?_
                    obtain ⟨x9, hx9, h⟩ := ob_s h
                    refine V_ci (As := []) X (Z0 E) ml_Top_453 yq_Scene_allMeetings (c_Scene_allMeetings E.2.1 G 11 M x9 hx9 _ (Nat.le_refl _)) kd_11 rfl rfl (by omega) rfl (Nat.le_of_ble_eq_true rfl) d_Top_count_136 rfl (fun r9 M9 hq => ?_)
                    rw [hq.1, hq.2]
                    exact V_iret X (kr x9 (Option.some.inj h).symm) d_Top_count_139
                  · rw [if_neg c10] at h
                    by_cases c11 : v1 = (9 : Int32)
                    · rw [if_pos c11] at h
                      refine V_tbl (v := 9) (pc' := 140) (off := 139) X d_Top_count_1 c11 (by decide) (by decide) (by decide +kernel) (by decide) ?_
                      refine V_aload_n (n := 0) X d_Top_count_140 rfl rfl rfl ?_
                      refine V_geti X fo_Top_103 kd_0 rfl d_Top_count_141 rfl ?_
                      exact V_iret X (kr (M.1 0 16) (Option.some.inj h).symm) d_Top_count_144
                    · rw [if_neg c11] at h
                      by_cases c12 : v1 = (10 : Int32)
                      · rw [if_pos c12] at h
                        refine V_tbl (v := 10) (pc' := 145) (off := 144) X d_Top_count_1 c12 (by decide) (by decide) (by decide +kernel) (by decide) ?_
                        refine V_aload_n (n := 0) X d_Top_count_145 rfl rfl rfl ?_
                        refine V_getr (k2 := 46) X fo_Top_70 kd_0 rfl rf_0_10 d_Top_count_146 rfl ?_
                        refine V_geti X fo_Top_283 kd_46 rfl d_Top_count_149 rfl ?_
                        exact V_iret X (kr (M.1 46 2) (Option.some.inj h).symm) d_Top_count_152
                      · rw [if_neg c12] at h
                        by_cases c13 : v1 = (11 : Int32)
                        · rw [if_pos c13] at h
                          refine V_tbl (v := 11) (pc' := 153) (off := 152) X d_Top_count_1 c13 (by decide) (by decide) (by decide +kernel) (by decide) ?_
                          refine V_aload_n (n := 0) X d_Top_count_153 rfl rfl rfl ?_
                          refine V_geti X fo_Top_99 kd_0 rfl d_Top_count_154 rfl ?_
                          exact V_iret X (kr (M.1 0 15) (Option.some.inj h).symm) d_Top_count_157
                        · rw [if_neg c13] at h
                          by_cases c14 : v1 = (12 : Int32)
                          · rw [if_pos c14] at h
                            refine V_tbl (v := 12) (pc' := 158) (off := 157) X d_Top_count_1 c14 (by decide) (by decide) (by decide +kernel) (by decide) ?_
                            refine V_aload_n (n := 0) X d_Top_count_158 rfl rfl rfl ?_
                            refine V_getr (k2 := 1) X fo_Top_10 kd_0 rfl rf_0_0 d_Top_count_159 rfl ?_
                            refine V_geti X fo_Top_110 kd_1 rfl d_Top_count_162 rfl ?_
                            exact V_iret X (kr (M.1 1 1) (Option.some.inj h).symm) d_Top_count_165
                          · rw [if_neg c14] at h
                            refine V_tableOut (pc' := 166) X d_Top_count_1 (by have g0 := neT c1 (z := 0) (by decide); have g1 := neT c2 (z := 1) (by decide); have g2 := neT c3 (z := 2) (by decide); have g3 := neT c4 (z := 3) (by decide); have g4 := neT c5 (z := 4) (by decide); have g5 := neT c6 (z := 5) (by decide); have g6 := neT c7 (z := 6) (by decide); have g7 := neT c8 (z := 7) (by decide); have g8 := neT c10 (z := 8) (by decide); have g9 := neT c11 (z := 9) (by decide); have g10 := neT c12 (z := 10) (by decide); have g11 := neT c13 (z := 11) (by decide); have g12 := neT c14 (z := 12) (by decide); omega) (by decide) ?_
                            refine V_bipush (v := -100) X d_Top_count_166 (by decide) rfl ?_
                            exact V_iret X (kr (-100 : Int32) (Option.some.inj h).symm) d_Top_count_168
