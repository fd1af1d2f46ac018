theorem d_Top_handOver_0 : decode b_Top_handOver 0 = .ok (.iload_n 3, 1) := kq_29 byq_r (by decide +kernel)
theorem d_Top_handOver_1 : decode b_Top_handOver 1 = .ok (.istore 4, 2) := kq_54 byq_r (by decide +kernel)
theorem d_Top_handOver_3 : decode b_Top_handOver 3 = .ok (.aload_n 0, 1) := kq_42 byq_r (by decide +kernel)
theorem d_Top_handOver_4 : decode b_Top_handOver 4 = .ok (.getfield 46, 3) := kq_180 byq_r (a := 0) (b := 46) (by decide +kernel)
theorem d_Top_handOver_7 : decode b_Top_handOver 7 = .ok (.iconst 1, 1) := kq_4 byq_r (by decide +kernel)
theorem d_Top_handOver_8 : decode b_Top_handOver 8 = .ok (.aload_n 0, 1) := kq_42 byq_r (by decide +kernel)
theorem d_Top_handOver_9 : decode b_Top_handOver 9 = .ok (.getfield 33, 3) := kq_180 byq_r (a := 0) (b := 33) (by decide +kernel)
theorem d_Top_handOver_12 : decode b_Top_handOver 12 = .ok (.getfield 188, 3) := kq_180 byq_r (a := 0) (b := 188) (by decide +kernel)
theorem d_Top_handOver_15 : decode b_Top_handOver 15 = .ok (.iload_n 2, 1) := kq_28 byq_r (by decide +kernel)
theorem d_Top_handOver_16 : decode b_Top_handOver 16 = .ok (.iaload, 1) := kq_46 byq_r (by decide +kernel)
theorem d_Top_handOver_17 : decode b_Top_handOver 17 = .ok (.aload_n 0, 1) := kq_42 byq_r (by decide +kernel)
theorem d_Top_handOver_18 : decode b_Top_handOver 18 = .ok (.getfield 91, 3) := kq_180 byq_r (a := 0) (b := 91) (by decide +kernel)
theorem d_Top_handOver_21 : decode b_Top_handOver 21 = .ok (.getfield 485, 3) := kq_180 byq_r (a := 1) (b := 229) (by decide +kernel)
theorem d_Top_handOver_24 : decode b_Top_handOver 24 = .ok (.invokevirtual 315, 3) := kq_182 byq_r (a := 1) (b := 59) (by decide +kernel)
theorem d_Top_handOver_27 : decode b_Top_handOver 27 = .ok (.aload_n 0, 1) := kq_42 byq_r (by decide +kernel)
theorem d_Top_handOver_28 : decode b_Top_handOver 28 = .ok (.getfield 91, 3) := kq_180 byq_r (a := 0) (b := 91) (by decide +kernel)
theorem d_Top_handOver_31 : decode b_Top_handOver 31 = .ok (.getfield 312, 3) := kq_180 byq_r (a := 1) (b := 56) (by decide +kernel)
theorem d_Top_handOver_34 : decode b_Top_handOver 34 = .ok (.aload_n 0, 1) := kq_42 byq_r (by decide +kernel)
theorem d_Top_handOver_35 : decode b_Top_handOver 35 = .ok (.getfield 33, 3) := kq_180 byq_r (a := 0) (b := 33) (by decide +kernel)
theorem d_Top_handOver_38 : decode b_Top_handOver 38 = .ok (.getfield 188, 3) := kq_180 byq_r (a := 0) (b := 188) (by decide +kernel)
theorem d_Top_handOver_41 : decode b_Top_handOver 41 = .ok (.iload_n 1, 1) := kq_27 byq_r (by decide +kernel)
theorem d_Top_handOver_42 : decode b_Top_handOver 42 = .ok (.iaload, 1) := kq_46 byq_r (by decide +kernel)
theorem d_Top_handOver_43 : decode b_Top_handOver 43 = .ok (.iaload, 1) := kq_46 byq_r (by decide +kernel)
theorem d_Top_handOver_44 : decode b_Top_handOver 44 = .ok (.istore 5, 2) := kq_54 byq_r (by decide +kernel)
theorem d_Top_handOver_46 : decode b_Top_handOver 46 = .ok (.iconst 0, 1) := kq_3 byq_r (by decide +kernel)
theorem d_Top_handOver_47 : decode b_Top_handOver 47 = .ok (.istore 6, 2) := kq_54 byq_r (by decide +kernel)
theorem d_Top_handOver_49 : decode b_Top_handOver 49 = .ok (.iload 6, 2) := kq_21 byq_r (by decide +kernel)
theorem d_Top_handOver_51 : decode b_Top_handOver 51 = .ok (.aload_n 0, 1) := kq_42 byq_r (by decide +kernel)
theorem d_Top_handOver_52 : decode b_Top_handOver 52 = .ok (.getfield 19, 3) := kq_180 byq_r (a := 0) (b := 19) (by decide +kernel)
theorem d_Top_handOver_55 : decode b_Top_handOver 55 = .ok (.getfield 346, 3) := kq_180 byq_r (a := 1) (b := 90) (by decide +kernel)
theorem d_Top_handOver_58 : decode b_Top_handOver 58 = .ok (.if_icmp .ge 95, 3) := kq_162 byq_r (a := 0) (b := 95) (by decide +kernel)
theorem d_Top_handOver_61 : decode b_Top_handOver 61 = .ok (.aload_n 0, 1) := kq_42 byq_r (by decide +kernel)
theorem d_Top_handOver_62 : decode b_Top_handOver 62 = .ok (.getfield 19, 3) := kq_180 byq_r (a := 0) (b := 19) (by decide +kernel)
theorem d_Top_handOver_65 : decode b_Top_handOver 65 = .ok (.iload 6, 2) := kq_21 byq_r (by decide +kernel)
theorem d_Top_handOver_67 : decode b_Top_handOver 67 = .ok (.invokevirtual 290, 3) := kq_182 byq_r (a := 1) (b := 34) (by decide +kernel)
theorem d_Top_handOver_70 : decode b_Top_handOver 70 = .ok (.ifCond .eq 77, 3) := kq_153 byq_r (a := 0) (b := 77) (by decide +kernel)
theorem d_Top_handOver_73 : decode b_Top_handOver 73 = .ok (.iload 5, 2) := kq_21 byq_r (by decide +kernel)
theorem d_Top_handOver_75 : decode b_Top_handOver 75 = .ok (.aload_n 0, 1) := kq_42 byq_r (by decide +kernel)
theorem d_Top_handOver_76 : decode b_Top_handOver 76 = .ok (.getfield 91, 3) := kq_180 byq_r (a := 0) (b := 91) (by decide +kernel)
theorem d_Top_handOver_79 : decode b_Top_handOver 79 = .ok (.getfield 312, 3) := kq_180 byq_r (a := 1) (b := 56) (by decide +kernel)
theorem d_Top_handOver_82 : decode b_Top_handOver 82 = .ok (.iload 6, 2) := kq_21 byq_r (by decide +kernel)
theorem d_Top_handOver_84 : decode b_Top_handOver 84 = .ok (.iaload, 1) := kq_46 byq_r (by decide +kernel)
theorem d_Top_handOver_85 : decode b_Top_handOver 85 = .ok (.iadd, 1) := kq_96 byq_r (by decide +kernel)
theorem d_Top_handOver_86 : decode b_Top_handOver 86 = .ok (.istore 7, 2) := kq_54 byq_r (by decide +kernel)
theorem d_Top_handOver_88 : decode b_Top_handOver 88 = .ok (.iload 7, 2) := kq_21 byq_r (by decide +kernel)
theorem d_Top_handOver_90 : decode b_Top_handOver 90 = .ok (.aload_n 0, 1) := kq_42 byq_r (by decide +kernel)
theorem d_Top_handOver_91 : decode b_Top_handOver 91 = .ok (.getfield 91, 3) := kq_180 byq_r (a := 0) (b := 91) (by decide +kernel)
theorem d_Top_handOver_94 : decode b_Top_handOver 94 = .ok (.getfield 485, 3) := kq_180 byq_r (a := 1) (b := 229) (by decide +kernel)
theorem d_Top_handOver_97 : decode b_Top_handOver 97 = .ok (.iload 6, 2) := kq_21 byq_r (by decide +kernel)
theorem d_Top_handOver_99 : decode b_Top_handOver 99 = .ok (.iaload, 1) := kq_46 byq_r (by decide +kernel)
theorem d_Top_handOver_100 : decode b_Top_handOver 100 = .ok (.invokestatic 381, 3) := kq_184 byq_r (a := 1) (b := 125) (by decide +kernel)
theorem d_Top_handOver_103 : decode b_Top_handOver 103 = .ok (.aload_n 0, 1) := kq_42 byq_r (by decide +kernel)
theorem d_Top_handOver_104 : decode b_Top_handOver 104 = .ok (.getfield 91, 3) := kq_180 byq_r (a := 0) (b := 91) (by decide +kernel)
theorem d_Top_handOver_107 : decode b_Top_handOver 107 = .ok (.getfield 331, 3) := kq_180 byq_r (a := 1) (b := 75) (by decide +kernel)
theorem d_Top_handOver_110 : decode b_Top_handOver 110 = .ok (.iload 6, 2) := kq_21 byq_r (by decide +kernel)
theorem d_Top_handOver_112 : decode b_Top_handOver 112 = .ok (.iaload, 1) := kq_46 byq_r (by decide +kernel)
theorem d_Top_handOver_113 : decode b_Top_handOver 113 = .ok (.iadd, 1) := kq_96 byq_r (by decide +kernel)
theorem d_Top_handOver_114 : decode b_Top_handOver 114 = .ok (.istore 8, 2) := kq_54 byq_r (by decide +kernel)
theorem d_Top_handOver_116 : decode b_Top_handOver 116 = .ok (.iload 8, 2) := kq_21 byq_r (by decide +kernel)
theorem d_Top_handOver_118 : decode b_Top_handOver 118 = .ok (.iload 4, 2) := kq_21 byq_r (by decide +kernel)
theorem d_Top_handOver_120 : decode b_Top_handOver 120 = .ok (.if_icmp .ge 27, 3) := kq_162 byq_r (a := 0) (b := 27) (by decide +kernel)
theorem d_Top_handOver_123 : decode b_Top_handOver 123 = .ok (.iload 8, 2) := kq_21 byq_r (by decide +kernel)
theorem d_Top_handOver_125 : decode b_Top_handOver 125 = .ok (.istore 4, 2) := kq_54 byq_r (by decide +kernel)
theorem d_Top_handOver_127 : decode b_Top_handOver 127 = .ok (.aload_n 0, 1) := kq_42 byq_r (by decide +kernel)
theorem d_Top_handOver_128 : decode b_Top_handOver 128 = .ok (.invokevirtual 251, 3) := kq_182 byq_r (a := 0) (b := 251) (by decide +kernel)
theorem d_Top_handOver_131 : decode b_Top_handOver 131 = .ok (.aload_n 0, 1) := kq_42 byq_r (by decide +kernel)
theorem d_Top_handOver_132 : decode b_Top_handOver 132 = .ok (.iload_n 1, 1) := kq_27 byq_r (by decide +kernel)
theorem d_Top_handOver_133 : decode b_Top_handOver 133 = .ok (.invokevirtual 257, 3) := kq_182 byq_r (a := 1) (b := 1) (by decide +kernel)
theorem d_Top_handOver_136 : decode b_Top_handOver 136 = .ok (.aload_n 0, 1) := kq_42 byq_r (by decide +kernel)
theorem d_Top_handOver_137 : decode b_Top_handOver 137 = .ok (.iload_n 2, 1) := kq_28 byq_r (by decide +kernel)
theorem d_Top_handOver_138 : decode b_Top_handOver 138 = .ok (.invokevirtual 257, 3) := kq_182 byq_r (a := 1) (b := 1) (by decide +kernel)
theorem d_Top_handOver_141 : decode b_Top_handOver 141 = .ok (.aload_n 0, 1) := kq_42 byq_r (by decide +kernel)
theorem d_Top_handOver_142 : decode b_Top_handOver 142 = .ok (.iload 6, 2) := kq_21 byq_r (by decide +kernel)
theorem d_Top_handOver_144 : decode b_Top_handOver 144 = .ok (.invokevirtual 257, 3) := kq_182 byq_r (a := 1) (b := 1) (by decide +kernel)
theorem d_Top_handOver_147 : decode b_Top_handOver 147 = .ok (.iinc 6 1, 3) := kq_132 byq_r (b := 1) (by decide +kernel)
theorem d_Top_handOver_150 : decode b_Top_handOver 150 = .ok (.goto (-101), 3) := kq_167 byq_r (a := 255) (b := 155) (by decide +kernel)
theorem d_Top_handOver_153 : decode b_Top_handOver 153 = .ok (.iload 4, 2) := kq_21 byq_r (by decide +kernel)
theorem d_Top_handOver_155 : decode b_Top_handOver 155 = .ok (.ireturn, 1) := kq_172 byq_r (by decide +kernel)
theorem d_Top_errand_0 : decode b_Top_errand 0 = .ok (.aload_n 0, 1) := kq_42 byq_r (by decide +kernel)
theorem d_Top_errand_1 : decode b_Top_errand 1 = .ok (.getfield 19, 3) := kq_180 byq_r (a := 0) (b := 19) (by decide +kernel)
theorem d_Top_errand_4 : decode b_Top_errand 4 = .ok (.iconst 0, 1) := kq_3 byq_r (by decide +kernel)
theorem d_Top_errand_5 : decode b_Top_errand 5 = .ok (.iload_n 1, 1) := kq_27 byq_r (by decide +kernel)
theorem d_Top_errand_6 : decode b_Top_errand 6 = .ok (.invokevirtual 305, 3) := kq_182 byq_r (a := 1) (b := 49) (by decide +kernel)
theorem d_Top_errand_9 : decode b_Top_errand 9 = .ok (.ifCond .eq 15, 3) := kq_153 byq_r (a := 0) (b := 15) (by decide +kernel)
theorem d_Top_errand_12 : decode b_Top_errand 12 = .ok (.aload_n 0, 1) := kq_42 byq_r (by decide +kernel)
theorem d_Top_errand_13 : decode b_Top_errand 13 = .ok (.getfield 19, 3) := kq_180 byq_r (a := 0) (b := 19) (by decide +kernel)
theorem d_Top_errand_16 : decode b_Top_errand 16 = .ok (.iconst 1, 1) := kq_4 byq_r (by decide +kernel)
theorem d_Top_errand_17 : decode b_Top_errand 17 = .ok (.iload_n 2, 1) := kq_28 byq_r (by decide +kernel)
theorem d_Top_errand_18 : decode b_Top_errand 18 = .ok (.invokevirtual 305, 3) := kq_182 byq_r (a := 1) (b := 49) (by decide +kernel)
theorem d_Top_errand_21 : decode b_Top_errand 21 = .ok (.ifCond .ne 5, 3) := kq_154 byq_r (a := 0) (b := 5) (by decide +kernel)
theorem d_Top_errand_24 : decode b_Top_errand 24 = .ok (.iconst (-1), 1) := kq_2 byq_r (by decide +kernel)
theorem d_Top_errand_25 : decode b_Top_errand 25 = .ok (.ireturn, 1) := kq_172 byq_r (by decide +kernel)
theorem d_Top_errand_26 : decode b_Top_errand 26 = .ok (.aload_n 0, 1) := kq_42 byq_r (by decide +kernel)
theorem d_Top_errand_27 : decode b_Top_errand 27 = .ok (.getfield 46, 3) := kq_180 byq_r (a := 0) (b := 46) (by decide +kernel)
theorem d_Top_errand_30 : decode b_Top_errand 30 = .ok (.iconst 0, 1) := kq_3 byq_r (by decide +kernel)
theorem d_Top_errand_31 : decode b_Top_errand 31 = .ok (.iload_n 1, 1) := kq_27 byq_r (by decide +kernel)
theorem d_Top_errand_32 : decode b_Top_errand 32 = .ok (.aload_n 0, 1) := kq_42 byq_r (by decide +kernel)
theorem d_Top_errand_33 : decode b_Top_errand 33 = .ok (.getfield 91, 3) := kq_180 byq_r (a := 0) (b := 91) (by decide +kernel)
theorem d_Top_errand_36 : decode b_Top_errand 36 = .ok (.getfield 312, 3) := kq_180 byq_r (a := 1) (b := 56) (by decide +kernel)
theorem d_Top_errand_39 : decode b_Top_errand 39 = .ok (.invokevirtual 315, 3) := kq_182 byq_r (a := 1) (b := 59) (by decide +kernel)
theorem d_Top_errand_42 : decode b_Top_errand 42 = .ok (.aload_n 0, 1) := kq_42 byq_r (by decide +kernel)
theorem d_Top_errand_43 : decode b_Top_errand 43 = .ok (.getfield 46, 3) := kq_180 byq_r (a := 0) (b := 46) (by decide +kernel)
theorem d_Top_errand_46 : decode b_Top_errand 46 = .ok (.iconst 1, 1) := kq_4 byq_r (by decide +kernel)
theorem d_Top_errand_47 : decode b_Top_errand 47 = .ok (.iload_n 2, 1) := kq_28 byq_r (by decide +kernel)
theorem d_Top_errand_48 : decode b_Top_errand 48 = .ok (.aload_n 0, 1) := kq_42 byq_r (by decide +kernel)
theorem d_Top_errand_49 : decode b_Top_errand 49 = .ok (.getfield 91, 3) := kq_180 byq_r (a := 0) (b := 91) (by decide +kernel)
theorem d_Top_errand_52 : decode b_Top_errand 52 = .ok (.getfield 331, 3) := kq_180 byq_r (a := 1) (b := 75) (by decide +kernel)
theorem d_Top_errand_55 : decode b_Top_errand 55 = .ok (.invokevirtual 315, 3) := kq_182 byq_r (a := 1) (b := 59) (by decide +kernel)
theorem d_Top_errand_58 : decode b_Top_errand 58 = .ok (.ldc_w 319, 3) := kq_19 byq_r (a := 1) (b := 63) (by decide +kernel)
theorem d_Top_errand_61 : decode b_Top_errand 61 = .ok (.istore_n 3, 1) := kq_62 byq_r (by decide +kernel)
theorem d_Top_errand_62 : decode b_Top_errand 62 = .ok (.iconst 0, 1) := kq_3 byq_r (by decide +kernel)
theorem d_Top_errand_63 : decode b_Top_errand 63 = .ok (.istore 4, 2) := kq_54 byq_r (by decide +kernel)
theorem d_Top_errand_65 : decode b_Top_errand 65 = .ok (.iload 4, 2) := kq_21 byq_r (by decide +kernel)
theorem d_Top_errand_67 : decode b_Top_errand 67 = .ok (.aload_n 0, 1) := kq_42 byq_r (by decide +kernel)
theorem d_Top_errand_68 : decode b_Top_errand 68 = .ok (.getfield 26, 3) := kq_180 byq_r (a := 0) (b := 26) (by decide +kernel)
theorem d_Top_errand_71 : decode b_Top_errand 71 = .ok (.getfield 129, 3) := kq_180 byq_r (a := 0) (b := 129) (by decide +kernel)
theorem d_Top_errand_74 : decode b_Top_errand 74 = .ok (.if_icmp .ge 78, 3) := kq_162 byq_r (a := 0) (b := 78) (by decide +kernel)
theorem d_Top_errand_77 : decode b_Top_errand 77 = .ok (.iconst 0, 1) := kq_3 byq_r (by decide +kernel)
theorem d_Top_errand_78 : decode b_Top_errand 78 = .ok (.istore 5, 2) := kq_54 byq_r (by decide +kernel)
theorem d_Top_errand_80 : decode b_Top_errand 80 = .ok (.iload 5, 2) := kq_21 byq_r (by decide +kernel)
theorem d_Top_errand_82 : decode b_Top_errand 82 = .ok (.aload_n 0, 1) := kq_42 byq_r (by decide +kernel)
theorem d_Top_errand_83 : decode b_Top_errand 83 = .ok (.getfield 26, 3) := kq_180 byq_r (a := 0) (b := 26) (by decide +kernel)
theorem d_Top_errand_86 : decode b_Top_errand 86 = .ok (.getfield 129, 3) := kq_180 byq_r (a := 0) (b := 129) (by decide +kernel)
theorem d_Top_errand_89 : decode b_Top_errand 89 = .ok (.if_icmp .ge 57, 3) := kq_162 byq_r (a := 0) (b := 57) (by decide +kernel)
theorem d_Top_errand_92 : decode b_Top_errand 92 = .ok (.aload_n 0, 1) := kq_42 byq_r (by decide +kernel)
theorem d_Top_errand_93 : decode b_Top_errand 93 = .ok (.getfield 26, 3) := kq_180 byq_r (a := 0) (b := 26) (by decide +kernel)
theorem d_Top_errand_96 : decode b_Top_errand 96 = .ok (.iload 4, 2) := kq_21 byq_r (by decide +kernel)
theorem d_Top_errand_98 : decode b_Top_errand 98 = .ok (.invokevirtual 139, 3) := kq_182 byq_r (a := 0) (b := 139) (by decide +kernel)
theorem d_Top_errand_101 : decode b_Top_errand 101 = .ok (.ifCond .ne 39, 3) := kq_154 byq_r (a := 0) (b := 39) (by decide +kernel)
theorem d_Top_errand_104 : decode b_Top_errand 104 = .ok (.aload_n 0, 1) := kq_42 byq_r (by decide +kernel)
theorem d_Top_errand_105 : decode b_Top_errand 105 = .ok (.getfield 26, 3) := kq_180 byq_r (a := 0) (b := 26) (by decide +kernel)
theorem d_Top_errand_108 : decode b_Top_errand 108 = .ok (.iload 5, 2) := kq_21 byq_r (by decide +kernel)
theorem d_Top_errand_110 : decode b_Top_errand 110 = .ok (.invokevirtual 139, 3) := kq_182 byq_r (a := 0) (b := 139) (by decide +kernel)
theorem d_Top_errand_113 : decode b_Top_errand 113 = .ok (.ifCond .eq 27, 3) := kq_153 byq_r (a := 0) (b := 27) (by decide +kernel)
theorem d_Top_errand_116 : decode b_Top_errand 116 = .ok (.aload_n 0, 1) := kq_42 byq_r (by decide +kernel)
theorem d_Top_errand_117 : decode b_Top_errand 117 = .ok (.getfield 33, 3) := kq_180 byq_r (a := 0) (b := 33) (by decide +kernel)
theorem d_Top_errand_120 : decode b_Top_errand 120 = .ok (.getfield 191, 3) := kq_180 byq_r (a := 0) (b := 191) (by decide +kernel)
theorem d_Top_errand_123 : decode b_Top_errand 123 = .ok (.iload 5, 2) := kq_21 byq_r (by decide +kernel)
theorem d_Top_errand_125 : decode b_Top_errand 125 = .ok (.iaload, 1) := kq_46 byq_r (by decide +kernel)
theorem d_Top_errand_126 : decode b_Top_errand 126 = .ok (.iconst 1, 1) := kq_4 byq_r (by decide +kernel)
theorem d_Top_errand_127 : decode b_Top_errand 127 = .ok (.if_icmp .ne 13, 3) := kq_160 byq_r (a := 0) (b := 13) (by decide +kernel)
theorem d_Top_errand_130 : decode b_Top_errand 130 = .ok (.aload_n 0, 1) := kq_42 byq_r (by decide +kernel)
theorem d_Top_errand_131 : decode b_Top_errand 131 = .ok (.iload 4, 2) := kq_21 byq_r (by decide +kernel)
theorem d_Top_errand_133 : decode b_Top_errand 133 = .ok (.iload 5, 2) := kq_21 byq_r (by decide +kernel)
theorem d_Top_errand_135 : decode b_Top_errand 135 = .ok (.iload_n 3, 1) := kq_29 byq_r (by decide +kernel)
theorem d_Top_errand_136 : decode b_Top_errand 136 = .ok (.invokevirtual 334, 3) := kq_182 byq_r (a := 1) (b := 78) (by decide +kernel)
theorem d_Top_errand_139 : decode b_Top_errand 139 = .ok (.istore_n 3, 1) := kq_62 byq_r (by decide +kernel)
theorem d_Top_errand_140 : decode b_Top_errand 140 = .ok (.iinc 5 1, 3) := kq_132 byq_r (b := 1) (by decide +kernel)
theorem d_Top_errand_143 : decode b_Top_errand 143 = .ok (.goto (-63), 3) := kq_167 byq_r (a := 255) (b := 193) (by decide +kernel)
theorem d_Top_errand_146 : decode b_Top_errand 146 = .ok (.iinc 4 1, 3) := kq_132 byq_r (b := 1) (by decide +kernel)
theorem d_Top_errand_149 : decode b_Top_errand 149 = .ok (.goto (-84), 3) := kq_167 byq_r (a := 255) (b := 172) (by decide +kernel)
theorem d_Top_errand_152 : decode b_Top_errand 152 = .ok (.iload_n 3, 1) := kq_29 byq_r (by decide +kernel)
theorem d_Top_errand_153 : decode b_Top_errand 153 = .ok (.ldc_w 319, 3) := kq_19 byq_r (a := 1) (b := 63) (by decide +kernel)
theorem d_Top_errand_156 : decode b_Top_errand 156 = .ok (.if_icmp .lt 8, 3) := kq_161 byq_r (a := 0) (b := 8) (by decide +kernel)
theorem d_Top_errand_159 : decode b_Top_errand 159 = .ok (.bipush (-2), 2) := kq_16 byq_r (b := 254) (by decide +kernel)
theorem d_Top_errand_161 : decode b_Top_errand 161 = .ok (.goto 4, 3) := kq_167 byq_r (a := 0) (b := 4) (by decide +kernel)
theorem d_Top_errand_164 : decode b_Top_errand 164 = .ok (.iload_n 3, 1) := kq_29 byq_r (by decide +kernel)
theorem d_Top_errand_165 : decode b_Top_errand 165 = .ok (.ireturn, 1) := kq_172 byq_r (by decide +kernel)
theorem d_Top_areManAndWoman_0 : decode b_Top_areManAndWoman 0 = .ok (.aload_n 0, 1) := kq_42 byq_r (by decide +kernel)
theorem d_Top_areManAndWoman_1 : decode b_Top_areManAndWoman 1 = .ok (.getfield 26, 3) := kq_180 byq_r (a := 0) (b := 26) (by decide +kernel)
theorem d_Top_areManAndWoman_4 : decode b_Top_areManAndWoman 4 = .ok (.iload_n 1, 1) := kq_27 byq_r (by decide +kernel)
theorem d_Top_areManAndWoman_5 : decode b_Top_areManAndWoman 5 = .ok (.invokevirtual 153, 3) := kq_182 byq_r (a := 0) (b := 153) (by decide +kernel)
theorem d_Top_areManAndWoman_8 : decode b_Top_areManAndWoman 8 = .ok (.ifCond .eq 40, 3) := kq_153 byq_r (a := 0) (b := 40) (by decide +kernel)
theorem d_Top_areManAndWoman_11 : decode b_Top_areManAndWoman 11 = .ok (.aload_n 0, 1) := kq_42 byq_r (by decide +kernel)
theorem d_Top_areManAndWoman_12 : decode b_Top_areManAndWoman 12 = .ok (.getfield 26, 3) := kq_180 byq_r (a := 0) (b := 26) (by decide +kernel)
theorem d_Top_areManAndWoman_15 : decode b_Top_areManAndWoman 15 = .ok (.iload_n 2, 1) := kq_28 byq_r (by decide +kernel)
theorem d_Top_areManAndWoman_16 : decode b_Top_areManAndWoman 16 = .ok (.invokevirtual 153, 3) := kq_182 byq_r (a := 0) (b := 153) (by decide +kernel)
theorem d_Top_areManAndWoman_19 : decode b_Top_areManAndWoman 19 = .ok (.ifCond .eq 29, 3) := kq_153 byq_r (a := 0) (b := 29) (by decide +kernel)
theorem d_Top_areManAndWoman_22 : decode b_Top_areManAndWoman 22 = .ok (.aload_n 0, 1) := kq_42 byq_r (by decide +kernel)
theorem d_Top_areManAndWoman_23 : decode b_Top_areManAndWoman 23 = .ok (.getfield 26, 3) := kq_180 byq_r (a := 0) (b := 26) (by decide +kernel)
theorem d_Top_areManAndWoman_26 : decode b_Top_areManAndWoman 26 = .ok (.iload_n 1, 1) := kq_27 byq_r (by decide +kernel)
theorem d_Top_areManAndWoman_27 : decode b_Top_areManAndWoman 27 = .ok (.invokevirtual 139, 3) := kq_182 byq_r (a := 0) (b := 139) (by decide +kernel)
theorem d_Top_areManAndWoman_30 : decode b_Top_areManAndWoman 30 = .ok (.ifCond .ne 18, 3) := kq_154 byq_r (a := 0) (b := 18) (by decide +kernel)
theorem d_Top_areManAndWoman_33 : decode b_Top_areManAndWoman 33 = .ok (.aload_n 0, 1) := kq_42 byq_r (by decide +kernel)
theorem d_Top_areManAndWoman_34 : decode b_Top_areManAndWoman 34 = .ok (.getfield 26, 3) := kq_180 byq_r (a := 0) (b := 26) (by decide +kernel)
theorem d_Top_areManAndWoman_37 : decode b_Top_areManAndWoman 37 = .ok (.iload_n 2, 1) := kq_28 byq_r (by decide +kernel)
theorem d_Top_areManAndWoman_38 : decode b_Top_areManAndWoman 38 = .ok (.invokevirtual 139, 3) := kq_182 byq_r (a := 0) (b := 139) (by decide +kernel)
theorem d_Top_areManAndWoman_41 : decode b_Top_areManAndWoman 41 = .ok (.ifCond .eq 7, 3) := kq_153 byq_r (a := 0) (b := 7) (by decide +kernel)
theorem d_Top_areManAndWoman_44 : decode b_Top_areManAndWoman 44 = .ok (.iconst 1, 1) := kq_4 byq_r (by decide +kernel)
theorem d_Top_areManAndWoman_45 : decode b_Top_areManAndWoman 45 = .ok (.goto 4, 3) := kq_167 byq_r (a := 0) (b := 4) (by decide +kernel)
theorem d_Top_areManAndWoman_48 : decode b_Top_areManAndWoman 48 = .ok (.iconst 0, 1) := kq_3 byq_r (by decide +kernel)
theorem d_Top_areManAndWoman_49 : decode b_Top_areManAndWoman 49 = .ok (.ireturn, 1) := kq_172 byq_r (by decide +kernel)
theorem d_Top_soonestStair_0 : decode b_Top_soonestStair 0 = .ok (.aload_n 1, 1) := kq_43 byq_r (by decide +kernel)
theorem d_Top_soonestStair_1 : decode b_Top_soonestStair 1 = .ok (.aload_n 0, 1) := kq_42 byq_r (by decide +kernel)
theorem d_Top_soonestStair_2 : decode b_Top_soonestStair 2 = .ok (.getfield 33, 3) := kq_180 byq_r (a := 0) (b := 33) (by decide +kernel)
theorem d_Top_soonestStair_5 : decode b_Top_soonestStair 5 = .ok (.getfield 191, 3) := kq_180 byq_r (a := 0) (b := 191) (by decide +kernel)
theorem d_Top_soonestStair_8 : decode b_Top_soonestStair 8 = .ok (.iload_n 2, 1) := kq_28 byq_r (by decide +kernel)
theorem d_Top_soonestStair_9 : decode b_Top_soonestStair 9 = .ok (.iaload, 1) := kq_46 byq_r (by decide +kernel)
theorem d_Top_soonestStair_10 : decode b_Top_soonestStair 10 = .ok (.aload_n 0, 1) := kq_42 byq_r (by decide +kernel)
theorem d_Top_soonestStair_11 : decode b_Top_soonestStair 11 = .ok (.getfield 33, 3) := kq_180 byq_r (a := 0) (b := 33) (by decide +kernel)
theorem d_Top_soonestStair_14 : decode b_Top_soonestStair 14 = .ok (.getfield 188, 3) := kq_180 byq_r (a := 0) (b := 188) (by decide +kernel)
theorem d_Top_soonestStair_17 : decode b_Top_soonestStair 17 = .ok (.iload_n 2, 1) := kq_28 byq_r (by decide +kernel)
theorem d_Top_soonestStair_18 : decode b_Top_soonestStair 18 = .ok (.iaload, 1) := kq_46 byq_r (by decide +kernel)
theorem d_Top_soonestStair_19 : decode b_Top_soonestStair 19 = .ok (.aload_n 0, 1) := kq_42 byq_r (by decide +kernel)
theorem d_Top_soonestStair_20 : decode b_Top_soonestStair 20 = .ok (.getfield 91, 3) := kq_180 byq_r (a := 0) (b := 91) (by decide +kernel)
theorem d_Top_soonestStair_23 : decode b_Top_soonestStair 23 = .ok (.getfield 312, 3) := kq_180 byq_r (a := 1) (b := 56) (by decide +kernel)
theorem d_Top_soonestStair_26 : decode b_Top_soonestStair 26 = .ok (.invokevirtual 315, 3) := kq_182 byq_r (a := 1) (b := 59) (by decide +kernel)
theorem d_Top_soonestStair_29 : decode b_Top_soonestStair 29 = .ok (.aload_n 1, 1) := kq_43 byq_r (by decide +kernel)
theorem d_Top_soonestStair_30 : decode b_Top_soonestStair 30 = .ok (.aload_n 0, 1) := kq_42 byq_r (by decide +kernel)
theorem d_Top_soonestStair_31 : decode b_Top_soonestStair 31 = .ok (.getfield 33, 3) := kq_180 byq_r (a := 0) (b := 33) (by decide +kernel)
theorem d_Top_soonestStair_34 : decode b_Top_soonestStair 34 = .ok (.getfield 191, 3) := kq_180 byq_r (a := 0) (b := 191) (by decide +kernel)
theorem d_Top_soonestStair_37 : decode b_Top_soonestStair 37 = .ok (.iload_n 3, 1) := kq_29 byq_r (by decide +kernel)
theorem d_Top_soonestStair_38 : decode b_Top_soonestStair 38 = .ok (.iaload, 1) := kq_46 byq_r (by decide +kernel)
theorem d_Top_soonestStair_39 : decode b_Top_soonestStair 39 = .ok (.aload_n 0, 1) := kq_42 byq_r (by decide +kernel)
theorem d_Top_soonestStair_40 : decode b_Top_soonestStair 40 = .ok (.getfield 33, 3) := kq_180 byq_r (a := 0) (b := 33) (by decide +kernel)
theorem d_Top_soonestStair_43 : decode b_Top_soonestStair 43 = .ok (.getfield 188, 3) := kq_180 byq_r (a := 0) (b := 188) (by decide +kernel)
theorem d_Top_soonestStair_46 : decode b_Top_soonestStair 46 = .ok (.iload_n 3, 1) := kq_29 byq_r (by decide +kernel)
theorem d_Top_soonestStair_47 : decode b_Top_soonestStair 47 = .ok (.iaload, 1) := kq_46 byq_r (by decide +kernel)
theorem d_Top_soonestStair_48 : decode b_Top_soonestStair 48 = .ok (.aload_n 0, 1) := kq_42 byq_r (by decide +kernel)
theorem d_Top_soonestStair_49 : decode b_Top_soonestStair 49 = .ok (.getfield 91, 3) := kq_180 byq_r (a := 0) (b := 91) (by decide +kernel)
theorem d_Top_soonestStair_52 : decode b_Top_soonestStair 52 = .ok (.getfield 331, 3) := kq_180 byq_r (a := 1) (b := 75) (by decide +kernel)
theorem d_Top_soonestStair_55 : decode b_Top_soonestStair 55 = .ok (.invokevirtual 315, 3) := kq_182 byq_r (a := 1) (b := 59) (by decide +kernel)
theorem d_Top_soonestStair_58 : decode b_Top_soonestStair 58 = .ok (.iconst (-1), 1) := kq_2 byq_r (by decide +kernel)
theorem d_Top_soonestStair_59 : decode b_Top_soonestStair 59 = .ok (.istore 4, 2) := kq_54 byq_r (by decide +kernel)
theorem d_Top_soonestStair_61 : decode b_Top_soonestStair 61 = .ok (.ldc_w 319, 3) := kq_19 byq_r (a := 1) (b := 63) (by decide +kernel)
theorem d_Top_soonestStair_64 : decode b_Top_soonestStair 64 = .ok (.istore 5, 2) := kq_54 byq_r (by decide +kernel)
theorem d_Top_soonestStair_66 : decode b_Top_soonestStair 66 = .ok (.iconst 0, 1) := kq_3 byq_r (by decide +kernel)
theorem d_Top_soonestStair_67 : decode b_Top_soonestStair 67 = .ok (.istore 6, 2) := kq_54 byq_r (by decide +kernel)
theorem d_Top_soonestStair_69 : decode b_Top_soonestStair 69 = .ok (.iload 6, 2) := kq_21 byq_r (by decide +kernel)
theorem d_Top_soonestStair_71 : decode b_Top_soonestStair 71 = .ok (.bipush 36, 2) := kq_16 byq_r (b := 36) (by decide +kernel)
theorem d_Top_soonestStair_73 : decode b_Top_soonestStair 73 = .ok (.if_icmp .ge 52, 3) := kq_162 byq_r (a := 0) (b := 52) (by decide +kernel)
theorem d_Top_soonestStair_76 : decode b_Top_soonestStair 76 = .ok (.aload_n 1, 1) := kq_43 byq_r (by decide +kernel)
theorem d_Top_soonestStair_77 : decode b_Top_soonestStair 77 = .ok (.invokevirtual 355, 3) := kq_182 byq_r (a := 1) (b := 99) (by decide +kernel)
theorem d_Top_soonestStair_80 : decode b_Top_soonestStair 80 = .ok (.iload 6, 2) := kq_21 byq_r (by decide +kernel)
theorem d_Top_soonestStair_82 : decode b_Top_soonestStair 82 = .ok (.lshr, 1) := kq_123 byq_r (by decide +kernel)
theorem d_Top_soonestStair_83 : decode b_Top_soonestStair 83 = .ok (.lconst 1, 1) := kq_10 byq_r (by decide +kernel)
theorem d_Top_soonestStair_84 : decode b_Top_soonestStair 84 = .ok (.land, 1) := kq_127 byq_r (by decide +kernel)
theorem d_Top_soonestStair_85 : decode b_Top_soonestStair 85 = .ok (.lconst 0, 1) := kq_9 byq_r (by decide +kernel)
theorem d_Top_soonestStair_86 : decode b_Top_soonestStair 86 = .ok (.lcmp, 1) := kq_148 byq_r (by decide +kernel)
theorem d_Top_soonestStair_87 : decode b_Top_soonestStair 87 = .ok (.ifCond .eq 32, 3) := kq_153 byq_r (a := 0) (b := 32) (by decide +kernel)
theorem d_Top_soonestStair_90 : decode b_Top_soonestStair 90 = .ok (.aload_n 0, 1) := kq_42 byq_r (by decide +kernel)
theorem d_Top_soonestStair_91 : decode b_Top_soonestStair 91 = .ok (.getfield 91, 3) := kq_180 byq_r (a := 0) (b := 91) (by decide +kernel)
theorem d_Top_soonestStair_94 : decode b_Top_soonestStair 94 = .ok (.iload 6, 2) := kq_21 byq_r (by decide +kernel)
theorem d_Top_soonestStair_96 : decode b_Top_soonestStair 96 = .ok (.invokevirtual 343, 3) := kq_182 byq_r (a := 1) (b := 87) (by decide +kernel)
theorem d_Top_soonestStair_99 : decode b_Top_soonestStair 99 = .ok (.iload 5, 2) := kq_21 byq_r (by decide +kernel)
theorem d_Top_soonestStair_101 : decode b_Top_soonestStair 101 = .ok (.if_icmp .ge 18, 3) := kq_162 byq_r (a := 0) (b := 18) (by decide +kernel)
theorem d_Top_soonestStair_104 : decode b_Top_soonestStair 104 = .ok (.aload_n 0, 1) := kq_42 byq_r (by decide +kernel)
theorem d_Top_soonestStair_105 : decode b_Top_soonestStair 105 = .ok (.getfield 91, 3) := kq_180 byq_r (a := 0) (b := 91) (by decide +kernel)
theorem d_Top_soonestStair_108 : decode b_Top_soonestStair 108 = .ok (.iload 6, 2) := kq_21 byq_r (by decide +kernel)
theorem d_Top_soonestStair_110 : decode b_Top_soonestStair 110 = .ok (.invokevirtual 343, 3) := kq_182 byq_r (a := 1) (b := 87) (by decide +kernel)
theorem d_Top_soonestStair_113 : decode b_Top_soonestStair 113 = .ok (.istore 5, 2) := kq_54 byq_r (by decide +kernel)
theorem d_Top_soonestStair_115 : decode b_Top_soonestStair 115 = .ok (.iload 6, 2) := kq_21 byq_r (by decide +kernel)
theorem d_Top_soonestStair_117 : decode b_Top_soonestStair 117 = .ok (.istore 4, 2) := kq_54 byq_r (by decide +kernel)
theorem d_Top_soonestStair_119 : decode b_Top_soonestStair 119 = .ok (.iinc 6 1, 3) := kq_132 byq_r (b := 1) (by decide +kernel)
theorem d_Top_soonestStair_122 : decode b_Top_soonestStair 122 = .ok (.goto (-53), 3) := kq_167 byq_r (a := 255) (b := 203) (by decide +kernel)
theorem d_Top_soonestStair_125 : decode b_Top_soonestStair 125 = .ok (.iload 4, 2) := kq_21 byq_r (by decide +kernel)
theorem d_Top_soonestStair_127 : decode b_Top_soonestStair 127 = .ok (.ireturn, 1) := kq_172 byq_r (by decide +kernel)
theorem d_Top_tryst_0 : decode b_Top_tryst 0 = .ok (.aload_n 0, 1) := kq_42 byq_r (by decide +kernel)
theorem d_Top_tryst_1 : decode b_Top_tryst 1 = .ok (.iload_n 1, 1) := kq_27 byq_r (by decide +kernel)
theorem d_Top_tryst_2 : decode b_Top_tryst 2 = .ok (.iload_n 2, 1) := kq_28 byq_r (by decide +kernel)
theorem d_Top_tryst_3 : decode b_Top_tryst 3 = .ok (.invokevirtual 337, 3) := kq_182 byq_r (a := 1) (b := 81) (by decide +kernel)
theorem d_Top_tryst_6 : decode b_Top_tryst 6 = .ok (.ifCond .ne 5, 3) := kq_154 byq_r (a := 0) (b := 5) (by decide +kernel)
theorem d_Top_tryst_9 : decode b_Top_tryst 9 = .ok (.iconst (-1), 1) := kq_2 byq_r (by decide +kernel)
theorem d_Top_tryst_10 : decode b_Top_tryst 10 = .ok (.ireturn, 1) := kq_172 byq_r (by decide +kernel)
theorem d_Top_tryst_11 : decode b_Top_tryst 11 = .ok (.aload_n 0, 1) := kq_42 byq_r (by decide +kernel)
theorem d_Top_tryst_12 : decode b_Top_tryst 12 = .ok (.aload_n 0, 1) := kq_42 byq_r (by decide +kernel)
theorem d_Top_tryst_13 : decode b_Top_tryst 13 = .ok (.getfield 46, 3) := kq_180 byq_r (a := 0) (b := 46) (by decide +kernel)
theorem d_Top_tryst_16 : decode b_Top_tryst 16 = .ok (.iload_n 1, 1) := kq_27 byq_r (by decide +kernel)
theorem d_Top_tryst_17 : decode b_Top_tryst 17 = .ok (.iload_n 2, 1) := kq_28 byq_r (by decide +kernel)
theorem d_Top_tryst_18 : decode b_Top_tryst 18 = .ok (.invokevirtual 340, 3) := kq_182 byq_r (a := 1) (b := 84) (by decide +kernel)
theorem d_Top_tryst_21 : decode b_Top_tryst 21 = .ok (.istore_n 3, 1) := kq_62 byq_r (by decide +kernel)
theorem d_Top_tryst_22 : decode b_Top_tryst 22 = .ok (.iload_n 3, 1) := kq_29 byq_r (by decide +kernel)
theorem d_Top_tryst_23 : decode b_Top_tryst 23 = .ok (.iconst (-1), 1) := kq_2 byq_r (by decide +kernel)
theorem d_Top_tryst_24 : decode b_Top_tryst 24 = .ok (.if_icmp .ne 6, 3) := kq_160 byq_r (a := 0) (b := 6) (by decide +kernel)
theorem d_Top_tryst_27 : decode b_Top_tryst 27 = .ok (.bipush (-2), 2) := kq_16 byq_r (b := 254) (by decide +kernel)
theorem d_Top_tryst_29 : decode b_Top_tryst 29 = .ok (.ireturn, 1) := kq_172 byq_r (by decide +kernel)
theorem d_Top_tryst_30 : decode b_Top_tryst 30 = .ok (.aload_n 0, 1) := kq_42 byq_r (by decide +kernel)
theorem d_Top_tryst_31 : decode b_Top_tryst 31 = .ok (.invokevirtual 251, 3) := kq_182 byq_r (a := 0) (b := 251) (by decide +kernel)
theorem d_Top_tryst_34 : decode b_Top_tryst 34 = .ok (.aload_n 0, 1) := kq_42 byq_r (by decide +kernel)
theorem d_Top_tryst_35 : decode b_Top_tryst 35 = .ok (.aload_n 0, 1) := kq_42 byq_r (by decide +kernel)
theorem d_Top_tryst_36 : decode b_Top_tryst 36 = .ok (.getfield 91, 3) := kq_180 byq_r (a := 0) (b := 91) (by decide +kernel)
theorem d_Top_tryst_39 : decode b_Top_tryst 39 = .ok (.iload_n 3, 1) := kq_29 byq_r (by decide +kernel)
theorem d_Top_tryst_40 : decode b_Top_tryst 40 = .ok (.invokevirtual 343, 3) := kq_182 byq_r (a := 1) (b := 87) (by decide +kernel)
theorem d_Top_tryst_43 : decode b_Top_tryst 43 = .ok (.invokevirtual 257, 3) := kq_182 byq_r (a := 1) (b := 1) (by decide +kernel)
theorem d_Top_tryst_46 : decode b_Top_tryst 46 = .ok (.iload_n 3, 1) := kq_29 byq_r (by decide +kernel)
theorem d_Top_tryst_47 : decode b_Top_tryst 47 = .ok (.ireturn, 1) := kq_172 byq_r (by decide +kernel)
theorem d_Top_canOpen_0 : decode b_Top_canOpen 0 = .ok (.aload_n 0, 1) := kq_42 byq_r (by decide +kernel)
theorem d_Top_canOpen_1 : decode b_Top_canOpen 1 = .ok (.getfield 19, 3) := kq_180 byq_r (a := 0) (b := 19) (by decide +kernel)
theorem d_Top_canOpen_4 : decode b_Top_canOpen 4 = .ok (.getfield 167, 3) := kq_180 byq_r (a := 0) (b := 167) (by decide +kernel)
theorem d_Top_canOpen_7 : decode b_Top_canOpen 7 = .ok (.iload_n 1, 1) := kq_27 byq_r (by decide +kernel)
theorem d_Top_canOpen_8 : decode b_Top_canOpen 8 = .ok (.iaload, 1) := kq_46 byq_r (by decide +kernel)
theorem d_Top_canOpen_9 : decode b_Top_canOpen 9 = .ok (.istore_n 2, 1) := kq_61 byq_r (by decide +kernel)
theorem d_Top_canOpen_10 : decode b_Top_canOpen 10 = .ok (.iload_n 2, 1) := kq_28 byq_r (by decide +kernel)
theorem d_Top_canOpen_11 : decode b_Top_canOpen 11 = .ok (.ifCond .eq 27, 3) := kq_153 byq_r (a := 0) (b := 27) (by decide +kernel)
theorem d_Top_canOpen_14 : decode b_Top_canOpen 14 = .ok (.iload_n 2, 1) := kq_28 byq_r (by decide +kernel)
theorem d_Top_canOpen_15 : decode b_Top_canOpen 15 = .ok (.iconst 3, 1) := kq_6 byq_r (by decide +kernel)
theorem d_Top_canOpen_16 : decode b_Top_canOpen 16 = .ok (.if_icmp .eq 22, 3) := kq_159 byq_r (a := 0) (b := 22) (by decide +kernel)
theorem d_Top_canOpen_19 : decode b_Top_canOpen 19 = .ok (.aload_n 0, 1) := kq_42 byq_r (by decide +kernel)
theorem d_Top_canOpen_20 : decode b_Top_canOpen 20 = .ok (.getfield 33, 3) := kq_180 byq_r (a := 0) (b := 33) (by decide +kernel)
theorem d_Top_canOpen_23 : decode b_Top_canOpen 23 = .ok (.aload_n 0, 1) := kq_42 byq_r (by decide +kernel)
theorem d_Top_canOpen_24 : decode b_Top_canOpen 24 = .ok (.getfield 19, 3) := kq_180 byq_r (a := 0) (b := 19) (by decide +kernel)
theorem d_Top_canOpen_27 : decode b_Top_canOpen 27 = .ok (.iload_n 1, 1) := kq_27 byq_r (by decide +kernel)
theorem d_Top_canOpen_28 : decode b_Top_canOpen 28 = .ok (.invokevirtual 457, 3) := kq_182 byq_r (a := 1) (b := 201) (by decide +kernel)
theorem d_Top_canOpen_31 : decode b_Top_canOpen 31 = .ok (.ifCond .ne 7, 3) := kq_154 byq_r (a := 0) (b := 7) (by decide +kernel)
theorem d_Top_canOpen_34 : decode b_Top_canOpen 34 = .ok (.iconst 1, 1) := kq_4 byq_r (by decide +kernel)
theorem d_Top_canOpen_35 : decode b_Top_canOpen 35 = .ok (.goto 4, 3) := kq_167 byq_r (a := 0) (b := 4) (by decide +kernel)
theorem d_Top_canOpen_38 : decode b_Top_canOpen 38 = .ok (.iconst 0, 1) := kq_3 byq_r (by decide +kernel)
theorem d_Top_canOpen_39 : decode b_Top_canOpen 39 = .ok (.ireturn, 1) := kq_172 byq_r (by decide +kernel)
theorem d_Top_trystWith_0 : decode b_Top_trystWith 0 = .ok (.aload_n 0, 1) := kq_42 byq_r (by decide +kernel)
theorem d_Top_trystWith_1 : decode b_Top_trystWith 1 = .ok (.getfield 50, 3) := kq_180 byq_r (a := 0) (b := 50) (by decide +kernel)
theorem d_Top_trystWith_4 : decode b_Top_trystWith 4 = .ok (.aload_n 0, 1) := kq_42 byq_r (by decide +kernel)
theorem d_Top_trystWith_5 : decode b_Top_trystWith 5 = .ok (.getfield 19, 3) := kq_180 byq_r (a := 0) (b := 19) (by decide +kernel)
theorem d_Top_trystWith_8 : decode b_Top_trystWith 8 = .ok (.aload_n 0, 1) := kq_42 byq_r (by decide +kernel)
theorem d_Top_trystWith_9 : decode b_Top_trystWith 9 = .ok (.getfield 33, 3) := kq_180 byq_r (a := 0) (b := 33) (by decide +kernel)
theorem d_Top_trystWith_12 : decode b_Top_trystWith 12 = .ok (.iload_n 1, 1) := kq_27 byq_r (by decide +kernel)
theorem d_Top_trystWith_13 : decode b_Top_trystWith 13 = .ok (.invokevirtual 122, 3) := kq_182 byq_r (a := 0) (b := 122) (by decide +kernel)
theorem d_Top_trystWith_16 : decode b_Top_trystWith 16 = .ok (.aload_n 0, 1) := kq_42 byq_r (by decide +kernel)
theorem d_Top_trystWith_17 : decode b_Top_trystWith 17 = .ok (.aload_n 0, 1) := kq_42 byq_r (by decide +kernel)
theorem d_Top_trystWith_18 : decode b_Top_trystWith 18 = .ok (.getfield 50, 3) := kq_180 byq_r (a := 0) (b := 50) (by decide +kernel)
theorem d_Top_trystWith_21 : decode b_Top_trystWith 21 = .ok (.iload_n 2, 1) := kq_28 byq_r (by decide +kernel)
theorem d_Top_trystWith_22 : decode b_Top_trystWith 22 = .ok (.iload_n 3, 1) := kq_29 byq_r (by decide +kernel)
theorem d_Top_trystWith_23 : decode b_Top_trystWith 23 = .ok (.invokevirtual 340, 3) := kq_182 byq_r (a := 1) (b := 84) (by decide +kernel)
theorem d_Top_trystWith_26 : decode b_Top_trystWith 26 = .ok (.istore 4, 2) := kq_54 byq_r (by decide +kernel)
theorem d_Top_trystWith_28 : decode b_Top_trystWith 28 = .ok (.iload 4, 2) := kq_21 byq_r (by decide +kernel)
theorem d_Top_trystWith_30 : decode b_Top_trystWith 30 = .ok (.iconst (-1), 1) := kq_2 byq_r (by decide +kernel)
theorem d_Top_trystWith_31 : decode b_Top_trystWith 31 = .ok (.if_icmp .ne 9, 3) := kq_160 byq_r (a := 0) (b := 9) (by decide +kernel)
theorem d_Top_trystWith_34 : decode b_Top_trystWith 34 = .ok (.ldc_w 319, 3) := kq_19 byq_r (a := 1) (b := 63) (by decide +kernel)
theorem d_Top_trystWith_37 : decode b_Top_trystWith 37 = .ok (.goto 12, 3) := kq_167 byq_r (a := 0) (b := 12) (by decide +kernel)
theorem d_Top_trystWith_40 : decode b_Top_trystWith 40 = .ok (.aload_n 0, 1) := kq_42 byq_r (by decide +kernel)
theorem d_Top_trystWith_41 : decode b_Top_trystWith 41 = .ok (.getfield 91, 3) := kq_180 byq_r (a := 0) (b := 91) (by decide +kernel)
theorem d_Top_trystWith_44 : decode b_Top_trystWith 44 = .ok (.iload 4, 2) := kq_21 byq_r (by decide +kernel)
theorem d_Top_trystWith_46 : decode b_Top_trystWith 46 = .ok (.invokevirtual 343, 3) := kq_182 byq_r (a := 1) (b := 87) (by decide +kernel)
theorem d_Top_trystWith_49 : decode b_Top_trystWith 49 = .ok (.ireturn, 1) := kq_172 byq_r (by decide +kernel)
theorem d_Top_open_0 : decode b_Top_open 0 = .ok (.aload_n 0, 1) := kq_42 byq_r (by decide +kernel)
theorem d_Top_open_1 : decode b_Top_open 1 = .ok (.iload_n 1, 1) := kq_27 byq_r (by decide +kernel)
theorem d_Top_open_2 : decode b_Top_open 2 = .ok (.iload_n 2, 1) := kq_28 byq_r (by decide +kernel)
theorem d_Top_open_3 : decode b_Top_open 3 = .ok (.invokevirtual 337, 3) := kq_182 byq_r (a := 1) (b := 81) (by decide +kernel)
theorem d_Top_open_6 : decode b_Top_open 6 = .ok (.ifCond .ne 5, 3) := kq_154 byq_r (a := 0) (b := 5) (by decide +kernel)
theorem d_Top_open_9 : decode b_Top_open 9 = .ok (.iconst (-1), 1) := kq_2 byq_r (by decide +kernel)
theorem d_Top_open_10 : decode b_Top_open 10 = .ok (.ireturn, 1) := kq_172 byq_r (by decide +kernel)
theorem d_Top_open_11 : decode b_Top_open 11 = .ok (.iconst (-1), 1) := kq_2 byq_r (by decide +kernel)
theorem d_Top_open_12 : decode b_Top_open 12 = .ok (.istore_n 3, 1) := kq_62 byq_r (by decide +kernel)
theorem d_Top_open_13 : decode b_Top_open 13 = .ok (.ldc_w 319, 3) := kq_19 byq_r (a := 1) (b := 63) (by decide +kernel)
theorem d_Top_open_16 : decode b_Top_open 16 = .ok (.istore 4, 2) := kq_54 byq_r (by decide +kernel)
theorem d_Top_open_18 : decode b_Top_open 18 = .ok (.iconst 0, 1) := kq_3 byq_r (by decide +kernel)
theorem d_Top_open_19 : decode b_Top_open 19 = .ok (.istore 5, 2) := kq_54 byq_r (by decide +kernel)
theorem d_Top_open_21 : decode b_Top_open 21 = .ok (.iload 5, 2) := kq_21 byq_r (by decide +kernel)
theorem d_Top_open_23 : decode b_Top_open 23 = .ok (.aload_n 0, 1) := kq_42 byq_r (by decide +kernel)
theorem d_Top_open_24 : decode b_Top_open 24 = .ok (.getfield 19, 3) := kq_180 byq_r (a := 0) (b := 19) (by decide +kernel)
theorem d_Top_open_27 : decode b_Top_open 27 = .ok (.getfield 346, 3) := kq_180 byq_r (a := 1) (b := 90) (by decide +kernel)
theorem d_Top_open_30 : decode b_Top_open 30 = .ok (.if_icmp .ge 48, 3) := kq_162 byq_r (a := 0) (b := 48) (by decide +kernel)
theorem d_Top_open_33 : decode b_Top_open 33 = .ok (.aload_n 0, 1) := kq_42 byq_r (by decide +kernel)
theorem d_Top_open_34 : decode b_Top_open 34 = .ok (.iload 5, 2) := kq_21 byq_r (by decide +kernel)
theorem d_Top_open_36 : decode b_Top_open 36 = .ok (.invokevirtual 349, 3) := kq_182 byq_r (a := 1) (b := 93) (by decide +kernel)
theorem d_Top_open_39 : decode b_Top_open 39 = .ok (.ifCond .eq 14, 3) := kq_153 byq_r (a := 0) (b := 14) (by decide +kernel)
theorem d_Top_open_42 : decode b_Top_open 42 = .ok (.aload_n 0, 1) := kq_42 byq_r (by decide +kernel)
theorem d_Top_open_43 : decode b_Top_open 43 = .ok (.iload 5, 2) := kq_21 byq_r (by decide +kernel)
theorem d_Top_open_45 : decode b_Top_open 45 = .ok (.iload_n 1, 1) := kq_27 byq_r (by decide +kernel)
theorem d_Top_open_46 : decode b_Top_open 46 = .ok (.iload_n 2, 1) := kq_28 byq_r (by decide +kernel)
theorem d_Top_open_47 : decode b_Top_open 47 = .ok (.invokevirtual 352, 3) := kq_182 byq_r (a := 1) (b := 96) (by decide +kernel)
theorem d_Top_open_50 : decode b_Top_open 50 = .ok (.goto 6, 3) := kq_167 byq_r (a := 0) (b := 6) (by decide +kernel)
theorem d_Top_open_53 : decode b_Top_open 53 = .ok (.ldc_w 319, 3) := kq_19 byq_r (a := 1) (b := 63) (by decide +kernel)
theorem d_Top_open_56 : decode b_Top_open 56 = .ok (.istore 6, 2) := kq_54 byq_r (by decide +kernel)
theorem d_Top_open_58 : decode b_Top_open 58 = .ok (.iload 6, 2) := kq_21 byq_r (by decide +kernel)
theorem d_Top_open_60 : decode b_Top_open 60 = .ok (.iload 4, 2) := kq_21 byq_r (by decide +kernel)
theorem d_Top_open_62 : decode b_Top_open 62 = .ok (.if_icmp .ge 10, 3) := kq_162 byq_r (a := 0) (b := 10) (by decide +kernel)
theorem d_Top_open_65 : decode b_Top_open 65 = .ok (.iload 6, 2) := kq_21 byq_r (by decide +kernel)
theorem d_Top_open_67 : decode b_Top_open 67 = .ok (.istore 4, 2) := kq_54 byq_r (by decide +kernel)
theorem d_Top_open_69 : decode b_Top_open 69 = .ok (.iload 5, 2) := kq_21 byq_r (by decide +kernel)
theorem d_Top_open_71 : decode b_Top_open 71 = .ok (.istore_n 3, 1) := kq_62 byq_r (by decide +kernel)
theorem d_Top_open_72 : decode b_Top_open 72 = .ok (.iinc 5 1, 3) := kq_132 byq_r (b := 1) (by decide +kernel)
theorem d_Top_open_75 : decode b_Top_open 75 = .ok (.goto (-54), 3) := kq_167 byq_r (a := 255) (b := 202) (by decide +kernel)
theorem d_Top_open_78 : decode b_Top_open 78 = .ok (.iload_n 3, 1) := kq_29 byq_r (by decide +kernel)
theorem d_Top_open_79 : decode b_Top_open 79 = .ok (.iconst (-1), 1) := kq_2 byq_r (by decide +kernel)
theorem d_Top_open_80 : decode b_Top_open 80 = .ok (.if_icmp .ne 6, 3) := kq_160 byq_r (a := 0) (b := 6) (by decide +kernel)
theorem d_Top_open_83 : decode b_Top_open 83 = .ok (.bipush (-2), 2) := kq_16 byq_r (b := 254) (by decide +kernel)
theorem d_Top_open_85 : decode b_Top_open 85 = .ok (.ireturn, 1) := kq_172 byq_r (by decide +kernel)
theorem d_Top_open_86 : decode b_Top_open 86 = .ok (.aload_n 0, 1) := kq_42 byq_r (by decide +kernel)
theorem d_Top_open_87 : decode b_Top_open 87 = .ok (.invokevirtual 251, 3) := kq_182 byq_r (a := 0) (b := 251) (by decide +kernel)
theorem d_Top_open_90 : decode b_Top_open 90 = .ok (.aload_n 0, 1) := kq_42 byq_r (by decide +kernel)
theorem d_Top_open_91 : decode b_Top_open 91 = .ok (.iload 4, 2) := kq_21 byq_r (by decide +kernel)
theorem d_Top_open_93 : decode b_Top_open 93 = .ok (.invokevirtual 257, 3) := kq_182 byq_r (a := 1) (b := 1) (by decide +kernel)
theorem d_Top_open_96 : decode b_Top_open 96 = .ok (.iload_n 3, 1) := kq_29 byq_r (by decide +kernel)
theorem d_Top_open_97 : decode b_Top_open 97 = .ok (.ireturn, 1) := kq_172 byq_r (by decide +kernel)
theorem d_Top_roaming_0 : decode b_Top_roaming 0 = .ok (.aload_n 0, 1) := kq_42 byq_r (by decide +kernel)
theorem d_Top_roaming_1 : decode b_Top_roaming 1 = .ok (.getfield 33, 3) := kq_180 byq_r (a := 0) (b := 33) (by decide +kernel)
theorem d_Top_roaming_4 : decode b_Top_roaming 4 = .ok (.getfield 191, 3) := kq_180 byq_r (a := 0) (b := 191) (by decide +kernel)
theorem d_Top_roaming_7 : decode b_Top_roaming 7 = .ok (.iload_n 1, 1) := kq_27 byq_r (by decide +kernel)
theorem d_Top_roaming_8 : decode b_Top_roaming 8 = .ok (.iaload, 1) := kq_46 byq_r (by decide +kernel)
theorem d_Top_roaming_9 : decode b_Top_roaming 9 = .ok (.istore 4, 2) := kq_54 byq_r (by decide +kernel)
theorem d_Top_roaming_11 : decode b_Top_roaming 11 = .ok (.aload_n 0, 1) := kq_42 byq_r (by decide +kernel)
theorem d_Top_roaming_12 : decode b_Top_roaming 12 = .ok (.getfield 46, 3) := kq_180 byq_r (a := 0) (b := 46) (by decide +kernel)
theorem d_Top_roaming_15 : decode b_Top_roaming 15 = .ok (.iload 4, 2) := kq_21 byq_r (by decide +kernel)
theorem d_Top_roaming_17 : decode b_Top_roaming 17 = .ok (.aload_n 0, 1) := kq_42 byq_r (by decide +kernel)
theorem d_Top_roaming_18 : decode b_Top_roaming 18 = .ok (.getfield 33, 3) := kq_180 byq_r (a := 0) (b := 33) (by decide +kernel)
theorem d_Top_roaming_21 : decode b_Top_roaming 21 = .ok (.getfield 188, 3) := kq_180 byq_r (a := 0) (b := 188) (by decide +kernel)
theorem d_Top_roaming_24 : decode b_Top_roaming 24 = .ok (.iload_n 1, 1) := kq_27 byq_r (by decide +kernel)
theorem d_Top_roaming_25 : decode b_Top_roaming 25 = .ok (.iaload, 1) := kq_46 byq_r (by decide +kernel)
theorem d_Top_roaming_26 : decode b_Top_roaming 26 = .ok (.iload 4, 2) := kq_21 byq_r (by decide +kernel)
theorem d_Top_roaming_28 : decode b_Top_roaming 28 = .ok (.ifCond .ne 7, 3) := kq_154 byq_r (a := 0) (b := 7) (by decide +kernel)
theorem d_Top_roaming_31 : decode b_Top_roaming 31 = .ok (.lload_n 2, 1) := kq_32 byq_r (by decide +kernel)
theorem d_Top_roaming_32 : decode b_Top_roaming 32 = .ok (.goto 4, 3) := kq_167 byq_r (a := 0) (b := 4) (by decide +kernel)
theorem d_Top_roaming_35 : decode b_Top_roaming 35 = .ok (.lconst 0, 1) := kq_9 byq_r (by decide +kernel)
theorem d_Top_roaming_36 : decode b_Top_roaming 36 = .ok (.invokevirtual 299, 3) := kq_182 byq_r (a := 1) (b := 43) (by decide +kernel)
theorem d_Top_roaming_39 : decode b_Top_roaming 39 = .ok (.lreturn, 1) := kq_173 byq_r (by decide +kernel)
theorem d_Top_canTryst_0 : decode b_Top_canTryst 0 = .ok (.aload_n 0, 1) := kq_42 byq_r (by decide +kernel)
theorem d_Top_canTryst_1 : decode b_Top_canTryst 1 = .ok (.iload_n 1, 1) := kq_27 byq_r (by decide +kernel)
theorem d_Top_canTryst_2 : decode b_Top_canTryst 2 = .ok (.lload_n 3, 1) := kq_33 byq_r (by decide +kernel)
theorem d_Top_canTryst_3 : decode b_Top_canTryst 3 = .ok (.invokevirtual 488, 3) := kq_182 byq_r (a := 1) (b := 232) (by decide +kernel)
theorem d_Top_canTryst_6 : decode b_Top_canTryst 6 = .ok (.lstore 5, 2) := kq_55 byq_r (by decide +kernel)
theorem d_Top_canTryst_8 : decode b_Top_canTryst 8 = .ok (.lload 5, 2) := kq_22 byq_r (by decide +kernel)
theorem d_Top_canTryst_10 : decode b_Top_canTryst 10 = .ok (.aload_n 0, 1) := kq_42 byq_r (by decide +kernel)
theorem d_Top_canTryst_11 : decode b_Top_canTryst 11 = .ok (.iload_n 2, 1) := kq_28 byq_r (by decide +kernel)
theorem d_Top_canTryst_12 : decode b_Top_canTryst 12 = .ok (.lload_n 3, 1) := kq_33 byq_r (by decide +kernel)
theorem d_Top_canTryst_13 : decode b_Top_canTryst 13 = .ok (.invokevirtual 488, 3) := kq_182 byq_r (a := 1) (b := 232) (by decide +kernel)
theorem d_Top_canTryst_16 : decode b_Top_canTryst 16 = .ok (.land, 1) := kq_127 byq_r (by decide +kernel)
theorem d_Top_canTryst_17 : decode b_Top_canTryst 17 = .ok (.aload_n 0, 1) := kq_42 byq_r (by decide +kernel)
theorem d_Top_canTryst_18 : decode b_Top_canTryst 18 = .ok (.getfield 46, 3) := kq_180 byq_r (a := 0) (b := 46) (by decide +kernel)
theorem d_Top_canTryst_21 : decode b_Top_canTryst 21 = .ok (.invokevirtual 355, 3) := kq_182 byq_r (a := 1) (b := 99) (by decide +kernel)
theorem d_Top_canTryst_24 : decode b_Top_canTryst 24 = .ok (.land, 1) := kq_127 byq_r (by decide +kernel)
theorem d_Top_canTryst_25 : decode b_Top_canTryst 25 = .ok (.lload_n 3, 1) := kq_33 byq_r (by decide +kernel)
theorem d_Top_canTryst_26 : decode b_Top_canTryst 26 = .ok (.ldc2_w 303, 3) := kq_20 byq_r (a := 1) (b := 47) (by decide +kernel)
theorem d_Top_canTryst_29 : decode b_Top_canTryst 29 = .ok (.lxor, 1) := kq_131 byq_r (by decide +kernel)
theorem d_Top_canTryst_30 : decode b_Top_canTryst 30 = .ok (.land, 1) := kq_127 byq_r (by decide +kernel)
theorem d_Top_canTryst_31 : decode b_Top_canTryst 31 = .ok (.lconst 0, 1) := kq_9 byq_r (by decide +kernel)
theorem d_Top_canTryst_32 : decode b_Top_canTryst 32 = .ok (.lcmp, 1) := kq_148 byq_r (by decide +kernel)
theorem d_Top_canTryst_33 : decode b_Top_canTryst 33 = .ok (.ifCond .eq 7, 3) := kq_153 byq_r (a := 0) (b := 7) (by decide +kernel)
theorem d_Top_canTryst_36 : decode b_Top_canTryst 36 = .ok (.iconst 1, 1) := kq_4 byq_r (by decide +kernel)
theorem d_Top_canTryst_37 : decode b_Top_canTryst 37 = .ok (.goto 4, 3) := kq_167 byq_r (a := 0) (b := 4) (by decide +kernel)
theorem d_Top_canTryst_40 : decode b_Top_canTryst 40 = .ok (.iconst 0, 1) := kq_3 byq_r (by decide +kernel)
theorem d_Top_canTryst_41 : decode b_Top_canTryst 41 = .ok (.ireturn, 1) := kq_172 byq_r (by decide +kernel)
theorem d_Top_partedBy_0 : decode b_Top_partedBy 0 = .ok (.iload 5, 2) := kq_21 byq_r (by decide +kernel)
theorem d_Top_partedBy_2 : decode b_Top_partedBy 2 = .ok (.ifCond .gt 23, 3) := kq_157 byq_r (a := 0) (b := 23) (by decide +kernel)
theorem d_Top_partedBy_5 : decode b_Top_partedBy 5 = .ok (.aload_n 0, 1) := kq_42 byq_r (by decide +kernel)
theorem d_Top_partedBy_6 : decode b_Top_partedBy 6 = .ok (.iload_n 1, 1) := kq_27 byq_r (by decide +kernel)
theorem d_Top_partedBy_7 : decode b_Top_partedBy 7 = .ok (.iload_n 2, 1) := kq_28 byq_r (by decide +kernel)
theorem d_Top_partedBy_8 : decode b_Top_partedBy 8 = .ok (.lload 6, 2) := kq_22 byq_r (by decide +kernel)
theorem d_Top_partedBy_10 : decode b_Top_partedBy 10 = .ok (.invokevirtual 359, 3) := kq_182 byq_r (a := 1) (b := 103) (by decide +kernel)
theorem d_Top_partedBy_13 : decode b_Top_partedBy 13 = .ok (.ifCond .eq 9, 3) := kq_153 byq_r (a := 0) (b := 9) (by decide +kernel)
theorem d_Top_partedBy_16 : decode b_Top_partedBy 16 = .ok (.ldc2_w 303, 3) := kq_20 byq_r (a := 1) (b := 47) (by decide +kernel)
theorem d_Top_partedBy_19 : decode b_Top_partedBy 19 = .ok (.goto 5, 3) := kq_167 byq_r (a := 0) (b := 5) (by decide +kernel)
theorem d_Top_partedBy_22 : decode b_Top_partedBy 22 = .ok (.lload 6, 2) := kq_22 byq_r (by decide +kernel)
theorem d_Top_partedBy_24 : decode b_Top_partedBy 24 = .ok (.lreturn, 1) := kq_173 byq_r (by decide +kernel)
theorem d_Top_partedBy_25 : decode b_Top_partedBy 25 = .ok (.iconst 0, 1) := kq_3 byq_r (by decide +kernel)
theorem d_Top_partedBy_26 : decode b_Top_partedBy 26 = .ok (.istore 8, 2) := kq_54 byq_r (by decide +kernel)
theorem d_Top_partedBy_28 : decode b_Top_partedBy 28 = .ok (.iload 8, 2) := kq_21 byq_r (by decide +kernel)
theorem d_Top_partedBy_30 : decode b_Top_partedBy 30 = .ok (.aload_n 0, 1) := kq_42 byq_r (by decide +kernel)
theorem d_Top_partedBy_31 : decode b_Top_partedBy 31 = .ok (.getfield 19, 3) := kq_180 byq_r (a := 0) (b := 19) (by decide +kernel)
theorem d_Top_partedBy_34 : decode b_Top_partedBy 34 = .ok (.getfield 346, 3) := kq_180 byq_r (a := 1) (b := 90) (by decide +kernel)
theorem d_Top_partedBy_37 : decode b_Top_partedBy 37 = .ok (.if_icmp .ge 72, 3) := kq_162 byq_r (a := 0) (b := 72) (by decide +kernel)
theorem d_Top_partedBy_40 : decode b_Top_partedBy 40 = .ok (.lload 6, 2) := kq_22 byq_r (by decide +kernel)
theorem d_Top_partedBy_42 : decode b_Top_partedBy 42 = .ok (.iload 8, 2) := kq_21 byq_r (by decide +kernel)
theorem d_Top_partedBy_44 : decode b_Top_partedBy 44 = .ok (.lshr, 1) := kq_123 byq_r (by decide +kernel)
theorem d_Top_partedBy_45 : decode b_Top_partedBy 45 = .ok (.lconst 0, 1) := kq_9 byq_r (by decide +kernel)
theorem d_Top_partedBy_46 : decode b_Top_partedBy 46 = .ok (.lcmp, 1) := kq_148 byq_r (by decide +kernel)
theorem d_Top_partedBy_47 : decode b_Top_partedBy 47 = .ok (.ifCond .ne 7, 3) := kq_154 byq_r (a := 0) (b := 7) (by decide +kernel)
theorem d_Top_partedBy_50 : decode b_Top_partedBy 50 = .ok (.iconst 1, 1) := kq_4 byq_r (by decide +kernel)
theorem d_Top_partedBy_51 : decode b_Top_partedBy 51 = .ok (.goto 4, 3) := kq_167 byq_r (a := 0) (b := 4) (by decide +kernel)
theorem d_Top_partedBy_54 : decode b_Top_partedBy 54 = .ok (.iconst 0, 1) := kq_3 byq_r (by decide +kernel)
theorem d_Top_partedBy_55 : decode b_Top_partedBy 55 = .ok (.istore 9, 2) := kq_54 byq_r (by decide +kernel)
theorem d_Top_partedBy_57 : decode b_Top_partedBy 57 = .ok (.iload 9, 2) := kq_21 byq_r (by decide +kernel)
theorem d_Top_partedBy_59 : decode b_Top_partedBy 59 = .ok (.ifCond .eq 44, 3) := kq_153 byq_r (a := 0) (b := 44) (by decide +kernel)
theorem d_Top_partedBy_62 : decode b_Top_partedBy 62 = .ok (.lload_n 3, 1) := kq_33 byq_r (by decide +kernel)
theorem d_Top_partedBy_63 : decode b_Top_partedBy 63 = .ok (.iload 8, 2) := kq_21 byq_r (by decide +kernel)
theorem d_Top_partedBy_65 : decode b_Top_partedBy 65 = .ok (.lshr, 1) := kq_123 byq_r (by decide +kernel)
theorem d_Top_partedBy_66 : decode b_Top_partedBy 66 = .ok (.lconst 1, 1) := kq_10 byq_r (by decide +kernel)
theorem d_Top_partedBy_67 : decode b_Top_partedBy 67 = .ok (.land, 1) := kq_127 byq_r (by decide +kernel)
theorem d_Top_partedBy_68 : decode b_Top_partedBy 68 = .ok (.lconst 0, 1) := kq_9 byq_r (by decide +kernel)
theorem d_Top_partedBy_69 : decode b_Top_partedBy 69 = .ok (.lcmp, 1) := kq_148 byq_r (by decide +kernel)
theorem d_Top_partedBy_70 : decode b_Top_partedBy 70 = .ok (.ifCond .eq 33, 3) := kq_153 byq_r (a := 0) (b := 33) (by decide +kernel)
theorem d_Top_partedBy_73 : decode b_Top_partedBy 73 = .ok (.aload_n 0, 1) := kq_42 byq_r (by decide +kernel)
theorem d_Top_partedBy_74 : decode b_Top_partedBy 74 = .ok (.iload_n 1, 1) := kq_27 byq_r (by decide +kernel)
theorem d_Top_partedBy_75 : decode b_Top_partedBy 75 = .ok (.iload_n 2, 1) := kq_28 byq_r (by decide +kernel)
theorem d_Top_partedBy_76 : decode b_Top_partedBy 76 = .ok (.lload_n 3, 1) := kq_33 byq_r (by decide +kernel)
theorem d_Top_partedBy_77 : decode b_Top_partedBy 77 = .ok (.iload 5, 2) := kq_21 byq_r (by decide +kernel)
theorem d_Top_partedBy_79 : decode b_Top_partedBy 79 = .ok (.iconst 1, 1) := kq_4 byq_r (by decide +kernel)
theorem d_Top_partedBy_80 : decode b_Top_partedBy 80 = .ok (.isub, 1) := kq_100 byq_r (by decide +kernel)
theorem d_Top_partedBy_81 : decode b_Top_partedBy 81 = .ok (.lload 6, 2) := kq_22 byq_r (by decide +kernel)
theorem d_Top_partedBy_83 : decode b_Top_partedBy 83 = .ok (.lconst 1, 1) := kq_10 byq_r (by decide +kernel)
theorem d_Top_partedBy_84 : decode b_Top_partedBy 84 = .ok (.iload 8, 2) := kq_21 byq_r (by decide +kernel)
theorem d_Top_partedBy_86 : decode b_Top_partedBy 86 = .ok (.lshl, 1) := kq_121 byq_r (by decide +kernel)
theorem d_Top_partedBy_87 : decode b_Top_partedBy 87 = .ok (.lor, 1) := kq_129 byq_r (by decide +kernel)
theorem d_Top_partedBy_88 : decode b_Top_partedBy 88 = .ok (.invokevirtual 363, 3) := kq_182 byq_r (a := 1) (b := 107) (by decide +kernel)
theorem d_Top_partedBy_91 : decode b_Top_partedBy 91 = .ok (.lstore 10, 2) := kq_55 byq_r (by decide +kernel)
theorem d_Top_partedBy_93 : decode b_Top_partedBy 93 = .ok (.lload 10, 2) := kq_22 byq_r (by decide +kernel)
theorem d_Top_partedBy_95 : decode b_Top_partedBy 95 = .ok (.lconst 0, 1) := kq_9 byq_r (by decide +kernel)
theorem d_Top_partedBy_96 : decode b_Top_partedBy 96 = .ok (.lcmp, 1) := kq_148 byq_r (by decide +kernel)
theorem d_Top_partedBy_97 : decode b_Top_partedBy 97 = .ok (.ifCond .lt 6, 3) := kq_155 byq_r (a := 0) (b := 6) (by decide +kernel)
theorem d_Top_partedBy_100 : decode b_Top_partedBy 100 = .ok (.lload 10, 2) := kq_22 byq_r (by decide +kernel)
theorem d_Top_partedBy_102 : decode b_Top_partedBy 102 = .ok (.lreturn, 1) := kq_173 byq_r (by decide +kernel)
theorem d_Top_partedBy_103 : decode b_Top_partedBy 103 = .ok (.iinc 8 1, 3) := kq_132 byq_r (b := 1) (by decide +kernel)
theorem d_Top_partedBy_106 : decode b_Top_partedBy 106 = .ok (.goto (-78), 3) := kq_167 byq_r (a := 255) (b := 178) (by decide +kernel)
theorem d_Top_partedBy_109 : decode b_Top_partedBy 109 = .ok (.ldc2_w 303, 3) := kq_20 byq_r (a := 1) (b := 47) (by decide +kernel)
theorem d_Top_partedBy_112 : decode b_Top_partedBy 112 = .ok (.lreturn, 1) := kq_173 byq_r (by decide +kernel)
theorem d_Top_part_0 : decode b_Top_part 0 = .ok (.aload_n 0, 1) := kq_42 byq_r (by decide +kernel)
theorem d_Top_part_1 : decode b_Top_part 1 = .ok (.iload_n 1, 1) := kq_27 byq_r (by decide +kernel)
theorem d_Top_part_2 : decode b_Top_part 2 = .ok (.iload_n 2, 1) := kq_28 byq_r (by decide +kernel)
theorem d_Top_part_3 : decode b_Top_part 3 = .ok (.invokevirtual 337, 3) := kq_182 byq_r (a := 1) (b := 81) (by decide +kernel)
theorem d_Top_part_6 : decode b_Top_part 6 = .ok (.ifCond .ne 5, 3) := kq_154 byq_r (a := 0) (b := 5) (by decide +kernel)
theorem d_Top_part_9 : decode b_Top_part 9 = .ok (.iconst (-1), 1) := kq_2 byq_r (by decide +kernel)
theorem d_Top_part_10 : decode b_Top_part 10 = .ok (.ireturn, 1) := kq_172 byq_r (by decide +kernel)
theorem d_Top_part_11 : decode b_Top_part 11 = .ok (.aload_n 0, 1) := kq_42 byq_r (by decide +kernel)
theorem d_Top_part_12 : decode b_Top_part 12 = .ok (.getfield 46, 3) := kq_180 byq_r (a := 0) (b := 46) (by decide +kernel)
theorem d_Top_part_15 : decode b_Top_part 15 = .ok (.invokevirtual 355, 3) := kq_182 byq_r (a := 1) (b := 99) (by decide +kernel)
theorem d_Top_part_18 : decode b_Top_part 18 = .ok (.lconst 1, 1) := kq_10 byq_r (by decide +kernel)
theorem d_Top_part_19 : decode b_Top_part 19 = .ok (.aload_n 0, 1) := kq_42 byq_r (by decide +kernel)
theorem d_Top_part_20 : decode b_Top_part 20 = .ok (.getfield 33, 3) := kq_180 byq_r (a := 0) (b := 33) (by decide +kernel)
theorem d_Top_part_23 : decode b_Top_part 23 = .ok (.getfield 188, 3) := kq_180 byq_r (a := 0) (b := 188) (by decide +kernel)
theorem d_Top_part_26 : decode b_Top_part 26 = .ok (.iload_n 1, 1) := kq_27 byq_r (by decide +kernel)
theorem d_Top_part_27 : decode b_Top_part 27 = .ok (.iaload, 1) := kq_46 byq_r (by decide +kernel)
theorem d_Top_part_28 : decode b_Top_part 28 = .ok (.lshl, 1) := kq_121 byq_r (by decide +kernel)
theorem d_Top_part_29 : decode b_Top_part 29 = .ok (.ldc2_w 303, 3) := kq_20 byq_r (a := 1) (b := 47) (by decide +kernel)
theorem d_Top_part_32 : decode b_Top_part 32 = .ok (.lxor, 1) := kq_131 byq_r (by decide +kernel)
theorem d_Top_part_33 : decode b_Top_part 33 = .ok (.land, 1) := kq_127 byq_r (by decide +kernel)
theorem d_Top_part_34 : decode b_Top_part 34 = .ok (.lconst 1, 1) := kq_10 byq_r (by decide +kernel)
theorem d_Top_part_35 : decode b_Top_part 35 = .ok (.aload_n 0, 1) := kq_42 byq_r (by decide +kernel)
theorem d_Top_part_36 : decode b_Top_part 36 = .ok (.getfield 33, 3) := kq_180 byq_r (a := 0) (b := 33) (by decide +kernel)
theorem d_Top_part_39 : decode b_Top_part 39 = .ok (.getfield 188, 3) := kq_180 byq_r (a := 0) (b := 188) (by decide +kernel)
theorem d_Top_part_42 : decode b_Top_part 42 = .ok (.iload_n 2, 1) := kq_28 byq_r (by decide +kernel)
theorem d_Top_part_43 : decode b_Top_part 43 = .ok (.iaload, 1) := kq_46 byq_r (by decide +kernel)
theorem d_Top_part_44 : decode b_Top_part 44 = .ok (.lshl, 1) := kq_121 byq_r (by decide +kernel)
theorem d_Top_part_45 : decode b_Top_part 45 = .ok (.ldc2_w 303, 3) := kq_20 byq_r (a := 1) (b := 47) (by decide +kernel)
theorem d_Top_part_48 : decode b_Top_part 48 = .ok (.lxor, 1) := kq_131 byq_r (by decide +kernel)
theorem d_Top_part_49 : decode b_Top_part 49 = .ok (.land, 1) := kq_127 byq_r (by decide +kernel)
theorem d_Top_part_50 : decode b_Top_part 50 = .ok (.lstore_n 3, 1) := kq_66 byq_r (by decide +kernel)
theorem d_Top_part_51 : decode b_Top_part 51 = .ok (.aload_n 0, 1) := kq_42 byq_r (by decide +kernel)
theorem d_Top_part_52 : decode b_Top_part 52 = .ok (.iload_n 1, 1) := kq_27 byq_r (by decide +kernel)
theorem d_Top_part_53 : decode b_Top_part 53 = .ok (.iload_n 2, 1) := kq_28 byq_r (by decide +kernel)
theorem d_Top_part_54 : decode b_Top_part 54 = .ok (.lload_n 3, 1) := kq_33 byq_r (by decide +kernel)
theorem d_Top_part_55 : decode b_Top_part 55 = .ok (.invokevirtual 359, 3) := kq_182 byq_r (a := 1) (b := 103) (by decide +kernel)
theorem d_Top_part_58 : decode b_Top_part 58 = .ok (.ifCond .eq 6, 3) := kq_153 byq_r (a := 0) (b := 6) (by decide +kernel)
theorem d_Top_part_61 : decode b_Top_part 61 = .ok (.bipush (-2), 2) := kq_16 byq_r (b := 254) (by decide +kernel)
theorem d_Top_part_63 : decode b_Top_part 63 = .ok (.ireturn, 1) := kq_172 byq_r (by decide +kernel)
theorem d_Top_part_64 : decode b_Top_part 64 = .ok (.iconst 0, 1) := kq_3 byq_r (by decide +kernel)
theorem d_Top_part_65 : decode b_Top_part 65 = .ok (.istore 5, 2) := kq_54 byq_r (by decide +kernel)
theorem d_Top_part_67 : decode b_Top_part 67 = .ok (.iload 5, 2) := kq_21 byq_r (by decide +kernel)
theorem d_Top_part_69 : decode b_Top_part 69 = .ok (.iconst 3, 1) := kq_6 byq_r (by decide +kernel)
theorem d_Top_part_70 : decode b_Top_part 70 = .ok (.if_icmp .gt 69, 3) := kq_163 byq_r (a := 0) (b := 69) (by decide +kernel)
theorem d_Top_part_73 : decode b_Top_part 73 = .ok (.aload_n 0, 1) := kq_42 byq_r (by decide +kernel)
theorem d_Top_part_74 : decode b_Top_part 74 = .ok (.iload_n 1, 1) := kq_27 byq_r (by decide +kernel)
theorem d_Top_part_75 : decode b_Top_part 75 = .ok (.iload_n 2, 1) := kq_28 byq_r (by decide +kernel)
theorem d_Top_part_76 : decode b_Top_part 76 = .ok (.lload_n 3, 1) := kq_33 byq_r (by decide +kernel)
theorem d_Top_part_77 : decode b_Top_part 77 = .ok (.iload 5, 2) := kq_21 byq_r (by decide +kernel)
theorem d_Top_part_79 : decode b_Top_part 79 = .ok (.lconst 0, 1) := kq_9 byq_r (by decide +kernel)
theorem d_Top_part_80 : decode b_Top_part 80 = .ok (.invokevirtual 363, 3) := kq_182 byq_r (a := 1) (b := 107) (by decide +kernel)
theorem d_Top_part_83 : decode b_Top_part 83 = .ok (.lstore 6, 2) := kq_55 byq_r (by decide +kernel)
theorem d_Top_part_85 : decode b_Top_part 85 = .ok (.lload 6, 2) := kq_22 byq_r (by decide +kernel)
theorem d_Top_part_87 : decode b_Top_part 87 = .ok (.lconst 0, 1) := kq_9 byq_r (by decide +kernel)
theorem d_Top_part_88 : decode b_Top_part 88 = .ok (.lcmp, 1) := kq_148 byq_r (by decide +kernel)
theorem d_Top_part_89 : decode b_Top_part 89 = .ok (.ifCond .lt 44, 3) := kq_155 byq_r (a := 0) (b := 44) (by decide +kernel)
theorem d_Top_part_92 : decode b_Top_part 92 = .ok (.aload_n 0, 1) := kq_42 byq_r (by decide +kernel)
theorem d_Top_part_93 : decode b_Top_part 93 = .ok (.invokevirtual 251, 3) := kq_182 byq_r (a := 0) (b := 251) (by decide +kernel)
theorem d_Top_part_96 : decode b_Top_part 96 = .ok (.iconst 0, 1) := kq_3 byq_r (by decide +kernel)
theorem d_Top_part_97 : decode b_Top_part 97 = .ok (.istore 8, 2) := kq_54 byq_r (by decide +kernel)
theorem d_Top_part_99 : decode b_Top_part 99 = .ok (.iload 8, 2) := kq_21 byq_r (by decide +kernel)
theorem d_Top_part_101 : decode b_Top_part 101 = .ok (.bipush 36, 2) := kq_16 byq_r (b := 36) (by decide +kernel)
theorem d_Top_part_103 : decode b_Top_part 103 = .ok (.if_icmp .ge 27, 3) := kq_162 byq_r (a := 0) (b := 27) (by decide +kernel)
theorem d_Top_part_106 : decode b_Top_part 106 = .ok (.lload 6, 2) := kq_22 byq_r (by decide +kernel)
theorem d_Top_part_108 : decode b_Top_part 108 = .ok (.iload 8, 2) := kq_21 byq_r (by decide +kernel)
theorem d_Top_part_110 : decode b_Top_part 110 = .ok (.lshr, 1) := kq_123 byq_r (by decide +kernel)
theorem d_Top_part_111 : decode b_Top_part 111 = .ok (.lconst 1, 1) := kq_10 byq_r (by decide +kernel)
theorem d_Top_part_112 : decode b_Top_part 112 = .ok (.land, 1) := kq_127 byq_r (by decide +kernel)
theorem d_Top_part_113 : decode b_Top_part 113 = .ok (.lconst 0, 1) := kq_9 byq_r (by decide +kernel)
theorem d_Top_part_114 : decode b_Top_part 114 = .ok (.lcmp, 1) := kq_148 byq_r (by decide +kernel)
theorem d_Top_part_115 : decode b_Top_part 115 = .ok (.ifCond .eq 9, 3) := kq_153 byq_r (a := 0) (b := 9) (by decide +kernel)
theorem d_Top_part_118 : decode b_Top_part 118 = .ok (.aload_n 0, 1) := kq_42 byq_r (by decide +kernel)
theorem d_Top_part_119 : decode b_Top_part 119 = .ok (.iload 8, 2) := kq_21 byq_r (by decide +kernel)
theorem d_Top_part_121 : decode b_Top_part 121 = .ok (.invokevirtual 257, 3) := kq_182 byq_r (a := 1) (b := 1) (by decide +kernel)
theorem d_Top_part_124 : decode b_Top_part 124 = .ok (.iinc 8 1, 3) := kq_132 byq_r (b := 1) (by decide +kernel)
theorem d_Top_part_127 : decode b_Top_part 127 = .ok (.goto (-28), 3) := kq_167 byq_r (a := 255) (b := 228) (by decide +kernel)
theorem d_Top_part_130 : decode b_Top_part 130 = .ok (.iload 5, 2) := kq_21 byq_r (by decide +kernel)
theorem d_Top_part_132 : decode b_Top_part 132 = .ok (.ireturn, 1) := kq_172 byq_r (by decide +kernel)
theorem d_Top_part_133 : decode b_Top_part 133 = .ok (.iinc 5 1, 3) := kq_132 byq_r (b := 1) (by decide +kernel)
theorem d_Top_part_136 : decode b_Top_part 136 = .ok (.goto (-69), 3) := kq_167 byq_r (a := 255) (b := 187) (by decide +kernel)
theorem d_Top_part_139 : decode b_Top_part 139 = .ok (.bipush (-2), 2) := kq_16 byq_r (b := 254) (by decide +kernel)
theorem d_Top_part_141 : decode b_Top_part 141 = .ok (.ireturn, 1) := kq_172 byq_r (by decide +kernel)
theorem d_Top_planks_0 : decode b_Top_planks 0 = .ok (.aload_n 0, 1) := kq_42 byq_r (by decide +kernel)
theorem d_Top_planks_1 : decode b_Top_planks 1 = .ok (.getfield 19, 3) := kq_180 byq_r (a := 0) (b := 19) (by decide +kernel)
theorem d_Top_planks_4 : decode b_Top_planks 4 = .ok (.iconst 1, 1) := kq_4 byq_r (by decide +kernel)
theorem d_Top_planks_5 : decode b_Top_planks 5 = .ok (.iload_n 1, 1) := kq_27 byq_r (by decide +kernel)
theorem d_Top_planks_6 : decode b_Top_planks 6 = .ok (.invokevirtual 305, 3) := kq_182 byq_r (a := 1) (b := 49) (by decide +kernel)
theorem d_Top_planks_9 : decode b_Top_planks 9 = .ok (.ifCond .eq 15, 3) := kq_153 byq_r (a := 0) (b := 15) (by decide +kernel)
theorem d_Top_planks_12 : decode b_Top_planks 12 = .ok (.aload_n 0, 1) := kq_42 byq_r (by decide +kernel)
theorem d_Top_planks_13 : decode b_Top_planks 13 = .ok (.getfield 19, 3) := kq_180 byq_r (a := 0) (b := 19) (by decide +kernel)
theorem d_Top_planks_16 : decode b_Top_planks 16 = .ok (.iconst 1, 1) := kq_4 byq_r (by decide +kernel)
theorem d_Top_planks_17 : decode b_Top_planks 17 = .ok (.iload_n 2, 1) := kq_28 byq_r (by decide +kernel)
theorem d_Top_planks_18 : decode b_Top_planks 18 = .ok (.invokevirtual 305, 3) := kq_182 byq_r (a := 1) (b := 49) (by decide +kernel)
theorem d_Top_planks_21 : decode b_Top_planks 21 = .ok (.ifCond .ne 5, 3) := kq_154 byq_r (a := 0) (b := 5) (by decide +kernel)
theorem d_Top_planks_24 : decode b_Top_planks 24 = .ok (.iconst (-1), 1) := kq_2 byq_r (by decide +kernel)
theorem d_Top_planks_25 : decode b_Top_planks 25 = .ok (.ireturn, 1) := kq_172 byq_r (by decide +kernel)
theorem d_Top_planks_26 : decode b_Top_planks 26 = .ok (.aload_n 0, 1) := kq_42 byq_r (by decide +kernel)
theorem d_Top_planks_27 : decode b_Top_planks 27 = .ok (.getfield 91, 3) := kq_180 byq_r (a := 0) (b := 91) (by decide +kernel)
theorem d_Top_planks_30 : decode b_Top_planks 30 = .ok (.aload_n 0, 1) := kq_42 byq_r (by decide +kernel)
theorem d_Top_planks_31 : decode b_Top_planks 31 = .ok (.getfield 19, 3) := kq_180 byq_r (a := 0) (b := 19) (by decide +kernel)
theorem d_Top_planks_34 : decode b_Top_planks 34 = .ok (.aload_n 0, 1) := kq_42 byq_r (by decide +kernel)
theorem d_Top_planks_35 : decode b_Top_planks 35 = .ok (.getfield 46, 3) := kq_180 byq_r (a := 0) (b := 46) (by decide +kernel)
theorem d_Top_planks_38 : decode b_Top_planks 38 = .ok (.iload_n 1, 1) := kq_27 byq_r (by decide +kernel)
theorem d_Top_planks_39 : decode b_Top_planks 39 = .ok (.iload_n 2, 1) := kq_28 byq_r (by decide +kernel)
theorem d_Top_planks_40 : decode b_Top_planks 40 = .ok (.invokevirtual 367, 3) := kq_182 byq_r (a := 1) (b := 111) (by decide +kernel)
theorem d_Top_planks_43 : decode b_Top_planks 43 = .ok (.istore_n 3, 1) := kq_62 byq_r (by decide +kernel)
theorem d_Top_planks_44 : decode b_Top_planks 44 = .ok (.iload_n 3, 1) := kq_29 byq_r (by decide +kernel)
theorem d_Top_planks_45 : decode b_Top_planks 45 = .ok (.ldc_w 319, 3) := kq_19 byq_r (a := 1) (b := 63) (by decide +kernel)
theorem d_Top_planks_48 : decode b_Top_planks 48 = .ok (.if_icmp .lt 6, 3) := kq_161 byq_r (a := 0) (b := 6) (by decide +kernel)
theorem d_Top_planks_51 : decode b_Top_planks 51 = .ok (.bipush (-2), 2) := kq_16 byq_r (b := 254) (by decide +kernel)
theorem d_Top_planks_53 : decode b_Top_planks 53 = .ok (.ireturn, 1) := kq_172 byq_r (by decide +kernel)
theorem d_Top_planks_54 : decode b_Top_planks 54 = .ok (.aload_n 0, 1) := kq_42 byq_r (by decide +kernel)
theorem d_Top_planks_55 : decode b_Top_planks 55 = .ok (.invokevirtual 251, 3) := kq_182 byq_r (a := 0) (b := 251) (by decide +kernel)
theorem d_Top_planks_58 : decode b_Top_planks 58 = .ok (.aload_n 0, 1) := kq_42 byq_r (by decide +kernel)
theorem d_Top_planks_59 : decode b_Top_planks 59 = .ok (.iload_n 3, 1) := kq_29 byq_r (by decide +kernel)
theorem d_Top_planks_60 : decode b_Top_planks 60 = .ok (.bipush 100, 2) := kq_16 byq_r (b := 100) (by decide +kernel)
theorem d_Top_planks_62 : decode b_Top_planks 62 = .ok (.irem, 1) := kq_112 byq_r (by decide +kernel)
theorem d_Top_planks_63 : decode b_Top_planks 63 = .ok (.invokevirtual 257, 3) := kq_182 byq_r (a := 1) (b := 1) (by decide +kernel)
theorem d_Top_planks_66 : decode b_Top_planks 66 = .ok (.iload_n 3, 1) := kq_29 byq_r (by decide +kernel)
theorem d_Top_planks_67 : decode b_Top_planks 67 = .ok (.bipush 100, 2) := kq_16 byq_r (b := 100) (by decide +kernel)
theorem d_Top_planks_69 : decode b_Top_planks 69 = .ok (.idiv, 1) := kq_108 byq_r (by decide +kernel)
theorem d_Top_planks_70 : decode b_Top_planks 70 = .ok (.ireturn, 1) := kq_172 byq_r (by decide +kernel)
theorem d_Top_fire_0 : decode b_Top_fire 0 = .ok (.iload_n 1, 1) := kq_27 byq_r (by decide +kernel)
theorem d_Top_fire_1 : decode b_Top_fire 1 = .ok (.iconst (-1), 1) := kq_2 byq_r (by decide +kernel)
theorem d_Top_fire_2 : decode b_Top_fire 2 = .ok (.if_icmp .eq 17, 3) := kq_159 byq_r (a := 0) (b := 17) (by decide +kernel)
theorem d_Top_fire_5 : decode b_Top_fire 5 = .ok (.aload_n 0, 1) := kq_42 byq_r (by decide +kernel)
theorem d_Top_fire_6 : decode b_Top_fire 6 = .ok (.getfield 19, 3) := kq_180 byq_r (a := 0) (b := 19) (by decide +kernel)
theorem d_Top_fire_9 : decode b_Top_fire 9 = .ok (.iload_n 1, 1) := kq_27 byq_r (by decide +kernel)
theorem d_Top_fire_10 : decode b_Top_fire 10 = .ok (.invokevirtual 163, 3) := kq_182 byq_r (a := 0) (b := 163) (by decide +kernel)
theorem d_Top_fire_13 : decode b_Top_fire 13 = .ok (.ifCond .ne 6, 3) := kq_154 byq_r (a := 0) (b := 6) (by decide +kernel)
theorem d_Top_fire_16 : decode b_Top_fire 16 = .ok (.bipush (-2), 2) := kq_16 byq_r (b := 254) (by decide +kernel)
theorem d_Top_fire_18 : decode b_Top_fire 18 = .ok (.ireturn, 1) := kq_172 byq_r (by decide +kernel)
theorem d_Top_fire_19 : decode b_Top_fire 19 = .ok (.aload_n 0, 1) := kq_42 byq_r (by decide +kernel)
theorem d_Top_fire_20 : decode b_Top_fire 20 = .ok (.getfield 103, 3) := kq_180 byq_r (a := 0) (b := 103) (by decide +kernel)
theorem d_Top_fire_23 : decode b_Top_fire 23 = .ok (.istore_n 2, 1) := kq_61 byq_r (by decide +kernel)
theorem d_Top_fire_24 : decode b_Top_fire 24 = .ok (.aload_n 0, 1) := kq_42 byq_r (by decide +kernel)
theorem d_Top_fire_25 : decode b_Top_fire 25 = .ok (.iload_n 1, 1) := kq_27 byq_r (by decide +kernel)
theorem d_Top_fire_26 : decode b_Top_fire 26 = .ok (.putfield 103, 3) := kq_181 byq_r (a := 0) (b := 103) (by decide +kernel)
theorem d_Top_fire_29 : decode b_Top_fire 29 = .ok (.iload_n 2, 1) := kq_28 byq_r (by decide +kernel)
theorem d_Top_fire_30 : decode b_Top_fire 30 = .ok (.ireturn, 1) := kq_172 byq_r (by decide +kernel)
theorem d_Top_stepsToFire_0 : decode b_Top_stepsToFire 0 = .ok (.aload_n 0, 1) := kq_42 byq_r (by decide +kernel)
theorem d_Top_stepsToFire_1 : decode b_Top_stepsToFire 1 = .ok (.getfield 46, 3) := kq_180 byq_r (a := 0) (b := 46) (by decide +kernel)
theorem d_Top_stepsToFire_4 : decode b_Top_stepsToFire 4 = .ok (.aload_n 0, 1) := kq_42 byq_r (by decide +kernel)
theorem d_Top_stepsToFire_5 : decode b_Top_stepsToFire 5 = .ok (.getfield 33, 3) := kq_180 byq_r (a := 0) (b := 33) (by decide +kernel)
theorem d_Top_stepsToFire_8 : decode b_Top_stepsToFire 8 = .ok (.getfield 191, 3) := kq_180 byq_r (a := 0) (b := 191) (by decide +kernel)
theorem d_Top_stepsToFire_11 : decode b_Top_stepsToFire 11 = .ok (.iload_n 1, 1) := kq_27 byq_r (by decide +kernel)
theorem d_Top_stepsToFire_12 : decode b_Top_stepsToFire 12 = .ok (.iaload, 1) := kq_46 byq_r (by decide +kernel)
theorem d_Top_stepsToFire_13 : decode b_Top_stepsToFire 13 = .ok (.aload_n 0, 1) := kq_42 byq_r (by decide +kernel)
theorem d_Top_stepsToFire_14 : decode b_Top_stepsToFire 14 = .ok (.getfield 33, 3) := kq_180 byq_r (a := 0) (b := 33) (by decide +kernel)
theorem d_Top_stepsToFire_17 : decode b_Top_stepsToFire 17 = .ok (.getfield 188, 3) := kq_180 byq_r (a := 0) (b := 188) (by decide +kernel)
theorem d_Top_stepsToFire_20 : decode b_Top_stepsToFire 20 = .ok (.iload_n 1, 1) := kq_27 byq_r (by decide +kernel)
theorem d_Top_stepsToFire_21 : decode b_Top_stepsToFire 21 = .ok (.iaload, 1) := kq_46 byq_r (by decide +kernel)
theorem d_Top_stepsToFire_22 : decode b_Top_stepsToFire 22 = .ok (.aload_n 0, 1) := kq_42 byq_r (by decide +kernel)
theorem d_Top_stepsToFire_23 : decode b_Top_stepsToFire 23 = .ok (.getfield 91, 3) := kq_180 byq_r (a := 0) (b := 91) (by decide +kernel)
theorem d_Top_stepsToFire_26 : decode b_Top_stepsToFire 26 = .ok (.getfield 312, 3) := kq_180 byq_r (a := 1) (b := 56) (by decide +kernel)
theorem d_Top_stepsToFire_29 : decode b_Top_stepsToFire 29 = .ok (.invokevirtual 315, 3) := kq_182 byq_r (a := 1) (b := 59) (by decide +kernel)
theorem d_Top_stepsToFire_32 : decode b_Top_stepsToFire 32 = .ok (.ldc_w 319, 3) := kq_19 byq_r (a := 1) (b := 63) (by decide +kernel)
theorem d_Top_stepsToFire_35 : decode b_Top_stepsToFire 35 = .ok (.istore_n 2, 1) := kq_61 byq_r (by decide +kernel)
theorem d_Top_stepsToFire_36 : decode b_Top_stepsToFire 36 = .ok (.iconst 0, 1) := kq_3 byq_r (by decide +kernel)
theorem d_Top_stepsToFire_37 : decode b_Top_stepsToFire 37 = .ok (.istore_n 3, 1) := kq_62 byq_r (by decide +kernel)
theorem d_Top_stepsToFire_38 : decode b_Top_stepsToFire 38 = .ok (.iload_n 3, 1) := kq_29 byq_r (by decide +kernel)
theorem d_Top_stepsToFire_39 : decode b_Top_stepsToFire 39 = .ok (.iconst 4, 1) := kq_7 byq_r (by decide +kernel)
theorem d_Top_stepsToFire_40 : decode b_Top_stepsToFire 40 = .ok (.if_icmp .ge 44, 3) := kq_162 byq_r (a := 0) (b := 44) (by decide +kernel)
theorem d_Top_stepsToFire_43 : decode b_Top_stepsToFire 43 = .ok (.aload_n 0, 1) := kq_42 byq_r (by decide +kernel)
theorem d_Top_stepsToFire_44 : decode b_Top_stepsToFire 44 = .ok (.getfield 19, 3) := kq_180 byq_r (a := 0) (b := 19) (by decide +kernel)
theorem d_Top_stepsToFire_47 : decode b_Top_stepsToFire 47 = .ok (.aload_n 0, 1) := kq_42 byq_r (by decide +kernel)
theorem d_Top_stepsToFire_48 : decode b_Top_stepsToFire 48 = .ok (.getfield 103, 3) := kq_180 byq_r (a := 0) (b := 103) (by decide +kernel)
theorem d_Top_stepsToFire_51 : decode b_Top_stepsToFire 51 = .ok (.iload_n 3, 1) := kq_29 byq_r (by decide +kernel)
theorem d_Top_stepsToFire_52 : decode b_Top_stepsToFire 52 = .ok (.invokevirtual 492, 3) := kq_182 byq_r (a := 1) (b := 236) (by decide +kernel)
theorem d_Top_stepsToFire_55 : decode b_Top_stepsToFire 55 = .ok (.istore 4, 2) := kq_54 byq_r (by decide +kernel)
theorem d_Top_stepsToFire_57 : decode b_Top_stepsToFire 57 = .ok (.iload 4, 2) := kq_21 byq_r (by decide +kernel)
theorem d_Top_stepsToFire_59 : decode b_Top_stepsToFire 59 = .ok (.iconst (-1), 1) := kq_2 byq_r (by decide +kernel)
theorem d_Top_stepsToFire_60 : decode b_Top_stepsToFire 60 = .ok (.if_icmp .eq 18, 3) := kq_159 byq_r (a := 0) (b := 18) (by decide +kernel)
theorem d_Top_stepsToFire_63 : decode b_Top_stepsToFire 63 = .ok (.iload_n 2, 1) := kq_28 byq_r (by decide +kernel)
theorem d_Top_stepsToFire_64 : decode b_Top_stepsToFire 64 = .ok (.aload_n 0, 1) := kq_42 byq_r (by decide +kernel)
theorem d_Top_stepsToFire_65 : decode b_Top_stepsToFire 65 = .ok (.getfield 91, 3) := kq_180 byq_r (a := 0) (b := 91) (by decide +kernel)
theorem d_Top_stepsToFire_68 : decode b_Top_stepsToFire 68 = .ok (.getfield 312, 3) := kq_180 byq_r (a := 1) (b := 56) (by decide +kernel)
theorem d_Top_stepsToFire_71 : decode b_Top_stepsToFire 71 = .ok (.iload 4, 2) := kq_21 byq_r (by decide +kernel)
theorem d_Top_stepsToFire_73 : decode b_Top_stepsToFire 73 = .ok (.iaload, 1) := kq_46 byq_r (by decide +kernel)
theorem d_Top_stepsToFire_74 : decode b_Top_stepsToFire 74 = .ok (.invokestatic 495, 3) := kq_184 byq_r (a := 1) (b := 239) (by decide +kernel)
theorem d_Top_stepsToFire_77 : decode b_Top_stepsToFire 77 = .ok (.istore_n 2, 1) := kq_61 byq_r (by decide +kernel)
theorem d_Top_stepsToFire_78 : decode b_Top_stepsToFire 78 = .ok (.iinc 3 1, 3) := kq_132 byq_r (b := 1) (by decide +kernel)
theorem d_Top_stepsToFire_81 : decode b_Top_stepsToFire 81 = .ok (.goto (-43), 3) := kq_167 byq_r (a := 255) (b := 213) (by decide +kernel)
theorem d_Top_stepsToFire_84 : decode b_Top_stepsToFire 84 = .ok (.iload_n 2, 1) := kq_28 byq_r (by decide +kernel)
theorem d_Top_stepsToFire_85 : decode b_Top_stepsToFire 85 = .ok (.ireturn, 1) := kq_172 byq_r (by decide +kernel)
theorem d_Top_fights_0 : decode b_Top_fights 0 = .ok (.iload_n 1, 1) := kq_27 byq_r (by decide +kernel)
theorem d_Top_fights_1 : decode b_Top_fights 1 = .ok (.ifCond .lt 9, 3) := kq_155 byq_r (a := 0) (b := 9) (by decide +kernel)
theorem d_Top_fights_4 : decode b_Top_fights 4 = .ok (.iload_n 1, 1) := kq_27 byq_r (by decide +kernel)
theorem d_Top_fights_5 : decode b_Top_fights 5 = .ok (.bipush 60, 2) := kq_16 byq_r (b := 60) (by decide +kernel)
theorem d_Top_fights_7 : decode b_Top_fights 7 = .ok (.if_icmp .le 5, 3) := kq_164 byq_r (a := 0) (b := 5) (by decide +kernel)
theorem d_Top_fights_10 : decode b_Top_fights 10 = .ok (.iconst (-1), 1) := kq_2 byq_r (by decide +kernel)
theorem d_Top_fights_11 : decode b_Top_fights 11 = .ok (.ireturn, 1) := kq_172 byq_r (by decide +kernel)
theorem d_Top_fights_12 : decode b_Top_fights 12 = .ok (.aload_n 0, 1) := kq_42 byq_r (by decide +kernel)
theorem d_Top_fights_13 : decode b_Top_fights 13 = .ok (.getfield 103, 3) := kq_180 byq_r (a := 0) (b := 103) (by decide +kernel)
theorem d_Top_fights_16 : decode b_Top_fights 16 = .ok (.iconst (-1), 1) := kq_2 byq_r (by decide +kernel)
theorem d_Top_fights_17 : decode b_Top_fights 17 = .ok (.if_icmp .ne 6, 3) := kq_160 byq_r (a := 0) (b := 6) (by decide +kernel)
theorem d_Top_fights_20 : decode b_Top_fights 20 = .ok (.bipush (-2), 2) := kq_16 byq_r (b := 254) (by decide +kernel)
theorem d_Top_fights_22 : decode b_Top_fights 22 = .ok (.ireturn, 1) := kq_172 byq_r (by decide +kernel)
theorem d_Top_fights_23 : decode b_Top_fights 23 = .ok (.iconst 0, 1) := kq_3 byq_r (by decide +kernel)
theorem d_Top_fights_24 : decode b_Top_fights 24 = .ok (.istore_n 2, 1) := kq_61 byq_r (by decide +kernel)
theorem d_Top_fights_25 : decode b_Top_fights 25 = .ok (.iconst 0, 1) := kq_3 byq_r (by decide +kernel)
theorem d_Top_fights_26 : decode b_Top_fights 26 = .ok (.istore_n 3, 1) := kq_62 byq_r (by decide +kernel)
theorem d_Top_fights_27 : decode b_Top_fights 27 = .ok (.iload_n 3, 1) := kq_29 byq_r (by decide +kernel)
theorem d_Top_fights_28 : decode b_Top_fights 28 = .ok (.aload_n 0, 1) := kq_42 byq_r (by decide +kernel)
theorem d_Top_fights_29 : decode b_Top_fights 29 = .ok (.getfield 26, 3) := kq_180 byq_r (a := 0) (b := 26) (by decide +kernel)
theorem d_Top_fights_32 : decode b_Top_fights 32 = .ok (.getfield 129, 3) := kq_180 byq_r (a := 0) (b := 129) (by decide +kernel)
theorem d_Top_fights_35 : decode b_Top_fights 35 = .ok (.if_icmp .ge 24, 3) := kq_162 byq_r (a := 0) (b := 24) (by decide +kernel)
theorem d_Top_fights_38 : decode b_Top_fights 38 = .ok (.aload_n 0, 1) := kq_42 byq_r (by decide +kernel)
theorem d_Top_fights_39 : decode b_Top_fights 39 = .ok (.iload_n 3, 1) := kq_29 byq_r (by decide +kernel)
theorem d_Top_fights_40 : decode b_Top_fights 40 = .ok (.invokevirtual 371, 3) := kq_182 byq_r (a := 1) (b := 115) (by decide +kernel)
theorem d_Top_fights_43 : decode b_Top_fights 43 = .ok (.iload_n 1, 1) := kq_27 byq_r (by decide +kernel)
theorem d_Top_fights_44 : decode b_Top_fights 44 = .ok (.if_icmp .gt 9, 3) := kq_163 byq_r (a := 0) (b := 9) (by decide +kernel)
theorem d_Top_fights_47 : decode b_Top_fights 47 = .ok (.iload_n 2, 1) := kq_28 byq_r (by decide +kernel)
theorem d_Top_fights_48 : decode b_Top_fights 48 = .ok (.iconst 1, 1) := kq_4 byq_r (by decide +kernel)
theorem d_Top_fights_49 : decode b_Top_fights 49 = .ok (.iload_n 3, 1) := kq_29 byq_r (by decide +kernel)
theorem d_Top_fights_50 : decode b_Top_fights 50 = .ok (.ishl, 1) := kq_120 byq_r (by decide +kernel)
theorem d_Top_fights_51 : decode b_Top_fights 51 = .ok (.ior, 1) := kq_128 byq_r (by decide +kernel)
theorem d_Top_fights_52 : decode b_Top_fights 52 = .ok (.istore_n 2, 1) := kq_61 byq_r (by decide +kernel)
theorem d_Top_fights_53 : decode b_Top_fights 53 = .ok (.iinc 3 1, 3) := kq_132 byq_r (b := 1) (by decide +kernel)
theorem d_Top_fights_56 : decode b_Top_fights 56 = .ok (.goto (-29), 3) := kq_167 byq_r (a := 255) (b := 227) (by decide +kernel)
theorem d_Top_fights_59 : decode b_Top_fights 59 = .ok (.iload_n 2, 1) := kq_28 byq_r (by decide +kernel)
theorem d_Top_fights_60 : decode b_Top_fights 60 = .ok (.aload_n 0, 1) := kq_42 byq_r (by decide +kernel)
theorem d_Top_fights_61 : decode b_Top_fights 61 = .ok (.getfield 26, 3) := kq_180 byq_r (a := 0) (b := 26) (by decide +kernel)
theorem d_Top_fights_64 : decode b_Top_fights 64 = .ok (.getfield 374, 3) := kq_180 byq_r (a := 1) (b := 118) (by decide +kernel)
theorem d_Top_fights_67 : decode b_Top_fights 67 = .ok (.iand, 1) := kq_126 byq_r (by decide +kernel)
theorem d_Top_fights_68 : decode b_Top_fights 68 = .ok (.invokestatic 236, 3) := kq_184 byq_r (a := 0) (b := 236) (by decide +kernel)
theorem d_Top_fights_71 : decode b_Top_fights 71 = .ok (.istore_n 3, 1) := kq_62 byq_r (by decide +kernel)
theorem d_Top_fights_72 : decode b_Top_fights 72 = .ok (.aload_n 0, 1) := kq_42 byq_r (by decide +kernel)
theorem d_Top_fights_73 : decode b_Top_fights 73 = .ok (.invokevirtual 251, 3) := kq_182 byq_r (a := 0) (b := 251) (by decide +kernel)
theorem d_Top_fights_76 : decode b_Top_fights 76 = .ok (.aload_n 0, 1) := kq_42 byq_r (by decide +kernel)
theorem d_Top_fights_77 : decode b_Top_fights 77 = .ok (.iload_n 2, 1) := kq_28 byq_r (by decide +kernel)
theorem d_Top_fights_78 : decode b_Top_fights 78 = .ok (.invokestatic 236, 3) := kq_184 byq_r (a := 0) (b := 236) (by decide +kernel)
theorem d_Top_fights_81 : decode b_Top_fights 81 = .ok (.iload_n 3, 1) := kq_29 byq_r (by decide +kernel)
theorem d_Top_fights_82 : decode b_Top_fights 82 = .ok (.isub, 1) := kq_100 byq_r (by decide +kernel)
theorem d_Top_fights_83 : decode b_Top_fights 83 = .ok (.invokevirtual 257, 3) := kq_182 byq_r (a := 1) (b := 1) (by decide +kernel)
theorem d_Top_fights_86 : decode b_Top_fights 86 = .ok (.aload_n 0, 1) := kq_42 byq_r (by decide +kernel)
theorem d_Top_fights_87 : decode b_Top_fights 87 = .ok (.iload_n 3, 1) := kq_29 byq_r (by decide +kernel)
theorem d_Top_fights_88 : decode b_Top_fights 88 = .ok (.invokevirtual 257, 3) := kq_182 byq_r (a := 1) (b := 1) (by decide +kernel)
theorem d_Top_fights_91 : decode b_Top_fights 91 = .ok (.iload_n 2, 1) := kq_28 byq_r (by decide +kernel)
theorem d_Top_fights_92 : decode b_Top_fights 92 = .ok (.ireturn, 1) := kq_172 byq_r (by decide +kernel)
def lb_Top_handOver_49 (v1 : Int32) (v2 : Int32) (v5 : Int32) (s : Int32 × Int32 × Mem) : Option ((Int32 × Int32 × Mem) ⊕ ((Int32 × Mem))) :=
  if (s.2.2.1 3 3) ≤ s.2.1 then
  some (.inr (s.1, s.2.2))
  else
  Option.bind (f_Ground_isStair s.2.1 s.2.2) fun x2 =>
  if x2 = 0 then
  some (.inl (s.1, (s.2.1 + (1 : Int32)), s.2.2))
  else
  if inb s.2.1 36 = true then
  if inb s.2.1 36 = true then
  if inb s.2.1 36 = true then
  if s.1 ≤ ((if (v5 + (s.2.2.1 155 s.2.1.toNatClampNeg)) < (s.2.2.1 157 s.2.1.toNatClampNeg) then (s.2.2.1 157 s.2.1.toNatClampNeg) else (v5 + (s.2.2.1 155 s.2.1.toNatClampNeg))) + (s.2.2.1 156 s.2.1.toNatClampNeg)) then
  some (.inl (s.1, (s.2.1 + (1 : Int32)), s.2.2))
  else
  Option.bind (f_Top_emptyRow s.2.2) fun x3 =>
  Option.bind (f_Top_note v1 x3) fun x4 =>
  Option.bind (f_Top_note v2 x4) fun x5 =>
  Option.bind (f_Top_note s.2.1 x5) fun x6 =>
  some (.inl (((if (v5 + (s.2.2.1 155 s.2.1.toNatClampNeg)) < (s.2.2.1 157 s.2.1.toNatClampNeg) then (s.2.2.1 157 s.2.1.toNatClampNeg) else (v5 + (s.2.2.1 155 s.2.1.toNatClampNeg))) + (s.2.2.1 156 s.2.1.toNatClampNeg)), (s.2.1 + (1 : Int32)), x6))
  else none
  else none
  else none
theorem lb_Top_handOver_49_ok {E : Ev} {G : Gw} {d : Nat} {post : Int32 → Mem → Prop} (X : Cx E G b_Top_handOver "WomenByTheRoofs" 9 d (some .int)) (hD : 3 ≤ d)  (v1 : Int32) (v2 : Int32) (v5 : Int32)   (s : Int32 × Int32 × Mem) (o : (Int32 × Int32 × Mem) ⊕ ((Int32 × Mem))) (h : lb_Top_handOver_49 v1 v2 v5 s = some o) (kc : ∀ s9 : Int32 × Int32 × Mem, o = .inl s9 → V E (0, 0) G 9 (QI E G post) s9.2.2 49 [(0, .ref (G.2.2 + 0)), (1, .int v1), (2, .int v2), (4, .int s9.1), (5, .int v5), (6, .int s9.2.1)] []) (kx0 : ∀ x9 : Int32 × Mem, o = .inr x9 → V E (0, 0) G 9 (QI E G post) x9.2 153 [(4, .int x9.1)] []) : V E (0, 0) G 9 (QI E G post) s.2.2 49 [(0, .ref (G.2.2 + 0)), (1, .int v1), (2, .int v2), (4, .int s.1), (5, .int v5), (6, .int s.2.1)] [] := by
  unfold lb_Top_handOver_49 at h
  refine V_iload (n := 5) X d_Top_handOver_49 rfl rfl ?_
  refine V_aload_n (n := 0) X d_Top_handOver_51 rfl rfl rfl ?_
  refine V_getr (k2 := 3) X fo_Top_19 kd_0 rfl rf_0_1 d_Top_handOver_52 rfl ?_
  refine V_geti X fo_Top_346 kd_3 rfl d_Top_handOver_55 rfl ?_
  refine V_icmp_ge (tgt := 153) X d_Top_handOver_58 (by decide) rfl (fun c9 => ?_) (fun c9 => ?_)
  · rw [if_pos c9] at h
    refine V_sub (lv' := [(4, .int s.1)]) [3] rfl ?_
    exact kx0 (s.1, s.2.2) (Option.some.inj h).symm
  · rw [if_neg c9] at h
    refine V_aload_n (n := 0) X d_Top_handOver_61 rfl rfl rfl ?_
    refine V_getr (k2 := 3) X fo_Top_19 kd_0 rfl rf_0_1 d_Top_handOver_62 rfl ?_
    refine V_iload (n := 5) X d_Top_handOver_65 rfl rfl ?_
    obtain ⟨x2, hx2, h⟩ := ob_s h
    refine V_ci (As := [.int s.2.1]) X (Z0 E) ml_Top_290 yq_Ground_isStair (c_Ground_isStair E.2.1 G s.2.1 s.2.2 x2 hx2 _ (Nat.le_refl _)) kd_3 rfl rfl (by omega) rfl (Nat.le_of_ble_eq_true rfl) d_Top_handOver_67 rfl (fun r9 M9 hq => ?_)
    rw [hq.1, hq.2]
    refine V_if_eq (tgt := 147) X d_Top_handOver_70 (by decide) rfl (fun c8 => ?_) (fun c8 => ?_)
    · rw [if_pos c8] at h
      refine V_iinc (n := 5) (v := (s.2.1 + (1 : Int32))) (lv' := [(6, .int (s.2.1 + (1 : Int32))), (0, .ref (G.2.2 + 0)), (1, .int v1), (2, .int v2), (4, .int s.1), (5, .int v5)]) X d_Top_handOver_147 rfl rfl (by decide) rfl rfl ?_
      refine V_goto (pc' := 49) X d_Top_handOver_150 (by decide) ?_
      refine V_sub (lv' := [(0, .ref (G.2.2 + 0)), (1, .int v1), (2, .int v2), (4, .int s.1), (5, .int v5), (6, .int (s.2.1 + (1 : Int32)))]) [1, 2, 3, 4, 5, 0] rfl ?_
      exact kc (s.1, (s.2.1 + (1 : Int32)), s.2.2) (Option.some.inj h).symm
    · rw [if_neg c8] at h
      refine V_iload (n := 4) X d_Top_handOver_73 rfl rfl ?_
      refine V_aload_n (n := 0) X d_Top_handOver_75 rfl rfl rfl ?_
      refine V_getr (k2 := 154) X fo_Top_91 kd_0 rfl rf_0_13 d_Top_handOver_76 rfl ?_
      refine V_getr (k2 := 155) X fo_Top_312 kd_154 rfl rf_154_0 d_Top_handOver_79 rfl ?_
      refine V_iload (n := 5) X d_Top_handOver_82 rfl rfl ?_
      obtain ⟨hb, h⟩ := ifn h
      refine V_iald X kd_155 (inb_in ln_155 hb) d_Top_handOver_84 rfl ?_
      refine V_iadd X d_Top_handOver_85 rfl ?_
      refine V_istore (lv' := [(7, .int (v5 + (s.2.2.1 155 s.2.1.toNatClampNeg))), (0, .ref (G.2.2 + 0)), (1, .int v1), (2, .int v2), (4, .int s.1), (5, .int v5), (6, .int s.2.1)]) X d_Top_handOver_86 (by decide) rfl rfl ?_
      refine V_iload (n := 0) X d_Top_handOver_88 rfl rfl ?_
      refine V_aload_n (n := 1) X d_Top_handOver_90 rfl rfl rfl ?_
      refine V_getr (k2 := 154) X fo_Top_91 kd_0 rfl rf_0_13 d_Top_handOver_91 rfl ?_
      refine V_getr (k2 := 157) X fo_Top_485 kd_154 rfl rf_154_2 d_Top_handOver_94 rfl ?_
      refine V_iload (n := 6) X d_Top_handOver_97 rfl rfl ?_
      obtain ⟨hb, h⟩ := ifn h
      refine V_iald X kd_157 (inb_in ln_157 hb) d_Top_handOver_99 rfl ?_
      refine V_mmax X (Z0 E) mm_Top_381 (by omega) (Nat.le_of_ble_eq_true rfl) d_Top_handOver_100 rfl ?_
      refine V_aload_n (n := 1) X d_Top_handOver_103 rfl rfl rfl ?_
      refine V_getr (k2 := 154) X fo_Top_91 kd_0 rfl rf_0_13 d_Top_handOver_104 rfl ?_
      refine V_getr (k2 := 156) X fo_Top_331 kd_154 rfl rf_154_1 d_Top_handOver_107 rfl ?_
      refine V_iload (n := 6) X d_Top_handOver_110 rfl rfl ?_
      obtain ⟨hb, h⟩ := ifn h
      refine V_iald X kd_156 (inb_in ln_156 hb) d_Top_handOver_112 rfl ?_
      refine V_iadd X d_Top_handOver_113 rfl ?_
      refine V_istore (lv' := [(8, .int ((if (v5 + (s.2.2.1 155 s.2.1.toNatClampNeg)) < (s.2.2.1 157 s.2.1.toNatClampNeg) then (s.2.2.1 157 s.2.1.toNatClampNeg) else (v5 + (s.2.2.1 155 s.2.1.toNatClampNeg))) + (s.2.2.1 156 s.2.1.toNatClampNeg))), (7, .int (v5 + (s.2.2.1 155 s.2.1.toNatClampNeg))), (0, .ref (G.2.2 + 0)), (1, .int v1), (2, .int v2), (4, .int s.1), (5, .int v5), (6, .int s.2.1)]) X d_Top_handOver_114 (by decide) rfl rfl ?_
      refine V_iload (n := 0) X d_Top_handOver_116 rfl rfl ?_
      refine V_iload (n := 5) X d_Top_handOver_118 rfl rfl ?_
      refine V_icmp_ge (tgt := 147) X d_Top_handOver_120 (by decide) rfl (fun c7 => ?_) (fun c7 => ?_)
      · rw [if_pos c7] at h
        refine V_iinc (n := 7) (v := (s.2.1 + (1 : Int32))) (lv' := [(6, .int (s.2.1 + (1 : Int32))), (8, .int ((if (v5 + (s.2.2.1 155 s.2.1.toNatClampNeg)) < (s.2.2.1 157 s.2.1.toNatClampNeg) then (s.2.2.1 157 s.2.1.toNatClampNeg) else (v5 + (s.2.2.1 155 s.2.1.toNatClampNeg))) + (s.2.2.1 156 s.2.1.toNatClampNeg))), (7, .int (v5 + (s.2.2.1 155 s.2.1.toNatClampNeg))), (0, .ref (G.2.2 + 0)), (1, .int v1), (2, .int v2), (4, .int s.1), (5, .int v5)]) X d_Top_handOver_147 rfl rfl (by decide) rfl rfl ?_
        refine V_goto (pc' := 49) X d_Top_handOver_150 (by decide) ?_
        refine V_sub (lv' := [(0, .ref (G.2.2 + 0)), (1, .int v1), (2, .int v2), (4, .int s.1), (5, .int v5), (6, .int (s.2.1 + (1 : Int32)))]) [3, 4, 5, 6, 7, 0] rfl ?_
        exact kc (s.1, (s.2.1 + (1 : Int32)), s.2.2) (Option.some.inj h).symm
      · rw [if_neg c7] at h
        refine V_iload (n := 0) X d_Top_handOver_123 rfl rfl ?_
        refine V_istore (lv' := [(4, .int ((if (v5 + (s.2.2.1 155 s.2.1.toNatClampNeg)) < (s.2.2.1 157 s.2.1.toNatClampNeg) then (s.2.2.1 157 s.2.1.toNatClampNeg) else (v5 + (s.2.2.1 155 s.2.1.toNatClampNeg))) + (s.2.2.1 156 s.2.1.toNatClampNeg))), (8, .int ((if (v5 + (s.2.2.1 155 s.2.1.toNatClampNeg)) < (s.2.2.1 157 s.2.1.toNatClampNeg) then (s.2.2.1 157 s.2.1.toNatClampNeg) else (v5 + (s.2.2.1 155 s.2.1.toNatClampNeg))) + (s.2.2.1 156 s.2.1.toNatClampNeg))), (7, .int (v5 + (s.2.2.1 155 s.2.1.toNatClampNeg))), (0, .ref (G.2.2 + 0)), (1, .int v1), (2, .int v2), (5, .int v5), (6, .int s.2.1)]) X d_Top_handOver_125 (by decide) rfl rfl ?_
        refine V_aload_n (n := 3) X d_Top_handOver_127 rfl rfl rfl ?_
        obtain ⟨x3, hx3, h⟩ := ob_s h
        refine V_cv (As := []) X (Z0 E) ml_Top_251 yq_Top_emptyRow (c_Top_emptyRow E.2.1 G  s.2.2 x3 hx3 _ (Nat.le_refl _)) kd_0 rfl rfl (by omega) rfl (Nat.le_of_ble_eq_true rfl) d_Top_handOver_128 rfl (fun M9 hq => ?_)
        rw [hq]
        refine V_aload_n (n := 3) X d_Top_handOver_131 rfl rfl rfl ?_
        refine V_iload_n (n := 4) X d_Top_handOver_132 rfl rfl rfl ?_
        obtain ⟨x4, hx4, h⟩ := ob_s h
        refine V_cv (As := [.int v1]) X (Z0 E) ml_Top_257 yq_Top_note (c_Top_note E.2.1 G v1 x3 x4 hx4 _ (Nat.le_refl _)) kd_0 rfl rfl (by omega) rfl (Nat.le_of_ble_eq_true rfl) d_Top_handOver_133 rfl (fun M9 hq => ?_)
        rw [hq]
        refine V_aload_n (n := 3) X d_Top_handOver_136 rfl rfl rfl ?_
        refine V_iload_n (n := 5) X d_Top_handOver_137 rfl rfl rfl ?_
        obtain ⟨x5, hx5, h⟩ := ob_s h
        refine V_cv (As := [.int v2]) X (Z0 E) ml_Top_257 yq_Top_note (c_Top_note E.2.1 G v2 x4 x5 hx5 _ (Nat.le_refl _)) kd_0 rfl rfl (by omega) rfl (Nat.le_of_ble_eq_true rfl) d_Top_handOver_138 rfl (fun M9 hq => ?_)
        rw [hq]
        refine V_aload_n (n := 3) X d_Top_handOver_141 rfl rfl rfl ?_
        refine V_iload (n := 7) X d_Top_handOver_142 rfl rfl ?_
        obtain ⟨x6, hx6, h⟩ := ob_s h
        refine V_cv (As := [.int s.2.1]) X (Z0 E) ml_Top_257 yq_Top_note (c_Top_note E.2.1 G s.2.1 x5 x6 hx6 _ (Nat.le_refl _)) kd_0 rfl rfl (by omega) rfl (Nat.le_of_ble_eq_true rfl) d_Top_handOver_144 rfl (fun M9 hq => ?_)
        rw [hq]
        refine V_iinc (n := 7) (v := (s.2.1 + (1 : Int32))) (lv' := [(6, .int (s.2.1 + (1 : Int32))), (4, .int ((if (v5 + (s.2.2.1 155 s.2.1.toNatClampNeg)) < (s.2.2.1 157 s.2.1.toNatClampNeg) then (s.2.2.1 157 s.2.1.toNatClampNeg) else (v5 + (s.2.2.1 155 s.2.1.toNatClampNeg))) + (s.2.2.1 156 s.2.1.toNatClampNeg))), (8, .int ((if (v5 + (s.2.2.1 155 s.2.1.toNatClampNeg)) < (s.2.2.1 157 s.2.1.toNatClampNeg) then (s.2.2.1 157 s.2.1.toNatClampNeg) else (v5 + (s.2.2.1 155 s.2.1.toNatClampNeg))) + (s.2.2.1 156 s.2.1.toNatClampNeg))), (7, .int (v5 + (s.2.2.1 155 s.2.1.toNatClampNeg))), (0, .ref (G.2.2 + 0)), (1, .int v1), (2, .int v2), (5, .int v5)]) X d_Top_handOver_147 rfl rfl (by decide) rfl rfl ?_
        refine V_goto (pc' := 49) X d_Top_handOver_150 (by decide) ?_
        refine V_sub (lv' := [(0, .ref (G.2.2 + 0)), (1, .int v1), (2, .int v2), (4, .int ((if (v5 + (s.2.2.1 155 s.2.1.toNatClampNeg)) < (s.2.2.1 157 s.2.1.toNatClampNeg) then (s.2.2.1 157 s.2.1.toNatClampNeg) else (v5 + (s.2.2.1 155 s.2.1.toNatClampNeg))) + (s.2.2.1 156 s.2.1.toNatClampNeg))), (5, .int v5), (6, .int (s.2.1 + (1 : Int32)))]) [4, 5, 6, 1, 7, 0] rfl ?_
        exact kc (((if (v5 + (s.2.2.1 155 s.2.1.toNatClampNeg)) < (s.2.2.1 157 s.2.1.toNatClampNeg) then (s.2.2.1 157 s.2.1.toNatClampNeg) else (v5 + (s.2.2.1 155 s.2.1.toNatClampNeg))) + (s.2.2.1 156 s.2.1.toNatClampNeg)), (s.2.1 + (1 : Int32)), x6) (Option.some.inj h).symm
theorem lp_Top_handOver_49_ok {E : Ev} {G : Gw} {d : Nat} {post : Int32 → Mem → Prop} (X : Cx E G b_Top_handOver "WomenByTheRoofs" 9 d (some .int)) (hD : 3 ≤ d)  (v1 : Int32) (v2 : Int32) (v5 : Int32)   (n9 : Nat) (s : Int32 × Int32 × Mem) (x : (Int32 × Mem)) (h : iter (lb_Top_handOver_49 v1 v2 v5) n9 s = some x) (kx0 : ∀ x9 : Int32 × Mem, x = x9 → V E (0, 0) G 9 (QI E G post) x9.2 153 [(4, .int x9.1)] []) : V E (0, 0) G 9 (QI E G post) s.2.2 49 [(0, .ref (G.2.2 + 0)), (1, .int v1), (2, .int v2), (4, .int s.1), (5, .int v5), (6, .int s.2.1)] [] :=
  iter_P (P := fun s : Int32 × Int32 × Mem => V E (0, 0) G 9 (QI E G post) s.2.2 49 [(0, .ref (G.2.2 + 0)), (1, .int v1), (2, .int v2), (4, .int s.1), (5, .int v5), (6, .int s.2.1)] []) (fun s o hb kc ky => lb_Top_handOver_49_ok X hD v1 v2 v5 s o hb kc (fun x9 e9 => kx0 x9 (ky _ e9).symm)) n9 s h
def f_Top_handOver (v1 : Int32) (v2 : Int32) (v3 : Int32) (M : Mem) : Option (Int32 × Mem) :=
  if inb v2 8 = true then
  Option.bind (f_Nets_measure 32 (1 : Int32) (M.1 12 v2.toNatClampNeg) 157 M) fun x1 =>
  if inb v1 8 = true then
  if inb (x1.1 12 v1.toNatClampNeg) 36 = true then
  Option.bind (iter (lb_Top_handOver_49 v1 v2 (x1.1 155 (x1.1 12 v1.toNatClampNeg).toNatClampNeg)) FU (v3, (0 : Int32), x1)) fun x10 =>
  some (x10.1, x10.2)
  else none
  else none
  else none
theorem c_Top_handOver (l : Launch) (G : Gw)  (v1 : Int32) (v2 : Int32) (v3 : Int32) (M : Mem) (x : Int32 × Mem) (h : f_Top_handOver v1 v2 v3 M = some x) (d : Nat) (hD : 3 ≤ d) : Ci l G y_Top_handOver b_Top_handOver 9 (some .int) d [.ref (G.2.2 + 0), .int v1, .int v2, .int v3] M (fun r9 M9 => r9 = x.1 ∧ M9 = x.2) := by
  refine Ci_of (by decide) (Nat.le_of_ble_eq_true rfl) (fun E hE X => ?_)
  subst hE
  have kr : ∀ x9 : Int32 × Mem, x = x9 → (fun r9 M9 => r9 = x.1 ∧ M9 = x.2) x9.1 x9.2 := fun x9 e9 => by subst e9; exact ⟨rfl, rfl⟩
  unfold f_Top_handOver at h
  refine V_iload_n (n := 3) X d_Top_handOver_0 rfl rfl rfl ?_
  refine V_istore (lv' := [(4, .int v3), (0, .ref (G.2.2 + 0)), (1, .int v1), (2, .int v2), (3, .int v3)]) X d_Top_handOver_1 (by decide) rfl rfl ?_
  refine V_aload_n (n := 1) X d_Top_handOver_3 rfl rfl rfl ?_
  refine V_getr (k2 := 32) X fo_Top_46 kd_0 rfl rf_0_6 d_Top_handOver_4 rfl ?_
  refine V_iconst (v := 1) X d_Top_handOver_7 (by decide) rfl ?_
  refine V_aload_n (n := 1) X d_Top_handOver_8 rfl rfl rfl ?_
  refine V_getr (k2 := 11) X fo_Top_33 kd_0 rfl rf_0_3 d_Top_handOver_9 rfl ?_
  refine V_getr (k2 := 12) X fo_Top_188 kd_11 rfl rf_11_0 d_Top_handOver_12 rfl ?_
  refine V_iload_n (n := 3) X d_Top_handOver_15 rfl rfl rfl ?_
  obtain ⟨hb, h⟩ := ifn h
  refine V_iald X kd_12 (inb_in ln_12 hb) d_Top_handOver_16 rfl ?_
  refine V_aload_n (n := 1) X d_Top_handOver_17 rfl rfl rfl ?_
  refine V_getr (k2 := 154) X fo_Top_91 kd_0 rfl rf_0_13 d_Top_handOver_18 rfl ?_
  refine V_getr (k2 := 157) X fo_Top_485 kd_154 rfl rf_154_2 d_Top_handOver_21 rfl ?_
  obtain ⟨x1, hx1, h⟩ := ob_s h
  refine V_cv (As := [.int (1 : Int32), .int (M.1 12 v2.toNatClampNeg), .ref (G.2.2 + 157)]) X (Z0 E) ml_Top_315 yq_Nets_measure (c_Nets_measure E.2.1 G 32 (1 : Int32) (M.1 12 v2.toNatClampNeg) 157 M x1 hx1 _ (Nat.le_refl _)) kd_32 rfl rfl (by omega) rfl (Nat.le_of_ble_eq_true rfl) d_Top_handOver_24 rfl (fun M9 hq => ?_)
  rw [hq]
  refine V_aload_n (n := 1) X d_Top_handOver_27 rfl rfl rfl ?_
  refine V_getr (k2 := 154) X fo_Top_91 kd_0 rfl rf_0_13 d_Top_handOver_28 rfl ?_
  refine V_getr (k2 := 155) X fo_Top_312 kd_154 rfl rf_154_0 d_Top_handOver_31 rfl ?_
  refine V_aload_n (n := 1) X d_Top_handOver_34 rfl rfl rfl ?_
  refine V_getr (k2 := 11) X fo_Top_33 kd_0 rfl rf_0_3 d_Top_handOver_35 rfl ?_
  refine V_getr (k2 := 12) X fo_Top_188 kd_11 rfl rf_11_0 d_Top_handOver_38 rfl ?_
  refine V_iload_n (n := 2) X d_Top_handOver_41 rfl rfl rfl ?_
  obtain ⟨hb, h⟩ := ifn h
  refine V_iald X kd_12 (inb_in ln_12 hb) d_Top_handOver_42 rfl ?_
  obtain ⟨hb, h⟩ := ifn h
  refine V_iald X kd_155 (inb_in ln_155 hb) d_Top_handOver_43 rfl ?_
  refine V_istore (lv' := [(5, .int (x1.1 155 (x1.1 12 v1.toNatClampNeg).toNatClampNeg)), (4, .int v3), (0, .ref (G.2.2 + 0)), (1, .int v1), (2, .int v2), (3, .int v3)]) X d_Top_handOver_44 (by decide) rfl rfl ?_
  refine V_iconst (v := 0) X d_Top_handOver_46 (by decide) rfl ?_
  refine V_istore (lv' := [(6, .int (0 : Int32)), (5, .int (x1.1 155 (x1.1 12 v1.toNatClampNeg).toNatClampNeg)), (4, .int v3), (0, .ref (G.2.2 + 0)), (1, .int v1), (2, .int v2), (3, .int v3)]) X d_Top_handOver_47 (by decide) rfl rfl ?_
  refine V_sub (lv' := [(0, .ref (G.2.2 + 0)), (1, .int v1), (2, .int v2), (4, .int v3), (5, .int (x1.1 155 (x1.1 12 v1.toNatClampNeg).toNatClampNeg)), (6, .int (0 : Int32))]) [3, 4, 5, 2, 1, 0] rfl ?_
  obtain ⟨x10, hx10, h⟩ := ob_s h
  refine (lp_Top_handOver_49_ok X hD v1 v2 (x1.1 155 (x1.1 12 v1.toNatClampNeg).toNatClampNeg) _ _ _ hx10 (fun x9 e9 => ?_) :)
  subst e9
  refine V_iload (n := 0) X d_Top_handOver_153 rfl rfl ?_
  exact V_iret X (kr (x10.1, x10.2) (Option.some.inj h).symm) d_Top_handOver_155
def lb_Top_errand_80 (v4 : Int32) (s : Int32 × Int32 × Mem) : Option ((Int32 × Int32 × Mem) ⊕ ((Int32 × Mem))) :=
  if (s.2.2.1 6 4) ≤ s.2.1 then
  some (.inr (s.1, s.2.2))
  else
  Option.bind (f_Crowd_woman v4 s.2.2) fun x5 =>
  if x5 = 0 then
  Option.bind (f_Crowd_woman s.2.1 s.2.2) fun x6 =>
  if x6 = 0 then
  some (.inl (s.1, (s.2.1 + (1 : Int32)), s.2.2))
  else
  if inb s.2.1 8 = true then
  if (s.2.2.1 13 s.2.1.toNatClampNeg) = (1 : Int32) then
  Option.bind (f_Top_handOver v4 s.2.1 s.1 s.2.2) fun x7 =>
  some (.inl (x7.1, (s.2.1 + (1 : Int32)), x7.2))
  else
  some (.inl (s.1, (s.2.1 + (1 : Int32)), s.2.2))
  else none
  else
  some (.inl (s.1, (s.2.1 + (1 : Int32)), s.2.2))
theorem lb_Top_errand_80_ok {E : Ev} {G : Gw} {d : Nat} {post : Int32 → Mem → Prop} (X : Cx E G b_Top_errand "WomenByTheRoofs" 6 d (some .int)) (hD : 4 ≤ d)  (v4 : Int32)   (s : Int32 × Int32 × Mem) (o : (Int32 × Int32 × Mem) ⊕ ((Int32 × Mem))) (h : lb_Top_errand_80 v4 s = some o) (kc : ∀ s9 : Int32 × Int32 × Mem, o = .inl s9 → V E (0, 0) G 6 (QI E G post) s9.2.2 80 [(0, .ref (G.2.2 + 0)), (3, .int s9.1), (4, .int v4), (5, .int s9.2.1)] []) (kx0 : ∀ x9 : Int32 × Mem, o = .inr x9 → V E (0, 0) G 6 (QI E G post) x9.2 146 [(0, .ref (G.2.2 + 0)), (3, .int x9.1), (4, .int v4)] []) : V E (0, 0) G 6 (QI E G post) s.2.2 80 [(0, .ref (G.2.2 + 0)), (3, .int s.1), (4, .int v4), (5, .int s.2.1)] [] := by
  unfold lb_Top_errand_80 at h
  refine V_iload (n := 3) X d_Top_errand_80 rfl rfl ?_
  refine V_aload_n (n := 0) X d_Top_errand_82 rfl rfl rfl ?_
  refine V_getr (k2 := 6) X fo_Top_26 kd_0 rfl rf_0_2 d_Top_errand_83 rfl ?_
  refine V_geti X fo_Top_129 kd_6 rfl d_Top_errand_86 rfl ?_
  refine V_icmp_ge (tgt := 146) X d_Top_errand_89 (by decide) rfl (fun c11 => ?_) (fun c11 => ?_)
  · rw [if_pos c11] at h
    refine V_sub (lv' := [(0, .ref (G.2.2 + 0)), (3, .int s.1), (4, .int v4)]) [0, 1, 2] rfl ?_
    exact kx0 (s.1, s.2.2) (Option.some.inj h).symm
  · rw [if_neg c11] at h
    refine V_aload_n (n := 0) X d_Top_errand_92 rfl rfl rfl ?_
    refine V_getr (k2 := 6) X fo_Top_26 kd_0 rfl rf_0_2 d_Top_errand_93 rfl ?_
    refine V_iload (n := 2) X d_Top_errand_96 rfl rfl ?_
    obtain ⟨x5, hx5, h⟩ := ob_s h
    refine V_ci (As := [.int v4]) X (Z0 E) ml_Top_139 yq_Crowd_woman (c_Crowd_woman E.2.1 G v4 s.2.2 x5 hx5 _ (Nat.le_refl _)) kd_6 rfl rfl (by omega) rfl (Nat.le_of_ble_eq_true rfl) d_Top_errand_98 rfl (fun r9 M9 hq => ?_)
    rw [hq.1, hq.2]
    refine V_if_ne (tgt := 140) X d_Top_errand_101 (by decide) rfl (fun c10 => ?_) (fun c10 => ?_)
    · rw [if_neg c10] at h
      refine V_iinc (n := 3) (v := (s.2.1 + (1 : Int32))) (lv' := [(5, .int (s.2.1 + (1 : Int32))), (0, .ref (G.2.2 + 0)), (3, .int s.1), (4, .int v4)]) X d_Top_errand_140 rfl rfl (by decide) rfl rfl ?_
      refine V_goto (pc' := 80) X d_Top_errand_143 (by decide) ?_
      refine V_sub (lv' := [(0, .ref (G.2.2 + 0)), (3, .int s.1), (4, .int v4), (5, .int (s.2.1 + (1 : Int32)))]) [1, 2, 3, 0] rfl ?_
      exact kc (s.1, (s.2.1 + (1 : Int32)), s.2.2) (Option.some.inj h).symm
    · rw [if_pos c10] at h
      refine V_aload_n (n := 0) X d_Top_errand_104 rfl rfl rfl ?_
      refine V_getr (k2 := 6) X fo_Top_26 kd_0 rfl rf_0_2 d_Top_errand_105 rfl ?_
      refine V_iload (n := 3) X d_Top_errand_108 rfl rfl ?_
      obtain ⟨x6, hx6, h⟩ := ob_s h
      refine V_ci (As := [.int s.2.1]) X (Z0 E) ml_Top_139 yq_Crowd_woman (c_Crowd_woman E.2.1 G s.2.1 s.2.2 x6 hx6 _ (Nat.le_refl _)) kd_6 rfl rfl (by omega) rfl (Nat.le_of_ble_eq_true rfl) d_Top_errand_110 rfl (fun r9 M9 hq => ?_)
      rw [hq.1, hq.2]
      refine V_if_eq (tgt := 140) X d_Top_errand_113 (by decide) rfl (fun c9 => ?_) (fun c9 => ?_)
      · rw [if_pos c9] at h
        refine V_iinc (n := 3) (v := (s.2.1 + (1 : Int32))) (lv' := [(5, .int (s.2.1 + (1 : Int32))), (0, .ref (G.2.2 + 0)), (3, .int s.1), (4, .int v4)]) X d_Top_errand_140 rfl rfl (by decide) rfl rfl ?_
        refine V_goto (pc' := 80) X d_Top_errand_143 (by decide) ?_
        refine V_sub (lv' := [(0, .ref (G.2.2 + 0)), (3, .int s.1), (4, .int v4), (5, .int (s.2.1 + (1 : Int32)))]) [1, 2, 3, 0] rfl ?_
        exact kc (s.1, (s.2.1 + (1 : Int32)), s.2.2) (Option.some.inj h).symm
      · rw [if_neg c9] at h
        refine V_aload_n (n := 0) X d_Top_errand_116 rfl rfl rfl ?_
        refine V_getr (k2 := 11) X fo_Top_33 kd_0 rfl rf_0_3 d_Top_errand_117 rfl ?_
        refine V_getr (k2 := 13) X fo_Top_191 kd_11 rfl rf_11_1 d_Top_errand_120 rfl ?_
        refine V_iload (n := 3) X d_Top_errand_123 rfl rfl ?_
        obtain ⟨hb, h⟩ := ifn h
        refine V_iald X kd_13 (inb_in ln_13 hb) d_Top_errand_125 rfl ?_
        refine V_iconst (v := 1) X d_Top_errand_126 (by decide) rfl ?_
        refine V_icmp_ne (tgt := 140) X d_Top_errand_127 (by decide) rfl (fun c8 => ?_) (fun c8 => ?_)
        · rw [if_neg c8] at h
          refine V_iinc (n := 3) (v := (s.2.1 + (1 : Int32))) (lv' := [(5, .int (s.2.1 + (1 : Int32))), (0, .ref (G.2.2 + 0)), (3, .int s.1), (4, .int v4)]) X d_Top_errand_140 rfl rfl (by decide) rfl rfl ?_
          refine V_goto (pc' := 80) X d_Top_errand_143 (by decide) ?_
          refine V_sub (lv' := [(0, .ref (G.2.2 + 0)), (3, .int s.1), (4, .int v4), (5, .int (s.2.1 + (1 : Int32)))]) [1, 2, 3, 0] rfl ?_
          exact kc (s.1, (s.2.1 + (1 : Int32)), s.2.2) (Option.some.inj h).symm
        · rw [if_pos c8] at h
          refine V_aload_n (n := 0) X d_Top_errand_130 rfl rfl rfl ?_
          refine V_iload (n := 2) X d_Top_errand_131 rfl rfl ?_
          refine V_iload (n := 3) X d_Top_errand_133 rfl rfl ?_
          refine V_iload_n (n := 1) X d_Top_errand_135 rfl rfl rfl ?_
          obtain ⟨x7, hx7, h⟩ := ob_s h
          refine V_ci (As := [.int v4, .int s.2.1, .int s.1]) X (Z0 E) ml_Top_334 yq_Top_handOver (c_Top_handOver E.2.1 G v4 s.2.1 s.1 s.2.2 x7 hx7 _ (Nat.le_refl _)) kd_0 rfl rfl (by omega) rfl (Nat.le_of_ble_eq_true rfl) d_Top_errand_136 rfl (fun r9 M9 hq => ?_)
          rw [hq.1, hq.2]
          refine V_istore_n (lv' := [(3, .int x7.1), (0, .ref (G.2.2 + 0)), (4, .int v4), (5, .int s.2.1)]) X d_Top_errand_139 rfl (by decide) rfl rfl ?_
          refine V_iinc (n := 3) (v := (s.2.1 + (1 : Int32))) (lv' := [(5, .int (s.2.1 + (1 : Int32))), (3, .int x7.1), (0, .ref (G.2.2 + 0)), (4, .int v4)]) X d_Top_errand_140 rfl rfl (by decide) rfl rfl ?_
          refine V_goto (pc' := 80) X d_Top_errand_143 (by decide) ?_
          refine V_sub (lv' := [(0, .ref (G.2.2 + 0)), (3, .int x7.1), (4, .int v4), (5, .int (s.2.1 + (1 : Int32)))]) [2, 1, 3, 0] rfl ?_
          exact kc (x7.1, (s.2.1 + (1 : Int32)), x7.2) (Option.some.inj h).symm
theorem lp_Top_errand_80_ok {E : Ev} {G : Gw} {d : Nat} {post : Int32 → Mem → Prop} (X : Cx E G b_Top_errand "WomenByTheRoofs" 6 d (some .int)) (hD : 4 ≤ d)  (v4 : Int32)   (n9 : Nat) (s : Int32 × Int32 × Mem) (x : (Int32 × Mem)) (h : iter (lb_Top_errand_80 v4) n9 s = some x) (kx0 : ∀ x9 : Int32 × Mem, x = x9 → V E (0, 0) G 6 (QI E G post) x9.2 146 [(0, .ref (G.2.2 + 0)), (3, .int x9.1), (4, .int v4)] []) : V E (0, 0) G 6 (QI E G post) s.2.2 80 [(0, .ref (G.2.2 + 0)), (3, .int s.1), (4, .int v4), (5, .int s.2.1)] [] :=
  iter_P (P := fun s : Int32 × Int32 × Mem => V E (0, 0) G 6 (QI E G post) s.2.2 80 [(0, .ref (G.2.2 + 0)), (3, .int s.1), (4, .int v4), (5, .int s.2.1)] []) (fun s o hb kc ky => lb_Top_errand_80_ok X hD v4 s o hb kc (fun x9 e9 => kx0 x9 (ky _ e9).symm)) n9 s h
def lb_Top_errand_65  (s : Int32 × Int32 × Mem) : Option ((Int32 × Int32 × Mem) ⊕ ((Int32 × Mem))) :=
  if (s.2.2.1 6 4) ≤ s.2.1 then
  some (.inr (s.1, s.2.2))
  else
  Option.bind (iter (lb_Top_errand_80 s.2.1) FU (s.1, (0 : Int32), s.2.2)) fun x12 =>
  some (.inl (x12.1, (s.2.1 + (1 : Int32)), x12.2))
theorem lb_Top_errand_65_ok {E : Ev} {G : Gw} {d : Nat} {post : Int32 → Mem → Prop} (X : Cx E G b_Top_errand "WomenByTheRoofs" 6 d (some .int)) (hD : 4 ≤ d)     (s : Int32 × Int32 × Mem) (o : (Int32 × Int32 × Mem) ⊕ ((Int32 × Mem))) (h : lb_Top_errand_65 s = some o) (kc : ∀ s9 : Int32 × Int32 × Mem, o = .inl s9 → V E (0, 0) G 6 (QI E G post) s9.2.2 65 [(0, .ref (G.2.2 + 0)), (3, .int s9.1), (4, .int s9.2.1)] []) (kx0 : ∀ x9 : Int32 × Mem, o = .inr x9 → V E (0, 0) G 6 (QI E G post) x9.2 152 [(3, .int x9.1)] []) : V E (0, 0) G 6 (QI E G post) s.2.2 65 [(0, .ref (G.2.2 + 0)), (3, .int s.1), (4, .int s.2.1)] [] := by
  unfold lb_Top_errand_65 at h
  refine V_iload (n := 2) X d_Top_errand_65 rfl rfl ?_
  refine V_aload_n (n := 0) X d_Top_errand_67 rfl rfl rfl ?_
  refine V_getr (k2 := 6) X fo_Top_26 kd_0 rfl rf_0_2 d_Top_errand_68 rfl ?_
  refine V_geti X fo_Top_129 kd_6 rfl d_Top_errand_71 rfl ?_
  refine V_icmp_ge (tgt := 152) X d_Top_errand_74 (by decide) rfl (fun c13 => ?_) (fun c13 => ?_)
  · rw [if_pos c13] at h
    refine V_sub (lv' := [(3, .int s.1)]) [1] rfl ?_
    exact kx0 (s.1, s.2.2) (Option.some.inj h).symm
  · rw [if_neg c13] at h
    refine V_iconst (v := 0) X d_Top_errand_77 (by decide) rfl ?_
    refine V_istore (lv' := [(5, .int (0 : Int32)), (0, .ref (G.2.2 + 0)), (3, .int s.1), (4, .int s.2.1)]) X d_Top_errand_78 (by decide) rfl rfl ?_
    refine V_sub (lv' := [(0, .ref (G.2.2 + 0)), (3, .int s.1), (4, .int s.2.1), (5, .int (0 : Int32))]) [1, 2, 3, 0] rfl ?_
    obtain ⟨x12, hx12, h⟩ := ob_s h
    refine (lp_Top_errand_80_ok X hD s.2.1 _ _ _ hx12 (fun x9 e9 => ?_) :)
    subst e9
    refine V_iinc (n := 2) (v := (s.2.1 + (1 : Int32))) (lv' := [(4, .int (s.2.1 + (1 : Int32))), (0, .ref (G.2.2 + 0)), (3, .int x12.1)]) X d_Top_errand_146 rfl rfl (by decide) rfl rfl ?_
    refine V_goto (pc' := 65) X d_Top_errand_149 (by decide) ?_
    refine V_sub (lv' := [(0, .ref (G.2.2 + 0)), (3, .int x12.1), (4, .int (s.2.1 + (1 : Int32)))]) [1, 2, 0] rfl ?_
    exact kc (x12.1, (s.2.1 + (1 : Int32)), x12.2) (Option.some.inj h).symm
theorem lp_Top_errand_65_ok {E : Ev} {G : Gw} {d : Nat} {post : Int32 → Mem → Prop} (X : Cx E G b_Top_errand "WomenByTheRoofs" 6 d (some .int)) (hD : 4 ≤ d)     (n9 : Nat) (s : Int32 × Int32 × Mem) (x : (Int32 × Mem)) (h : iter (lb_Top_errand_65) n9 s = some x) (kx0 : ∀ x9 : Int32 × Mem, x = x9 → V E (0, 0) G 6 (QI E G post) x9.2 152 [(3, .int x9.1)] []) : V E (0, 0) G 6 (QI E G post) s.2.2 65 [(0, .ref (G.2.2 + 0)), (3, .int s.1), (4, .int s.2.1)] [] :=
  iter_P (P := fun s : Int32 × Int32 × Mem => V E (0, 0) G 6 (QI E G post) s.2.2 65 [(0, .ref (G.2.2 + 0)), (3, .int s.1), (4, .int s.2.1)] []) (fun s o hb kc ky => lb_Top_errand_65_ok X hD  s o hb kc (fun x9 e9 => kx0 x9 (ky _ e9).symm)) n9 s h
def f_Top_errand (v1 : Int32) (v2 : Int32) (M : Mem) : Option (Int32 × Mem) :=
  Option.bind (f_Ground_holds (0 : Int32) v1 M) fun x1 =>
  if x1 = 0 then
  some ((-1 : Int32), M)
  else
  Option.bind (f_Ground_holds (1 : Int32) v2 M) fun x2 =>
  if x2 = 0 then
  some ((-1 : Int32), M)
  else
  Option.bind (f_Nets_measure 32 (0 : Int32) v1 155 M) fun x3 =>
  Option.bind (f_Nets_measure 32 (1 : Int32) v2 156 x3) fun x4 =>
  Option.bind (iter (lb_Top_errand_65) FU ((1000000 : Int32), (0 : Int32), x4)) fun x14 =>
  if x14.1 < (1000000 : Int32) then
  some (x14.1, x14.2)
  else
  some ((-2 : Int32), x14.2)
theorem c_Top_errand (l : Launch) (G : Gw)  (v1 : Int32) (v2 : Int32) (M : Mem) (x : Int32 × Mem) (h : f_Top_errand v1 v2 M = some x) (d : Nat) (hD : 4 ≤ d) : Ci l G y_Top_errand b_Top_errand 6 (some .int) d [.ref (G.2.2 + 0), .int v1, .int v2] M (fun r9 M9 => r9 = x.1 ∧ M9 = x.2) := by
  refine Ci_of (by decide) (Nat.le_of_ble_eq_true rfl) (fun E hE X => ?_)
  subst hE
  have kr : ∀ x9 : Int32 × Mem, x = x9 → (fun r9 M9 => r9 = x.1 ∧ M9 = x.2) x9.1 x9.2 := fun x9 e9 => by subst e9; exact ⟨rfl, rfl⟩
  unfold f_Top_errand at h
  refine V_aload_n (n := 0) X d_Top_errand_0 rfl rfl rfl ?_
  refine V_getr (k2 := 3) X fo_Top_19 kd_0 rfl rf_0_1 d_Top_errand_1 rfl ?_
  refine V_iconst (v := 0) X d_Top_errand_4 (by decide) rfl ?_
  refine V_iload_n (n := 1) X d_Top_errand_5 rfl rfl rfl ?_
  obtain ⟨x1, hx1, h⟩ := ob_s h
  refine V_ci (As := [.int (0 : Int32), .int v1]) X (Z0 E) ml_Top_305 yq_Ground_holds (c_Ground_holds E.2.1 G (0 : Int32) v1 M x1 hx1 _ (Nat.le_refl _)) kd_3 rfl rfl (by omega) rfl (Nat.le_of_ble_eq_true rfl) d_Top_errand_6 rfl (fun r9 M9 hq => ?_)
  rw [hq.1, hq.2]
  refine V_if_eq (tgt := 24) X d_Top_errand_9 (by decide) rfl (fun c17 => ?_) (fun c17 => ?_)
  · rw [if_pos c17] at h
    refine V_iconst (v := -1) X d_Top_errand_24 (by decide) rfl ?_
    exact V_iret X (kr ((-1 : Int32), M) (Option.some.inj h).symm) d_Top_errand_25
  · rw [if_neg c17] at h
    refine V_aload_n (n := 0) X d_Top_errand_12 rfl rfl rfl ?_
    refine V_getr (k2 := 3) X fo_Top_19 kd_0 rfl rf_0_1 d_Top_errand_13 rfl ?_
    refine V_iconst (v := 1) X d_Top_errand_16 (by decide) rfl ?_
    refine V_iload_n (n := 2) X d_Top_errand_17 rfl rfl rfl ?_
    obtain ⟨x2, hx2, h⟩ := ob_s h
    refine V_ci (As := [.int (1 : Int32), .int v2]) X (Z0 E) ml_Top_305 yq_Ground_holds (c_Ground_holds E.2.1 G (1 : Int32) v2 M x2 hx2 _ (Nat.le_refl _)) kd_3 rfl rfl (by omega) rfl (Nat.le_of_ble_eq_true rfl) d_Top_errand_18 rfl (fun r9 M9 hq => ?_)
    rw [hq.1, hq.2]
    refine V_if_ne (tgt := 26) X d_Top_errand_21 (by decide) rfl (fun c16 => ?_) (fun c16 => ?_)
    · rw [if_neg c16] at h
      refine V_aload_n (n := 0) X d_Top_errand_26 rfl rfl rfl ?_
      refine V_getr (k2 := 32) X fo_Top_46 kd_0 rfl rf_0_6 d_Top_errand_27 rfl ?_
      refine V_iconst (v := 0) X d_Top_errand_30 (by decide) rfl ?_
      refine V_iload_n (n := 1) X d_Top_errand_31 rfl rfl rfl ?_
      refine V_aload_n (n := 0) X d_Top_errand_32 rfl rfl rfl ?_
      refine V_getr (k2 := 154) X fo_Top_91 kd_0 rfl rf_0_13 d_Top_errand_33 rfl ?_
      refine V_getr (k2 := 155) X fo_Top_312 kd_154 rfl rf_154_0 d_Top_errand_36 rfl ?_
      obtain ⟨x3, hx3, h⟩ := ob_s h
      refine V_cv (As := [.int (0 : Int32), .int v1, .ref (G.2.2 + 155)]) X (Z0 E) ml_Top_315 yq_Nets_measure (c_Nets_measure E.2.1 G 32 (0 : Int32) v1 155 M x3 hx3 _ (Nat.le_refl _)) kd_32 rfl rfl (by omega) rfl (Nat.le_of_ble_eq_true rfl) d_Top_errand_39 rfl (fun M9 hq => ?_)
      rw [hq]
      refine V_aload_n (n := 0) X d_Top_errand_42 rfl rfl rfl ?_
      refine V_getr (k2 := 32) X fo_Top_46 kd_0 rfl rf_0_6 d_Top_errand_43 rfl ?_
      refine V_iconst (v := 1) X d_Top_errand_46 (by decide) rfl ?_
      refine V_iload_n (n := 2) X d_Top_errand_47 rfl rfl rfl ?_
      refine V_aload_n (n := 0) X d_Top_errand_48 rfl rfl rfl ?_
      refine V_getr (k2 := 154) X fo_Top_91 kd_0 rfl rf_0_13 d_Top_errand_49 rfl ?_
      refine V_getr (k2 := 156) X fo_Top_331 kd_154 rfl rf_154_1 d_Top_errand_52 rfl ?_
      obtain ⟨x4, hx4, h⟩ := ob_s h
      refine V_cv (As := [.int (1 : Int32), .int v2, .ref (G.2.2 + 156)]) X (Z0 E) ml_Top_315 yq_Nets_measure (c_Nets_measure E.2.1 G 32 (1 : Int32) v2 156 x3 x4 hx4 _ (Nat.le_refl _)) kd_32 rfl rfl (by omega) rfl (Nat.le_of_ble_eq_true rfl) d_Top_errand_55 rfl (fun M9 hq => ?_)
      rw [hq]
      refine V_ldc_w (v := 1000000) X d_Top_errand_58 kc_Top_319 rfl ?_
      refine V_istore_n (lv' := [(3, .int (1000000 : Int32)), (0, .ref (G.2.2 + 0)), (1, .int v1), (2, .int v2)]) X d_Top_errand_61 rfl (by decide) rfl rfl ?_
      refine V_iconst (v := 0) X d_Top_errand_62 (by decide) rfl ?_
      refine V_istore (lv' := [(4, .int (0 : Int32)), (3, .int (1000000 : Int32)), (0, .ref (G.2.2 + 0)), (1, .int v1), (2, .int v2)]) X d_Top_errand_63 (by decide) rfl rfl ?_
      refine V_sub (lv' := [(0, .ref (G.2.2 + 0)), (3, .int (1000000 : Int32)), (4, .int (0 : Int32))]) [2, 1, 0] rfl ?_
      obtain ⟨x14, hx14, h⟩ := ob_s h
      refine (lp_Top_errand_65_ok X hD  _ _ _ hx14 (fun x9 e9 => ?_) :)
      subst e9
      refine V_iload_n (n := 0) X d_Top_errand_152 rfl rfl rfl ?_
      refine V_ldc_w (v := 1000000) X d_Top_errand_153 kc_Top_319 rfl ?_
      refine V_icmp_lt (tgt := 164) X d_Top_errand_156 (by decide) rfl (fun c15 => ?_) (fun c15 => ?_)
      · rw [if_pos c15] at h
        refine V_iload_n (n := 0) X d_Top_errand_164 rfl rfl rfl ?_
        exact V_iret X (kr (x14.1, x14.2) (Option.some.inj h).symm) d_Top_errand_165
      · rw [if_neg c15] at h
        refine V_bipush (v := -2) X d_Top_errand_159 (by decide) rfl ?_
        refine V_goto (pc' := 165) X d_Top_errand_161 (by decide) ?_
        exact V_iret X (kr ((-2 : Int32), x14.2) (Option.some.inj h).symm) d_Top_errand_165
    · rw [if_pos c16] at h
      refine V_iconst (v := -1) X d_Top_errand_24 (by decide) rfl ?_
      exact V_iret X (kr ((-1 : Int32), M) (Option.some.inj h).symm) d_Top_errand_25
def f_Top_areManAndWoman (v1 : Int32) (v2 : Int32) (M : Mem) : Option (Int32) :=
  Option.bind (f_Crowd_has v1 M) fun x1 =>
  if x1 = 0 then
  some (0 : Int32)
  else
  Option.bind (f_Crowd_has v2 M) fun x2 =>
  if x2 = 0 then
  some (0 : Int32)
  else
  Option.bind (f_Crowd_woman v1 M) fun x3 =>
  if x3 = 0 then
  Option.bind (f_Crowd_woman v2 M) fun x4 =>
  if x4 = 0 then
  some (0 : Int32)
  else
  some (1 : Int32)
  else
  some (0 : Int32)
theorem c_Top_areManAndWoman (l : Launch) (G : Gw)  (v1 : Int32) (v2 : Int32) (M : Mem) (x : Int32) (h : f_Top_areManAndWoman v1 v2 M = some x) (d : Nat) (hD : 2 ≤ d) : Ci l G y_Top_areManAndWoman b_Top_areManAndWoman 3 (some .boolean) d [.ref (G.2.2 + 0), .int v1, .int v2] M (fun r9 M9 => r9 = x ∧ M9 = M) := by
  refine Ci_of (by decide) (Nat.le_of_ble_eq_true rfl) (fun E hE X => ?_)
  subst hE
  have kr : ∀ x9 : Int32, x = x9 → (fun r9 M9 => r9 = x ∧ M9 = M) x9 M := fun x9 e9 => by subst e9; exact ⟨rfl, rfl⟩
  unfold f_Top_areManAndWoman at h
  refine V_aload_n (n := 0) X d_Top_areManAndWoman_0 rfl rfl rfl ?_
  refine V_getr (k2 := 6) X fo_Top_26 kd_0 rfl rf_0_2 d_Top_areManAndWoman_1 rfl ?_
  refine V_iload_n (n := 1) X d_Top_areManAndWoman_4 rfl rfl rfl ?_
  obtain ⟨x1, hx1, h⟩ := ob_s h
  refine V_ci (As := [.int v1]) X (Z0 E) ml_Top_153 yq_Crowd_has (c_Crowd_has E.2.1 G v1 M x1 hx1 _ (Nat.le_refl _)) kd_6 rfl rfl (by omega) rfl (Nat.le_of_ble_eq_true rfl) d_Top_areManAndWoman_5 rfl (fun r9 M9 hq => ?_)
  rw [hq.1, hq.2]
  refine V_if_eq (tgt := 48) X d_Top_areManAndWoman_8 (by decide) rfl (fun c8 => ?_) (fun c8 => ?_)
  · rw [if_pos c8] at h
    refine V_iconst (v := 0) X d_Top_areManAndWoman_48 (by decide) rfl ?_
    exact V_zret X (kr (0 : Int32) (Option.some.inj h).symm) (by decide) d_Top_areManAndWoman_49
  · rw [if_neg c8] at h
    refine V_aload_n (n := 0) X d_Top_areManAndWoman_11 rfl rfl rfl ?_
    refine V_getr (k2 := 6) X fo_Top_26 kd_0 rfl rf_0_2 d_Top_areManAndWoman_12 rfl ?_
    refine V_iload_n (n := 2) X d_Top_areManAndWoman_15 rfl rfl rfl ?_
    obtain ⟨x2, hx2, h⟩ := ob_s h
    refine V_ci (As := [.int v2]) X (Z0 E) ml_Top_153 yq_Crowd_has (c_Crowd_has E.2.1 G v2 M x2 hx2 _ (Nat.le_refl _)) kd_6 rfl rfl (by omega) rfl (Nat.le_of_ble_eq_true rfl) d_Top_areManAndWoman_16 rfl (fun r9 M9 hq => ?_)
    rw [hq.1, hq.2]
    refine V_if_eq (tgt := 48) X d_Top_areManAndWoman_19 (by decide) rfl (fun c7 => ?_) (fun c7 => ?_)
    · rw [if_pos c7] at h
      refine V_iconst (v := 0) X d_Top_areManAndWoman_48 (by decide) rfl ?_
      exact V_zret X (kr (0 : Int32) (Option.some.inj h).symm) (by decide) d_Top_areManAndWoman_49
    · rw [if_neg c7] at h
      refine V_aload_n (n := 0) X d_Top_areManAndWoman_22 rfl rfl rfl ?_
      refine V_getr (k2 := 6) X fo_Top_26 kd_0 rfl rf_0_2 d_Top_areManAndWoman_23 rfl ?_
      refine V_iload_n (n := 1) X d_Top_areManAndWoman_26 rfl rfl rfl ?_
      obtain ⟨x3, hx3, h⟩ := ob_s h
      refine V_ci (As := [.int v1]) X (Z0 E) ml_Top_139 yq_Crowd_woman (c_Crowd_woman E.2.1 G v1 M x3 hx3 _ (Nat.le_refl _)) kd_6 rfl rfl (by omega) rfl (Nat.le_of_ble_eq_true rfl) d_Top_areManAndWoman_27 rfl (fun r9 M9 hq => ?_)
      rw [hq.1, hq.2]
      refine V_if_ne (tgt := 48) X d_Top_areManAndWoman_30 (by decide) rfl (fun c6 => ?_) (fun c6 => ?_)
      · rw [if_neg c6] at h
        refine V_iconst (v := 0) X d_Top_areManAndWoman_48 (by decide) rfl ?_
        exact V_zret X (kr (0 : Int32) (Option.some.inj h).symm) (by decide) d_Top_areManAndWoman_49
      · rw [if_pos c6] at h
        refine V_aload_n (n := 0) X d_Top_areManAndWoman_33 rfl rfl rfl ?_
        refine V_getr (k2 := 6) X fo_Top_26 kd_0 rfl rf_0_2 d_Top_areManAndWoman_34 rfl ?_
        refine V_iload_n (n := 2) X d_Top_areManAndWoman_37 rfl rfl rfl ?_
        obtain ⟨x4, hx4, h⟩ := ob_s h
        refine V_ci (As := [.int v2]) X (Z0 E) ml_Top_139 yq_Crowd_woman (c_Crowd_woman E.2.1 G v2 M x4 hx4 _ (Nat.le_refl _)) kd_6 rfl rfl (by omega) rfl (Nat.le_of_ble_eq_true rfl) d_Top_areManAndWoman_38 rfl (fun r9 M9 hq => ?_)
        rw [hq.1, hq.2]
        refine V_if_eq (tgt := 48) X d_Top_areManAndWoman_41 (by decide) rfl (fun c5 => ?_) (fun c5 => ?_)
        · rw [if_pos c5] at h
          refine V_iconst (v := 0) X d_Top_areManAndWoman_48 (by decide) rfl ?_
          exact V_zret X (kr (0 : Int32) (Option.some.inj h).symm) (by decide) d_Top_areManAndWoman_49
        · rw [if_neg c5] at h
          refine V_iconst (v := 1) X d_Top_areManAndWoman_44 (by decide) rfl ?_
          refine V_goto (pc' := 49) X d_Top_areManAndWoman_45 (by decide) ?_
          exact V_zret X (kr (1 : Int32) (Option.some.inj h).symm) (by decide) d_Top_areManAndWoman_49
def lb_Top_soonestStair_69 (v1 : Nat) (M : Mem) (s : Int32 × Int32 × Int32) : Option ((Int32 × Int32 × Int32) ⊕ ((Int32))) :=
  if (36 : Int32) ≤ s.2.2 then
  some (.inr s.1)
  else
  Option.bind (f_Nets_stairs v1 M) fun x3 =>
  if (lg_cmp ((x3 >>> (s.2.2.toInt64 &&& 63)) &&& (1 : Int64)) (0 : Int64)) = 0 then
  some (.inl (s.1, s.2.1, (s.2.2 + (1 : Int32))))
  else
  Option.bind (f_Ways_later s.2.2 M) fun x4 =>
  if s.2.1 ≤ x4 then
  some (.inl (s.1, s.2.1, (s.2.2 + (1 : Int32))))
  else
  Option.bind (f_Ways_later s.2.2 M) fun x5 =>
  some (.inl (s.2.2, x5, (s.2.2 + (1 : Int32))))
theorem lb_Top_soonestStair_69_ok {E : Ev} {G : Gw} {d : Nat} {post : Int32 → Mem → Prop} (X : Cx E G b_Top_soonestStair "WomenByTheRoofs" 7 d (some .int)) (hD : 3 ≤ d)  (v1 : Nat) (hk_v1 : kd v1 = 10 + 6) (M : Mem) (s : Int32 × Int32 × Int32) (o : (Int32 × Int32 × Int32) ⊕ ((Int32))) (h : lb_Top_soonestStair_69 v1 M s = some o) (kc : ∀ s9 : Int32 × Int32 × Int32, o = .inl s9 → V E (0, 0) G 7 (QI E G post) M 69 [(0, .ref (G.2.2 + 0)), (1, .ref (G.2.2 + v1)), (4, .int s9.1), (5, .int s9.2.1), (6, .int s9.2.2)] []) (kx0 : ∀ x9 : Int32, o = .inr x9 → V E (0, 0) G 7 (QI E G post) M 125 [(4, .int x9)] []) : V E (0, 0) G 7 (QI E G post) M 69 [(0, .ref (G.2.2 + 0)), (1, .ref (G.2.2 + v1)), (4, .int s.1), (5, .int s.2.1), (6, .int s.2.2)] [] := by
  unfold lb_Top_soonestStair_69 at h
  refine V_iload (n := 4) X d_Top_soonestStair_69 rfl rfl ?_
  refine V_bipush (v := 36) X d_Top_soonestStair_71 (by decide) rfl ?_
  refine V_icmp_ge (tgt := 125) X d_Top_soonestStair_73 (by decide) rfl (fun c8 => ?_) (fun c8 => ?_)
  · rw [if_pos c8] at h
    refine V_sub (lv' := [(4, .int s.1)]) [2] rfl ?_
    exact kx0 s.1 (Option.some.inj h).symm
  · rw [if_neg c8] at h
    refine V_aload_n (n := 1) X d_Top_soonestStair_76 rfl rfl rfl ?_
    obtain ⟨x3, hx3, h⟩ := ob_s h
    refine V_cl (As := []) X (Z0 E) ml_Top_355 yq_Nets_stairs (c_Nets_stairs E.2.1 G v1 M x3 hx3 _ (Nat.le_refl _)) hk_v1 rfl rfl (by omega) rfl (Nat.le_of_ble_eq_true rfl) d_Top_soonestStair_77 rfl (fun r9 M9 hq => ?_)
    rw [hq.1, hq.2]
    refine V_iload (n := 4) X d_Top_soonestStair_80 rfl rfl ?_
    refine V_lshr X d_Top_soonestStair_82 rfl ?_
    refine V_lconst (v := 1) X d_Top_soonestStair_83 (by decide) rfl ?_
    refine V_land X d_Top_soonestStair_84 rfl ?_
    refine V_lconst (v := 0) X d_Top_soonestStair_85 (by decide) rfl ?_
    refine V_lcmp X d_Top_soonestStair_86 rfl ?_
    refine V_if_eq (tgt := 119) X d_Top_soonestStair_87 (by decide) rfl (fun c7 => ?_) (fun c7 => ?_)
    · rw [if_pos c7] at h
      refine V_iinc (n := 4) (v := (s.2.2 + (1 : Int32))) (lv' := [(6, .int (s.2.2 + (1 : Int32))), (0, .ref (G.2.2 + 0)), (1, .ref (G.2.2 + v1)), (4, .int s.1), (5, .int s.2.1)]) X d_Top_soonestStair_119 rfl rfl (by decide) rfl rfl ?_
      refine V_goto (pc' := 69) X d_Top_soonestStair_122 (by decide) ?_
      refine V_sub (lv' := [(0, .ref (G.2.2 + 0)), (1, .ref (G.2.2 + v1)), (4, .int s.1), (5, .int s.2.1), (6, .int (s.2.2 + (1 : Int32)))]) [1, 2, 3, 4, 0] rfl ?_
      exact kc (s.1, s.2.1, (s.2.2 + (1 : Int32))) (Option.some.inj h).symm
    · rw [if_neg c7] at h
      refine V_aload_n (n := 0) X d_Top_soonestStair_90 rfl rfl rfl ?_
      refine V_getr (k2 := 154) X fo_Top_91 kd_0 rfl rf_0_13 d_Top_soonestStair_91 rfl ?_
      refine V_iload (n := 4) X d_Top_soonestStair_94 rfl rfl ?_
      obtain ⟨x4, hx4, h⟩ := ob_s h
      refine V_ci (As := [.int s.2.2]) X (Z0 E) ml_Top_343 yq_Ways_later (c_Ways_later E.2.1 G s.2.2 M x4 hx4 _ (Nat.le_refl _)) kd_154 rfl rfl (by omega) rfl (Nat.le_of_ble_eq_true rfl) d_Top_soonestStair_96 rfl (fun r9 M9 hq => ?_)
      rw [hq.1, hq.2]
      refine V_iload (n := 3) X d_Top_soonestStair_99 rfl rfl ?_
      refine V_icmp_ge (tgt := 119) X d_Top_soonestStair_101 (by decide) rfl (fun c6 => ?_) (fun c6 => ?_)
      · rw [if_pos c6] at h
        refine V_iinc (n := 4) (v := (s.2.2 + (1 : Int32))) (lv' := [(6, .int (s.2.2 + (1 : Int32))), (0, .ref (G.2.2 + 0)), (1, .ref (G.2.2 + v1)), (4, .int s.1), (5, .int s.2.1)]) X d_Top_soonestStair_119 rfl rfl (by decide) rfl rfl ?_
        refine V_goto (pc' := 69) X d_Top_soonestStair_122 (by decide) ?_
        refine V_sub (lv' := [(0, .ref (G.2.2 + 0)), (1, .ref (G.2.2 + v1)), (4, .int s.1), (5, .int s.2.1), (6, .int (s.2.2 + (1 : Int32)))]) [1, 2, 3, 4, 0] rfl ?_
        exact kc (s.1, s.2.1, (s.2.2 + (1 : Int32))) (Option.some.inj h).symm
      · rw [if_neg c6] at h
        refine V_aload_n (n := 0) X d_Top_soonestStair_104 rfl rfl rfl ?_
        refine V_getr (k2 := 154) X fo_Top_91 kd_0 rfl rf_0_13 d_Top_soonestStair_105 rfl ?_
        refine V_iload (n := 4) X d_Top_soonestStair_108 rfl rfl ?_
        obtain ⟨x5, hx5, h⟩ := ob_s h
        refine V_ci (As := [.int s.2.2]) X (Z0 E) ml_Top_343 yq_Ways_later (c_Ways_later E.2.1 G s.2.2 M x5 hx5 _ (Nat.le_refl _)) kd_154 rfl rfl (by omega) rfl (Nat.le_of_ble_eq_true rfl) d_Top_soonestStair_110 rfl (fun r9 M9 hq => ?_)
        rw [hq.1, hq.2]
        refine V_istore (lv' := [(5, .int x5), (0, .ref (G.2.2 + 0)), (1, .ref (G.2.2 + v1)), (4, .int s.1), (6, .int s.2.2)]) X d_Top_soonestStair_113 (by decide) rfl rfl ?_
        refine V_iload (n := 4) X d_Top_soonestStair_115 rfl rfl ?_
        refine V_istore (lv' := [(4, .int s.2.2), (5, .int x5), (0, .ref (G.2.2 + 0)), (1, .ref (G.2.2 + v1)), (6, .int s.2.2)]) X d_Top_soonestStair_117 (by decide) rfl rfl ?_
        refine V_iinc (n := 4) (v := (s.2.2 + (1 : Int32))) (lv' := [(6, .int (s.2.2 + (1 : Int32))), (4, .int s.2.2), (5, .int x5), (0, .ref (G.2.2 + 0)), (1, .ref (G.2.2 + v1))]) X d_Top_soonestStair_119 rfl rfl (by decide) rfl rfl ?_
        refine V_goto (pc' := 69) X d_Top_soonestStair_122 (by decide) ?_
        refine V_sub (lv' := [(0, .ref (G.2.2 + 0)), (1, .ref (G.2.2 + v1)), (4, .int s.2.2), (5, .int x5), (6, .int (s.2.2 + (1 : Int32)))]) [3, 4, 1, 2, 0] rfl ?_
        exact kc (s.2.2, x5, (s.2.2 + (1 : Int32))) (Option.some.inj h).symm
theorem lp_Top_soonestStair_69_ok {E : Ev} {G : Gw} {d : Nat} {post : Int32 → Mem → Prop} (X : Cx E G b_Top_soonestStair "WomenByTheRoofs" 7 d (some .int)) (hD : 3 ≤ d)  (v1 : Nat) (hk_v1 : kd v1 = 10 + 6) (M : Mem) (n9 : Nat) (s : Int32 × Int32 × Int32) (x : (Int32)) (h : iter (lb_Top_soonestStair_69 v1 M) n9 s = some x) (kx0 : ∀ x9 : Int32, x = x9 → V E (0, 0) G 7 (QI E G post) M 125 [(4, .int x9)] []) : V E (0, 0) G 7 (QI E G post) M 69 [(0, .ref (G.2.2 + 0)), (1, .ref (G.2.2 + v1)), (4, .int s.1), (5, .int s.2.1), (6, .int s.2.2)] [] :=
  iter_P (P := fun s : Int32 × Int32 × Int32 => V E (0, 0) G 7 (QI E G post) M 69 [(0, .ref (G.2.2 + 0)), (1, .ref (G.2.2 + v1)), (4, .int s.1), (5, .int s.2.1), (6, .int s.2.2)] []) (fun s o hb kc ky => lb_Top_soonestStair_69_ok X hD v1 hk_v1 M s o hb kc (fun x9 e9 => kx0 x9 (ky _ e9).symm)) n9 s h
def f_Top_soonestStair (v1 : Nat) (v2 : Int32) (v3 : Int32) (M : Mem) : Option (Int32 × Mem) :=
  if kd v1 = 10 + 6 then
  if inb v2 8 = true then
  if inb v2 8 = true then
  Option.bind (f_Nets_measure v1 (M.1 13 v2.toNatClampNeg) (M.1 12 v2.toNatClampNeg) 155 M) fun x1 =>
  if inb v3 8 = true then
  if inb v3 8 = true then
  Option.bind (f_Nets_measure v1 (x1.1 13 v3.toNatClampNeg) (x1.1 12 v3.toNatClampNeg) 156 x1) fun x2 =>
  Option.bind (iter (lb_Top_soonestStair_69 v1 x2) FU ((-1 : Int32), (1000000 : Int32), (0 : Int32))) fun x9 =>
  some (x9, x2)
  else none
  else none
  else none
  else none
  else none
theorem c_Top_soonestStair (l : Launch) (G : Gw)  (v1 : Nat) (v2 : Int32) (v3 : Int32) (M : Mem) (x : Int32 × Mem) (h : f_Top_soonestStair v1 v2 v3 M = some x) (d : Nat) (hD : 3 ≤ d) : Ci l G y_Top_soonestStair b_Top_soonestStair 7 (some .int) d [.ref (G.2.2 + 0), .ref (G.2.2 + v1), .int v2, .int v3] M (fun r9 M9 => r9 = x.1 ∧ M9 = x.2) := by
  refine Ci_of (by decide) (Nat.le_of_ble_eq_true rfl) (fun E hE X => ?_)
  subst hE
  have kr : ∀ x9 : Int32 × Mem, x = x9 → (fun r9 M9 => r9 = x.1 ∧ M9 = x.2) x9.1 x9.2 := fun x9 e9 => by subst e9; exact ⟨rfl, rfl⟩
  unfold f_Top_soonestStair at h
  obtain ⟨hk_v1, h⟩ := ifn h
  refine V_aload_n (n := 1) X d_Top_soonestStair_0 rfl rfl rfl ?_
  refine V_aload_n (n := 0) X d_Top_soonestStair_1 rfl rfl rfl ?_
  refine V_getr (k2 := 11) X fo_Top_33 kd_0 rfl rf_0_3 d_Top_soonestStair_2 rfl ?_
  refine V_getr (k2 := 13) X fo_Top_191 kd_11 rfl rf_11_1 d_Top_soonestStair_5 rfl ?_
  refine V_iload_n (n := 2) X d_Top_soonestStair_8 rfl rfl rfl ?_
  obtain ⟨hb, h⟩ := ifn h
  refine V_iald X kd_13 (inb_in ln_13 hb) d_Top_soonestStair_9 rfl ?_
  refine V_aload_n (n := 0) X d_Top_soonestStair_10 rfl rfl rfl ?_
  refine V_getr (k2 := 11) X fo_Top_33 kd_0 rfl rf_0_3 d_Top_soonestStair_11 rfl ?_
  refine V_getr (k2 := 12) X fo_Top_188 kd_11 rfl rf_11_0 d_Top_soonestStair_14 rfl ?_
  refine V_iload_n (n := 2) X d_Top_soonestStair_17 rfl rfl rfl ?_
  obtain ⟨hb, h⟩ := ifn h
  refine V_iald X kd_12 (inb_in ln_12 hb) d_Top_soonestStair_18 rfl ?_
  refine V_aload_n (n := 0) X d_Top_soonestStair_19 rfl rfl rfl ?_
  refine V_getr (k2 := 154) X fo_Top_91 kd_0 rfl rf_0_13 d_Top_soonestStair_20 rfl ?_
  refine V_getr (k2 := 155) X fo_Top_312 kd_154 rfl rf_154_0 d_Top_soonestStair_23 rfl ?_
  obtain ⟨x1, hx1, h⟩ := ob_s h
  refine V_cv (As := [.int (M.1 13 v2.toNatClampNeg), .int (M.1 12 v2.toNatClampNeg), .ref (G.2.2 + 155)]) X (Z0 E) ml_Top_315 yq_Nets_measure (c_Nets_measure E.2.1 G v1 (M.1 13 v2.toNatClampNeg) (M.1 12 v2.toNatClampNeg) 155 M x1 hx1 _ (Nat.le_refl _)) hk_v1 rfl rfl (by omega) rfl (Nat.le_of_ble_eq_true rfl) d_Top_soonestStair_26 rfl (fun M9 hq => ?_)
  rw [hq]
  refine V_aload_n (n := 1) X d_Top_soonestStair_29 rfl rfl rfl ?_
  refine V_aload_n (n := 0) X d_Top_soonestStair_30 rfl rfl rfl ?_
  refine V_getr (k2 := 11) X fo_Top_33 kd_0 rfl rf_0_3 d_Top_soonestStair_31 rfl ?_
  refine V_getr (k2 := 13) X fo_Top_191 kd_11 rfl rf_11_1 d_Top_soonestStair_34 rfl ?_
  refine V_iload_n (n := 3) X d_Top_soonestStair_37 rfl rfl rfl ?_
  obtain ⟨hb, h⟩ := ifn h
  refine V_iald X kd_13 (inb_in ln_13 hb) d_Top_soonestStair_38 rfl ?_
  refine V_aload_n (n := 0) X d_Top_soonestStair_39 rfl rfl rfl ?_
  refine V_getr (k2 := 11) X fo_Top_33 kd_0 rfl rf_0_3 d_Top_soonestStair_40 rfl ?_
  refine V_getr (k2 := 12) X fo_Top_188 kd_11 rfl rf_11_0 d_Top_soonestStair_43 rfl ?_
  refine V_iload_n (n := 3) X d_Top_soonestStair_46 rfl rfl rfl ?_
  obtain ⟨hb, h⟩ := ifn h
  refine V_iald X kd_12 (inb_in ln_12 hb) d_Top_soonestStair_47 rfl ?_
  refine V_aload_n (n := 0) X d_Top_soonestStair_48 rfl rfl rfl ?_
  refine V_getr (k2 := 154) X fo_Top_91 kd_0 rfl rf_0_13 d_Top_soonestStair_49 rfl ?_
  refine V_getr (k2 := 156) X fo_Top_331 kd_154 rfl rf_154_1 d_Top_soonestStair_52 rfl ?_
  obtain ⟨x2, hx2, h⟩ := ob_s h
  refine V_cv (As := [.int (x1.1 13 v3.toNatClampNeg), .int (x1.1 12 v3.toNatClampNeg), .ref (G.2.2 + 156)]) X (Z0 E) ml_Top_315 yq_Nets_measure (c_Nets_measure E.2.1 G v1 (x1.1 13 v3.toNatClampNeg) (x1.1 12 v3.toNatClampNeg) 156 x1 x2 hx2 _ (Nat.le_refl _)) hk_v1 rfl rfl (by omega) rfl (Nat.le_of_ble_eq_true rfl) d_Top_soonestStair_55 rfl (fun M9 hq => ?_)
  rw [hq]
  refine V_iconst (v := -1) X d_Top_soonestStair_58 (by decide) rfl ?_
  refine V_istore (lv' := [(4, .int (-1 : Int32)), (0, .ref (G.2.2 + 0)), (1, .ref (G.2.2 + v1)), (2, .int v2), (3, .int v3)]) X d_Top_soonestStair_59 (by decide) rfl rfl ?_
  refine V_ldc_w (v := 1000000) X d_Top_soonestStair_61 kc_Top_319 rfl ?_
  refine V_istore (lv' := [(5, .int (1000000 : Int32)), (4, .int (-1 : Int32)), (0, .ref (G.2.2 + 0)), (1, .ref (G.2.2 + v1)), (2, .int v2), (3, .int v3)]) X d_Top_soonestStair_64 (by decide) rfl rfl ?_
  refine V_iconst (v := 0) X d_Top_soonestStair_66 (by decide) rfl ?_
  refine V_istore (lv' := [(6, .int (0 : Int32)), (5, .int (1000000 : Int32)), (4, .int (-1 : Int32)), (0, .ref (G.2.2 + 0)), (1, .ref (G.2.2 + v1)), (2, .int v2), (3, .int v3)]) X d_Top_soonestStair_67 (by decide) rfl rfl ?_
  refine V_sub (lv' := [(0, .ref (G.2.2 + 0)), (1, .ref (G.2.2 + v1)), (4, .int (-1 : Int32)), (5, .int (1000000 : Int32)), (6, .int (0 : Int32))]) [3, 4, 2, 1, 0] rfl ?_
  obtain ⟨x9, hx9, h⟩ := ob_s h
  refine (lp_Top_soonestStair_69_ok X hD v1 hk_v1 x2 _ _ _ hx9 (fun x9 e9 => ?_) :)
  subst e9
  refine V_iload (n := 0) X d_Top_soonestStair_125 rfl rfl ?_
  exact V_iret X (kr (x9, x2) (Option.some.inj h).symm) d_Top_soonestStair_127
def f_Top_tryst (v1 : Int32) (v2 : Int32) (M : Mem) : Option (Int32 × Mem) :=
  Option.bind (f_Top_areManAndWoman v1 v2 M) fun x1 =>
  if x1 = 0 then
  some ((-1 : Int32), M)
  else
  Option.bind (f_Top_soonestStair 32 v1 v2 M) fun x2 =>
  if x2.1 = (-1 : Int32) then
  some ((-2 : Int32), x2.2)
  else
  Option.bind (f_Top_emptyRow x2.2) fun x3 =>
  Option.bind (f_Ways_later x2.1 x3) fun x4 =>
  Option.bind (f_Top_note x4 x3) fun x5 =>
  some (x2.1, x5)
theorem c_Top_tryst (l : Launch) (G : Gw)  (v1 : Int32) (v2 : Int32) (M : Mem) (x : Int32 × Mem) (h : f_Top_tryst v1 v2 M = some x) (d : Nat) (hD : 4 ≤ d) : Ci l G y_Top_tryst b_Top_tryst 4 (some .int) d [.ref (G.2.2 + 0), .int v1, .int v2] M (fun r9 M9 => r9 = x.1 ∧ M9 = x.2) := by
  refine Ci_of (by decide) (Nat.le_of_ble_eq_true rfl) (fun E hE X => ?_)
  subst hE
  have kr : ∀ x9 : Int32 × Mem, x = x9 → (fun r9 M9 => r9 = x.1 ∧ M9 = x.2) x9.1 x9.2 := fun x9 e9 => by subst e9; exact ⟨rfl, rfl⟩
  unfold f_Top_tryst at h
  refine V_aload_n (n := 0) X d_Top_tryst_0 rfl rfl rfl ?_
  refine V_iload_n (n := 1) X d_Top_tryst_1 rfl rfl rfl ?_
  refine V_iload_n (n := 2) X d_Top_tryst_2 rfl rfl rfl ?_
  obtain ⟨x1, hx1, h⟩ := ob_s h
  refine V_ci (As := [.int v1, .int v2]) X (Z0 E) ml_Top_337 yq_Top_areManAndWoman (c_Top_areManAndWoman E.2.1 G v1 v2 M x1 hx1 _ (Nat.le_refl _)) kd_0 rfl rfl (by omega) rfl (Nat.le_of_ble_eq_true rfl) d_Top_tryst_3 rfl (fun r9 M9 hq => ?_)
  rw [hq.1, hq.2]
  refine V_if_ne (tgt := 11) X d_Top_tryst_6 (by decide) rfl (fun c7 => ?_) (fun c7 => ?_)
  · rw [if_neg c7] at h
    refine V_aload_n (n := 0) X d_Top_tryst_11 rfl rfl rfl ?_
    refine V_aload_n (n := 0) X d_Top_tryst_12 rfl rfl rfl ?_
    refine V_getr (k2 := 32) X fo_Top_46 kd_0 rfl rf_0_6 d_Top_tryst_13 rfl ?_
    refine V_iload_n (n := 1) X d_Top_tryst_16 rfl rfl rfl ?_
    refine V_iload_n (n := 2) X d_Top_tryst_17 rfl rfl rfl ?_
    obtain ⟨x2, hx2, h⟩ := ob_s h
    refine V_ci (As := [.ref (G.2.2 + 32), .int v1, .int v2]) X (Z0 E) ml_Top_340 yq_Top_soonestStair (c_Top_soonestStair E.2.1 G 32 v1 v2 M x2 hx2 _ (Nat.le_refl _)) kd_0 rfl rfl (by omega) rfl (Nat.le_of_ble_eq_true rfl) d_Top_tryst_18 rfl (fun r9 M9 hq => ?_)
    rw [hq.1, hq.2]
    refine V_istore_n (lv' := [(3, .int x2.1), (0, .ref (G.2.2 + 0)), (1, .int v1), (2, .int v2)]) X d_Top_tryst_21 rfl (by decide) rfl rfl ?_
    refine V_iload_n (n := 0) X d_Top_tryst_22 rfl rfl rfl ?_
    refine V_iconst (v := -1) X d_Top_tryst_23 (by decide) rfl ?_
    refine V_icmp_ne (tgt := 30) X d_Top_tryst_24 (by decide) rfl (fun c6 => ?_) (fun c6 => ?_)
    · rw [if_neg c6] at h
      refine V_aload_n (n := 1) X d_Top_tryst_30 rfl rfl rfl ?_
      obtain ⟨x3, hx3, h⟩ := ob_s h
      refine V_cv (As := []) X (Z0 E) ml_Top_251 yq_Top_emptyRow (c_Top_emptyRow E.2.1 G  x2.2 x3 hx3 _ (Nat.le_refl _)) kd_0 rfl rfl (by omega) rfl (Nat.le_of_ble_eq_true rfl) d_Top_tryst_31 rfl (fun M9 hq => ?_)
      rw [hq]
      refine V_aload_n (n := 1) X d_Top_tryst_34 rfl rfl rfl ?_
      refine V_aload_n (n := 1) X d_Top_tryst_35 rfl rfl rfl ?_
      refine V_getr (k2 := 154) X fo_Top_91 kd_0 rfl rf_0_13 d_Top_tryst_36 rfl ?_
      refine V_iload_n (n := 0) X d_Top_tryst_39 rfl rfl rfl ?_
      obtain ⟨x4, hx4, h⟩ := ob_s h
      refine V_ci (As := [.int x2.1]) X (Z0 E) ml_Top_343 yq_Ways_later (c_Ways_later E.2.1 G x2.1 x3 x4 hx4 _ (Nat.le_refl _)) kd_154 rfl rfl (by omega) rfl (Nat.le_of_ble_eq_true rfl) d_Top_tryst_40 rfl (fun r9 M9 hq => ?_)
      rw [hq.1, hq.2]
      obtain ⟨x5, hx5, h⟩ := ob_s h
      refine V_cv (As := [.int x4]) X (Z0 E) ml_Top_257 yq_Top_note (c_Top_note E.2.1 G x4 x3 x5 hx5 _ (Nat.le_refl _)) kd_0 rfl rfl (by omega) rfl (Nat.le_of_ble_eq_true rfl) d_Top_tryst_43 rfl (fun M9 hq => ?_)
      rw [hq]
      refine V_iload_n (n := 0) X d_Top_tryst_46 rfl rfl rfl ?_
      exact V_iret X (kr (x2.1, x5) (Option.some.inj h).symm) d_Top_tryst_47
    · rw [if_pos c6] at h
      refine V_bipush (v := -2) X d_Top_tryst_27 (by decide) rfl ?_
      exact V_iret X (kr ((-2 : Int32), x2.2) (Option.some.inj h).symm) d_Top_tryst_29
  · rw [if_pos c7] at h
    refine V_iconst (v := -1) X d_Top_tryst_9 (by decide) rfl ?_
    exact V_iret X (kr ((-1 : Int32), M) (Option.some.inj h).symm) d_Top_tryst_10
def f_Top_canOpen (v1 : Int32) (M : Mem) : Option (Int32) :=
  if inb v1 36 = true then
  if (M.1 4 v1.toNatClampNeg) = 0 then
  some (0 : Int32)
  else
  if (M.1 4 v1.toNatClampNeg) = (3 : Int32) then
  some (0 : Int32)
  else
  Option.bind (f_Scene_isUnderPlank 11 v1 M) fun x1 =>
  if x1 = 0 then
  some (1 : Int32)
  else
  some (0 : Int32)
  else none
theorem c_Top_canOpen (l : Launch) (G : Gw)  (v1 : Int32) (M : Mem) (x : Int32) (h : f_Top_canOpen v1 M = some x) (d : Nat) (hD : 5 ≤ d) : Ci l G y_Top_canOpen b_Top_canOpen 3 (some .boolean) d [.ref (G.2.2 + 0), .int v1] M (fun r9 M9 => r9 = x ∧ M9 = M) := by
  refine Ci_of (by decide) (Nat.le_of_ble_eq_true rfl) (fun E hE X => ?_)
  subst hE
  have kr : ∀ x9 : Int32, x = x9 → (fun r9 M9 => r9 = x ∧ M9 = M) x9 M := fun x9 e9 => by subst e9; exact ⟨rfl, rfl⟩
  unfold f_Top_canOpen at h
  refine V_aload_n (n := 0) X d_Top_canOpen_0 rfl rfl rfl ?_
  refine V_getr (k2 := 3) X fo_Top_19 kd_0 rfl rf_0_1 d_Top_canOpen_1 rfl ?_
  refine V_getr (k2 := 4) X fo_Top_167 kd_3 rfl rf_3_0 d_Top_canOpen_4 rfl ?_
  refine V_iload_n (n := 1) X d_Top_canOpen_7 rfl rfl rfl ?_
  obtain ⟨hb, h⟩ := ifn h
  refine V_iald X kd_4 (inb_in ln_4 hb) d_Top_canOpen_8 rfl ?_
  refine V_istore_n (lv' := [(2, .int (M.1 4 v1.toNatClampNeg)), (0, .ref (G.2.2 + 0)), (1, .int v1)]) X d_Top_canOpen_9 rfl (by decide) rfl rfl ?_
  refine V_iload_n (n := 0) X d_Top_canOpen_10 rfl rfl rfl ?_
  refine V_if_eq (tgt := 38) X d_Top_canOpen_11 (by decide) rfl (fun c4 => ?_) (fun c4 => ?_)
  · rw [if_pos c4] at h
    refine V_iconst (v := 0) X d_Top_canOpen_38 (by decide) rfl ?_
    exact V_zret X (kr (0 : Int32) (Option.some.inj h).symm) (by decide) d_Top_canOpen_39
  · rw [if_neg c4] at h
    refine V_iload_n (n := 0) X d_Top_canOpen_14 rfl rfl rfl ?_
    refine V_iconst (v := 3) X d_Top_canOpen_15 (by decide) rfl ?_
    refine V_icmp_eq (tgt := 38) X d_Top_canOpen_16 (by decide) rfl (fun c3 => ?_) (fun c3 => ?_)
    · rw [if_pos c3] at h
      refine V_iconst (v := 0) X d_Top_canOpen_38 (by decide) rfl ?_
      exact V_zret X (kr (0 : Int32) (Option.some.inj h).symm) (by decide) d_Top_canOpen_39
    · rw [if_neg c3] at h
      refine V_aload_n (n := 1) X d_Top_canOpen_19 rfl rfl rfl ?_
      refine V_getr (k2 := 11) X fo_Top_33 kd_0 rfl rf_0_3 d_Top_canOpen_20 rfl ?_
      refine V_aload_n (n := 1) X d_Top_canOpen_23 rfl rfl rfl ?_
      refine V_getr (k2 := 3) X fo_Top_19 kd_0 rfl rf_0_1 d_Top_canOpen_24 rfl ?_
      refine V_iload_n (n := 2) X d_Top_canOpen_27 rfl rfl rfl ?_
      obtain ⟨x1, hx1, h⟩ := ob_s h
      refine V_ci (As := [.ref (G.2.2 + 3), .int v1]) X (Z0 E) ml_Top_457 yq_Scene_isUnderPlank (c_Scene_isUnderPlank E.2.1 G 11 v1 M x1 hx1 _ (Nat.le_refl _)) kd_11 rfl rfl (by omega) rfl (Nat.le_of_ble_eq_true rfl) d_Top_canOpen_28 rfl (fun r9 M9 hq => ?_)
      rw [hq.1, hq.2]
      refine V_if_ne (tgt := 38) X d_Top_canOpen_31 (by decide) rfl (fun c2 => ?_) (fun c2 => ?_)
      · rw [if_neg c2] at h
        refine V_iconst (v := 0) X d_Top_canOpen_38 (by decide) rfl ?_
        exact V_zret X (kr (0 : Int32) (Option.some.inj h).symm) (by decide) d_Top_canOpen_39
      · rw [if_pos c2] at h
        refine V_iconst (v := 1) X d_Top_canOpen_34 (by decide) rfl ?_
        refine V_goto (pc' := 39) X d_Top_canOpen_35 (by decide) ?_
        exact V_zret X (kr (1 : Int32) (Option.some.inj h).symm) (by decide) d_Top_canOpen_39
def f_Top_trystWith (v1 : Int32) (v2 : Int32) (v3 : Int32) (M : Mem) : Option (Int32 × Mem) :=
  Option.bind (f_Nets_lay 36 11 v1 M) fun x1 =>
  Option.bind (f_Top_soonestStair 36 v2 v3 x1) fun x2 =>
  if x2.1 = (-1 : Int32) then
  some ((1000000 : Int32), x2.2)
  else
  Option.bind (f_Ways_later x2.1 x2.2) fun x3 =>
  some (x3, x2.2)
theorem c_Top_trystWith (l : Launch) (G : Gw)  (v1 : Int32) (v2 : Int32) (v3 : Int32) (M : Mem) (x : Int32 × Mem) (h : f_Top_trystWith v1 v2 v3 M = some x) (d : Nat) (hD : 5 ≤ d) : Ci l G y_Top_trystWith b_Top_trystWith 5 (some .int) d [.ref (G.2.2 + 0), .int v1, .int v2, .int v3] M (fun r9 M9 => r9 = x.1 ∧ M9 = x.2) := by
  refine Ci_of (by decide) (Nat.le_of_ble_eq_true rfl) (fun E hE X => ?_)
  subst hE
  have kr : ∀ x9 : Int32 × Mem, x = x9 → (fun r9 M9 => r9 = x.1 ∧ M9 = x.2) x9.1 x9.2 := fun x9 e9 => by subst e9; exact ⟨rfl, rfl⟩
  unfold f_Top_trystWith at h
  refine V_aload_n (n := 0) X d_Top_trystWith_0 rfl rfl rfl ?_
  refine V_getr (k2 := 36) X fo_Top_50 kd_0 rfl rf_0_7 d_Top_trystWith_1 rfl ?_
  refine V_aload_n (n := 0) X d_Top_trystWith_4 rfl rfl rfl ?_
  refine V_getr (k2 := 3) X fo_Top_19 kd_0 rfl rf_0_1 d_Top_trystWith_5 rfl ?_
  refine V_aload_n (n := 0) X d_Top_trystWith_8 rfl rfl rfl ?_
  refine V_getr (k2 := 11) X fo_Top_33 kd_0 rfl rf_0_3 d_Top_trystWith_9 rfl ?_
  refine V_iload_n (n := 1) X d_Top_trystWith_12 rfl rfl rfl ?_
  obtain ⟨x1, hx1, h⟩ := ob_s h
  refine V_cv (As := [.ref (G.2.2 + 3), .ref (G.2.2 + 11), .int v1]) X (Z0 E) ml_Top_122 yq_Nets_lay (c_Nets_lay E.2.1 G 36 11 v1 M x1 hx1 _ (Nat.le_refl _)) kd_36 rfl rfl (by omega) rfl (Nat.le_of_ble_eq_true rfl) d_Top_trystWith_13 rfl (fun M9 hq => ?_)
  rw [hq]
  refine V_aload_n (n := 0) X d_Top_trystWith_16 rfl rfl rfl ?_
  refine V_aload_n (n := 0) X d_Top_trystWith_17 rfl rfl rfl ?_
  refine V_getr (k2 := 36) X fo_Top_50 kd_0 rfl rf_0_7 d_Top_trystWith_18 rfl ?_
  refine V_iload_n (n := 2) X d_Top_trystWith_21 rfl rfl rfl ?_
  refine V_iload_n (n := 3) X d_Top_trystWith_22 rfl rfl rfl ?_
  obtain ⟨x2, hx2, h⟩ := ob_s h
  refine V_ci (As := [.ref (G.2.2 + 36), .int v2, .int v3]) X (Z0 E) ml_Top_340 yq_Top_soonestStair (c_Top_soonestStair E.2.1 G 36 v2 v3 x1 x2 hx2 _ (Nat.le_refl _)) kd_0 rfl rfl (by omega) rfl (Nat.le_of_ble_eq_true rfl) d_Top_trystWith_23 rfl (fun r9 M9 hq => ?_)
  rw [hq.1, hq.2]
  refine V_istore (lv' := [(4, .int x2.1), (0, .ref (G.2.2 + 0)), (1, .int v1), (2, .int v2), (3, .int v3)]) X d_Top_trystWith_26 (by decide) rfl rfl ?_
  refine V_iload (n := 0) X d_Top_trystWith_28 rfl rfl ?_
  refine V_iconst (v := -1) X d_Top_trystWith_30 (by decide) rfl ?_
  refine V_icmp_ne (tgt := 40) X d_Top_trystWith_31 (by decide) rfl (fun c4 => ?_) (fun c4 => ?_)
  · rw [if_neg c4] at h
    refine V_aload_n (n := 1) X d_Top_trystWith_40 rfl rfl rfl ?_
    refine V_getr (k2 := 154) X fo_Top_91 kd_0 rfl rf_0_13 d_Top_trystWith_41 rfl ?_
    refine V_iload (n := 0) X d_Top_trystWith_44 rfl rfl ?_
    obtain ⟨x3, hx3, h⟩ := ob_s h
    refine V_ci (As := [.int x2.1]) X (Z0 E) ml_Top_343 yq_Ways_later (c_Ways_later E.2.1 G x2.1 x2.2 x3 hx3 _ (Nat.le_refl _)) kd_154 rfl rfl (by omega) rfl (Nat.le_of_ble_eq_true rfl) d_Top_trystWith_46 rfl (fun r9 M9 hq => ?_)
    rw [hq.1, hq.2]
    exact V_iret X (kr (x3, x2.2) (Option.some.inj h).symm) d_Top_trystWith_49
  · rw [if_pos c4] at h
    refine V_ldc_w (v := 1000000) X d_Top_trystWith_34 kc_Top_319 rfl ?_
    refine V_goto (pc' := 49) X d_Top_trystWith_37 (by decide) ?_
    exact V_iret X (kr ((1000000 : Int32), x2.2) (Option.some.inj h).symm) d_Top_trystWith_49
def j_Top_open_56_21 (v1 : Int32) (v2 : Int32) (v3 : Int32) (v4 : Int32) (v5 : Int32) (w0 : Int32) (M : Mem) : Option ((Int32 × Int32 × Int32 × Mem) ⊕ ((Int32 × Int32 × Mem))) :=
  if v4 ≤ w0 then
  some (.inl (v3, v4, (v5 + (1 : Int32)), M))
  else
  some (.inl (v5, w0, (v5 + (1 : Int32)), M))
theorem j_Top_open_56_21_ok {E : Ev} {G : Gw} {d : Nat} {post : Int32 → Mem → Prop} (X : Cx E G b_Top_open "WomenByTheRoofs" 7 d (some .int)) (hD : 6 ≤ d)  (v1 : Int32) (v2 : Int32) (v3 : Int32) (v4 : Int32) (v5 : Int32) (w0 : Int32)  (M : Mem)  (o : (Int32 × Int32 × Int32 × Mem) ⊕ ((Int32 × Int32 × Mem))) (h : j_Top_open_56_21 v1 v2 v3 v4 v5 w0 M = some o) (kc : ∀ s9 : Int32 × Int32 × Int32 × Mem, o = .inl s9 → V E (0, 0) G 7 (QI E G post) s9.2.2.2 21 [(0, .ref (G.2.2 + 0)), (1, .int v1), (2, .int v2), (3, .int s9.1), (4, .int s9.2.1), (5, .int s9.2.2.1)] []) (kx0 : ∀ x9 : Int32 × Int32 × Mem, o = .inr x9 → V E (0, 0) G 7 (QI E G post) x9.2.2 78 [(0, .ref (G.2.2 + 0)), (3, .int x9.1), (4, .int x9.2.1)] []) : V E (0, 0) G 7 (QI E G post) M 56 [(0, .ref (G.2.2 + 0)), (1, .int v1), (2, .int v2), (3, .int v3), (4, .int v4), (5, .int v5)] [.int w0] := by
  unfold j_Top_open_56_21 at h
  refine V_istore (lv' := [(6, .int w0), (0, .ref (G.2.2 + 0)), (1, .int v1), (2, .int v2), (3, .int v3), (4, .int v4), (5, .int v5)]) X d_Top_open_56 (by decide) rfl rfl ?_
  refine V_iload (n := 0) X d_Top_open_58 rfl rfl ?_
  refine V_iload (n := 5) X d_Top_open_60 rfl rfl ?_
  refine V_icmp_ge (tgt := 72) X d_Top_open_62 (by decide) rfl (fun c3 => ?_) (fun c3 => ?_)
  · rw [if_pos c3] at h
    refine V_iinc (n := 6) (v := (v5 + (1 : Int32))) (lv' := [(5, .int (v5 + (1 : Int32))), (6, .int w0), (0, .ref (G.2.2 + 0)), (1, .int v1), (2, .int v2), (3, .int v3), (4, .int v4)]) X d_Top_open_72 rfl rfl (by decide) rfl rfl ?_
    refine V_goto (pc' := 21) X d_Top_open_75 (by decide) ?_
    refine V_sub (lv' := [(0, .ref (G.2.2 + 0)), (1, .int v1), (2, .int v2), (3, .int v3), (4, .int v4), (5, .int (v5 + (1 : Int32)))]) [2, 3, 4, 5, 6, 0] rfl ?_
    exact kc (v3, v4, (v5 + (1 : Int32)), M) (Option.some.inj h).symm
  · rw [if_neg c3] at h
    refine V_iload (n := 0) X d_Top_open_65 rfl rfl ?_
    refine V_istore (lv' := [(4, .int w0), (6, .int w0), (0, .ref (G.2.2 + 0)), (1, .int v1), (2, .int v2), (3, .int v3), (5, .int v5)]) X d_Top_open_67 (by decide) rfl rfl ?_
    refine V_iload (n := 6) X d_Top_open_69 rfl rfl ?_
    refine V_istore_n (lv' := [(3, .int v5), (4, .int w0), (6, .int w0), (0, .ref (G.2.2 + 0)), (1, .int v1), (2, .int v2), (5, .int v5)]) X d_Top_open_71 rfl (by decide) rfl rfl ?_
    refine V_iinc (n := 6) (v := (v5 + (1 : Int32))) (lv' := [(5, .int (v5 + (1 : Int32))), (3, .int v5), (4, .int w0), (6, .int w0), (0, .ref (G.2.2 + 0)), (1, .int v1), (2, .int v2)]) X d_Top_open_72 rfl rfl (by decide) rfl rfl ?_
    refine V_goto (pc' := 21) X d_Top_open_75 (by decide) ?_
    refine V_sub (lv' := [(0, .ref (G.2.2 + 0)), (1, .int v1), (2, .int v2), (3, .int v5), (4, .int w0), (5, .int (v5 + (1 : Int32)))]) [4, 5, 6, 1, 2, 0] rfl ?_
    exact kc (v5, w0, (v5 + (1 : Int32)), M) (Option.some.inj h).symm
def lb_Top_open_21 (v1 : Int32) (v2 : Int32) (s : Int32 × Int32 × Int32 × Mem) : Option ((Int32 × Int32 × Int32 × Mem) ⊕ ((Int32 × Int32 × Mem))) :=
  if (s.2.2.2.1 3 3) ≤ s.2.2.1 then
  some (.inr (s.1, s.2.1, s.2.2.2))
  else
  Option.bind (f_Top_canOpen s.2.2.1 s.2.2.2) fun x2 =>
  if x2 = 0 then
  j_Top_open_56_21 v1 v2 s.1 s.2.1 s.2.2.1 (1000000 : Int32) s.2.2.2
  else
  Option.bind (f_Top_trystWith s.2.2.1 v1 v2 s.2.2.2) fun x4 =>
  j_Top_open_56_21 v1 v2 s.1 s.2.1 s.2.2.1 x4.1 x4.2
theorem lb_Top_open_21_ok {E : Ev} {G : Gw} {d : Nat} {post : Int32 → Mem → Prop} (X : Cx E G b_Top_open "WomenByTheRoofs" 7 d (some .int)) (hD : 6 ≤ d)  (v1 : Int32) (v2 : Int32)   (s : Int32 × Int32 × Int32 × Mem) (o : (Int32 × Int32 × Int32 × Mem) ⊕ ((Int32 × Int32 × Mem))) (h : lb_Top_open_21 v1 v2 s = some o) (kc : ∀ s9 : Int32 × Int32 × Int32 × Mem, o = .inl s9 → V E (0, 0) G 7 (QI E G post) s9.2.2.2 21 [(0, .ref (G.2.2 + 0)), (1, .int v1), (2, .int v2), (3, .int s9.1), (4, .int s9.2.1), (5, .int s9.2.2.1)] []) (kx0 : ∀ x9 : Int32 × Int32 × Mem, o = .inr x9 → V E (0, 0) G 7 (QI E G post) x9.2.2 78 [(0, .ref (G.2.2 + 0)), (3, .int x9.1), (4, .int x9.2.1)] []) : V E (0, 0) G 7 (QI E G post) s.2.2.2 21 [(0, .ref (G.2.2 + 0)), (1, .int v1), (2, .int v2), (3, .int s.1), (4, .int s.2.1), (5, .int s.2.2.1)] [] := by
  unfold lb_Top_open_21 at h
  refine V_iload (n := 5) X d_Top_open_21 rfl rfl ?_
  refine V_aload_n (n := 0) X d_Top_open_23 rfl rfl rfl ?_
  refine V_getr (k2 := 3) X fo_Top_19 kd_0 rfl rf_0_1 d_Top_open_24 rfl ?_
  refine V_geti X fo_Top_346 kd_3 rfl d_Top_open_27 rfl ?_
  refine V_icmp_ge (tgt := 78) X d_Top_open_30 (by decide) rfl (fun c6 => ?_) (fun c6 => ?_)
  · rw [if_pos c6] at h
    refine V_sub (lv' := [(0, .ref (G.2.2 + 0)), (3, .int s.1), (4, .int s.2.1)]) [0, 3, 4] rfl ?_
    exact kx0 (s.1, s.2.1, s.2.2.2) (Option.some.inj h).symm
  · rw [if_neg c6] at h
    refine V_aload_n (n := 0) X d_Top_open_33 rfl rfl rfl ?_
    refine V_iload (n := 5) X d_Top_open_34 rfl rfl ?_
    obtain ⟨x2, hx2, h⟩ := ob_s h
    refine V_ci (As := [.int s.2.2.1]) X (Z0 E) ml_Top_349 yq_Top_canOpen (c_Top_canOpen E.2.1 G s.2.2.1 s.2.2.2 x2 hx2 _ (Nat.le_refl _)) kd_0 rfl rfl (by omega) rfl (Nat.le_of_ble_eq_true rfl) d_Top_open_36 rfl (fun r9 M9 hq => ?_)
    rw [hq.1, hq.2]
    refine V_if_eq (tgt := 53) X d_Top_open_39 (by decide) rfl (fun c5 => ?_) (fun c5 => ?_)
    · rw [if_pos c5] at h
      refine V_ldc_w (v := 1000000) X d_Top_open_53 kc_Top_319 rfl ?_
      exact j_Top_open_56_21_ok X hD v1 v2 s.1 s.2.1 s.2.2.1 (1000000 : Int32) s.2.2.2 _ h kc kx0
    · rw [if_neg c5] at h
      refine V_aload_n (n := 0) X d_Top_open_42 rfl rfl rfl ?_
      refine V_iload (n := 5) X d_Top_open_43 rfl rfl ?_
      refine V_iload_n (n := 1) X d_Top_open_45 rfl rfl rfl ?_
      refine V_iload_n (n := 2) X d_Top_open_46 rfl rfl rfl ?_
      obtain ⟨x4, hx4, h⟩ := ob_s h
      refine V_ci (As := [.int s.2.2.1, .int v1, .int v2]) X (Z0 E) ml_Top_352 yq_Top_trystWith (c_Top_trystWith E.2.1 G s.2.2.1 v1 v2 s.2.2.2 x4 hx4 _ (Nat.le_refl _)) kd_0 rfl rfl (by omega) rfl (Nat.le_of_ble_eq_true rfl) d_Top_open_47 rfl (fun r9 M9 hq => ?_)
      rw [hq.1, hq.2]
      refine V_goto (pc' := 56) X d_Top_open_50 (by decide) ?_
      exact j_Top_open_56_21_ok X hD v1 v2 s.1 s.2.1 s.2.2.1 x4.1 x4.2 _ h kc kx0
theorem lp_Top_open_21_ok {E : Ev} {G : Gw} {d : Nat} {post : Int32 → Mem → Prop} (X : Cx E G b_Top_open "WomenByTheRoofs" 7 d (some .int)) (hD : 6 ≤ d)  (v1 : Int32) (v2 : Int32)   (n9 : Nat) (s : Int32 × Int32 × Int32 × Mem) (x : (Int32 × Int32 × Mem)) (h : iter (lb_Top_open_21 v1 v2) n9 s = some x) (kx0 : ∀ x9 : Int32 × Int32 × Mem, x = x9 → V E (0, 0) G 7 (QI E G post) x9.2.2 78 [(0, .ref (G.2.2 + 0)), (3, .int x9.1), (4, .int x9.2.1)] []) : V E (0, 0) G 7 (QI E G post) s.2.2.2 21 [(0, .ref (G.2.2 + 0)), (1, .int v1), (2, .int v2), (3, .int s.1), (4, .int s.2.1), (5, .int s.2.2.1)] [] :=
  iter_P (P := fun s : Int32 × Int32 × Int32 × Mem => V E (0, 0) G 7 (QI E G post) s.2.2.2 21 [(0, .ref (G.2.2 + 0)), (1, .int v1), (2, .int v2), (3, .int s.1), (4, .int s.2.1), (5, .int s.2.2.1)] []) (fun s o hb kc ky => lb_Top_open_21_ok X hD v1 v2 s o hb kc (fun x9 e9 => kx0 x9 (ky _ e9).symm)) n9 s h
def f_Top_open (v1 : Int32) (v2 : Int32) (M : Mem) : Option (Int32 × Mem) :=
  Option.bind (f_Top_areManAndWoman v1 v2 M) fun x1 =>
  if x1 = 0 then
  some ((-1 : Int32), M)
  else
  Option.bind (iter (lb_Top_open_21 v1 v2) FU ((-1 : Int32), (1000000 : Int32), (0 : Int32), M)) fun x7 =>
  if x7.1 = (-1 : Int32) then
  some ((-2 : Int32), x7.2.2)
  else
  Option.bind (f_Top_emptyRow x7.2.2) fun x8 =>
  Option.bind (f_Top_note x7.2.1 x8) fun x9 =>
  some (x7.1, x9)
theorem c_Top_open (l : Launch) (G : Gw)  (v1 : Int32) (v2 : Int32) (M : Mem) (x : Int32 × Mem) (h : f_Top_open v1 v2 M = some x) (d : Nat) (hD : 6 ≤ d) : Ci l G y_Top_open b_Top_open 7 (some .int) d [.ref (G.2.2 + 0), .int v1, .int v2] M (fun r9 M9 => r9 = x.1 ∧ M9 = x.2) := by
  refine Ci_of (by decide) (Nat.le_of_ble_eq_true rfl) (fun E hE X => ?_)
  subst hE
  have kr : ∀ x9 : Int32 × Mem, x = x9 → (fun r9 M9 => r9 = x.1 ∧ M9 = x.2) x9.1 x9.2 := fun x9 e9 => by subst e9; exact ⟨rfl, rfl⟩
  unfold f_Top_open at h
  refine V_aload_n (n := 0) X d_Top_open_0 rfl rfl rfl ?_
  refine V_iload_n (n := 1) X d_Top_open_1 rfl rfl rfl ?_
  refine V_iload_n (n := 2) X d_Top_open_2 rfl rfl rfl ?_
  obtain ⟨x1, hx1, h⟩ := ob_s h
  refine V_ci (As := [.int v1, .int v2]) X (Z0 E) ml_Top_337 yq_Top_areManAndWoman (c_Top_areManAndWoman E.2.1 G v1 v2 M x1 hx1 _ (Nat.le_refl _)) kd_0 rfl rfl (by omega) rfl (Nat.le_of_ble_eq_true rfl) d_Top_open_3 rfl (fun r9 M9 hq => ?_)
  rw [hq.1, hq.2]
  refine V_if_ne (tgt := 11) X d_Top_open_6 (by decide) rfl (fun c11 => ?_) (fun c11 => ?_)
  · rw [if_neg c11] at h
    refine V_iconst (v := -1) X d_Top_open_11 (by decide) rfl ?_
    refine V_istore_n (lv' := [(3, .int (-1 : Int32)), (0, .ref (G.2.2 + 0)), (1, .int v1), (2, .int v2)]) X d_Top_open_12 rfl (by decide) rfl rfl ?_
    refine V_ldc_w (v := 1000000) X d_Top_open_13 kc_Top_319 rfl ?_
    refine V_istore (lv' := [(4, .int (1000000 : Int32)), (3, .int (-1 : Int32)), (0, .ref (G.2.2 + 0)), (1, .int v1), (2, .int v2)]) X d_Top_open_16 (by decide) rfl rfl ?_
    refine V_iconst (v := 0) X d_Top_open_18 (by decide) rfl ?_
    refine V_istore (lv' := [(5, .int (0 : Int32)), (4, .int (1000000 : Int32)), (3, .int (-1 : Int32)), (0, .ref (G.2.2 + 0)), (1, .int v1), (2, .int v2)]) X d_Top_open_19 (by decide) rfl rfl ?_
    refine V_sub (lv' := [(0, .ref (G.2.2 + 0)), (1, .int v1), (2, .int v2), (3, .int (-1 : Int32)), (4, .int (1000000 : Int32)), (5, .int (0 : Int32))]) [3, 4, 5, 2, 1, 0] rfl ?_
    obtain ⟨x7, hx7, h⟩ := ob_s h
    refine (lp_Top_open_21_ok X hD v1 v2 _ _ _ hx7 (fun x9 e9 => ?_) :)
    subst e9
    refine V_iload_n (n := 1) X d_Top_open_78 rfl rfl rfl ?_
    refine V_iconst (v := -1) X d_Top_open_79 (by decide) rfl ?_
    refine V_icmp_ne (tgt := 86) X d_Top_open_80 (by decide) rfl (fun c10 => ?_) (fun c10 => ?_)
    · rw [if_neg c10] at h
      refine V_aload_n (n := 0) X d_Top_open_86 rfl rfl rfl ?_
      obtain ⟨x8, hx8, h⟩ := ob_s h
      refine V_cv (As := []) X (Z0 E) ml_Top_251 yq_Top_emptyRow (c_Top_emptyRow E.2.1 G  x7.2.2 x8 hx8 _ (Nat.le_refl _)) kd_0 rfl rfl (by omega) rfl (Nat.le_of_ble_eq_true rfl) d_Top_open_87 rfl (fun M9 hq => ?_)
      rw [hq]
      refine V_aload_n (n := 0) X d_Top_open_90 rfl rfl rfl ?_
      refine V_iload (n := 2) X d_Top_open_91 rfl rfl ?_
      obtain ⟨x9, hx9, h⟩ := ob_s h
      refine V_cv (As := [.int x7.2.1]) X (Z0 E) ml_Top_257 yq_Top_note (c_Top_note E.2.1 G x7.2.1 x8 x9 hx9 _ (Nat.le_refl _)) kd_0 rfl rfl (by omega) rfl (Nat.le_of_ble_eq_true rfl) d_Top_open_93 rfl (fun M9 hq => ?_)
      rw [hq]
      refine V_iload_n (n := 1) X d_Top_open_96 rfl rfl rfl ?_
      exact V_iret X (kr (x7.1, x9) (Option.some.inj h).symm) d_Top_open_97
    · rw [if_pos c10] at h
      refine V_bipush (v := -2) X d_Top_open_83 (by decide) rfl ?_
      exact V_iret X (kr ((-2 : Int32), x7.2.2) (Option.some.inj h).symm) d_Top_open_85
  · rw [if_pos c11] at h
    refine V_iconst (v := -1) X d_Top_open_9 (by decide) rfl ?_
    exact V_iret X (kr ((-1 : Int32), M) (Option.some.inj h).symm) d_Top_open_10
def j_Top_roaming_36 (w0 : Int64) (w1 : Int32) (w2 : Int32) (M : Mem) : Option (Int64) :=
  Option.bind (f_Nets_flood 32 w2 w1 w0 M) fun x1 =>
  some x1
theorem j_Top_roaming_36_ok {E : Ev} {G : Gw} {d : Nat} {post : Int64 → Mem → Prop} (X : Cx E G b_Top_roaming "WomenByTheRoofs" 5 d (some .long)) (hD : 4 ≤ d)  (w0 : Int64) (w1 : Int32) (w2 : Int32)  (M : Mem)  (o : Int64) (h : j_Top_roaming_36 w0 w1 w2 M = some o) (kr : ∀ x9 : Int64, o = x9 → post x9 M) : V E (0, 0) G 5 (QL E G post) M 36 [] [.long w0, .int w1, .int w2, .ref (G.2.2 + 32)] := by
  unfold j_Top_roaming_36 at h
  obtain ⟨x1, hx1, h⟩ := ob_s h
  refine V_cl (As := [.int w2, .int w1, .long w0]) X (Z0 E) ml_Top_299 yq_Nets_flood (c_Nets_flood E.2.1 G 32 w2 w1 w0 M x1 hx1 _ (Nat.le_refl _)) kd_32 rfl rfl (by omega) rfl (Nat.le_of_ble_eq_true rfl) d_Top_roaming_36 rfl (fun r9 M9 hq => ?_)
  rw [hq.1, hq.2]
  exact V_lret X (kr x1 (Option.some.inj h).symm) d_Top_roaming_39
def f_Top_roaming (v1 : Int32) (v2 : Int64) (M : Mem) : Option (Int64) :=
  if inb v1 8 = true then
  if inb v1 8 = true then
  if (M.1 13 v1.toNatClampNeg) = 0 then
  j_Top_roaming_36 v2 (M.1 12 v1.toNatClampNeg) (M.1 13 v1.toNatClampNeg) M
  else
  j_Top_roaming_36 (0 : Int64) (M.1 12 v1.toNatClampNeg) (M.1 13 v1.toNatClampNeg) M
  else none
  else none
theorem c_Top_roaming (l : Launch) (G : Gw)  (v1 : Int32) (v2 : Int64) (M : Mem) (x : Int64) (h : f_Top_roaming v1 v2 M = some x) (d : Nat) (hD : 4 ≤ d) : Cl l G y_Top_roaming b_Top_roaming 5 (some .long) d [.ref (G.2.2 + 0), .int v1, .long v2] M (fun r9 M9 => r9 = x ∧ M9 = M) := by
  refine Cl_of (by decide) (Nat.le_of_ble_eq_true rfl) (fun E hE X => ?_)
  subst hE
  have kr : ∀ x9 : Int64, x = x9 → (fun r9 M9 => r9 = x ∧ M9 = M) x9 M := fun x9 e9 => by subst e9; exact ⟨rfl, rfl⟩
  unfold f_Top_roaming at h
  refine V_aload_n (n := 0) X d_Top_roaming_0 rfl rfl rfl ?_
  refine V_getr (k2 := 11) X fo_Top_33 kd_0 rfl rf_0_3 d_Top_roaming_1 rfl ?_
  refine V_getr (k2 := 13) X fo_Top_191 kd_11 rfl rf_11_1 d_Top_roaming_4 rfl ?_
  refine V_iload_n (n := 1) X d_Top_roaming_7 rfl rfl rfl ?_
  obtain ⟨hb, h⟩ := ifn h
  refine V_iald X kd_13 (inb_in ln_13 hb) d_Top_roaming_8 rfl ?_
  refine V_istore (lv' := [(4, .int (M.1 13 v1.toNatClampNeg)), (0, .ref (G.2.2 + 0)), (1, .int v1), (2, .long v2)]) X d_Top_roaming_9 (by decide) rfl rfl ?_
  refine V_aload_n (n := 1) X d_Top_roaming_11 rfl rfl rfl ?_
  refine V_getr (k2 := 32) X fo_Top_46 kd_0 rfl rf_0_6 d_Top_roaming_12 rfl ?_
  refine V_iload (n := 0) X d_Top_roaming_15 rfl rfl ?_
  refine V_aload_n (n := 1) X d_Top_roaming_17 rfl rfl rfl ?_
  refine V_getr (k2 := 11) X fo_Top_33 kd_0 rfl rf_0_3 d_Top_roaming_18 rfl ?_
  refine V_getr (k2 := 12) X fo_Top_188 kd_11 rfl rf_11_0 d_Top_roaming_21 rfl ?_
  refine V_iload_n (n := 2) X d_Top_roaming_24 rfl rfl rfl ?_
  obtain ⟨hb, h⟩ := ifn h
  refine V_iald X kd_12 (inb_in ln_12 hb) d_Top_roaming_25 rfl ?_
  refine V_iload (n := 0) X d_Top_roaming_26 rfl rfl ?_
  refine V_if_ne (tgt := 35) X d_Top_roaming_28 (by decide) rfl (fun c2 => ?_) (fun c2 => ?_)
  · rw [if_neg c2] at h
    refine V_lconst (v := 0) X d_Top_roaming_35 (by decide) rfl ?_
    refine V_sub (lv' := []) [] rfl ?_
    exact j_Top_roaming_36_ok X hD (0 : Int64) (M.1 12 v1.toNatClampNeg) (M.1 13 v1.toNatClampNeg) M _ h kr
  · rw [if_pos c2] at h
    refine V_lload_n (n := 3) X d_Top_roaming_31 rfl rfl rfl ?_
    refine V_goto (pc' := 36) X d_Top_roaming_32 (by decide) ?_
    refine V_sub (lv' := []) [] rfl ?_
    exact j_Top_roaming_36_ok X hD v2 (M.1 12 v1.toNatClampNeg) (M.1 13 v1.toNatClampNeg) M _ h kr
def f_Top_canTryst (v1 : Int32) (v2 : Int32) (v3 : Int64) (M : Mem) : Option (Int32) :=
  Option.bind (f_Top_roaming v1 v3 M) fun x1 =>
  Option.bind (f_Top_roaming v2 v3 M) fun x2 =>
  Option.bind (f_Nets_stairs 32 M) fun x3 =>
  if (lg_cmp (((x1 &&& x2) &&& x3) &&& (v3 ^^^ (-1 : Int64))) (0 : Int64)) = 0 then
  some (0 : Int32)
  else
  some (1 : Int32)
theorem c_Top_canTryst (l : Launch) (G : Gw)  (v1 : Int32) (v2 : Int32) (v3 : Int64) (M : Mem) (x : Int32) (h : f_Top_canTryst v1 v2 v3 M = some x) (d : Nat) (hD : 5 ≤ d) : Ci l G y_Top_canTryst b_Top_canTryst 7 (some .boolean) d [.ref (G.2.2 + 0), .int v1, .int v2, .long v3] M (fun r9 M9 => r9 = x ∧ M9 = M) := by
  refine Ci_of (by decide) (Nat.le_of_ble_eq_true rfl) (fun E hE X => ?_)
  subst hE
  have kr : ∀ x9 : Int32, x = x9 → (fun r9 M9 => r9 = x ∧ M9 = M) x9 M := fun x9 e9 => by subst e9; exact ⟨rfl, rfl⟩
  unfold f_Top_canTryst at h
  refine V_aload_n (n := 0) X d_Top_canTryst_0 rfl rfl rfl ?_
  refine V_iload_n (n := 1) X d_Top_canTryst_1 rfl rfl rfl ?_
  refine V_lload_n (n := 3) X d_Top_canTryst_2 rfl rfl rfl ?_
  obtain ⟨x1, hx1, h⟩ := ob_s h
  refine V_cl (As := [.int v1, .long v3]) X (Z0 E) ml_Top_488 yq_Top_roaming (c_Top_roaming E.2.1 G v1 v3 M x1 hx1 _ (Nat.le_refl _)) kd_0 rfl rfl (by omega) rfl (Nat.le_of_ble_eq_true rfl) d_Top_canTryst_3 rfl (fun r9 M9 hq => ?_)
  rw [hq.1, hq.2]
  refine V_lstore (lv' := [(5, .long x1), (0, .ref (G.2.2 + 0)), (1, .int v1), (2, .int v2), (3, .long v3)]) X d_Top_canTryst_6 (by decide) rfl rfl ?_
  refine V_lload (n := 0) X d_Top_canTryst_8 rfl rfl ?_
  refine V_aload_n (n := 1) X d_Top_canTryst_10 rfl rfl rfl ?_
  refine V_iload_n (n := 3) X d_Top_canTryst_11 rfl rfl rfl ?_
  refine V_lload_n (n := 4) X d_Top_canTryst_12 rfl rfl rfl ?_
  obtain ⟨x2, hx2, h⟩ := ob_s h
  refine V_cl (As := [.int v2, .long v3]) X (Z0 E) ml_Top_488 yq_Top_roaming (c_Top_roaming E.2.1 G v2 v3 M x2 hx2 _ (Nat.le_refl _)) kd_0 rfl rfl (by omega) rfl (Nat.le_of_ble_eq_true rfl) d_Top_canTryst_13 rfl (fun r9 M9 hq => ?_)
  rw [hq.1, hq.2]
  refine V_land X d_Top_canTryst_16 rfl ?_
  refine V_aload_n (n := 1) X d_Top_canTryst_17 rfl rfl rfl ?_
  refine V_getr (k2 := 32) X fo_Top_46 kd_0 rfl rf_0_6 d_Top_canTryst_18 rfl ?_
  obtain ⟨x3, hx3, h⟩ := ob_s h
  refine V_cl (As := []) X (Z0 E) ml_Top_355 yq_Nets_stairs (c_Nets_stairs E.2.1 G 32 M x3 hx3 _ (Nat.le_refl _)) kd_32 rfl rfl (by omega) rfl (Nat.le_of_ble_eq_true rfl) d_Top_canTryst_21 rfl (fun r9 M9 hq => ?_)
  rw [hq.1, hq.2]
  refine V_land X d_Top_canTryst_24 rfl ?_
  refine V_lload_n (n := 4) X d_Top_canTryst_25 rfl rfl rfl ?_
  refine V_ldc2_w (v := -1) X d_Top_canTryst_26 kc_Top_303 rfl ?_
  refine V_lxor X d_Top_canTryst_29 rfl ?_
  refine V_land X d_Top_canTryst_30 rfl ?_
  refine V_lconst (v := 0) X d_Top_canTryst_31 (by decide) rfl ?_
  refine V_lcmp X d_Top_canTryst_32 rfl ?_
  refine V_if_eq (tgt := 40) X d_Top_canTryst_33 (by decide) rfl (fun c4 => ?_) (fun c4 => ?_)
  · rw [if_pos c4] at h
    refine V_iconst (v := 0) X d_Top_canTryst_40 (by decide) rfl ?_
    exact V_zret X (kr (0 : Int32) (Option.some.inj h).symm) (by decide) d_Top_canTryst_41
  · rw [if_neg c4] at h
    refine V_iconst (v := 1) X d_Top_canTryst_36 (by decide) rfl ?_
    refine V_goto (pc' := 41) X d_Top_canTryst_37 (by decide) ?_
    exact V_zret X (kr (1 : Int32) (Option.some.inj h).symm) (by decide) d_Top_canTryst_41
abbrev Rc_pby (l : Launch) (G : Gw) (m0 : Nat) (rc : Int32 → Int32 → Int64 → Int32 → Int64 → Mem → Option (Int64)) : Prop :=
  (∀ (a0 : Int32) (a1 : Int32) (a2 : Int64) (a3 : Int32) (a4 : Int64) (M : Mem) (x : Int64), rc a0 a1 a2 a3 a4 M = some x → ∀ d, m0 ≤ d → Cl l G y_Top_partedBy b_Top_partedBy 12 (some .long) d [.ref (G.2.2 + 0), .int a0, .int a1, .long a2, .int a3, .long a4] M (fun r9 M9 => r9 = x ∧ M9 = M))
def j_Top_partedBy_55_28 (rc : Int32 → Int32 → Int64 → Int32 → Int64 → Mem → Option (Int64)) (v1 : Int32) (v2 : Int32) (v3 : Int64) (v5 : Int32) (v6 : Int64) (v8 : Int32) (w0 : Int32) (M : Mem) : Option ((Int32) ⊕ ((Unit) ⊕ (Int64))) :=
  if w0 = 0 then
  some (.inl (v8 + (1 : Int32)))
  else
  if (lg_cmp ((v3 >>> (v8.toInt64 &&& 63)) &&& (1 : Int64)) (0 : Int64)) = 0 then
  some (.inl (v8 + (1 : Int32)))
  else
  Option.bind (rc v1 v2 v3 (v5 - (1 : Int32)) (v6 ||| ((1 : Int64) <<< (v8.toInt64 &&& 63))) M) fun x1 =>
  if (lg_cmp x1 (0 : Int64)) < 0 then
  some (.inl (v8 + (1 : Int32)))
  else
  some (.inr (Sum.inr x1))
theorem j_Top_partedBy_55_28_ok {E : Ev} {G : Gw} {d : Nat} {post : Int64 → Mem → Prop} {rc : Int32 → Int32 → Int64 → Int32 → Int64 → Mem → Option (Int64)} {m0 : Nat} (X : Cx E G b_Top_partedBy "WomenByTheRoofs" 12 d (some .long)) (hD : m0 + 6 ≤ d) (hrc : Rc_pby E.2.1 G m0 rc) (v1 : Int32) (v2 : Int32) (v3 : Int64) (v5 : Int32) (v6 : Int64) (v8 : Int32) (w0 : Int32)  (M : Mem)  (o : (Int32) ⊕ ((Unit) ⊕ (Int64))) (h : j_Top_partedBy_55_28 rc v1 v2 v3 v5 v6 v8 w0 M = some o) (kc : ∀ s9 : Int32, o = .inl s9 → V E (0, 0) G 12 (QL E G post) M 28 [(0, .ref (G.2.2 + 0)), (1, .int v1), (2, .int v2), (3, .long v3), (5, .int v5), (6, .long v6), (8, .int s9)] []) (kx0 : ∀ x9 : Unit, o = .inr (Sum.inl x9) → V E (0, 0) G 12 (QL E G post) M 109 [] []) (kx1 : ∀ x9 : Int64, o = .inr (Sum.inr x9) → V E (0, 0) G 12 (QL E G post) M 100 [(10, .long x9)] []) : V E (0, 0) G 12 (QL E G post) M 55 [(0, .ref (G.2.2 + 0)), (1, .int v1), (2, .int v2), (3, .long v3), (5, .int v5), (6, .long v6), (8, .int v8)] [.int w0] := by
  unfold j_Top_partedBy_55_28 at h
  refine V_istore (lv' := [(9, .int w0), (0, .ref (G.2.2 + 0)), (1, .int v1), (2, .int v2), (3, .long v3), (5, .int v5), (6, .long v6), (8, .int v8)]) X d_Top_partedBy_55 (by decide) rfl rfl ?_
  refine V_iload (n := 0) X d_Top_partedBy_57 rfl rfl ?_
  refine V_if_eq (tgt := 103) X d_Top_partedBy_59 (by decide) rfl (fun c4 => ?_) (fun c4 => ?_)
  · rw [if_pos c4] at h
    refine V_iinc (n := 7) (v := (v8 + (1 : Int32))) (lv' := [(8, .int (v8 + (1 : Int32))), (9, .int w0), (0, .ref (G.2.2 + 0)), (1, .int v1), (2, .int v2), (3, .long v3), (5, .int v5), (6, .long v6)]) X d_Top_partedBy_103 rfl rfl (by decide) rfl rfl ?_
    refine V_goto (pc' := 28) X d_Top_partedBy_106 (by decide) ?_
    refine V_sub (lv' := [(0, .ref (G.2.2 + 0)), (1, .int v1), (2, .int v2), (3, .long v3), (5, .int v5), (6, .long v6), (8, .int (v8 + (1 : Int32)))]) [2, 3, 4, 5, 6, 7, 0] rfl ?_
    exact kc (v8 + (1 : Int32)) (Option.some.inj h).symm
  · rw [if_neg c4] at h
    refine V_lload_n (n := 4) X d_Top_partedBy_62 rfl rfl rfl ?_
    refine V_iload (n := 7) X d_Top_partedBy_63 rfl rfl ?_
    refine V_lshr X d_Top_partedBy_65 rfl ?_
    refine V_lconst (v := 1) X d_Top_partedBy_66 (by decide) rfl ?_
    refine V_land X d_Top_partedBy_67 rfl ?_
    refine V_lconst (v := 0) X d_Top_partedBy_68 (by decide) rfl ?_
    refine V_lcmp X d_Top_partedBy_69 rfl ?_
    refine V_if_eq (tgt := 103) X d_Top_partedBy_70 (by decide) rfl (fun c3 => ?_) (fun c3 => ?_)
    · rw [if_pos c3] at h
      refine V_iinc (n := 7) (v := (v8 + (1 : Int32))) (lv' := [(8, .int (v8 + (1 : Int32))), (9, .int w0), (0, .ref (G.2.2 + 0)), (1, .int v1), (2, .int v2), (3, .long v3), (5, .int v5), (6, .long v6)]) X d_Top_partedBy_103 rfl rfl (by decide) rfl rfl ?_
      refine V_goto (pc' := 28) X d_Top_partedBy_106 (by decide) ?_
      refine V_sub (lv' := [(0, .ref (G.2.2 + 0)), (1, .int v1), (2, .int v2), (3, .long v3), (5, .int v5), (6, .long v6), (8, .int (v8 + (1 : Int32)))]) [2, 3, 4, 5, 6, 7, 0] rfl ?_
      exact kc (v8 + (1 : Int32)) (Option.some.inj h).symm
    · rw [if_neg c3] at h
      refine V_aload_n (n := 1) X d_Top_partedBy_73 rfl rfl rfl ?_
      refine V_iload_n (n := 2) X d_Top_partedBy_74 rfl rfl rfl ?_
      refine V_iload_n (n := 3) X d_Top_partedBy_75 rfl rfl rfl ?_
      refine V_lload_n (n := 4) X d_Top_partedBy_76 rfl rfl rfl ?_
      refine V_iload (n := 5) X d_Top_partedBy_77 rfl rfl ?_
      refine V_iconst (v := 1) X d_Top_partedBy_79 (by decide) rfl ?_
      refine V_isub X d_Top_partedBy_80 rfl ?_
      refine V_lload (n := 6) X d_Top_partedBy_81 rfl rfl ?_
      refine V_lconst (v := 1) X d_Top_partedBy_83 (by decide) rfl ?_
      refine V_iload (n := 7) X d_Top_partedBy_84 rfl rfl ?_
      refine V_lshl X d_Top_partedBy_86 rfl ?_
      refine V_lor X d_Top_partedBy_87 rfl ?_
      obtain ⟨x1, hx1, h⟩ := ob_s h
      refine V_cl (As := [.int v1, .int v2, .long v3, .int (v5 - (1 : Int32)), .long (v6 ||| ((1 : Int64) <<< (v8.toInt64 &&& 63)))]) X (Z0 E) ml_Top_363 yq_Top_partedBy (hrc v1 v2 v3 (v5 - (1 : Int32)) (v6 ||| ((1 : Int64) <<< (v8.toInt64 &&& 63))) M x1 hx1 _ (Nat.le_refl _)) kd_0 rfl rfl (by omega) rfl (Nat.le_of_ble_eq_true rfl) d_Top_partedBy_88 rfl (fun r9 M9 hq => ?_)
      rw [hq.1, hq.2]
      refine V_lstore (lv' := [(10, .long x1), (9, .int w0), (0, .ref (G.2.2 + 0)), (1, .int v1), (2, .int v2), (3, .long v3), (5, .int v5), (6, .long v6), (8, .int v8)]) X d_Top_partedBy_91 (by decide) rfl rfl ?_
      refine V_lload (n := 0) X d_Top_partedBy_93 rfl rfl ?_
      refine V_lconst (v := 0) X d_Top_partedBy_95 (by decide) rfl ?_
      refine V_lcmp X d_Top_partedBy_96 rfl ?_
      refine V_if_lt (tgt := 103) X d_Top_partedBy_97 (by decide) rfl (fun c2 => ?_) (fun c2 => ?_)
      · rw [if_pos c2] at h
        refine V_iinc (n := 8) (v := (v8 + (1 : Int32))) (lv' := [(8, .int (v8 + (1 : Int32))), (10, .long x1), (9, .int w0), (0, .ref (G.2.2 + 0)), (1, .int v1), (2, .int v2), (3, .long v3), (5, .int v5), (6, .long v6)]) X d_Top_partedBy_103 rfl rfl (by decide) rfl rfl ?_
        refine V_goto (pc' := 28) X d_Top_partedBy_106 (by decide) ?_
        refine V_sub (lv' := [(0, .ref (G.2.2 + 0)), (1, .int v1), (2, .int v2), (3, .long v3), (5, .int v5), (6, .long v6), (8, .int (v8 + (1 : Int32)))]) [3, 4, 5, 6, 7, 8, 0] rfl ?_
        exact kc (v8 + (1 : Int32)) (Option.some.inj h).symm
      · rw [if_neg c2] at h
        refine V_sub (lv' := [(10, .long x1)]) [0] rfl ?_
        exact kx1 x1 (Option.some.inj h).symm
def lb_Top_partedBy_28 (rc : Int32 → Int32 → Int64 → Int32 → Int64 → Mem → Option (Int64)) (v1 : Int32) (v2 : Int32) (v3 : Int64) (v5 : Int32) (v6 : Int64) (M : Mem) (s : Int32) : Option ((Int32) ⊕ ((Unit) ⊕ (Int64))) :=
  if (M.1 3 3) ≤ s then
  some (.inr (Sum.inl ()))
  else
  if (lg_cmp (v6 >>> (s.toInt64 &&& 63)) (0 : Int64)) = 0 then
  j_Top_partedBy_55_28 rc v1 v2 v3 v5 v6 s (1 : Int32) M
  else
  j_Top_partedBy_55_28 rc v1 v2 v3 v5 v6 s (0 : Int32) M
theorem lb_Top_partedBy_28_ok {E : Ev} {G : Gw} {d : Nat} {post : Int64 → Mem → Prop} {rc : Int32 → Int32 → Int64 → Int32 → Int64 → Mem → Option (Int64)} {m0 : Nat} (X : Cx E G b_Top_partedBy "WomenByTheRoofs" 12 d (some .long)) (hD : m0 + 6 ≤ d) (hrc : Rc_pby E.2.1 G m0 rc) (v1 : Int32) (v2 : Int32) (v3 : Int64) (v5 : Int32) (v6 : Int64)  (M : Mem) (s : Int32) (o : (Int32) ⊕ ((Unit) ⊕ (Int64))) (h : lb_Top_partedBy_28 rc v1 v2 v3 v5 v6 M s = some o) (kc : ∀ s9 : Int32, o = .inl s9 → V E (0, 0) G 12 (QL E G post) M 28 [(0, .ref (G.2.2 + 0)), (1, .int v1), (2, .int v2), (3, .long v3), (5, .int v5), (6, .long v6), (8, .int s9)] []) (kx0 : ∀ x9 : Unit, o = .inr (Sum.inl x9) → V E (0, 0) G 12 (QL E G post) M 109 [] []) (kx1 : ∀ x9 : Int64, o = .inr (Sum.inr x9) → V E (0, 0) G 12 (QL E G post) M 100 [(10, .long x9)] []) : V E (0, 0) G 12 (QL E G post) M 28 [(0, .ref (G.2.2 + 0)), (1, .int v1), (2, .int v2), (3, .long v3), (5, .int v5), (6, .long v6), (8, .int s)] [] := by
  unfold lb_Top_partedBy_28 at h
  refine V_iload (n := 6) X d_Top_partedBy_28 rfl rfl ?_
  refine V_aload_n (n := 0) X d_Top_partedBy_30 rfl rfl rfl ?_
  refine V_getr (k2 := 3) X fo_Top_19 kd_0 rfl rf_0_1 d_Top_partedBy_31 rfl ?_
  refine V_geti X fo_Top_346 kd_3 rfl d_Top_partedBy_34 rfl ?_
  refine V_icmp_ge (tgt := 109) X d_Top_partedBy_37 (by decide) rfl (fun c6 => ?_) (fun c6 => ?_)
  · rw [if_pos c6] at h
    refine V_sub (lv' := []) [] rfl ?_
    exact kx0 () (Option.some.inj h).symm
  · rw [if_neg c6] at h
    refine V_lload (n := 5) X d_Top_partedBy_40 rfl rfl ?_
    refine V_iload (n := 6) X d_Top_partedBy_42 rfl rfl ?_
    refine V_lshr X d_Top_partedBy_44 rfl ?_
    refine V_lconst (v := 0) X d_Top_partedBy_45 (by decide) rfl ?_
    refine V_lcmp X d_Top_partedBy_46 rfl ?_
    refine V_if_ne (tgt := 54) X d_Top_partedBy_47 (by decide) rfl (fun c5 => ?_) (fun c5 => ?_)
    · rw [if_neg c5] at h
      refine V_iconst (v := 0) X d_Top_partedBy_54 (by decide) rfl ?_
      exact j_Top_partedBy_55_28_ok X hD hrc v1 v2 v3 v5 v6 s (0 : Int32) M _ h kc kx0 kx1
    · rw [if_pos c5] at h
      refine V_iconst (v := 1) X d_Top_partedBy_50 (by decide) rfl ?_
      refine V_goto (pc' := 55) X d_Top_partedBy_51 (by decide) ?_
      exact j_Top_partedBy_55_28_ok X hD hrc v1 v2 v3 v5 v6 s (1 : Int32) M _ h kc kx0 kx1
theorem lp_Top_partedBy_28_ok {E : Ev} {G : Gw} {d : Nat} {post : Int64 → Mem → Prop} {rc : Int32 → Int32 → Int64 → Int32 → Int64 → Mem → Option (Int64)} {m0 : Nat} (X : Cx E G b_Top_partedBy "WomenByTheRoofs" 12 d (some .long)) (hD : m0 + 6 ≤ d) (hrc : Rc_pby E.2.1 G m0 rc) (v1 : Int32) (v2 : Int32) (v3 : Int64) (v5 : Int32) (v6 : Int64)  (M : Mem) (n9 : Nat) (s : Int32) (x : (Unit) ⊕ (Int64)) (h : iter (lb_Top_partedBy_28 rc v1 v2 v3 v5 v6 M) n9 s = some x) (kx0 : ∀ x9 : Unit, x = (Sum.inl x9) → V E (0, 0) G 12 (QL E G post) M 109 [] []) (kx1 : ∀ x9 : Int64, x = (Sum.inr x9) → V E (0, 0) G 12 (QL E G post) M 100 [(10, .long x9)] []) : V E (0, 0) G 12 (QL E G post) M 28 [(0, .ref (G.2.2 + 0)), (1, .int v1), (2, .int v2), (3, .long v3), (5, .int v5), (6, .long v6), (8, .int s)] [] :=
  iter_P (P := fun s : Int32 => V E (0, 0) G 12 (QL E G post) M 28 [(0, .ref (G.2.2 + 0)), (1, .int v1), (2, .int v2), (3, .long v3), (5, .int v5), (6, .long v6), (8, .int s)] []) (fun s o hb kc ky => lb_Top_partedBy_28_ok X hD hrc v1 v2 v3 v5 v6 M s o hb kc (fun x9 e9 => kx0 x9 (ky _ e9).symm) (fun x9 e9 => kx1 x9 (ky _ e9).symm)) n9 s h
def fb_Top_partedBy (rc : Int32 → Int32 → Int64 → Int32 → Int64 → Mem → Option (Int64)) (v1 : Int32) (v2 : Int32) (v3 : Int64) (v5 : Int32) (v6 : Int64) (M : Mem) : Option (Int64) :=
  if 0 < v5 then
  Option.bind (iter (lb_Top_partedBy_28 rc v1 v2 v3 v5 v6 M) FU (0 : Int32)) (Sum.elim (fun y8 => some (-1 : Int64)) (fun y9 => some y9))
  else
  Option.bind (f_Top_canTryst v1 v2 v6 M) fun x10 =>
  if x10 = 0 then
  some v6
  else
  some (-1 : Int64)
theorem cb_Top_partedBy (l : Launch) (G : Gw) (rc : Int32 → Int32 → Int64 → Int32 → Int64 → Mem → Option (Int64)) (m0 : Nat) (hrc : Rc_pby l G m0 rc) (v1 : Int32) (v2 : Int32) (v3 : Int64) (v5 : Int32) (v6 : Int64) (M : Mem) (x : Int64) (h : fb_Top_partedBy rc v1 v2 v3 v5 v6 M = some x) (d : Nat) (hD : m0 + 6 ≤ d) : Cl l G y_Top_partedBy b_Top_partedBy 12 (some .long) d [.ref (G.2.2 + 0), .int v1, .int v2, .long v3, .int v5, .long v6] M (fun r9 M9 => r9 = x ∧ M9 = M) := by
  refine Cl_of (by decide) (Nat.le_of_ble_eq_true rfl) (fun E hE X => ?_)
  subst hE
  have kr : ∀ x9 : Int64, x = x9 → (fun r9 M9 => r9 = x ∧ M9 = M) x9 M := fun x9 e9 => by subst e9; exact ⟨rfl, rfl⟩
  unfold fb_Top_partedBy at h
  refine V_iload (n := 4) X d_Top_partedBy_0 rfl rfl ?_
  refine V_if_gt (tgt := 25) X d_Top_partedBy_2 (by decide) rfl (fun c12 => ?_) (fun c12 => ?_)
  · rw [if_pos c12] at h
    refine V_iconst (v := 0) X d_Top_partedBy_25 (by decide) rfl ?_
    refine V_istore (lv' := [(8, .int (0 : Int32)), (0, .ref (G.2.2 + 0)), (1, .int v1), (2, .int v2), (3, .long v3), (5, .int v5), (6, .long v6)]) X d_Top_partedBy_26 (by decide) rfl rfl ?_
    refine V_sub (lv' := [(0, .ref (G.2.2 + 0)), (1, .int v1), (2, .int v2), (3, .long v3), (5, .int v5), (6, .long v6), (8, .int (0 : Int32))]) [1, 2, 3, 4, 5, 6, 0] rfl ?_
    obtain ⟨x7, hx7, h⟩ := ob_s h
    rcases x7 with y8 | y9
    · simp only [Sum.elim_inl, Sum.elim_inr] at h
      refine (lp_Top_partedBy_28_ok X hD hrc v1 v2 v3 v5 v6 M _ _ _ hx7 (fun x9 e9 => ?_) (fun x9 e9 => by cases e9) :)
      cases e9
      refine V_ldc2_w (v := -1) X d_Top_partedBy_109 kc_Top_303 rfl ?_
      exact V_lret X (kr (-1 : Int64) (Option.some.inj h).symm) d_Top_partedBy_112
    · simp only [Sum.elim_inl, Sum.elim_inr] at h
      refine (lp_Top_partedBy_28_ok X hD hrc v1 v2 v3 v5 v6 M _ _ _ hx7 (fun x9 e9 => by cases e9) (fun x9 e9 => ?_) :)
      cases e9
      refine V_lload (n := 0) X d_Top_partedBy_100 rfl rfl ?_
      exact V_lret X (kr y9 (Option.some.inj h).symm) d_Top_partedBy_102
  · rw [if_neg c12] at h
    refine V_aload_n (n := 0) X d_Top_partedBy_5 rfl rfl rfl ?_
    refine V_iload_n (n := 1) X d_Top_partedBy_6 rfl rfl rfl ?_
    refine V_iload_n (n := 2) X d_Top_partedBy_7 rfl rfl rfl ?_
    refine V_lload (n := 5) X d_Top_partedBy_8 rfl rfl ?_
    obtain ⟨x10, hx10, h⟩ := ob_s h
    refine V_ci (As := [.int v1, .int v2, .long v6]) X (Z0 E) ml_Top_359 yq_Top_canTryst (c_Top_canTryst E.2.1 G v1 v2 v6 M x10 hx10 _ (Nat.le_refl _)) kd_0 rfl rfl (by omega) rfl (Nat.le_of_ble_eq_true rfl) d_Top_partedBy_10 rfl (fun r9 M9 hq => ?_)
    rw [hq.1, hq.2]
    refine V_if_eq (tgt := 22) X d_Top_partedBy_13 (by decide) rfl (fun c11 => ?_) (fun c11 => ?_)
    · rw [if_pos c11] at h
      refine V_lload (n := 5) X d_Top_partedBy_22 rfl rfl ?_
      exact V_lret X (kr v6 (Option.some.inj h).symm) d_Top_partedBy_24
    · rw [if_neg c11] at h
      refine V_ldc2_w (v := -1) X d_Top_partedBy_16 kc_Top_303 rfl ?_
      refine V_goto (pc' := 24) X d_Top_partedBy_19 (by decide) ?_
      exact V_lret X (kr (-1 : Int64) (Option.some.inj h).symm) d_Top_partedBy_24
def fr_pby : Nat → Int32 → Int32 → Int64 → Int32 → Int64 → Mem → Option (Int64)
  | 0, _, _, _, _, _, _ => none
  | n + 1, a0, a1, a2, a3, a4, M => fb_Top_partedBy (fr_pby n) a0 a1 a2 a3 a4 M
theorem rc_pby (l : Launch) (G : Gw) : ∀ n, Rc_pby l G (n * 6) (fr_pby n) := by
  intro n
  induction n with
  | zero => exact fun a0 a1 a2 a3 a4 M x h => by simp [fr_pby] at h
  | succ n ih =>
    exact fun a0 a1 a2 a3 a4 M x h d hd => by
        simp only [fr_pby] at h
        exact cb_Top_partedBy l G (fr_pby n) (n * 6) ih a0 a1 a2 a3 a4 M x h d (by omega)
def f_Top_partedBy (a0 : Int32) (a1 : Int32) (a2 : Int64) (a3 : Int32) (a4 : Int64) (M : Mem) : Option (Int64) := fr_pby 8 a0 a1 a2 a3 a4 M
theorem c_Top_partedBy (l : Launch) (G : Gw) (a0 : Int32) (a1 : Int32) (a2 : Int64) (a3 : Int32) (a4 : Int64) (M : Mem) (x : Int64) (h : f_Top_partedBy a0 a1 a2 a3 a4 M = some x) (d : Nat) (hD : 48 ≤ d) : Cl l G y_Top_partedBy b_Top_partedBy 12 (some .long) d [.ref (G.2.2 + 0), .int a0, .int a1, .long a2, .int a3, .long a4] M (fun r9 M9 => r9 = x ∧ M9 = M) := rc_pby l G 8 a0 a1 a2 a3 a4 M x h d hD
def lb_Top_part_67 (v1 : Int32) (v2 : Int32) (v3 : Int64) (M : Mem) (s : Int32) : Option ((Int32) ⊕ ((Unit) ⊕ (Int32 × Int64))) :=
  if (3 : Int32) < s then
  some (.inr (Sum.inl ()))
  else
  Option.bind (f_Top_partedBy v1 v2 v3 s (0 : Int64) M) fun x4 =>
  if (lg_cmp x4 (0 : Int64)) < 0 then
  some (.inl (s + (1 : Int32)))
  else
  some (.inr (Sum.inr (s, x4)))
theorem lb_Top_part_67_ok {E : Ev} {G : Gw} {d : Nat} {post : Int32 → Mem → Prop} (X : Cx E G b_Top_part "WomenByTheRoofs" 9 d (some .int)) (hD : 49 ≤ d)  (v1 : Int32) (v2 : Int32) (v3 : Int64)  (M : Mem) (s : Int32) (o : (Int32) ⊕ ((Unit) ⊕ (Int32 × Int64))) (h : lb_Top_part_67 v1 v2 v3 M s = some o) (kc : ∀ s9 : Int32, o = .inl s9 → V E (0, 0) G 9 (QI E G post) M 67 [(0, .ref (G.2.2 + 0)), (1, .int v1), (2, .int v2), (3, .long v3), (5, .int s9)] []) (kx0 : ∀ x9 : Unit, o = .inr (Sum.inl x9) → V E (0, 0) G 9 (QI E G post) M 139 [] []) (kx1 : ∀ x9 : Int32 × Int64, o = .inr (Sum.inr x9) → V E (0, 0) G 9 (QI E G post) M 92 [(0, .ref (G.2.2 + 0)), (5, .int x9.1), (6, .long x9.2)] []) : V E (0, 0) G 9 (QI E G post) M 67 [(0, .ref (G.2.2 + 0)), (1, .int v1), (2, .int v2), (3, .long v3), (5, .int s)] [] := by
  unfold lb_Top_part_67 at h
  refine V_iload (n := 4) X d_Top_part_67 rfl rfl ?_
  refine V_iconst (v := 3) X d_Top_part_69 (by decide) rfl ?_
  refine V_icmp_gt (tgt := 139) X d_Top_part_70 (by decide) rfl (fun c6 => ?_) (fun c6 => ?_)
  · rw [if_pos c6] at h
    refine V_sub (lv' := []) [] rfl ?_
    exact kx0 () (Option.some.inj h).symm
  · rw [if_neg c6] at h
    refine V_aload_n (n := 0) X d_Top_part_73 rfl rfl rfl ?_
    refine V_iload_n (n := 1) X d_Top_part_74 rfl rfl rfl ?_
    refine V_iload_n (n := 2) X d_Top_part_75 rfl rfl rfl ?_
    refine V_lload_n (n := 3) X d_Top_part_76 rfl rfl rfl ?_
    refine V_iload (n := 4) X d_Top_part_77 rfl rfl ?_
    refine V_lconst (v := 0) X d_Top_part_79 (by decide) rfl ?_
    obtain ⟨x4, hx4, h⟩ := ob_s h
    refine V_cl (As := [.int v1, .int v2, .long v3, .int s, .long (0 : Int64)]) X (Z0 E) ml_Top_363 yq_Top_partedBy (c_Top_partedBy E.2.1 G v1 v2 v3 s (0 : Int64) M x4 hx4 _ (Nat.le_refl _)) kd_0 rfl rfl (by omega) rfl (Nat.le_of_ble_eq_true rfl) d_Top_part_80 rfl (fun r9 M9 hq => ?_)
    rw [hq.1, hq.2]
    refine V_lstore (lv' := [(6, .long x4), (0, .ref (G.2.2 + 0)), (1, .int v1), (2, .int v2), (3, .long v3), (5, .int s)]) X d_Top_part_83 (by decide) rfl rfl ?_
    refine V_lload (n := 0) X d_Top_part_85 rfl rfl ?_
    refine V_lconst (v := 0) X d_Top_part_87 (by decide) rfl ?_
    refine V_lcmp X d_Top_part_88 rfl ?_
    refine V_if_lt (tgt := 133) X d_Top_part_89 (by decide) rfl (fun c5 => ?_) (fun c5 => ?_)
    · rw [if_pos c5] at h
      refine V_iinc (n := 5) (v := (s + (1 : Int32))) (lv' := [(5, .int (s + (1 : Int32))), (6, .long x4), (0, .ref (G.2.2 + 0)), (1, .int v1), (2, .int v2), (3, .long v3)]) X d_Top_part_133 rfl rfl (by decide) rfl rfl ?_
      refine V_goto (pc' := 67) X d_Top_part_136 (by decide) ?_
      refine V_sub (lv' := [(0, .ref (G.2.2 + 0)), (1, .int v1), (2, .int v2), (3, .long v3), (5, .int (s + (1 : Int32)))]) [2, 3, 4, 5, 0] rfl ?_
      exact kc (s + (1 : Int32)) (Option.some.inj h).symm
    · rw [if_neg c5] at h
      refine V_sub (lv' := [(0, .ref (G.2.2 + 0)), (5, .int s), (6, .long x4)]) [1, 5, 0] rfl ?_
      exact kx1 (s, x4) (Option.some.inj h).symm
theorem lp_Top_part_67_ok {E : Ev} {G : Gw} {d : Nat} {post : Int32 → Mem → Prop} (X : Cx E G b_Top_part "WomenByTheRoofs" 9 d (some .int)) (hD : 49 ≤ d)  (v1 : Int32) (v2 : Int32) (v3 : Int64)  (M : Mem) (n9 : Nat) (s : Int32) (x : (Unit) ⊕ (Int32 × Int64)) (h : iter (lb_Top_part_67 v1 v2 v3 M) n9 s = some x) (kx0 : ∀ x9 : Unit, x = (Sum.inl x9) → V E (0, 0) G 9 (QI E G post) M 139 [] []) (kx1 : ∀ x9 : Int32 × Int64, x = (Sum.inr x9) → V E (0, 0) G 9 (QI E G post) M 92 [(0, .ref (G.2.2 + 0)), (5, .int x9.1), (6, .long x9.2)] []) : V E (0, 0) G 9 (QI E G post) M 67 [(0, .ref (G.2.2 + 0)), (1, .int v1), (2, .int v2), (3, .long v3), (5, .int s)] [] :=
  iter_P (P := fun s : Int32 => V E (0, 0) G 9 (QI E G post) M 67 [(0, .ref (G.2.2 + 0)), (1, .int v1), (2, .int v2), (3, .long v3), (5, .int s)] []) (fun s o hb kc ky => lb_Top_part_67_ok X hD v1 v2 v3 M s o hb kc (fun x9 e9 => kx0 x9 (ky _ e9).symm) (fun x9 e9 => kx1 x9 (ky _ e9).symm)) n9 s h
def lb_Top_part_99 (v5 : Int32) (v6 : Int64) (s : Int32 × Mem) : Option ((Int32 × Mem) ⊕ ((Mem))) :=
  if (36 : Int32) ≤ s.1 then
  some (.inr s.2)
  else
  if (lg_cmp ((v6 >>> (s.1.toInt64 &&& 63)) &&& (1 : Int64)) (0 : Int64)) = 0 then
  some (.inl ((s.1 + (1 : Int32)), s.2))
  else
  Option.bind (f_Top_note s.1 s.2) fun x11 =>
  some (.inl ((s.1 + (1 : Int32)), x11))
theorem lb_Top_part_99_ok {E : Ev} {G : Gw} {d : Nat} {post : Int32 → Mem → Prop} (X : Cx E G b_Top_part "WomenByTheRoofs" 9 d (some .int)) (hD : 49 ≤ d)  (v5 : Int32) (v6 : Int64)   (s : Int32 × Mem) (o : (Int32 × Mem) ⊕ ((Mem))) (h : lb_Top_part_99 v5 v6 s = some o) (kc : ∀ s9 : Int32 × Mem, o = .inl s9 → V E (0, 0) G 9 (QI E G post) s9.2 99 [(0, .ref (G.2.2 + 0)), (5, .int v5), (6, .long v6), (8, .int s9.1)] []) (kx0 : ∀ x9 : Mem, o = .inr x9 → V E (0, 0) G 9 (QI E G post) x9 130 [(5, .int v5)] []) : V E (0, 0) G 9 (QI E G post) s.2 99 [(0, .ref (G.2.2 + 0)), (5, .int v5), (6, .long v6), (8, .int s.1)] [] := by
  unfold lb_Top_part_99 at h
  refine V_iload (n := 3) X d_Top_part_99 rfl rfl ?_
  refine V_bipush (v := 36) X d_Top_part_101 (by decide) rfl ?_
  refine V_icmp_ge (tgt := 130) X d_Top_part_103 (by decide) rfl (fun c13 => ?_) (fun c13 => ?_)
  · rw [if_pos c13] at h
    refine V_sub (lv' := [(5, .int v5)]) [1] rfl ?_
    exact kx0 s.2 (Option.some.inj h).symm
  · rw [if_neg c13] at h
    refine V_lload (n := 2) X d_Top_part_106 rfl rfl ?_
    refine V_iload (n := 3) X d_Top_part_108 rfl rfl ?_
    refine V_lshr X d_Top_part_110 rfl ?_
    refine V_lconst (v := 1) X d_Top_part_111 (by decide) rfl ?_
    refine V_land X d_Top_part_112 rfl ?_
    refine V_lconst (v := 0) X d_Top_part_113 (by decide) rfl ?_
    refine V_lcmp X d_Top_part_114 rfl ?_
    refine V_if_eq (tgt := 124) X d_Top_part_115 (by decide) rfl (fun c12 => ?_) (fun c12 => ?_)
    · rw [if_pos c12] at h
      refine V_iinc (n := 3) (v := (s.1 + (1 : Int32))) (lv' := [(8, .int (s.1 + (1 : Int32))), (0, .ref (G.2.2 + 0)), (5, .int v5), (6, .long v6)]) X d_Top_part_124 rfl rfl (by decide) rfl rfl ?_
      refine V_goto (pc' := 99) X d_Top_part_127 (by decide) ?_
      refine V_sub (lv' := [(0, .ref (G.2.2 + 0)), (5, .int v5), (6, .long v6), (8, .int (s.1 + (1 : Int32)))]) [1, 2, 3, 0] rfl ?_
      exact kc ((s.1 + (1 : Int32)), s.2) (Option.some.inj h).symm
    · rw [if_neg c12] at h
      refine V_aload_n (n := 0) X d_Top_part_118 rfl rfl rfl ?_
      refine V_iload (n := 3) X d_Top_part_119 rfl rfl ?_
      obtain ⟨x11, hx11, h⟩ := ob_s h
      refine V_cv (As := [.int s.1]) X (Z0 E) ml_Top_257 yq_Top_note (c_Top_note E.2.1 G s.1 s.2 x11 hx11 _ (Nat.le_refl _)) kd_0 rfl rfl (by omega) rfl (Nat.le_of_ble_eq_true rfl) d_Top_part_121 rfl (fun M9 hq => ?_)
      rw [hq]
      refine V_iinc (n := 3) (v := (s.1 + (1 : Int32))) (lv' := [(8, .int (s.1 + (1 : Int32))), (0, .ref (G.2.2 + 0)), (5, .int v5), (6, .long v6)]) X d_Top_part_124 rfl rfl (by decide) rfl rfl ?_
      refine V_goto (pc' := 99) X d_Top_part_127 (by decide) ?_
      refine V_sub (lv' := [(0, .ref (G.2.2 + 0)), (5, .int v5), (6, .long v6), (8, .int (s.1 + (1 : Int32)))]) [1, 2, 3, 0] rfl ?_
      exact kc ((s.1 + (1 : Int32)), x11) (Option.some.inj h).symm
theorem lp_Top_part_99_ok {E : Ev} {G : Gw} {d : Nat} {post : Int32 → Mem → Prop} (X : Cx E G b_Top_part "WomenByTheRoofs" 9 d (some .int)) (hD : 49 ≤ d)  (v5 : Int32) (v6 : Int64)   (n9 : Nat) (s : Int32 × Mem) (x : (Mem)) (h : iter (lb_Top_part_99 v5 v6) n9 s = some x) (kx0 : ∀ x9 : Mem, x = x9 → V E (0, 0) G 9 (QI E G post) x9 130 [(5, .int v5)] []) : V E (0, 0) G 9 (QI E G post) s.2 99 [(0, .ref (G.2.2 + 0)), (5, .int v5), (6, .long v6), (8, .int s.1)] [] :=
  iter_P (P := fun s : Int32 × Mem => V E (0, 0) G 9 (QI E G post) s.2 99 [(0, .ref (G.2.2 + 0)), (5, .int v5), (6, .long v6), (8, .int s.1)] []) (fun s o hb kc ky => lb_Top_part_99_ok X hD v5 v6 s o hb kc (fun x9 e9 => kx0 x9 (ky _ e9).symm)) n9 s h
def f_Top_part (v1 : Int32) (v2 : Int32) (M : Mem) : Option (Int32 × Mem) :=
  Option.bind (f_Top_areManAndWoman v1 v2 M) fun x1 =>
  if x1 = 0 then
  some ((-1 : Int32), M)
  else
  Option.bind (f_Nets_stairs 32 M) fun x2 =>
  if inb v1 8 = true then
  if inb v2 8 = true then
  Option.bind (f_Top_canTryst v1 v2 ((x2 &&& (((1 : Int64) <<< ((M.1 12 v1.toNatClampNeg).toInt64 &&& 63)) ^^^ (-1 : Int64))) &&& (((1 : Int64) <<< ((M.1 12 v2.toNatClampNeg).toInt64 &&& 63)) ^^^ (-1 : Int64))) M) fun x3 =>
  if x3 = 0 then
  Option.bind (iter (lb_Top_part_67 v1 v2 ((x2 &&& (((1 : Int64) <<< ((M.1 12 v1.toNatClampNeg).toInt64 &&& 63)) ^^^ (-1 : Int64))) &&& (((1 : Int64) <<< ((M.1 12 v2.toNatClampNeg).toInt64 &&& 63)) ^^^ (-1 : Int64))) M) FU (0 : Int32)) (Sum.elim (fun y8 => some ((-2 : Int32), M)) (fun y9 => Option.bind (f_Top_emptyRow M) fun x10 =>
  Option.bind (iter (lb_Top_part_99 y9.1 y9.2) FU ((0 : Int32), x10)) fun x14 =>
  some (y9.1, x14)))
  else
  some ((-2 : Int32), M)
  else none
  else none
theorem c_Top_part (l : Launch) (G : Gw)  (v1 : Int32) (v2 : Int32) (M : Mem) (x : Int32 × Mem) (h : f_Top_part v1 v2 M = some x) (d : Nat) (hD : 49 ≤ d) : Ci l G y_Top_part b_Top_part 9 (some .int) d [.ref (G.2.2 + 0), .int v1, .int v2] M (fun r9 M9 => r9 = x.1 ∧ M9 = x.2) := by
  refine Ci_of (by decide) (Nat.le_of_ble_eq_true rfl) (fun E hE X => ?_)
  subst hE
  have kr : ∀ x9 : Int32 × Mem, x = x9 → (fun r9 M9 => r9 = x.1 ∧ M9 = x.2) x9.1 x9.2 := fun x9 e9 => by subst e9; exact ⟨rfl, rfl⟩
  unfold f_Top_part at h
  refine V_aload_n (n := 0) X d_Top_part_0 rfl rfl rfl ?_
  refine V_iload_n (n := 1) X d_Top_part_1 rfl rfl rfl ?_
  refine V_iload_n (n := 2) X d_Top_part_2 rfl rfl rfl ?_
  obtain ⟨x1, hx1, h⟩ := ob_s h
  refine V_ci (As := [.int v1, .int v2]) X (Z0 E) ml_Top_337 yq_Top_areManAndWoman (c_Top_areManAndWoman E.2.1 G v1 v2 M x1 hx1 _ (Nat.le_refl _)) kd_0 rfl rfl (by omega) rfl (Nat.le_of_ble_eq_true rfl) d_Top_part_3 rfl (fun r9 M9 hq => ?_)
  rw [hq.1, hq.2]
  refine V_if_ne (tgt := 11) X d_Top_part_6 (by decide) rfl (fun c16 => ?_) (fun c16 => ?_)
  · rw [if_neg c16] at h
    refine V_aload_n (n := 0) X d_Top_part_11 rfl rfl rfl ?_
    refine V_getr (k2 := 32) X fo_Top_46 kd_0 rfl rf_0_6 d_Top_part_12 rfl ?_
    obtain ⟨x2, hx2, h⟩ := ob_s h
    refine V_cl (As := []) X (Z0 E) ml_Top_355 yq_Nets_stairs (c_Nets_stairs E.2.1 G 32 M x2 hx2 _ (Nat.le_refl _)) kd_32 rfl rfl (by omega) rfl (Nat.le_of_ble_eq_true rfl) d_Top_part_15 rfl (fun r9 M9 hq => ?_)
    rw [hq.1, hq.2]
    refine V_lconst (v := 1) X d_Top_part_18 (by decide) rfl ?_
    refine V_aload_n (n := 0) X d_Top_part_19 rfl rfl rfl ?_
    refine V_getr (k2 := 11) X fo_Top_33 kd_0 rfl rf_0_3 d_Top_part_20 rfl ?_
    refine V_getr (k2 := 12) X fo_Top_188 kd_11 rfl rf_11_0 d_Top_part_23 rfl ?_
    refine V_iload_n (n := 1) X d_Top_part_26 rfl rfl rfl ?_
    obtain ⟨hb, h⟩ := ifn h
    refine V_iald X kd_12 (inb_in ln_12 hb) d_Top_part_27 rfl ?_
    refine V_lshl X d_Top_part_28 rfl ?_
    refine V_ldc2_w (v := -1) X d_Top_part_29 kc_Top_303 rfl ?_
    refine V_lxor X d_Top_part_32 rfl ?_
    refine V_land X d_Top_part_33 rfl ?_
    refine V_lconst (v := 1) X d_Top_part_34 (by decide) rfl ?_
    refine V_aload_n (n := 0) X d_Top_part_35 rfl rfl rfl ?_
    refine V_getr (k2 := 11) X fo_Top_33 kd_0 rfl rf_0_3 d_Top_part_36 rfl ?_
    refine V_getr (k2 := 12) X fo_Top_188 kd_11 rfl rf_11_0 d_Top_part_39 rfl ?_
    refine V_iload_n (n := 2) X d_Top_part_42 rfl rfl rfl ?_
    obtain ⟨hb, h⟩ := ifn h
    refine V_iald X kd_12 (inb_in ln_12 hb) d_Top_part_43 rfl ?_
    refine V_lshl X d_Top_part_44 rfl ?_
    refine V_ldc2_w (v := -1) X d_Top_part_45 kc_Top_303 rfl ?_
    refine V_lxor X d_Top_part_48 rfl ?_
    refine V_land X d_Top_part_49 rfl ?_
    refine V_lstore_n (lv' := [(3, .long ((x2 &&& (((1 : Int64) <<< ((M.1 12 v1.toNatClampNeg).toInt64 &&& 63)) ^^^ (-1 : Int64))) &&& (((1 : Int64) <<< ((M.1 12 v2.toNatClampNeg).toInt64 &&& 63)) ^^^ (-1 : Int64)))), (0, .ref (G.2.2 + 0)), (1, .int v1), (2, .int v2)]) X d_Top_part_50 rfl (by decide) rfl rfl ?_
    refine V_aload_n (n := 1) X d_Top_part_51 rfl rfl rfl ?_
    refine V_iload_n (n := 2) X d_Top_part_52 rfl rfl rfl ?_
    refine V_iload_n (n := 3) X d_Top_part_53 rfl rfl rfl ?_
    refine V_lload_n (n := 0) X d_Top_part_54 rfl rfl rfl ?_
    obtain ⟨x3, hx3, h⟩ := ob_s h
    refine V_ci (As := [.int v1, .int v2, .long ((x2 &&& (((1 : Int64) <<< ((M.1 12 v1.toNatClampNeg).toInt64 &&& 63)) ^^^ (-1 : Int64))) &&& (((1 : Int64) <<< ((M.1 12 v2.toNatClampNeg).toInt64 &&& 63)) ^^^ (-1 : Int64)))]) X (Z0 E) ml_Top_359 yq_Top_canTryst (c_Top_canTryst E.2.1 G v1 v2 ((x2 &&& (((1 : Int64) <<< ((M.1 12 v1.toNatClampNeg).toInt64 &&& 63)) ^^^ (-1 : Int64))) &&& (((1 : Int64) <<< ((M.1 12 v2.toNatClampNeg).toInt64 &&& 63)) ^^^ (-1 : Int64))) M x3 hx3 _ (Nat.le_refl _)) kd_0 rfl rfl (by omega) rfl (Nat.le_of_ble_eq_true rfl) d_Top_part_55 rfl (fun r9 M9 hq => ?_)
    rw [hq.1, hq.2]
    refine V_if_eq (tgt := 64) X d_Top_part_58 (by decide) rfl (fun c15 => ?_) (fun c15 => ?_)
    · rw [if_pos c15] at h
      refine V_iconst (v := 0) X d_Top_part_64 (by decide) rfl ?_
      refine V_istore (lv' := [(5, .int (0 : Int32)), (3, .long ((x2 &&& (((1 : Int64) <<< ((M.1 12 v1.toNatClampNeg).toInt64 &&& 63)) ^^^ (-1 : Int64))) &&& (((1 : Int64) <<< ((M.1 12 v2.toNatClampNeg).toInt64 &&& 63)) ^^^ (-1 : Int64)))), (0, .ref (G.2.2 + 0)), (1, .int v1), (2, .int v2)]) X d_Top_part_65 (by decide) rfl rfl ?_
      refine V_sub (lv' := [(0, .ref (G.2.2 + 0)), (1, .int v1), (2, .int v2), (3, .long ((x2 &&& (((1 : Int64) <<< ((M.1 12 v1.toNatClampNeg).toInt64 &&& 63)) ^^^ (-1 : Int64))) &&& (((1 : Int64) <<< ((M.1 12 v2.toNatClampNeg).toInt64 &&& 63)) ^^^ (-1 : Int64)))), (5, .int (0 : Int32))]) [2, 3, 4, 1, 0] rfl ?_
      obtain ⟨x7, hx7, h⟩ := ob_s h
      rcases x7 with y8 | y9
      · simp only [Sum.elim_inl, Sum.elim_inr] at h
        refine (lp_Top_part_67_ok X hD v1 v2 ((x2 &&& (((1 : Int64) <<< ((M.1 12 v1.toNatClampNeg).toInt64 &&& 63)) ^^^ (-1 : Int64))) &&& (((1 : Int64) <<< ((M.1 12 v2.toNatClampNeg).toInt64 &&& 63)) ^^^ (-1 : Int64))) M _ _ _ hx7 (fun x9 e9 => ?_) (fun x9 e9 => by cases e9) :)
        cases e9
        refine V_bipush (v := -2) X d_Top_part_139 (by decide) rfl ?_
        exact V_iret X (kr ((-2 : Int32), M) (Option.some.inj h).symm) d_Top_part_141
      · simp only [Sum.elim_inl, Sum.elim_inr] at h
        refine (lp_Top_part_67_ok X hD v1 v2 ((x2 &&& (((1 : Int64) <<< ((M.1 12 v1.toNatClampNeg).toInt64 &&& 63)) ^^^ (-1 : Int64))) &&& (((1 : Int64) <<< ((M.1 12 v2.toNatClampNeg).toInt64 &&& 63)) ^^^ (-1 : Int64))) M _ _ _ hx7 (fun x9 e9 => by cases e9) (fun x9 e9 => ?_) :)
        cases e9
        refine V_aload_n (n := 0) X d_Top_part_92 rfl rfl rfl ?_
        obtain ⟨x10, hx10, h⟩ := ob_s h
        refine V_cv (As := []) X (Z0 E) ml_Top_251 yq_Top_emptyRow (c_Top_emptyRow E.2.1 G  M x10 hx10 _ (Nat.le_refl _)) kd_0 rfl rfl (by omega) rfl (Nat.le_of_ble_eq_true rfl) d_Top_part_93 rfl (fun M9 hq => ?_)
        rw [hq]
        refine V_iconst (v := 0) X d_Top_part_96 (by decide) rfl ?_
        refine V_istore (lv' := [(8, .int (0 : Int32)), (0, .ref (G.2.2 + 0)), (5, .int y9.1), (6, .long y9.2)]) X d_Top_part_97 (by decide) rfl rfl ?_
        refine V_sub (lv' := [(0, .ref (G.2.2 + 0)), (5, .int y9.1), (6, .long y9.2), (8, .int (0 : Int32))]) [1, 2, 3, 0] rfl ?_
        obtain ⟨x14, hx14, h⟩ := ob_s h
        refine (lp_Top_part_99_ok X hD y9.1 y9.2 _ _ _ hx14 (fun x9 e9 => ?_) :)
        subst e9
        refine V_iload (n := 0) X d_Top_part_130 rfl rfl ?_
        exact V_iret X (kr (y9.1, x14) (Option.some.inj h).symm) d_Top_part_132
    · rw [if_neg c15] at h
      refine V_bipush (v := -2) X d_Top_part_61 (by decide) rfl ?_
      exact V_iret X (kr ((-2 : Int32), M) (Option.some.inj h).symm) d_Top_part_63
  · rw [if_pos c16] at h
    refine V_iconst (v := -1) X d_Top_part_9 (by decide) rfl ?_
    exact V_iret X (kr ((-1 : Int32), M) (Option.some.inj h).symm) d_Top_part_10
def f_Top_planks (v1 : Int32) (v2 : Int32) (M : Mem) : Option (Int32 × Mem) :=
  Option.bind (f_Ground_holds (1 : Int32) v1 M) fun x1 =>
  if x1 = 0 then
  some ((-1 : Int32), M)
  else
  Option.bind (f_Ground_holds (1 : Int32) v2 M) fun x2 =>
  if x2 = 0 then
  some ((-1 : Int32), M)
  else
  Option.bind (f_Ways_bridged 32 v1 v2 M) fun x3 =>
  if x3.1 < (1000000 : Int32) then
  Option.bind (f_Top_emptyRow x3.2) fun x4 =>
  Option.bind (f_Top_note (x3.1 - x3.1 / (100 : Int32) * (100 : Int32)) x4) fun x5 =>
  some ((x3.1 / (100 : Int32)), x5)
  else
  some ((-2 : Int32), x3.2)
theorem c_Top_planks (l : Launch) (G : Gw)  (v1 : Int32) (v2 : Int32) (M : Mem) (x : Int32 × Mem) (h : f_Top_planks v1 v2 M = some x) (d : Nat) (hD : 4 ≤ d) : Ci l G y_Top_planks b_Top_planks 4 (some .int) d [.ref (G.2.2 + 0), .int v1, .int v2] M (fun r9 M9 => r9 = x.1 ∧ M9 = x.2) := by
  refine Ci_of (by decide) (Nat.le_of_ble_eq_true rfl) (fun E hE X => ?_)
  subst hE
  have kr : ∀ x9 : Int32 × Mem, x = x9 → (fun r9 M9 => r9 = x.1 ∧ M9 = x.2) x9.1 x9.2 := fun x9 e9 => by subst e9; exact ⟨rfl, rfl⟩
  unfold f_Top_planks at h
  refine V_aload_n (n := 0) X d_Top_planks_0 rfl rfl rfl ?_
  refine V_getr (k2 := 3) X fo_Top_19 kd_0 rfl rf_0_1 d_Top_planks_1 rfl ?_
  refine V_iconst (v := 1) X d_Top_planks_4 (by decide) rfl ?_
  refine V_iload_n (n := 1) X d_Top_planks_5 rfl rfl rfl ?_
  obtain ⟨x1, hx1, h⟩ := ob_s h
  refine V_ci (As := [.int (1 : Int32), .int v1]) X (Z0 E) ml_Top_305 yq_Ground_holds (c_Ground_holds E.2.1 G (1 : Int32) v1 M x1 hx1 _ (Nat.le_refl _)) kd_3 rfl rfl (by omega) rfl (Nat.le_of_ble_eq_true rfl) d_Top_planks_6 rfl (fun r9 M9 hq => ?_)
  rw [hq.1, hq.2]
  refine V_if_eq (tgt := 24) X d_Top_planks_9 (by decide) rfl (fun c8 => ?_) (fun c8 => ?_)
  · rw [if_pos c8] at h
    refine V_iconst (v := -1) X d_Top_planks_24 (by decide) rfl ?_
    exact V_iret X (kr ((-1 : Int32), M) (Option.some.inj h).symm) d_Top_planks_25
  · rw [if_neg c8] at h
    refine V_aload_n (n := 0) X d_Top_planks_12 rfl rfl rfl ?_
    refine V_getr (k2 := 3) X fo_Top_19 kd_0 rfl rf_0_1 d_Top_planks_13 rfl ?_
    refine V_iconst (v := 1) X d_Top_planks_16 (by decide) rfl ?_
    refine V_iload_n (n := 2) X d_Top_planks_17 rfl rfl rfl ?_
    obtain ⟨x2, hx2, h⟩ := ob_s h
    refine V_ci (As := [.int (1 : Int32), .int v2]) X (Z0 E) ml_Top_305 yq_Ground_holds (c_Ground_holds E.2.1 G (1 : Int32) v2 M x2 hx2 _ (Nat.le_refl _)) kd_3 rfl rfl (by omega) rfl (Nat.le_of_ble_eq_true rfl) d_Top_planks_18 rfl (fun r9 M9 hq => ?_)
    rw [hq.1, hq.2]
    refine V_if_ne (tgt := 26) X d_Top_planks_21 (by decide) rfl (fun c7 => ?_) (fun c7 => ?_)
    · rw [if_neg c7] at h
      refine V_aload_n (n := 0) X d_Top_planks_26 rfl rfl rfl ?_
      refine V_getr (k2 := 154) X fo_Top_91 kd_0 rfl rf_0_13 d_Top_planks_27 rfl ?_
      refine V_aload_n (n := 0) X d_Top_planks_30 rfl rfl rfl ?_
      refine V_getr (k2 := 3) X fo_Top_19 kd_0 rfl rf_0_1 d_Top_planks_31 rfl ?_
      refine V_aload_n (n := 0) X d_Top_planks_34 rfl rfl rfl ?_
      refine V_getr (k2 := 32) X fo_Top_46 kd_0 rfl rf_0_6 d_Top_planks_35 rfl ?_
      refine V_iload_n (n := 1) X d_Top_planks_38 rfl rfl rfl ?_
      refine V_iload_n (n := 2) X d_Top_planks_39 rfl rfl rfl ?_
      obtain ⟨x3, hx3, h⟩ := ob_s h
      refine V_ci (As := [.ref (G.2.2 + 3), .ref (G.2.2 + 32), .int v1, .int v2]) X (Z0 E) ml_Top_367 yq_Ways_bridged (c_Ways_bridged E.2.1 G 32 v1 v2 M x3 hx3 _ (Nat.le_refl _)) kd_154 rfl rfl (by omega) rfl (Nat.le_of_ble_eq_true rfl) d_Top_planks_40 rfl (fun r9 M9 hq => ?_)
      rw [hq.1, hq.2]
      refine V_istore_n (lv' := [(3, .int x3.1), (0, .ref (G.2.2 + 0)), (1, .int v1), (2, .int v2)]) X d_Top_planks_43 rfl (by decide) rfl rfl ?_
      refine V_iload_n (n := 0) X d_Top_planks_44 rfl rfl rfl ?_
      refine V_ldc_w (v := 1000000) X d_Top_planks_45 kc_Top_319 rfl ?_
      refine V_icmp_lt (tgt := 54) X d_Top_planks_48 (by decide) rfl (fun c6 => ?_) (fun c6 => ?_)
      · rw [if_pos c6] at h
        refine V_aload_n (n := 1) X d_Top_planks_54 rfl rfl rfl ?_
        obtain ⟨x4, hx4, h⟩ := ob_s h
        refine V_cv (As := []) X (Z0 E) ml_Top_251 yq_Top_emptyRow (c_Top_emptyRow E.2.1 G  x3.2 x4 hx4 _ (Nat.le_refl _)) kd_0 rfl rfl (by omega) rfl (Nat.le_of_ble_eq_true rfl) d_Top_planks_55 rfl (fun M9 hq => ?_)
        rw [hq]
        refine V_aload_n (n := 1) X d_Top_planks_58 rfl rfl rfl ?_
        refine V_iload_n (n := 0) X d_Top_planks_59 rfl rfl rfl ?_
        refine V_bipush (v := 100) X d_Top_planks_60 (by decide) rfl ?_
        refine V_irem X d_Top_planks_62 (by decide) rfl ?_
        obtain ⟨x5, hx5, h⟩ := ob_s h
        refine V_cv (As := [.int (x3.1 - x3.1 / (100 : Int32) * (100 : Int32))]) X (Z0 E) ml_Top_257 yq_Top_note (c_Top_note E.2.1 G (x3.1 - x3.1 / (100 : Int32) * (100 : Int32)) x4 x5 hx5 _ (Nat.le_refl _)) kd_0 rfl rfl (by omega) rfl (Nat.le_of_ble_eq_true rfl) d_Top_planks_63 rfl (fun M9 hq => ?_)
        rw [hq]
        refine V_iload_n (n := 0) X d_Top_planks_66 rfl rfl rfl ?_
        refine V_bipush (v := 100) X d_Top_planks_67 (by decide) rfl ?_
        refine V_idiv X d_Top_planks_69 (by decide) rfl ?_
        exact V_iret X (kr ((x3.1 / (100 : Int32)), x5) (Option.some.inj h).symm) d_Top_planks_70
      · rw [if_neg c6] at h
        refine V_bipush (v := -2) X d_Top_planks_51 (by decide) rfl ?_
        exact V_iret X (kr ((-2 : Int32), x3.2) (Option.some.inj h).symm) d_Top_planks_53
    · rw [if_pos c7] at h
      refine V_iconst (v := -1) X d_Top_planks_24 (by decide) rfl ?_
      exact V_iret X (kr ((-1 : Int32), M) (Option.some.inj h).symm) d_Top_planks_25
def j_Top_fire_19 (v1 : Int32) (M : Mem) : Option (Int32 × Mem) :=
  mem_ (s_i M 0 16 v1) fun M1 =>
  some ((M.1 0 16), M1)
theorem j_Top_fire_19_ok {E : Ev} {G : Gw} {d : Nat} {post : Int32 → Mem → Prop} (X : Cx E G b_Top_fire "WomenByTheRoofs" 3 d (some .int)) (hD : 2 ≤ d)  (v1 : Int32)  (M : Mem)  (o : Int32 × Mem) (h : j_Top_fire_19 v1 M = some o) (kr : ∀ x9 : Int32 × Mem, o = x9 → post x9.1 x9.2) : V E (0, 0) G 3 (QI E G post) M 19 [(0, .ref (G.2.2 + 0)), (1, .int v1)] [] := by
  unfold j_Top_fire_19 at h
  refine V_aload_n (n := 0) X d_Top_fire_19 rfl rfl rfl ?_
  refine V_geti X fo_Top_103 kd_0 rfl d_Top_fire_20 rfl ?_
  refine V_istore_n (lv' := [(2, .int (M.1 0 16)), (0, .ref (G.2.2 + 0)), (1, .int v1)]) X d_Top_fire_23 rfl (by decide) rfl rfl ?_
  refine V_aload_n (n := 1) X d_Top_fire_24 rfl rfl rfl ?_
  refine V_iload_n (n := 2) X d_Top_fire_25 rfl rfl rfl ?_
  obtain ⟨M1, eM1, h⟩ := memS h
  refine V_putI X fp_Top_103 kd_0 rfl d_Top_fire_26 rfl ?_
  rw [← eM1]
  refine V_iload_n (n := 0) X d_Top_fire_29 rfl rfl rfl ?_
  exact V_iret X (kr ((M.1 0 16), M1) (Option.some.inj h).symm) d_Top_fire_30
def f_Top_fire (v1 : Int32) (M : Mem) : Option (Int32 × Mem) :=
  if v1 = (-1 : Int32) then
  j_Top_fire_19 v1 M
  else
  Option.bind (f_Ground_has v1 M) fun x2 =>
  if x2 = 0 then
  some ((-2 : Int32), M)
  else
  j_Top_fire_19 v1 M
theorem c_Top_fire (l : Launch) (G : Gw)  (v1 : Int32) (M : Mem) (x : Int32 × Mem) (h : f_Top_fire v1 M = some x) (d : Nat) (hD : 2 ≤ d) : Ci l G y_Top_fire b_Top_fire 3 (some .int) d [.ref (G.2.2 + 0), .int v1] M (fun r9 M9 => r9 = x.1 ∧ M9 = x.2) := by
  refine Ci_of (by decide) (Nat.le_of_ble_eq_true rfl) (fun E hE X => ?_)
  subst hE
  have kr : ∀ x9 : Int32 × Mem, x = x9 → (fun r9 M9 => r9 = x.1 ∧ M9 = x.2) x9.1 x9.2 := fun x9 e9 => by subst e9; exact ⟨rfl, rfl⟩
  unfold f_Top_fire at h
  refine V_iload_n (n := 1) X d_Top_fire_0 rfl rfl rfl ?_
  refine V_iconst (v := -1) X d_Top_fire_1 (by decide) rfl ?_
  refine V_icmp_eq (tgt := 19) X d_Top_fire_2 (by decide) rfl (fun c4 => ?_) (fun c4 => ?_)
  · rw [if_pos c4] at h
    exact j_Top_fire_19_ok X hD v1 M _ h kr
  · rw [if_neg c4] at h
    refine V_aload_n (n := 0) X d_Top_fire_5 rfl rfl rfl ?_
    refine V_getr (k2 := 3) X fo_Top_19 kd_0 rfl rf_0_1 d_Top_fire_6 rfl ?_
    refine V_iload_n (n := 1) X d_Top_fire_9 rfl rfl rfl ?_
    obtain ⟨x2, hx2, h⟩ := ob_s h
    refine V_ci (As := [.int v1]) X (Z0 E) ml_Top_163 yq_Ground_has (c_Ground_has E.2.1 G v1 M x2 hx2 _ (Nat.le_refl _)) kd_3 rfl rfl (by omega) rfl (Nat.le_of_ble_eq_true rfl) d_Top_fire_10 rfl (fun r9 M9 hq => ?_)
    rw [hq.1, hq.2]
    refine V_if_ne (tgt := 19) X d_Top_fire_13 (by decide) rfl (fun c3 => ?_) (fun c3 => ?_)
    · rw [if_neg c3] at h
      exact j_Top_fire_19_ok X hD v1 M _ h kr
    · rw [if_pos c3] at h
      refine V_bipush (v := -2) X d_Top_fire_16 (by decide) rfl ?_
      exact V_iret X (kr ((-2 : Int32), M) (Option.some.inj h).symm) d_Top_fire_18
def lb_Top_stepsToFire_38 (M : Mem) (s : Int32 × Int32) : Option ((Int32 × Int32) ⊕ ((Int32))) :=
  if (4 : Int32) ≤ s.2 then
  some (.inr s.1)
  else
  Option.bind (f_Ground_beside (M.1 0 16) s.2 M) fun x2 =>
  if x2 = (-1 : Int32) then
  some (.inl (s.1, (s.2 + (1 : Int32))))
  else
  if inb x2 36 = true then
  some (.inl ((if (M.1 155 x2.toNatClampNeg) < s.1 then (M.1 155 x2.toNatClampNeg) else s.1), (s.2 + (1 : Int32))))
  else none
theorem lb_Top_stepsToFire_38_ok {E : Ev} {G : Gw} {d : Nat} {post : Int32 → Mem → Prop} (X : Cx E G b_Top_stepsToFire "WomenByTheRoofs" 5 d (some .int)) (hD : 3 ≤ d)    (M : Mem) (s : Int32 × Int32) (o : (Int32 × Int32) ⊕ ((Int32))) (h : lb_Top_stepsToFire_38 M s = some o) (kc : ∀ s9 : Int32 × Int32, o = .inl s9 → V E (0, 0) G 5 (QI E G post) M 38 [(0, .ref (G.2.2 + 0)), (2, .int s9.1), (3, .int s9.2)] []) (kx0 : ∀ x9 : Int32, o = .inr x9 → V E (0, 0) G 5 (QI E G post) M 84 [(2, .int x9)] []) : V E (0, 0) G 5 (QI E G post) M 38 [(0, .ref (G.2.2 + 0)), (2, .int s.1), (3, .int s.2)] [] := by
  unfold lb_Top_stepsToFire_38 at h
  refine V_iload_n (n := 2) X d_Top_stepsToFire_38 rfl rfl rfl ?_
  refine V_iconst (v := 4) X d_Top_stepsToFire_39 (by decide) rfl ?_
  refine V_icmp_ge (tgt := 84) X d_Top_stepsToFire_40 (by decide) rfl (fun c4 => ?_) (fun c4 => ?_)
  · rw [if_pos c4] at h
    refine V_sub (lv' := [(2, .int s.1)]) [1] rfl ?_
    exact kx0 s.1 (Option.some.inj h).symm
  · rw [if_neg c4] at h
    refine V_aload_n (n := 0) X d_Top_stepsToFire_43 rfl rfl rfl ?_
    refine V_getr (k2 := 3) X fo_Top_19 kd_0 rfl rf_0_1 d_Top_stepsToFire_44 rfl ?_
    refine V_aload_n (n := 0) X d_Top_stepsToFire_47 rfl rfl rfl ?_
    refine V_geti X fo_Top_103 kd_0 rfl d_Top_stepsToFire_48 rfl ?_
    refine V_iload_n (n := 2) X d_Top_stepsToFire_51 rfl rfl rfl ?_
    obtain ⟨x2, hx2, h⟩ := ob_s h
    refine V_ci (As := [.int (M.1 0 16), .int s.2]) X (Z0 E) ml_Top_492 yq_Ground_beside (c_Ground_beside E.2.1 G (M.1 0 16) s.2 M x2 hx2 _ (Nat.le_refl _)) kd_3 rfl rfl (by omega) rfl (Nat.le_of_ble_eq_true rfl) d_Top_stepsToFire_52 rfl (fun r9 M9 hq => ?_)
    rw [hq.1, hq.2]
    refine V_istore (lv' := [(4, .int x2), (0, .ref (G.2.2 + 0)), (2, .int s.1), (3, .int s.2)]) X d_Top_stepsToFire_55 (by decide) rfl rfl ?_
    refine V_iload (n := 0) X d_Top_stepsToFire_57 rfl rfl ?_
    refine V_iconst (v := -1) X d_Top_stepsToFire_59 (by decide) rfl ?_
    refine V_icmp_eq (tgt := 78) X d_Top_stepsToFire_60 (by decide) rfl (fun c3 => ?_) (fun c3 => ?_)
    · rw [if_pos c3] at h
      refine V_iinc (n := 3) (v := (s.2 + (1 : Int32))) (lv' := [(3, .int (s.2 + (1 : Int32))), (4, .int x2), (0, .ref (G.2.2 + 0)), (2, .int s.1)]) X d_Top_stepsToFire_78 rfl rfl (by decide) rfl rfl ?_
      refine V_goto (pc' := 38) X d_Top_stepsToFire_81 (by decide) ?_
      refine V_sub (lv' := [(0, .ref (G.2.2 + 0)), (2, .int s.1), (3, .int (s.2 + (1 : Int32)))]) [2, 3, 0] rfl ?_
      exact kc (s.1, (s.2 + (1 : Int32))) (Option.some.inj h).symm
    · rw [if_neg c3] at h
      refine V_iload_n (n := 2) X d_Top_stepsToFire_63 rfl rfl rfl ?_
      refine V_aload_n (n := 1) X d_Top_stepsToFire_64 rfl rfl rfl ?_
      refine V_getr (k2 := 154) X fo_Top_91 kd_0 rfl rf_0_13 d_Top_stepsToFire_65 rfl ?_
      refine V_getr (k2 := 155) X fo_Top_312 kd_154 rfl rf_154_0 d_Top_stepsToFire_68 rfl ?_
      refine V_iload (n := 0) X d_Top_stepsToFire_71 rfl rfl ?_
      obtain ⟨hb, h⟩ := ifn h
      refine V_iald X kd_155 (inb_in ln_155 hb) d_Top_stepsToFire_73 rfl ?_
      refine V_mmin X (Z0 E) mm_Top_495 (by omega) (Nat.le_of_ble_eq_true rfl) d_Top_stepsToFire_74 rfl ?_
      refine V_istore_n (lv' := [(2, .int (if (M.1 155 x2.toNatClampNeg) < s.1 then (M.1 155 x2.toNatClampNeg) else s.1)), (4, .int x2), (0, .ref (G.2.2 + 0)), (3, .int s.2)]) X d_Top_stepsToFire_77 rfl (by decide) rfl rfl ?_
      refine V_iinc (n := 3) (v := (s.2 + (1 : Int32))) (lv' := [(3, .int (s.2 + (1 : Int32))), (2, .int (if (M.1 155 x2.toNatClampNeg) < s.1 then (M.1 155 x2.toNatClampNeg) else s.1)), (4, .int x2), (0, .ref (G.2.2 + 0))]) X d_Top_stepsToFire_78 rfl rfl (by decide) rfl rfl ?_
      refine V_goto (pc' := 38) X d_Top_stepsToFire_81 (by decide) ?_
      refine V_sub (lv' := [(0, .ref (G.2.2 + 0)), (2, .int (if (M.1 155 x2.toNatClampNeg) < s.1 then (M.1 155 x2.toNatClampNeg) else s.1)), (3, .int (s.2 + (1 : Int32)))]) [3, 1, 0] rfl ?_
      exact kc ((if (M.1 155 x2.toNatClampNeg) < s.1 then (M.1 155 x2.toNatClampNeg) else s.1), (s.2 + (1 : Int32))) (Option.some.inj h).symm
theorem lp_Top_stepsToFire_38_ok {E : Ev} {G : Gw} {d : Nat} {post : Int32 → Mem → Prop} (X : Cx E G b_Top_stepsToFire "WomenByTheRoofs" 5 d (some .int)) (hD : 3 ≤ d)    (M : Mem) (n9 : Nat) (s : Int32 × Int32) (x : (Int32)) (h : iter (lb_Top_stepsToFire_38 M) n9 s = some x) (kx0 : ∀ x9 : Int32, x = x9 → V E (0, 0) G 5 (QI E G post) M 84 [(2, .int x9)] []) : V E (0, 0) G 5 (QI E G post) M 38 [(0, .ref (G.2.2 + 0)), (2, .int s.1), (3, .int s.2)] [] :=
  iter_P (P := fun s : Int32 × Int32 => V E (0, 0) G 5 (QI E G post) M 38 [(0, .ref (G.2.2 + 0)), (2, .int s.1), (3, .int s.2)] []) (fun s o hb kc ky => lb_Top_stepsToFire_38_ok X hD M s o hb kc (fun x9 e9 => kx0 x9 (ky _ e9).symm)) n9 s h
def f_Top_stepsToFire (v1 : Int32) (M : Mem) : Option (Int32 × Mem) :=
  if inb v1 8 = true then
  if inb v1 8 = true then
  Option.bind (f_Nets_measure 32 (M.1 13 v1.toNatClampNeg) (M.1 12 v1.toNatClampNeg) 155 M) fun x1 =>
  Option.bind (iter (lb_Top_stepsToFire_38 x1) FU ((1000000 : Int32), (0 : Int32))) fun x5 =>
  some (x5, x1)
  else none
  else none
theorem c_Top_stepsToFire (l : Launch) (G : Gw)  (v1 : Int32) (M : Mem) (x : Int32 × Mem) (h : f_Top_stepsToFire v1 M = some x) (d : Nat) (hD : 3 ≤ d) : Ci l G y_Top_stepsToFire b_Top_stepsToFire 5 (some .int) d [.ref (G.2.2 + 0), .int v1] M (fun r9 M9 => r9 = x.1 ∧ M9 = x.2) := by
  refine Ci_of (by decide) (Nat.le_of_ble_eq_true rfl) (fun E hE X => ?_)
  subst hE
  have kr : ∀ x9 : Int32 × Mem, x = x9 → (fun r9 M9 => r9 = x.1 ∧ M9 = x.2) x9.1 x9.2 := fun x9 e9 => by subst e9; exact ⟨rfl, rfl⟩
  unfold f_Top_stepsToFire at h
  refine V_aload_n (n := 0) X d_Top_stepsToFire_0 rfl rfl rfl ?_
  refine V_getr (k2 := 32) X fo_Top_46 kd_0 rfl rf_0_6 d_Top_stepsToFire_1 rfl ?_
  refine V_aload_n (n := 0) X d_Top_stepsToFire_4 rfl rfl rfl ?_
  refine V_getr (k2 := 11) X fo_Top_33 kd_0 rfl rf_0_3 d_Top_stepsToFire_5 rfl ?_
  refine V_getr (k2 := 13) X fo_Top_191 kd_11 rfl rf_11_1 d_Top_stepsToFire_8 rfl ?_
  refine V_iload_n (n := 1) X d_Top_stepsToFire_11 rfl rfl rfl ?_
  obtain ⟨hb, h⟩ := ifn h
  refine V_iald X kd_13 (inb_in ln_13 hb) d_Top_stepsToFire_12 rfl ?_
  refine V_aload_n (n := 0) X d_Top_stepsToFire_13 rfl rfl rfl ?_
  refine V_getr (k2 := 11) X fo_Top_33 kd_0 rfl rf_0_3 d_Top_stepsToFire_14 rfl ?_
  refine V_getr (k2 := 12) X fo_Top_188 kd_11 rfl rf_11_0 d_Top_stepsToFire_17 rfl ?_
  refine V_iload_n (n := 1) X d_Top_stepsToFire_20 rfl rfl rfl ?_
  obtain ⟨hb, h⟩ := ifn h
  refine V_iald X kd_12 (inb_in ln_12 hb) d_Top_stepsToFire_21 rfl ?_
  refine V_aload_n (n := 0) X d_Top_stepsToFire_22 rfl rfl rfl ?_
  refine V_getr (k2 := 154) X fo_Top_91 kd_0 rfl rf_0_13 d_Top_stepsToFire_23 rfl ?_
  refine V_getr (k2 := 155) X fo_Top_312 kd_154 rfl rf_154_0 d_Top_stepsToFire_26 rfl ?_
  obtain ⟨x1, hx1, h⟩ := ob_s h
  refine V_cv (As := [.int (M.1 13 v1.toNatClampNeg), .int (M.1 12 v1.toNatClampNeg), .ref (G.2.2 + 155)]) X (Z0 E) ml_Top_315 yq_Nets_measure (c_Nets_measure E.2.1 G 32 (M.1 13 v1.toNatClampNeg) (M.1 12 v1.toNatClampNeg) 155 M x1 hx1 _ (Nat.le_refl _)) kd_32 rfl rfl (by omega) rfl (Nat.le_of_ble_eq_true rfl) d_Top_stepsToFire_29 rfl (fun M9 hq => ?_)
  rw [hq]
  refine V_ldc_w (v := 1000000) X d_Top_stepsToFire_32 kc_Top_319 rfl ?_
  refine V_istore_n (lv' := [(2, .int (1000000 : Int32)), (0, .ref (G.2.2 + 0)), (1, .int v1)]) X d_Top_stepsToFire_35 rfl (by decide) rfl rfl ?_
  refine V_iconst (v := 0) X d_Top_stepsToFire_36 (by decide) rfl ?_
  refine V_istore_n (lv' := [(3, .int (0 : Int32)), (2, .int (1000000 : Int32)), (0, .ref (G.2.2 + 0)), (1, .int v1)]) X d_Top_stepsToFire_37 rfl (by decide) rfl rfl ?_
  refine V_sub (lv' := [(0, .ref (G.2.2 + 0)), (2, .int (1000000 : Int32)), (3, .int (0 : Int32))]) [2, 1, 0] rfl ?_
  obtain ⟨x5, hx5, h⟩ := ob_s h
  refine (lp_Top_stepsToFire_38_ok X hD x1 _ _ _ hx5 (fun x9 e9 => ?_) :)
  subst e9
  refine V_iload_n (n := 0) X d_Top_stepsToFire_84 rfl rfl rfl ?_
  exact V_iret X (kr (x5, x1) (Option.some.inj h).symm) d_Top_stepsToFire_85
def lb_Top_fights_27 (v1 : Int32) (s : Int32 × Int32 × Mem) : Option ((Int32 × Int32 × Mem) ⊕ ((Int32 × Mem))) :=
  if (s.2.2.1 6 4) ≤ s.2.1 then
  some (.inr (s.1, s.2.2))
  else
  Option.bind (f_Top_stepsToFire s.2.1 s.2.2) fun x1 =>
  if v1 < x1.1 then
  some (.inl (s.1, (s.2.1 + (1 : Int32)), x1.2))
  else
  some (.inl ((s.1 ||| ((1 : Int32) <<< (s.2.1 &&& 31))), (s.2.1 + (1 : Int32)), x1.2))
theorem lb_Top_fights_27_ok {E : Ev} {G : Gw} {d : Nat} {post : Int32 → Mem → Prop} (X : Cx E G b_Top_fights "WomenByTheRoofs" 4 d (some .int)) (hD : 4 ≤ d)  (v1 : Int32)   (s : Int32 × Int32 × Mem) (o : (Int32 × Int32 × Mem) ⊕ ((Int32 × Mem))) (h : lb_Top_fights_27 v1 s = some o) (kc : ∀ s9 : Int32 × Int32 × Mem, o = .inl s9 → V E (0, 0) G 4 (QI E G post) s9.2.2 27 [(0, .ref (G.2.2 + 0)), (1, .int v1), (2, .int s9.1), (3, .int s9.2.1)] []) (kx0 : ∀ x9 : Int32 × Mem, o = .inr x9 → V E (0, 0) G 4 (QI E G post) x9.2 59 [(0, .ref (G.2.2 + 0)), (2, .int x9.1)] []) : V E (0, 0) G 4 (QI E G post) s.2.2 27 [(0, .ref (G.2.2 + 0)), (1, .int v1), (2, .int s.1), (3, .int s.2.1)] [] := by
  unfold lb_Top_fights_27 at h
  refine V_iload_n (n := 3) X d_Top_fights_27 rfl rfl rfl ?_
  refine V_aload_n (n := 0) X d_Top_fights_28 rfl rfl rfl ?_
  refine V_getr (k2 := 6) X fo_Top_26 kd_0 rfl rf_0_2 d_Top_fights_29 rfl ?_
  refine V_geti X fo_Top_129 kd_6 rfl d_Top_fights_32 rfl ?_
  refine V_icmp_ge (tgt := 59) X d_Top_fights_35 (by decide) rfl (fun c3 => ?_) (fun c3 => ?_)
  · rw [if_pos c3] at h
    refine V_sub (lv' := [(0, .ref (G.2.2 + 0)), (2, .int s.1)]) [0, 2] rfl ?_
    exact kx0 (s.1, s.2.2) (Option.some.inj h).symm
  · rw [if_neg c3] at h
    refine V_aload_n (n := 0) X d_Top_fights_38 rfl rfl rfl ?_
    refine V_iload_n (n := 3) X d_Top_fights_39 rfl rfl rfl ?_
    obtain ⟨x1, hx1, h⟩ := ob_s h
    refine V_ci (As := [.int s.2.1]) X (Z0 E) ml_Top_371 yq_Top_stepsToFire (c_Top_stepsToFire E.2.1 G s.2.1 s.2.2 x1 hx1 _ (Nat.le_refl _)) kd_0 rfl rfl (by omega) rfl (Nat.le_of_ble_eq_true rfl) d_Top_fights_40 rfl (fun r9 M9 hq => ?_)
    rw [hq.1, hq.2]
    refine V_iload_n (n := 1) X d_Top_fights_43 rfl rfl rfl ?_
    refine V_icmp_gt (tgt := 53) X d_Top_fights_44 (by decide) rfl (fun c2 => ?_) (fun c2 => ?_)
    · rw [if_pos c2] at h
      refine V_iinc (n := 3) (v := (s.2.1 + (1 : Int32))) (lv' := [(3, .int (s.2.1 + (1 : Int32))), (0, .ref (G.2.2 + 0)), (1, .int v1), (2, .int s.1)]) X d_Top_fights_53 rfl rfl (by decide) rfl rfl ?_
      refine V_goto (pc' := 27) X d_Top_fights_56 (by decide) ?_
      refine V_sub (lv' := [(0, .ref (G.2.2 + 0)), (1, .int v1), (2, .int s.1), (3, .int (s.2.1 + (1 : Int32)))]) [1, 2, 3, 0] rfl ?_
      exact kc (s.1, (s.2.1 + (1 : Int32)), x1.2) (Option.some.inj h).symm
    · rw [if_neg c2] at h
      refine V_iload_n (n := 2) X d_Top_fights_47 rfl rfl rfl ?_
      refine V_iconst (v := 1) X d_Top_fights_48 (by decide) rfl ?_
      refine V_iload_n (n := 3) X d_Top_fights_49 rfl rfl rfl ?_
      refine V_ishl X d_Top_fights_50 rfl ?_
      refine V_ior X d_Top_fights_51 rfl ?_
      refine V_istore_n (lv' := [(2, .int (s.1 ||| ((1 : Int32) <<< (s.2.1 &&& 31)))), (0, .ref (G.2.2 + 0)), (1, .int v1), (3, .int s.2.1)]) X d_Top_fights_52 rfl (by decide) rfl rfl ?_
      refine V_iinc (n := 3) (v := (s.2.1 + (1 : Int32))) (lv' := [(3, .int (s.2.1 + (1 : Int32))), (2, .int (s.1 ||| ((1 : Int32) <<< (s.2.1 &&& 31)))), (0, .ref (G.2.2 + 0)), (1, .int v1)]) X d_Top_fights_53 rfl rfl (by decide) rfl rfl ?_
      refine V_goto (pc' := 27) X d_Top_fights_56 (by decide) ?_
      refine V_sub (lv' := [(0, .ref (G.2.2 + 0)), (1, .int v1), (2, .int (s.1 ||| ((1 : Int32) <<< (s.2.1 &&& 31)))), (3, .int (s.2.1 + (1 : Int32)))]) [2, 3, 1, 0] rfl ?_
      exact kc ((s.1 ||| ((1 : Int32) <<< (s.2.1 &&& 31))), (s.2.1 + (1 : Int32)), x1.2) (Option.some.inj h).symm
theorem lp_Top_fights_27_ok {E : Ev} {G : Gw} {d : Nat} {post : Int32 → Mem → Prop} (X : Cx E G b_Top_fights "WomenByTheRoofs" 4 d (some .int)) (hD : 4 ≤ d)  (v1 : Int32)   (n9 : Nat) (s : Int32 × Int32 × Mem) (x : (Int32 × Mem)) (h : iter (lb_Top_fights_27 v1) n9 s = some x) (kx0 : ∀ x9 : Int32 × Mem, x = x9 → V E (0, 0) G 4 (QI E G post) x9.2 59 [(0, .ref (G.2.2 + 0)), (2, .int x9.1)] []) : V E (0, 0) G 4 (QI E G post) s.2.2 27 [(0, .ref (G.2.2 + 0)), (1, .int v1), (2, .int s.1), (3, .int s.2.1)] [] :=
  iter_P (P := fun s : Int32 × Int32 × Mem => V E (0, 0) G 4 (QI E G post) s.2.2 27 [(0, .ref (G.2.2 + 0)), (1, .int v1), (2, .int s.1), (3, .int s.2.1)] []) (fun s o hb kc ky => lb_Top_fights_27_ok X hD v1 s o hb kc (fun x9 e9 => kx0 x9 (ky _ e9).symm)) n9 s h
def f_Top_fights (v1 : Int32) (M : Mem) : Option (Int32 × Mem) :=
  if v1 < 0 then
  some ((-1 : Int32), M)
  else
  if v1 ≤ (60 : Int32) then
  if (M.1 0 16) = (-1 : Int32) then
  some ((-2 : Int32), M)
  else
  Option.bind (iter (lb_Top_fights_27 v1) FU ((0 : Int32), (0 : Int32), M)) fun x4 =>
  Option.bind (f_JInteger_bitCount (x4.1 &&& (x4.2.1 6 5))) fun x5 =>
  Option.bind (f_Top_emptyRow x4.2) fun x6 =>
  Option.bind (f_JInteger_bitCount x4.1) fun x7 =>
  Option.bind (f_Top_note (x7 - x5) x6) fun x8 =>
  Option.bind (f_Top_note x5 x8) fun x9 =>
  some (x4.1, x9)
  else
  some ((-1 : Int32), M)
theorem c_Top_fights (l : Launch) (G : Gw)  (v1 : Int32) (M : Mem) (x : Int32 × Mem) (h : f_Top_fights v1 M = some x) (d : Nat) (hD : 4 ≤ d) : Ci l G y_Top_fights b_Top_fights 4 (some .int) d [.ref (G.2.2 + 0), .int v1] M (fun r9 M9 => r9 = x.1 ∧ M9 = x.2) := by
  refine Ci_of (by decide) (Nat.le_of_ble_eq_true rfl) (fun E hE X => ?_)
  subst hE
  have kr : ∀ x9 : Int32 × Mem, x = x9 → (fun r9 M9 => r9 = x.1 ∧ M9 = x.2) x9.1 x9.2 := fun x9 e9 => by subst e9; exact ⟨rfl, rfl⟩
  unfold f_Top_fights at h
  refine V_iload_n (n := 1) X d_Top_fights_0 rfl rfl rfl ?_
  refine V_if_lt (tgt := 10) X d_Top_fights_1 (by decide) rfl (fun c12 => ?_) (fun c12 => ?_)
  · rw [if_pos c12] at h
    refine V_iconst (v := -1) X d_Top_fights_10 (by decide) rfl ?_
    exact V_iret X (kr ((-1 : Int32), M) (Option.some.inj h).symm) d_Top_fights_11
  · rw [if_neg c12] at h
    refine V_iload_n (n := 1) X d_Top_fights_4 rfl rfl rfl ?_
    refine V_bipush (v := 60) X d_Top_fights_5 (by decide) rfl ?_
    refine V_icmp_le (tgt := 12) X d_Top_fights_7 (by decide) rfl (fun c11 => ?_) (fun c11 => ?_)
    · rw [if_pos c11] at h
      refine V_aload_n (n := 0) X d_Top_fights_12 rfl rfl rfl ?_
      refine V_geti X fo_Top_103 kd_0 rfl d_Top_fights_13 rfl ?_
      refine V_iconst (v := -1) X d_Top_fights_16 (by decide) rfl ?_
      refine V_icmp_ne (tgt := 23) X d_Top_fights_17 (by decide) rfl (fun c10 => ?_) (fun c10 => ?_)
      · rw [if_neg c10] at h
        refine V_iconst (v := 0) X d_Top_fights_23 (by decide) rfl ?_
        refine V_istore_n (lv' := [(2, .int (0 : Int32)), (0, .ref (G.2.2 + 0)), (1, .int v1)]) X d_Top_fights_24 rfl (by decide) rfl rfl ?_
        refine V_iconst (v := 0) X d_Top_fights_25 (by decide) rfl ?_
        refine V_istore_n (lv' := [(3, .int (0 : Int32)), (2, .int (0 : Int32)), (0, .ref (G.2.2 + 0)), (1, .int v1)]) X d_Top_fights_26 rfl (by decide) rfl rfl ?_
        refine V_sub (lv' := [(0, .ref (G.2.2 + 0)), (1, .int v1), (2, .int (0 : Int32)), (3, .int (0 : Int32))]) [2, 3, 1, 0] rfl ?_
        obtain ⟨x4, hx4, h⟩ := ob_s h
        refine (lp_Top_fights_27_ok X hD v1 _ _ _ hx4 (fun x9 e9 => ?_) :)
        subst e9
        refine V_iload_n (n := 1) X d_Top_fights_59 rfl rfl rfl ?_
        refine V_aload_n (n := 0) X d_Top_fights_60 rfl rfl rfl ?_
        refine V_getr (k2 := 6) X fo_Top_26 kd_0 rfl rf_0_2 d_Top_fights_61 rfl ?_
        refine V_geti X fo_Top_374 kd_6 rfl d_Top_fights_64 rfl ?_
        refine V_iand X d_Top_fights_67 rfl ?_
        obtain ⟨x5, hx5, h⟩ := ob_s h
        refine V_si (As := [.int (x4.1 &&& (x4.2.1 6 5))]) X (Z0 E) ml_Top_236 yq_JInteger_bitCount (c_JInteger_bitCount E.2.1 G (x4.1 &&& (x4.2.1 6 5)) x4.2 x5 hx5 _ (Nat.le_refl _)) rfl (by omega) rfl (Nat.le_of_ble_eq_true rfl) d_Top_fights_68 rfl (fun r9 M9 hq => ?_)
        rw [hq.1, hq.2]
        refine V_istore_n (lv' := [(3, .int x5), (0, .ref (G.2.2 + 0)), (2, .int x4.1)]) X d_Top_fights_71 rfl (by decide) rfl rfl ?_
        refine V_aload_n (n := 1) X d_Top_fights_72 rfl rfl rfl ?_
        obtain ⟨x6, hx6, h⟩ := ob_s h
        refine V_cv (As := []) X (Z0 E) ml_Top_251 yq_Top_emptyRow (c_Top_emptyRow E.2.1 G  x4.2 x6 hx6 _ (Nat.le_refl _)) kd_0 rfl rfl (by omega) rfl (Nat.le_of_ble_eq_true rfl) d_Top_fights_73 rfl (fun M9 hq => ?_)
        rw [hq]
        refine V_aload_n (n := 1) X d_Top_fights_76 rfl rfl rfl ?_
        refine V_iload_n (n := 2) X d_Top_fights_77 rfl rfl rfl ?_
        obtain ⟨x7, hx7, h⟩ := ob_s h
        refine V_si (As := [.int x4.1]) X (Z0 E) ml_Top_236 yq_JInteger_bitCount (c_JInteger_bitCount E.2.1 G x4.1 x6 x7 hx7 _ (Nat.le_refl _)) rfl (by omega) rfl (Nat.le_of_ble_eq_true rfl) d_Top_fights_78 rfl (fun r9 M9 hq => ?_)
        rw [hq.1, hq.2]
        refine V_iload_n (n := 0) X d_Top_fights_81 rfl rfl rfl ?_
        refine V_isub X d_Top_fights_82 rfl ?_
        obtain ⟨x8, hx8, h⟩ := ob_s h
        refine V_cv (As := [.int (x7 - x5)]) X (Z0 E) ml_Top_257 yq_Top_note (c_Top_note E.2.1 G (x7 - x5) x6 x8 hx8 _ (Nat.le_refl _)) kd_0 rfl rfl (by omega) rfl (Nat.le_of_ble_eq_true rfl) d_Top_fights_83 rfl (fun M9 hq => ?_)
        rw [hq]
        refine V_aload_n (n := 1) X d_Top_fights_86 rfl rfl rfl ?_
        refine V_iload_n (n := 0) X d_Top_fights_87 rfl rfl rfl ?_
        obtain ⟨x9, hx9, h⟩ := ob_s h
        refine V_cv (As := [.int x5]) X (Z0 E) ml_Top_257 yq_Top_note (c_Top_note E.2.1 G x5 x8 x9 hx9 _ (Nat.le_refl _)) kd_0 rfl rfl (by omega) rfl (Nat.le_of_ble_eq_true rfl) d_Top_fights_88 rfl (fun M9 hq => ?_)
        rw [hq]
        refine V_iload_n (n := 2) X d_Top_fights_91 rfl rfl rfl ?_
        exact V_iret X (kr (x4.1, x9) (Option.some.inj h).symm) d_Top_fights_92
      · rw [if_pos c10] at h
        refine V_bipush (v := -2) X d_Top_fights_20 (by decide) rfl ?_
        exact V_iret X (kr ((-2 : Int32), M) (Option.some.inj h).symm) d_Top_fights_22
    · rw [if_neg c11] at h
      refine V_iconst (v := -1) X d_Top_fights_10 (by decide) rfl ?_
      exact V_iret X (kr ((-1 : Int32), M) (Option.some.inj h).symm) d_Top_fights_11
