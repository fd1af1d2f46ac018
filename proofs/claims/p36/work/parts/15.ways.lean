theorem d_Ways_begin_0 : decode b_Ways_begin 0 = .ok (.iconst 0, 1) := kq_3 byq_r (by decide +kernel)
theorem d_Ways_begin_1 : decode b_Ways_begin 1 = .ok (.istore_n 2, 1) := kq_61 byq_r (by decide +kernel)
theorem d_Ways_begin_2 : decode b_Ways_begin 2 = .ok (.iload_n 2, 1) := kq_28 byq_r (by decide +kernel)
theorem d_Ways_begin_3 : decode b_Ways_begin 3 = .ok (.bipush 72, 2) := kq_16 byq_r (b := 72) (by decide +kernel)
theorem d_Ways_begin_5 : decode b_Ways_begin 5 = .ok (.if_icmp .ge 17, 3) := kq_162 byq_r (a := 0) (b := 17) (by decide +kernel)
theorem d_Ways_begin_8 : decode b_Ways_begin 8 = .ok (.aload_n 0, 1) := kq_42 byq_r (by decide +kernel)
theorem d_Ways_begin_9 : decode b_Ways_begin 9 = .ok (.getfield 21, 3) := kq_180 byq_r (a := 0) (b := 21) (by decide +kernel)
theorem d_Ways_begin_12 : decode b_Ways_begin 12 = .ok (.iload_n 2, 1) := kq_28 byq_r (by decide +kernel)
theorem d_Ways_begin_13 : decode b_Ways_begin 13 = .ok (.ldc 36, 2) := kq_18 byq_r (by decide +kernel)
theorem d_Ways_begin_15 : decode b_Ways_begin 15 = .ok (.iastore, 1) := kq_79 byq_r (by decide +kernel)
theorem d_Ways_begin_16 : decode b_Ways_begin 16 = .ok (.iinc 2 1, 3) := kq_132 byq_r (b := 1) (by decide +kernel)
theorem d_Ways_begin_19 : decode b_Ways_begin 19 = .ok (.goto (-17), 3) := kq_167 byq_r (a := 255) (b := 239) (by decide +kernel)
theorem d_Ways_begin_22 : decode b_Ways_begin 22 = .ok (.aload_n 0, 1) := kq_42 byq_r (by decide +kernel)
theorem d_Ways_begin_23 : decode b_Ways_begin 23 = .ok (.getfield 21, 3) := kq_180 byq_r (a := 0) (b := 21) (by decide +kernel)
theorem d_Ways_begin_26 : decode b_Ways_begin 26 = .ok (.iload_n 1, 1) := kq_27 byq_r (by decide +kernel)
theorem d_Ways_begin_27 : decode b_Ways_begin 27 = .ok (.iconst 0, 1) := kq_3 byq_r (by decide +kernel)
theorem d_Ways_begin_28 : decode b_Ways_begin 28 = .ok (.iastore, 1) := kq_79 byq_r (by decide +kernel)
theorem d_Ways_begin_29 : decode b_Ways_begin 29 = .ok (.return_, 1) := kq_177 byq_r (by decide +kernel)
theorem d_Ways_lower_0 : decode b_Ways_lower 0 = .ok (.iload_n 2, 1) := kq_28 byq_r (by decide +kernel)
theorem d_Ways_lower_1 : decode b_Ways_lower 1 = .ok (.aload_n 0, 1) := kq_42 byq_r (by decide +kernel)
theorem d_Ways_lower_2 : decode b_Ways_lower 2 = .ok (.getfield 21, 3) := kq_180 byq_r (a := 0) (b := 21) (by decide +kernel)
theorem d_Ways_lower_5 : decode b_Ways_lower 5 = .ok (.iload_n 1, 1) := kq_27 byq_r (by decide +kernel)
theorem d_Ways_lower_6 : decode b_Ways_lower 6 = .ok (.iaload, 1) := kq_46 byq_r (by decide +kernel)
theorem d_Ways_lower_7 : decode b_Ways_lower 7 = .ok (.if_icmp .lt 5, 3) := kq_161 byq_r (a := 0) (b := 5) (by decide +kernel)
theorem d_Ways_lower_10 : decode b_Ways_lower 10 = .ok (.iconst 0, 1) := kq_3 byq_r (by decide +kernel)
theorem d_Ways_lower_11 : decode b_Ways_lower 11 = .ok (.ireturn, 1) := kq_172 byq_r (by decide +kernel)
theorem d_Ways_lower_12 : decode b_Ways_lower 12 = .ok (.aload_n 0, 1) := kq_42 byq_r (by decide +kernel)
theorem d_Ways_lower_13 : decode b_Ways_lower 13 = .ok (.getfield 21, 3) := kq_180 byq_r (a := 0) (b := 21) (by decide +kernel)
theorem d_Ways_lower_16 : decode b_Ways_lower 16 = .ok (.iload_n 1, 1) := kq_27 byq_r (by decide +kernel)
theorem d_Ways_lower_17 : decode b_Ways_lower 17 = .ok (.iload_n 2, 1) := kq_28 byq_r (by decide +kernel)
theorem d_Ways_lower_18 : decode b_Ways_lower 18 = .ok (.iastore, 1) := kq_79 byq_r (by decide +kernel)
theorem d_Ways_lower_19 : decode b_Ways_lower 19 = .ok (.iconst 1, 1) := kq_4 byq_r (by decide +kernel)
theorem d_Ways_lower_20 : decode b_Ways_lower 20 = .ok (.ireturn, 1) := kq_172 byq_r (by decide +kernel)
theorem d_Ways_leave_0 : decode b_Ways_leave 0 = .ok (.aload_n 0, 1) := kq_42 byq_r (by decide +kernel)
theorem d_Ways_leave_1 : decode b_Ways_leave 1 = .ok (.getfield 21, 3) := kq_180 byq_r (a := 0) (b := 21) (by decide +kernel)
theorem d_Ways_leave_4 : decode b_Ways_leave 4 = .ok (.iload_n 2, 1) := kq_28 byq_r (by decide +kernel)
theorem d_Ways_leave_5 : decode b_Ways_leave 5 = .ok (.bipush 36, 2) := kq_16 byq_r (b := 36) (by decide +kernel)
theorem d_Ways_leave_7 : decode b_Ways_leave 7 = .ok (.imul, 1) := kq_104 byq_r (by decide +kernel)
theorem d_Ways_leave_8 : decode b_Ways_leave 8 = .ok (.iload_n 3, 1) := kq_29 byq_r (by decide +kernel)
theorem d_Ways_leave_9 : decode b_Ways_leave 9 = .ok (.iadd, 1) := kq_96 byq_r (by decide +kernel)
theorem d_Ways_leave_10 : decode b_Ways_leave 10 = .ok (.iaload, 1) := kq_46 byq_r (by decide +kernel)
theorem d_Ways_leave_11 : decode b_Ways_leave 11 = .ok (.istore 4, 2) := kq_54 byq_r (by decide +kernel)
theorem d_Ways_leave_13 : decode b_Ways_leave 13 = .ok (.iload 4, 2) := kq_21 byq_r (by decide +kernel)
theorem d_Ways_leave_15 : decode b_Ways_leave 15 = .ok (.ldc 36, 2) := kq_18 byq_r (by decide +kernel)
theorem d_Ways_leave_17 : decode b_Ways_leave 17 = .ok (.if_icmp .lt 5, 3) := kq_161 byq_r (a := 0) (b := 5) (by decide +kernel)
theorem d_Ways_leave_20 : decode b_Ways_leave 20 = .ok (.iconst 0, 1) := kq_3 byq_r (by decide +kernel)
theorem d_Ways_leave_21 : decode b_Ways_leave 21 = .ok (.ireturn, 1) := kq_172 byq_r (by decide +kernel)
theorem d_Ways_leave_22 : decode b_Ways_leave 22 = .ok (.iconst 0, 1) := kq_3 byq_r (by decide +kernel)
theorem d_Ways_leave_23 : decode b_Ways_leave 23 = .ok (.istore 5, 2) := kq_54 byq_r (by decide +kernel)
theorem d_Ways_leave_25 : decode b_Ways_leave 25 = .ok (.iconst 0, 1) := kq_3 byq_r (by decide +kernel)
theorem d_Ways_leave_26 : decode b_Ways_leave 26 = .ok (.istore 6, 2) := kq_54 byq_r (by decide +kernel)
theorem d_Ways_leave_28 : decode b_Ways_leave 28 = .ok (.iload 6, 2) := kq_21 byq_r (by decide +kernel)
theorem d_Ways_leave_30 : decode b_Ways_leave 30 = .ok (.iconst 4, 1) := kq_7 byq_r (by decide +kernel)
theorem d_Ways_leave_31 : decode b_Ways_leave 31 = .ok (.if_icmp .ge 48, 3) := kq_162 byq_r (a := 0) (b := 48) (by decide +kernel)
theorem d_Ways_leave_34 : decode b_Ways_leave 34 = .ok (.aload_n 1, 1) := kq_43 byq_r (by decide +kernel)
theorem d_Ways_leave_35 : decode b_Ways_leave 35 = .ok (.iload_n 2, 1) := kq_28 byq_r (by decide +kernel)
theorem d_Ways_leave_36 : decode b_Ways_leave 36 = .ok (.iload_n 3, 1) := kq_29 byq_r (by decide +kernel)
theorem d_Ways_leave_37 : decode b_Ways_leave 37 = .ok (.iload 6, 2) := kq_21 byq_r (by decide +kernel)
theorem d_Ways_leave_39 : decode b_Ways_leave 39 = .ok (.invokevirtual 45, 3) := kq_182 byq_r (a := 0) (b := 45) (by decide +kernel)
theorem d_Ways_leave_42 : decode b_Ways_leave 42 = .ok (.istore 7, 2) := kq_54 byq_r (by decide +kernel)
theorem d_Ways_leave_44 : decode b_Ways_leave 44 = .ok (.iload 7, 2) := kq_21 byq_r (by decide +kernel)
theorem d_Ways_leave_46 : decode b_Ways_leave 46 = .ok (.iconst (-1), 1) := kq_2 byq_r (by decide +kernel)
theorem d_Ways_leave_47 : decode b_Ways_leave 47 = .ok (.if_icmp .eq 26, 3) := kq_159 byq_r (a := 0) (b := 26) (by decide +kernel)
theorem d_Ways_leave_50 : decode b_Ways_leave 50 = .ok (.iload 5, 2) := kq_21 byq_r (by decide +kernel)
theorem d_Ways_leave_52 : decode b_Ways_leave 52 = .ok (.aload_n 0, 1) := kq_42 byq_r (by decide +kernel)
theorem d_Ways_leave_53 : decode b_Ways_leave 53 = .ok (.iload_n 2, 1) := kq_28 byq_r (by decide +kernel)
theorem d_Ways_leave_54 : decode b_Ways_leave 54 = .ok (.bipush 36, 2) := kq_16 byq_r (b := 36) (by decide +kernel)
theorem d_Ways_leave_56 : decode b_Ways_leave 56 = .ok (.imul, 1) := kq_104 byq_r (by decide +kernel)
theorem d_Ways_leave_57 : decode b_Ways_leave 57 = .ok (.iload 7, 2) := kq_21 byq_r (by decide +kernel)
theorem d_Ways_leave_59 : decode b_Ways_leave 59 = .ok (.iadd, 1) := kq_96 byq_r (by decide +kernel)
theorem d_Ways_leave_60 : decode b_Ways_leave 60 = .ok (.iload 4, 2) := kq_21 byq_r (by decide +kernel)
theorem d_Ways_leave_62 : decode b_Ways_leave 62 = .ok (.bipush 100, 2) := kq_16 byq_r (b := 100) (by decide +kernel)
theorem d_Ways_leave_64 : decode b_Ways_leave 64 = .ok (.iadd, 1) := kq_96 byq_r (by decide +kernel)
theorem d_Ways_leave_65 : decode b_Ways_leave 65 = .ok (.iload_n 2, 1) := kq_28 byq_r (by decide +kernel)
theorem d_Ways_leave_66 : decode b_Ways_leave 66 = .ok (.iadd, 1) := kq_96 byq_r (by decide +kernel)
theorem d_Ways_leave_67 : decode b_Ways_leave 67 = .ok (.invokevirtual 51, 3) := kq_182 byq_r (a := 0) (b := 51) (by decide +kernel)
theorem d_Ways_leave_70 : decode b_Ways_leave 70 = .ok (.ior, 1) := kq_128 byq_r (by decide +kernel)
theorem d_Ways_leave_71 : decode b_Ways_leave 71 = .ok (.istore 5, 2) := kq_54 byq_r (by decide +kernel)
theorem d_Ways_leave_73 : decode b_Ways_leave 73 = .ok (.iinc 6 1, 3) := kq_132 byq_r (b := 1) (by decide +kernel)
theorem d_Ways_leave_76 : decode b_Ways_leave 76 = .ok (.goto (-48), 3) := kq_167 byq_r (a := 255) (b := 208) (by decide +kernel)
theorem d_Ways_leave_79 : decode b_Ways_leave 79 = .ok (.aload_n 1, 1) := kq_43 byq_r (by decide +kernel)
theorem d_Ways_leave_80 : decode b_Ways_leave 80 = .ok (.invokevirtual 55, 3) := kq_182 byq_r (a := 0) (b := 55) (by decide +kernel)
theorem d_Ways_leave_83 : decode b_Ways_leave 83 = .ok (.iload_n 3, 1) := kq_29 byq_r (by decide +kernel)
theorem d_Ways_leave_84 : decode b_Ways_leave 84 = .ok (.lshr, 1) := kq_123 byq_r (by decide +kernel)
theorem d_Ways_leave_85 : decode b_Ways_leave 85 = .ok (.lconst 1, 1) := kq_10 byq_r (by decide +kernel)
theorem d_Ways_leave_86 : decode b_Ways_leave 86 = .ok (.land, 1) := kq_127 byq_r (by decide +kernel)
theorem d_Ways_leave_87 : decode b_Ways_leave 87 = .ok (.lconst 0, 1) := kq_9 byq_r (by decide +kernel)
theorem d_Ways_leave_88 : decode b_Ways_leave 88 = .ok (.lcmp, 1) := kq_148 byq_r (by decide +kernel)
theorem d_Ways_leave_89 : decode b_Ways_leave 89 = .ok (.ifCond .eq 22, 3) := kq_153 byq_r (a := 0) (b := 22) (by decide +kernel)
theorem d_Ways_leave_92 : decode b_Ways_leave 92 = .ok (.iload 5, 2) := kq_21 byq_r (by decide +kernel)
theorem d_Ways_leave_94 : decode b_Ways_leave 94 = .ok (.aload_n 0, 1) := kq_42 byq_r (by decide +kernel)
theorem d_Ways_leave_95 : decode b_Ways_leave 95 = .ok (.iconst 1, 1) := kq_4 byq_r (by decide +kernel)
theorem d_Ways_leave_96 : decode b_Ways_leave 96 = .ok (.iload_n 2, 1) := kq_28 byq_r (by decide +kernel)
theorem d_Ways_leave_97 : decode b_Ways_leave 97 = .ok (.isub, 1) := kq_100 byq_r (by decide +kernel)
theorem d_Ways_leave_98 : decode b_Ways_leave 98 = .ok (.bipush 36, 2) := kq_16 byq_r (b := 36) (by decide +kernel)
theorem d_Ways_leave_100 : decode b_Ways_leave 100 = .ok (.imul, 1) := kq_104 byq_r (by decide +kernel)
theorem d_Ways_leave_101 : decode b_Ways_leave 101 = .ok (.iload_n 3, 1) := kq_29 byq_r (by decide +kernel)
theorem d_Ways_leave_102 : decode b_Ways_leave 102 = .ok (.iadd, 1) := kq_96 byq_r (by decide +kernel)
theorem d_Ways_leave_103 : decode b_Ways_leave 103 = .ok (.iload 4, 2) := kq_21 byq_r (by decide +kernel)
theorem d_Ways_leave_105 : decode b_Ways_leave 105 = .ok (.invokevirtual 51, 3) := kq_182 byq_r (a := 0) (b := 51) (by decide +kernel)
theorem d_Ways_leave_108 : decode b_Ways_leave 108 = .ok (.ior, 1) := kq_128 byq_r (by decide +kernel)
theorem d_Ways_leave_109 : decode b_Ways_leave 109 = .ok (.istore 5, 2) := kq_54 byq_r (by decide +kernel)
theorem d_Ways_leave_111 : decode b_Ways_leave 111 = .ok (.iload 5, 2) := kq_21 byq_r (by decide +kernel)
theorem d_Ways_leave_113 : decode b_Ways_leave 113 = .ok (.ireturn, 1) := kq_172 byq_r (by decide +kernel)
theorem d_Ways_acrossLevels_0 : decode b_Ways_acrossLevels 0 = .ok (.aload_n 0, 1) := kq_42 byq_r (by decide +kernel)
theorem d_Ways_acrossLevels_1 : decode b_Ways_acrossLevels 1 = .ok (.iload_n 2, 1) := kq_28 byq_r (by decide +kernel)
theorem d_Ways_acrossLevels_2 : decode b_Ways_acrossLevels 2 = .ok (.invokevirtual 37, 3) := kq_182 byq_r (a := 0) (b := 37) (by decide +kernel)
theorem d_Ways_acrossLevels_5 : decode b_Ways_acrossLevels 5 = .ok (.iconst 1, 1) := kq_4 byq_r (by decide +kernel)
theorem d_Ways_acrossLevels_6 : decode b_Ways_acrossLevels 6 = .ok (.istore 4, 2) := kq_54 byq_r (by decide +kernel)
theorem d_Ways_acrossLevels_8 : decode b_Ways_acrossLevels 8 = .ok (.iconst 0, 1) := kq_3 byq_r (by decide +kernel)
theorem d_Ways_acrossLevels_9 : decode b_Ways_acrossLevels 9 = .ok (.istore 5, 2) := kq_54 byq_r (by decide +kernel)
theorem d_Ways_acrossLevels_11 : decode b_Ways_acrossLevels 11 = .ok (.iload 5, 2) := kq_21 byq_r (by decide +kernel)
theorem d_Ways_acrossLevels_13 : decode b_Ways_acrossLevels 13 = .ok (.bipush 72, 2) := kq_16 byq_r (b := 72) (by decide +kernel)
theorem d_Ways_acrossLevels_15 : decode b_Ways_acrossLevels 15 = .ok (.if_icmp .ge 59, 3) := kq_162 byq_r (a := 0) (b := 59) (by decide +kernel)
theorem d_Ways_acrossLevels_18 : decode b_Ways_acrossLevels 18 = .ok (.iload 4, 2) := kq_21 byq_r (by decide +kernel)
theorem d_Ways_acrossLevels_20 : decode b_Ways_acrossLevels 20 = .ok (.ifCond .eq 54, 3) := kq_153 byq_r (a := 0) (b := 54) (by decide +kernel)
theorem d_Ways_acrossLevels_23 : decode b_Ways_acrossLevels 23 = .ok (.iconst 0, 1) := kq_3 byq_r (by decide +kernel)
theorem d_Ways_acrossLevels_24 : decode b_Ways_acrossLevels 24 = .ok (.istore 4, 2) := kq_54 byq_r (by decide +kernel)
theorem d_Ways_acrossLevels_26 : decode b_Ways_acrossLevels 26 = .ok (.iconst 0, 1) := kq_3 byq_r (by decide +kernel)
theorem d_Ways_acrossLevels_27 : decode b_Ways_acrossLevels 27 = .ok (.istore 6, 2) := kq_54 byq_r (by decide +kernel)
theorem d_Ways_acrossLevels_29 : decode b_Ways_acrossLevels 29 = .ok (.iload 6, 2) := kq_21 byq_r (by decide +kernel)
theorem d_Ways_acrossLevels_31 : decode b_Ways_acrossLevels 31 = .ok (.bipush 36, 2) := kq_16 byq_r (b := 36) (by decide +kernel)
theorem d_Ways_acrossLevels_33 : decode b_Ways_acrossLevels 33 = .ok (.if_icmp .ge 35, 3) := kq_162 byq_r (a := 0) (b := 35) (by decide +kernel)
theorem d_Ways_acrossLevels_36 : decode b_Ways_acrossLevels 36 = .ok (.iload 4, 2) := kq_21 byq_r (by decide +kernel)
theorem d_Ways_acrossLevels_38 : decode b_Ways_acrossLevels 38 = .ok (.aload_n 0, 1) := kq_42 byq_r (by decide +kernel)
theorem d_Ways_acrossLevels_39 : decode b_Ways_acrossLevels 39 = .ok (.aload_n 1, 1) := kq_43 byq_r (by decide +kernel)
theorem d_Ways_acrossLevels_40 : decode b_Ways_acrossLevels 40 = .ok (.iconst 0, 1) := kq_3 byq_r (by decide +kernel)
theorem d_Ways_acrossLevels_41 : decode b_Ways_acrossLevels 41 = .ok (.iload 6, 2) := kq_21 byq_r (by decide +kernel)
theorem d_Ways_acrossLevels_43 : decode b_Ways_acrossLevels 43 = .ok (.invokevirtual 41, 3) := kq_182 byq_r (a := 0) (b := 41) (by decide +kernel)
theorem d_Ways_acrossLevels_46 : decode b_Ways_acrossLevels 46 = .ok (.ior, 1) := kq_128 byq_r (by decide +kernel)
theorem d_Ways_acrossLevels_47 : decode b_Ways_acrossLevels 47 = .ok (.istore 4, 2) := kq_54 byq_r (by decide +kernel)
theorem d_Ways_acrossLevels_49 : decode b_Ways_acrossLevels 49 = .ok (.iload 4, 2) := kq_21 byq_r (by decide +kernel)
theorem d_Ways_acrossLevels_51 : decode b_Ways_acrossLevels 51 = .ok (.aload_n 0, 1) := kq_42 byq_r (by decide +kernel)
theorem d_Ways_acrossLevels_52 : decode b_Ways_acrossLevels 52 = .ok (.aload_n 1, 1) := kq_43 byq_r (by decide +kernel)
theorem d_Ways_acrossLevels_53 : decode b_Ways_acrossLevels 53 = .ok (.iconst 1, 1) := kq_4 byq_r (by decide +kernel)
theorem d_Ways_acrossLevels_54 : decode b_Ways_acrossLevels 54 = .ok (.iload 6, 2) := kq_21 byq_r (by decide +kernel)
theorem d_Ways_acrossLevels_56 : decode b_Ways_acrossLevels 56 = .ok (.invokevirtual 41, 3) := kq_182 byq_r (a := 0) (b := 41) (by decide +kernel)
theorem d_Ways_acrossLevels_59 : decode b_Ways_acrossLevels 59 = .ok (.ior, 1) := kq_128 byq_r (by decide +kernel)
theorem d_Ways_acrossLevels_60 : decode b_Ways_acrossLevels 60 = .ok (.istore 4, 2) := kq_54 byq_r (by decide +kernel)
theorem d_Ways_acrossLevels_62 : decode b_Ways_acrossLevels 62 = .ok (.iinc 6 1, 3) := kq_132 byq_r (b := 1) (by decide +kernel)
theorem d_Ways_acrossLevels_65 : decode b_Ways_acrossLevels 65 = .ok (.goto (-36), 3) := kq_167 byq_r (a := 255) (b := 220) (by decide +kernel)
theorem d_Ways_acrossLevels_68 : decode b_Ways_acrossLevels 68 = .ok (.iinc 5 1, 3) := kq_132 byq_r (b := 1) (by decide +kernel)
theorem d_Ways_acrossLevels_71 : decode b_Ways_acrossLevels 71 = .ok (.goto (-60), 3) := kq_167 byq_r (a := 255) (b := 196) (by decide +kernel)
theorem d_Ways_acrossLevels_74 : decode b_Ways_acrossLevels 74 = .ok (.aload_n 0, 1) := kq_42 byq_r (by decide +kernel)
theorem d_Ways_acrossLevels_75 : decode b_Ways_acrossLevels 75 = .ok (.getfield 21, 3) := kq_180 byq_r (a := 0) (b := 21) (by decide +kernel)
theorem d_Ways_acrossLevels_78 : decode b_Ways_acrossLevels 78 = .ok (.iload_n 3, 1) := kq_29 byq_r (by decide +kernel)
theorem d_Ways_acrossLevels_79 : decode b_Ways_acrossLevels 79 = .ok (.iaload, 1) := kq_46 byq_r (by decide +kernel)
theorem d_Ways_acrossLevels_80 : decode b_Ways_acrossLevels 80 = .ok (.ireturn, 1) := kq_172 byq_r (by decide +kernel)
theorem d_Ways_later_0 : decode b_Ways_later 0 = .ok (.aload_n 0, 1) := kq_42 byq_r (by decide +kernel)
theorem d_Ways_later_1 : decode b_Ways_later 1 = .ok (.getfield 9, 3) := kq_180 byq_r (a := 0) (b := 9) (by decide +kernel)
theorem d_Ways_later_4 : decode b_Ways_later 4 = .ok (.iload_n 1, 1) := kq_27 byq_r (by decide +kernel)
theorem d_Ways_later_5 : decode b_Ways_later 5 = .ok (.iaload, 1) := kq_46 byq_r (by decide +kernel)
theorem d_Ways_later_6 : decode b_Ways_later 6 = .ok (.aload_n 0, 1) := kq_42 byq_r (by decide +kernel)
theorem d_Ways_later_7 : decode b_Ways_later 7 = .ok (.getfield 15, 3) := kq_180 byq_r (a := 0) (b := 15) (by decide +kernel)
theorem d_Ways_later_10 : decode b_Ways_later 10 = .ok (.iload_n 1, 1) := kq_27 byq_r (by decide +kernel)
theorem d_Ways_later_11 : decode b_Ways_later 11 = .ok (.iaload, 1) := kq_46 byq_r (by decide +kernel)
theorem d_Ways_later_12 : decode b_Ways_later 12 = .ok (.invokestatic 30, 3) := kq_184 byq_r (a := 0) (b := 30) (by decide +kernel)
theorem d_Ways_later_15 : decode b_Ways_later 15 = .ok (.ireturn, 1) := kq_172 byq_r (by decide +kernel)
theorem d_Ways_cross_0 : decode b_Ways_cross 0 = .ok (.iconst 0, 1) := kq_3 byq_r (by decide +kernel)
theorem d_Ways_cross_1 : decode b_Ways_cross 1 = .ok (.istore 4, 2) := kq_54 byq_r (by decide +kernel)
theorem d_Ways_cross_3 : decode b_Ways_cross 3 = .ok (.iconst 0, 1) := kq_3 byq_r (by decide +kernel)
theorem d_Ways_cross_4 : decode b_Ways_cross 4 = .ok (.istore 5, 2) := kq_54 byq_r (by decide +kernel)
theorem d_Ways_cross_6 : decode b_Ways_cross 6 = .ok (.iload 5, 2) := kq_21 byq_r (by decide +kernel)
theorem d_Ways_cross_8 : decode b_Ways_cross 8 = .ok (.iconst 4, 1) := kq_7 byq_r (by decide +kernel)
theorem d_Ways_cross_9 : decode b_Ways_cross 9 = .ok (.if_icmp .ge 94, 3) := kq_162 byq_r (a := 0) (b := 94) (by decide +kernel)
theorem d_Ways_cross_12 : decode b_Ways_cross 12 = .ok (.aload_n 2, 1) := kq_44 byq_r (by decide +kernel)
theorem d_Ways_cross_13 : decode b_Ways_cross 13 = .ok (.iconst 1, 1) := kq_4 byq_r (by decide +kernel)
theorem d_Ways_cross_14 : decode b_Ways_cross 14 = .ok (.iload_n 3, 1) := kq_29 byq_r (by decide +kernel)
theorem d_Ways_cross_15 : decode b_Ways_cross 15 = .ok (.iload 5, 2) := kq_21 byq_r (by decide +kernel)
theorem d_Ways_cross_17 : decode b_Ways_cross 17 = .ok (.invokevirtual 45, 3) := kq_182 byq_r (a := 0) (b := 45) (by decide +kernel)
theorem d_Ways_cross_20 : decode b_Ways_cross 20 = .ok (.istore 6, 2) := kq_54 byq_r (by decide +kernel)
theorem d_Ways_cross_22 : decode b_Ways_cross 22 = .ok (.aload_n 1, 1) := kq_43 byq_r (by decide +kernel)
theorem d_Ways_cross_23 : decode b_Ways_cross 23 = .ok (.aload_n 1, 1) := kq_43 byq_r (by decide +kernel)
theorem d_Ways_cross_24 : decode b_Ways_cross 24 = .ok (.iload_n 3, 1) := kq_29 byq_r (by decide +kernel)
theorem d_Ways_cross_25 : decode b_Ways_cross 25 = .ok (.iload 5, 2) := kq_21 byq_r (by decide +kernel)
theorem d_Ways_cross_27 : decode b_Ways_cross 27 = .ok (.invokevirtual 63, 3) := kq_182 byq_r (a := 0) (b := 63) (by decide +kernel)
theorem d_Ways_cross_30 : decode b_Ways_cross 30 = .ok (.iload 5, 2) := kq_21 byq_r (by decide +kernel)
theorem d_Ways_cross_32 : decode b_Ways_cross 32 = .ok (.invokevirtual 63, 3) := kq_182 byq_r (a := 0) (b := 63) (by decide +kernel)
theorem d_Ways_cross_35 : decode b_Ways_cross 35 = .ok (.istore 7, 2) := kq_54 byq_r (by decide +kernel)
theorem d_Ways_cross_37 : decode b_Ways_cross 37 = .ok (.iload 6, 2) := kq_21 byq_r (by decide +kernel)
theorem d_Ways_cross_39 : decode b_Ways_cross 39 = .ok (.iconst (-1), 1) := kq_2 byq_r (by decide +kernel)
theorem d_Ways_cross_40 : decode b_Ways_cross 40 = .ok (.if_icmp .eq 25, 3) := kq_159 byq_r (a := 0) (b := 25) (by decide +kernel)
theorem d_Ways_cross_43 : decode b_Ways_cross 43 = .ok (.iload 4, 2) := kq_21 byq_r (by decide +kernel)
theorem d_Ways_cross_45 : decode b_Ways_cross 45 = .ok (.aload_n 0, 1) := kq_42 byq_r (by decide +kernel)
theorem d_Ways_cross_46 : decode b_Ways_cross 46 = .ok (.iload 6, 2) := kq_21 byq_r (by decide +kernel)
theorem d_Ways_cross_48 : decode b_Ways_cross 48 = .ok (.aload_n 0, 1) := kq_42 byq_r (by decide +kernel)
theorem d_Ways_cross_49 : decode b_Ways_cross 49 = .ok (.getfield 21, 3) := kq_180 byq_r (a := 0) (b := 21) (by decide +kernel)
theorem d_Ways_cross_52 : decode b_Ways_cross 52 = .ok (.iload_n 3, 1) := kq_29 byq_r (by decide +kernel)
theorem d_Ways_cross_53 : decode b_Ways_cross 53 = .ok (.iaload, 1) := kq_46 byq_r (by decide +kernel)
theorem d_Ways_cross_54 : decode b_Ways_cross 54 = .ok (.iconst 1, 1) := kq_4 byq_r (by decide +kernel)
theorem d_Ways_cross_55 : decode b_Ways_cross 55 = .ok (.iadd, 1) := kq_96 byq_r (by decide +kernel)
theorem d_Ways_cross_56 : decode b_Ways_cross 56 = .ok (.invokevirtual 51, 3) := kq_182 byq_r (a := 0) (b := 51) (by decide +kernel)
theorem d_Ways_cross_59 : decode b_Ways_cross 59 = .ok (.ior, 1) := kq_128 byq_r (by decide +kernel)
theorem d_Ways_cross_60 : decode b_Ways_cross 60 = .ok (.istore 4, 2) := kq_54 byq_r (by decide +kernel)
theorem d_Ways_cross_62 : decode b_Ways_cross 62 = .ok (.goto 35, 3) := kq_167 byq_r (a := 0) (b := 35) (by decide +kernel)
theorem d_Ways_cross_65 : decode b_Ways_cross 65 = .ok (.aload_n 1, 1) := kq_43 byq_r (by decide +kernel)
theorem d_Ways_cross_66 : decode b_Ways_cross 66 = .ok (.iconst 1, 1) := kq_4 byq_r (by decide +kernel)
theorem d_Ways_cross_67 : decode b_Ways_cross 67 = .ok (.iload 7, 2) := kq_21 byq_r (by decide +kernel)
theorem d_Ways_cross_69 : decode b_Ways_cross 69 = .ok (.invokevirtual 68, 3) := kq_182 byq_r (a := 0) (b := 68) (by decide +kernel)
theorem d_Ways_cross_72 : decode b_Ways_cross 72 = .ok (.ifCond .eq 25, 3) := kq_153 byq_r (a := 0) (b := 25) (by decide +kernel)
theorem d_Ways_cross_75 : decode b_Ways_cross 75 = .ok (.iload 4, 2) := kq_21 byq_r (by decide +kernel)
theorem d_Ways_cross_77 : decode b_Ways_cross 77 = .ok (.aload_n 0, 1) := kq_42 byq_r (by decide +kernel)
theorem d_Ways_cross_78 : decode b_Ways_cross 78 = .ok (.iload 7, 2) := kq_21 byq_r (by decide +kernel)
theorem d_Ways_cross_80 : decode b_Ways_cross 80 = .ok (.aload_n 0, 1) := kq_42 byq_r (by decide +kernel)
theorem d_Ways_cross_81 : decode b_Ways_cross 81 = .ok (.getfield 21, 3) := kq_180 byq_r (a := 0) (b := 21) (by decide +kernel)
theorem d_Ways_cross_84 : decode b_Ways_cross 84 = .ok (.iload_n 3, 1) := kq_29 byq_r (by decide +kernel)
theorem d_Ways_cross_85 : decode b_Ways_cross 85 = .ok (.iaload, 1) := kq_46 byq_r (by decide +kernel)
theorem d_Ways_cross_86 : decode b_Ways_cross 86 = .ok (.bipush 100, 2) := kq_16 byq_r (b := 100) (by decide +kernel)
theorem d_Ways_cross_88 : decode b_Ways_cross 88 = .ok (.iadd, 1) := kq_96 byq_r (by decide +kernel)
theorem d_Ways_cross_89 : decode b_Ways_cross 89 = .ok (.iconst 1, 1) := kq_4 byq_r (by decide +kernel)
theorem d_Ways_cross_90 : decode b_Ways_cross 90 = .ok (.iadd, 1) := kq_96 byq_r (by decide +kernel)
theorem d_Ways_cross_91 : decode b_Ways_cross 91 = .ok (.invokevirtual 51, 3) := kq_182 byq_r (a := 0) (b := 51) (by decide +kernel)
theorem d_Ways_cross_94 : decode b_Ways_cross 94 = .ok (.ior, 1) := kq_128 byq_r (by decide +kernel)
theorem d_Ways_cross_95 : decode b_Ways_cross 95 = .ok (.istore 4, 2) := kq_54 byq_r (by decide +kernel)
theorem d_Ways_cross_97 : decode b_Ways_cross 97 = .ok (.iinc 5 1, 3) := kq_132 byq_r (b := 1) (by decide +kernel)
theorem d_Ways_cross_100 : decode b_Ways_cross 100 = .ok (.goto (-94), 3) := kq_167 byq_r (a := 255) (b := 162) (by decide +kernel)
theorem d_Ways_cross_103 : decode b_Ways_cross 103 = .ok (.iload 4, 2) := kq_21 byq_r (by decide +kernel)
theorem d_Ways_cross_105 : decode b_Ways_cross 105 = .ok (.ireturn, 1) := kq_172 byq_r (by decide +kernel)
theorem d_Ways_bridged_0 : decode b_Ways_bridged 0 = .ok (.aload_n 0, 1) := kq_42 byq_r (by decide +kernel)
theorem d_Ways_bridged_1 : decode b_Ways_bridged 1 = .ok (.iload_n 3, 1) := kq_29 byq_r (by decide +kernel)
theorem d_Ways_bridged_2 : decode b_Ways_bridged 2 = .ok (.invokevirtual 37, 3) := kq_182 byq_r (a := 0) (b := 37) (by decide +kernel)
theorem d_Ways_bridged_5 : decode b_Ways_bridged 5 = .ok (.iconst 1, 1) := kq_4 byq_r (by decide +kernel)
theorem d_Ways_bridged_6 : decode b_Ways_bridged 6 = .ok (.istore 5, 2) := kq_54 byq_r (by decide +kernel)
theorem d_Ways_bridged_8 : decode b_Ways_bridged 8 = .ok (.iconst 0, 1) := kq_3 byq_r (by decide +kernel)
theorem d_Ways_bridged_9 : decode b_Ways_bridged 9 = .ok (.istore 6, 2) := kq_54 byq_r (by decide +kernel)
theorem d_Ways_bridged_11 : decode b_Ways_bridged 11 = .ok (.iload 6, 2) := kq_21 byq_r (by decide +kernel)
theorem d_Ways_bridged_13 : decode b_Ways_bridged 13 = .ok (.bipush 36, 2) := kq_16 byq_r (b := 36) (by decide +kernel)
theorem d_Ways_bridged_15 : decode b_Ways_bridged 15 = .ok (.if_icmp .ge 66, 3) := kq_162 byq_r (a := 0) (b := 66) (by decide +kernel)
theorem d_Ways_bridged_18 : decode b_Ways_bridged 18 = .ok (.iload 5, 2) := kq_21 byq_r (by decide +kernel)
theorem d_Ways_bridged_20 : decode b_Ways_bridged 20 = .ok (.ifCond .eq 61, 3) := kq_153 byq_r (a := 0) (b := 61) (by decide +kernel)
theorem d_Ways_bridged_23 : decode b_Ways_bridged 23 = .ok (.iconst 0, 1) := kq_3 byq_r (by decide +kernel)
theorem d_Ways_bridged_24 : decode b_Ways_bridged 24 = .ok (.istore 5, 2) := kq_54 byq_r (by decide +kernel)
theorem d_Ways_bridged_26 : decode b_Ways_bridged 26 = .ok (.iconst 0, 1) := kq_3 byq_r (by decide +kernel)
theorem d_Ways_bridged_27 : decode b_Ways_bridged 27 = .ok (.istore 7, 2) := kq_54 byq_r (by decide +kernel)
theorem d_Ways_bridged_29 : decode b_Ways_bridged 29 = .ok (.iload 7, 2) := kq_21 byq_r (by decide +kernel)
theorem d_Ways_bridged_31 : decode b_Ways_bridged 31 = .ok (.bipush 36, 2) := kq_16 byq_r (b := 36) (by decide +kernel)
theorem d_Ways_bridged_33 : decode b_Ways_bridged 33 = .ok (.if_icmp .ge 42, 3) := kq_162 byq_r (a := 0) (b := 42) (by decide +kernel)
theorem d_Ways_bridged_36 : decode b_Ways_bridged 36 = .ok (.iload 5, 2) := kq_21 byq_r (by decide +kernel)
theorem d_Ways_bridged_38 : decode b_Ways_bridged 38 = .ok (.aload_n 0, 1) := kq_42 byq_r (by decide +kernel)
theorem d_Ways_bridged_39 : decode b_Ways_bridged 39 = .ok (.getfield 21, 3) := kq_180 byq_r (a := 0) (b := 21) (by decide +kernel)
theorem d_Ways_bridged_42 : decode b_Ways_bridged 42 = .ok (.iload 7, 2) := kq_21 byq_r (by decide +kernel)
theorem d_Ways_bridged_44 : decode b_Ways_bridged 44 = .ok (.iaload, 1) := kq_46 byq_r (by decide +kernel)
theorem d_Ways_bridged_45 : decode b_Ways_bridged 45 = .ok (.ldc 36, 2) := kq_18 byq_r (by decide +kernel)
theorem d_Ways_bridged_47 : decode b_Ways_bridged 47 = .ok (.if_icmp .ge 18, 3) := kq_162 byq_r (a := 0) (b := 18) (by decide +kernel)
theorem d_Ways_bridged_50 : decode b_Ways_bridged 50 = .ok (.aload_n 0, 1) := kq_42 byq_r (by decide +kernel)
theorem d_Ways_bridged_51 : decode b_Ways_bridged 51 = .ok (.aload_n 1, 1) := kq_43 byq_r (by decide +kernel)
theorem d_Ways_bridged_52 : decode b_Ways_bridged 52 = .ok (.aload_n 2, 1) := kq_44 byq_r (by decide +kernel)
theorem d_Ways_bridged_53 : decode b_Ways_bridged 53 = .ok (.iload 7, 2) := kq_21 byq_r (by decide +kernel)
theorem d_Ways_bridged_55 : decode b_Ways_bridged 55 = .ok (.invokevirtual 59, 3) := kq_182 byq_r (a := 0) (b := 59) (by decide +kernel)
theorem d_Ways_bridged_58 : decode b_Ways_bridged 58 = .ok (.ifCond .eq 7, 3) := kq_153 byq_r (a := 0) (b := 7) (by decide +kernel)
theorem d_Ways_bridged_61 : decode b_Ways_bridged 61 = .ok (.iconst 1, 1) := kq_4 byq_r (by decide +kernel)
theorem d_Ways_bridged_62 : decode b_Ways_bridged 62 = .ok (.goto 4, 3) := kq_167 byq_r (a := 0) (b := 4) (by decide +kernel)
theorem d_Ways_bridged_65 : decode b_Ways_bridged 65 = .ok (.iconst 0, 1) := kq_3 byq_r (by decide +kernel)
theorem d_Ways_bridged_66 : decode b_Ways_bridged 66 = .ok (.ior, 1) := kq_128 byq_r (by decide +kernel)
theorem d_Ways_bridged_67 : decode b_Ways_bridged 67 = .ok (.istore 5, 2) := kq_54 byq_r (by decide +kernel)
theorem d_Ways_bridged_69 : decode b_Ways_bridged 69 = .ok (.iinc 7 1, 3) := kq_132 byq_r (b := 1) (by decide +kernel)
theorem d_Ways_bridged_72 : decode b_Ways_bridged 72 = .ok (.goto (-43), 3) := kq_167 byq_r (a := 255) (b := 213) (by decide +kernel)
theorem d_Ways_bridged_75 : decode b_Ways_bridged 75 = .ok (.iinc 6 1, 3) := kq_132 byq_r (b := 1) (by decide +kernel)
theorem d_Ways_bridged_78 : decode b_Ways_bridged 78 = .ok (.goto (-67), 3) := kq_167 byq_r (a := 255) (b := 189) (by decide +kernel)
theorem d_Ways_bridged_81 : decode b_Ways_bridged 81 = .ok (.aload_n 0, 1) := kq_42 byq_r (by decide +kernel)
theorem d_Ways_bridged_82 : decode b_Ways_bridged 82 = .ok (.getfield 21, 3) := kq_180 byq_r (a := 0) (b := 21) (by decide +kernel)
theorem d_Ways_bridged_85 : decode b_Ways_bridged 85 = .ok (.iload 4, 2) := kq_21 byq_r (by decide +kernel)
theorem d_Ways_bridged_87 : decode b_Ways_bridged 87 = .ok (.iaload, 1) := kq_46 byq_r (by decide +kernel)
theorem d_Ways_bridged_88 : decode b_Ways_bridged 88 = .ok (.ireturn, 1) := kq_172 byq_r (by decide +kernel)
theorem d_Ways_toSide_0 : decode b_Ways_toSide 0 = .ok (.iload_n 2, 1) := kq_28 byq_r (by decide +kernel)
theorem d_Ways_toSide_1 : decode b_Ways_toSide 1 = .ok (.iconst 4, 1) := kq_7 byq_r (by decide +kernel)
theorem d_Ways_toSide_2 : decode b_Ways_toSide 2 = .ok (.if_icmp .ne 7, 3) := kq_160 byq_r (a := 0) (b := 7) (by decide +kernel)
theorem d_Ways_toSide_5 : decode b_Ways_toSide 5 = .ok (.iload_n 1, 1) := kq_27 byq_r (by decide +kernel)
theorem d_Ways_toSide_6 : decode b_Ways_toSide 6 = .ok (.goto 9, 3) := kq_167 byq_r (a := 0) (b := 9) (by decide +kernel)
theorem d_Ways_toSide_9 : decode b_Ways_toSide 9 = .ok (.aload_n 0, 1) := kq_42 byq_r (by decide +kernel)
theorem d_Ways_toSide_10 : decode b_Ways_toSide 10 = .ok (.iload_n 1, 1) := kq_27 byq_r (by decide +kernel)
theorem d_Ways_toSide_11 : decode b_Ways_toSide 11 = .ok (.iload_n 2, 1) := kq_28 byq_r (by decide +kernel)
theorem d_Ways_toSide_12 : decode b_Ways_toSide 12 = .ok (.invokevirtual 63, 3) := kq_182 byq_r (a := 0) (b := 63) (by decide +kernel)
theorem d_Ways_toSide_15 : decode b_Ways_toSide 15 = .ok (.ireturn, 1) := kq_172 byq_r (by decide +kernel)
theorem d_Ways_pairAfter_0 : decode b_Ways_pairAfter 0 = .ok (.iload_n 2, 1) := kq_28 byq_r (by decide +kernel)
theorem d_Ways_pairAfter_1 : decode b_Ways_pairAfter 1 = .ok (.iconst 5, 1) := kq_8 byq_r (by decide +kernel)
theorem d_Ways_pairAfter_2 : decode b_Ways_pairAfter 2 = .ok (.idiv, 1) := kq_108 byq_r (by decide +kernel)
theorem d_Ways_pairAfter_3 : decode b_Ways_pairAfter 3 = .ok (.istore 4, 2) := kq_54 byq_r (by decide +kernel)
theorem d_Ways_pairAfter_5 : decode b_Ways_pairAfter 5 = .ok (.aload_n 1, 1) := kq_43 byq_r (by decide +kernel)
theorem d_Ways_pairAfter_6 : decode b_Ways_pairAfter 6 = .ok (.iload 4, 2) := kq_21 byq_r (by decide +kernel)
theorem d_Ways_pairAfter_8 : decode b_Ways_pairAfter 8 = .ok (.iload_n 2, 1) := kq_28 byq_r (by decide +kernel)
theorem d_Ways_pairAfter_9 : decode b_Ways_pairAfter 9 = .ok (.iconst 5, 1) := kq_8 byq_r (by decide +kernel)
theorem d_Ways_pairAfter_10 : decode b_Ways_pairAfter 10 = .ok (.irem, 1) := kq_112 byq_r (by decide +kernel)
theorem d_Ways_pairAfter_11 : decode b_Ways_pairAfter 11 = .ok (.invokestatic 75, 3) := kq_184 byq_r (a := 0) (b := 75) (by decide +kernel)
theorem d_Ways_pairAfter_14 : decode b_Ways_pairAfter 14 = .ok (.istore 5, 2) := kq_54 byq_r (by decide +kernel)
theorem d_Ways_pairAfter_16 : decode b_Ways_pairAfter 16 = .ok (.aload_n 1, 1) := kq_43 byq_r (by decide +kernel)
theorem d_Ways_pairAfter_17 : decode b_Ways_pairAfter 17 = .ok (.iload 4, 2) := kq_21 byq_r (by decide +kernel)
theorem d_Ways_pairAfter_19 : decode b_Ways_pairAfter 19 = .ok (.iload_n 3, 1) := kq_29 byq_r (by decide +kernel)
theorem d_Ways_pairAfter_20 : decode b_Ways_pairAfter 20 = .ok (.iconst 5, 1) := kq_8 byq_r (by decide +kernel)
theorem d_Ways_pairAfter_21 : decode b_Ways_pairAfter 21 = .ok (.idiv, 1) := kq_108 byq_r (by decide +kernel)
theorem d_Ways_pairAfter_22 : decode b_Ways_pairAfter 22 = .ok (.invokestatic 75, 3) := kq_184 byq_r (a := 0) (b := 75) (by decide +kernel)
theorem d_Ways_pairAfter_25 : decode b_Ways_pairAfter 25 = .ok (.istore 6, 2) := kq_54 byq_r (by decide +kernel)
theorem d_Ways_pairAfter_27 : decode b_Ways_pairAfter 27 = .ok (.aload_n 1, 1) := kq_43 byq_r (by decide +kernel)
theorem d_Ways_pairAfter_28 : decode b_Ways_pairAfter 28 = .ok (.iload 5, 2) := kq_21 byq_r (by decide +kernel)
theorem d_Ways_pairAfter_30 : decode b_Ways_pairAfter 30 = .ok (.iload_n 3, 1) := kq_29 byq_r (by decide +kernel)
theorem d_Ways_pairAfter_31 : decode b_Ways_pairAfter 31 = .ok (.iconst 5, 1) := kq_8 byq_r (by decide +kernel)
theorem d_Ways_pairAfter_32 : decode b_Ways_pairAfter 32 = .ok (.irem, 1) := kq_112 byq_r (by decide +kernel)
theorem d_Ways_pairAfter_33 : decode b_Ways_pairAfter 33 = .ok (.invokestatic 75, 3) := kq_184 byq_r (a := 0) (b := 75) (by decide +kernel)
theorem d_Ways_pairAfter_36 : decode b_Ways_pairAfter 36 = .ok (.istore 7, 2) := kq_54 byq_r (by decide +kernel)
theorem d_Ways_pairAfter_38 : decode b_Ways_pairAfter 38 = .ok (.aload_n 1, 1) := kq_43 byq_r (by decide +kernel)
theorem d_Ways_pairAfter_39 : decode b_Ways_pairAfter 39 = .ok (.iconst 0, 1) := kq_3 byq_r (by decide +kernel)
theorem d_Ways_pairAfter_40 : decode b_Ways_pairAfter 40 = .ok (.iload 6, 2) := kq_21 byq_r (by decide +kernel)
theorem d_Ways_pairAfter_42 : decode b_Ways_pairAfter 42 = .ok (.invokevirtual 68, 3) := kq_182 byq_r (a := 0) (b := 68) (by decide +kernel)
theorem d_Ways_pairAfter_45 : decode b_Ways_pairAfter 45 = .ok (.ifCond .eq 13, 3) := kq_153 byq_r (a := 0) (b := 13) (by decide +kernel)
theorem d_Ways_pairAfter_48 : decode b_Ways_pairAfter 48 = .ok (.aload_n 1, 1) := kq_43 byq_r (by decide +kernel)
theorem d_Ways_pairAfter_49 : decode b_Ways_pairAfter 49 = .ok (.iconst 1, 1) := kq_4 byq_r (by decide +kernel)
theorem d_Ways_pairAfter_50 : decode b_Ways_pairAfter 50 = .ok (.iload 7, 2) := kq_21 byq_r (by decide +kernel)
theorem d_Ways_pairAfter_52 : decode b_Ways_pairAfter 52 = .ok (.invokevirtual 68, 3) := kq_182 byq_r (a := 0) (b := 68) (by decide +kernel)
theorem d_Ways_pairAfter_55 : decode b_Ways_pairAfter 55 = .ok (.ifCond .ne 5, 3) := kq_154 byq_r (a := 0) (b := 5) (by decide +kernel)
theorem d_Ways_pairAfter_58 : decode b_Ways_pairAfter 58 = .ok (.iconst (-1), 1) := kq_2 byq_r (by decide +kernel)
theorem d_Ways_pairAfter_59 : decode b_Ways_pairAfter 59 = .ok (.ireturn, 1) := kq_172 byq_r (by decide +kernel)
theorem d_Ways_pairAfter_60 : decode b_Ways_pairAfter 60 = .ok (.iconst 0, 1) := kq_3 byq_r (by decide +kernel)
theorem d_Ways_pairAfter_61 : decode b_Ways_pairAfter 61 = .ok (.istore 8, 2) := kq_54 byq_r (by decide +kernel)
theorem d_Ways_pairAfter_63 : decode b_Ways_pairAfter 63 = .ok (.iload 8, 2) := kq_21 byq_r (by decide +kernel)
theorem d_Ways_pairAfter_65 : decode b_Ways_pairAfter 65 = .ok (.iconst 5, 1) := kq_8 byq_r (by decide +kernel)
theorem d_Ways_pairAfter_66 : decode b_Ways_pairAfter 66 = .ok (.if_icmp .ge 30, 3) := kq_162 byq_r (a := 0) (b := 30) (by decide +kernel)
theorem d_Ways_pairAfter_69 : decode b_Ways_pairAfter 69 = .ok (.aload_n 1, 1) := kq_43 byq_r (by decide +kernel)
theorem d_Ways_pairAfter_70 : decode b_Ways_pairAfter 70 = .ok (.iload 6, 2) := kq_21 byq_r (by decide +kernel)
theorem d_Ways_pairAfter_72 : decode b_Ways_pairAfter 72 = .ok (.iload 8, 2) := kq_21 byq_r (by decide +kernel)
theorem d_Ways_pairAfter_74 : decode b_Ways_pairAfter 74 = .ok (.invokestatic 75, 3) := kq_184 byq_r (a := 0) (b := 75) (by decide +kernel)
theorem d_Ways_pairAfter_77 : decode b_Ways_pairAfter 77 = .ok (.iload 7, 2) := kq_21 byq_r (by decide +kernel)
theorem d_Ways_pairAfter_79 : decode b_Ways_pairAfter 79 = .ok (.if_icmp .ne 11, 3) := kq_160 byq_r (a := 0) (b := 11) (by decide +kernel)
theorem d_Ways_pairAfter_82 : decode b_Ways_pairAfter 82 = .ok (.iload 6, 2) := kq_21 byq_r (by decide +kernel)
theorem d_Ways_pairAfter_84 : decode b_Ways_pairAfter 84 = .ok (.iconst 5, 1) := kq_8 byq_r (by decide +kernel)
theorem d_Ways_pairAfter_85 : decode b_Ways_pairAfter 85 = .ok (.imul, 1) := kq_104 byq_r (by decide +kernel)
theorem d_Ways_pairAfter_86 : decode b_Ways_pairAfter 86 = .ok (.iload 8, 2) := kq_21 byq_r (by decide +kernel)
theorem d_Ways_pairAfter_88 : decode b_Ways_pairAfter 88 = .ok (.iadd, 1) := kq_96 byq_r (by decide +kernel)
theorem d_Ways_pairAfter_89 : decode b_Ways_pairAfter 89 = .ok (.ireturn, 1) := kq_172 byq_r (by decide +kernel)
theorem d_Ways_pairAfter_90 : decode b_Ways_pairAfter 90 = .ok (.iinc 8 1, 3) := kq_132 byq_r (b := 1) (by decide +kernel)
theorem d_Ways_pairAfter_93 : decode b_Ways_pairAfter 93 = .ok (.goto (-30), 3) := kq_167 byq_r (a := 255) (b := 226) (by decide +kernel)
theorem d_Ways_pairAfter_96 : decode b_Ways_pairAfter 96 = .ok (.iconst (-1), 1) := kq_2 byq_r (by decide +kernel)
theorem d_Ways_pairAfter_97 : decode b_Ways_pairAfter 97 = .ok (.ireturn, 1) := kq_172 byq_r (by decide +kernel)
theorem d_Ways_measurePairs_0 : decode b_Ways_measurePairs 0 = .ok (.iconst 0, 1) := kq_3 byq_r (by decide +kernel)
theorem d_Ways_measurePairs_1 : decode b_Ways_measurePairs 1 = .ok (.istore_n 3, 1) := kq_62 byq_r (by decide +kernel)
theorem d_Ways_measurePairs_2 : decode b_Ways_measurePairs 2 = .ok (.iload_n 3, 1) := kq_29 byq_r (by decide +kernel)
theorem d_Ways_measurePairs_3 : decode b_Ways_measurePairs 3 = .ok (.sipush 180, 3) := kq_17 byq_r (a := 0) (b := 180) (by decide +kernel)
theorem d_Ways_measurePairs_6 : decode b_Ways_measurePairs 6 = .ok (.if_icmp .ge 17, 3) := kq_162 byq_r (a := 0) (b := 17) (by decide +kernel)
theorem d_Ways_measurePairs_9 : decode b_Ways_measurePairs 9 = .ok (.aload_n 0, 1) := kq_42 byq_r (by decide +kernel)
theorem d_Ways_measurePairs_10 : decode b_Ways_measurePairs 10 = .ok (.getfield 24, 3) := kq_180 byq_r (a := 0) (b := 24) (by decide +kernel)
theorem d_Ways_measurePairs_13 : decode b_Ways_measurePairs 13 = .ok (.iload_n 3, 1) := kq_29 byq_r (by decide +kernel)
theorem d_Ways_measurePairs_14 : decode b_Ways_measurePairs 14 = .ok (.ldc 36, 2) := kq_18 byq_r (by decide +kernel)
theorem d_Ways_measurePairs_16 : decode b_Ways_measurePairs 16 = .ok (.iastore, 1) := kq_79 byq_r (by decide +kernel)
theorem d_Ways_measurePairs_17 : decode b_Ways_measurePairs 17 = .ok (.iinc 3 1, 3) := kq_132 byq_r (b := 1) (by decide +kernel)
theorem d_Ways_measurePairs_20 : decode b_Ways_measurePairs 20 = .ok (.goto (-18), 3) := kq_167 byq_r (a := 255) (b := 238) (by decide +kernel)
theorem d_Ways_measurePairs_23 : decode b_Ways_measurePairs 23 = .ok (.aload_n 0, 1) := kq_42 byq_r (by decide +kernel)
theorem d_Ways_measurePairs_24 : decode b_Ways_measurePairs 24 = .ok (.getfield 27, 3) := kq_180 byq_r (a := 0) (b := 27) (by decide +kernel)
theorem d_Ways_measurePairs_27 : decode b_Ways_measurePairs 27 = .ok (.iconst 0, 1) := kq_3 byq_r (by decide +kernel)
theorem d_Ways_measurePairs_28 : decode b_Ways_measurePairs 28 = .ok (.iload_n 2, 1) := kq_28 byq_r (by decide +kernel)
theorem d_Ways_measurePairs_29 : decode b_Ways_measurePairs 29 = .ok (.iconst 5, 1) := kq_8 byq_r (by decide +kernel)
theorem d_Ways_measurePairs_30 : decode b_Ways_measurePairs 30 = .ok (.imul, 1) := kq_104 byq_r (by decide +kernel)
theorem d_Ways_measurePairs_31 : decode b_Ways_measurePairs 31 = .ok (.iconst 4, 1) := kq_7 byq_r (by decide +kernel)
theorem d_Ways_measurePairs_32 : decode b_Ways_measurePairs 32 = .ok (.iadd, 1) := kq_96 byq_r (by decide +kernel)
theorem d_Ways_measurePairs_33 : decode b_Ways_measurePairs 33 = .ok (.iastore, 1) := kq_79 byq_r (by decide +kernel)
theorem d_Ways_measurePairs_34 : decode b_Ways_measurePairs 34 = .ok (.aload_n 0, 1) := kq_42 byq_r (by decide +kernel)
theorem d_Ways_measurePairs_35 : decode b_Ways_measurePairs 35 = .ok (.getfield 24, 3) := kq_180 byq_r (a := 0) (b := 24) (by decide +kernel)
theorem d_Ways_measurePairs_38 : decode b_Ways_measurePairs 38 = .ok (.aload_n 0, 1) := kq_42 byq_r (by decide +kernel)
theorem d_Ways_measurePairs_39 : decode b_Ways_measurePairs 39 = .ok (.getfield 27, 3) := kq_180 byq_r (a := 0) (b := 27) (by decide +kernel)
theorem d_Ways_measurePairs_42 : decode b_Ways_measurePairs 42 = .ok (.iconst 0, 1) := kq_3 byq_r (by decide +kernel)
theorem d_Ways_measurePairs_43 : decode b_Ways_measurePairs 43 = .ok (.iaload, 1) := kq_46 byq_r (by decide +kernel)
theorem d_Ways_measurePairs_44 : decode b_Ways_measurePairs 44 = .ok (.iconst 0, 1) := kq_3 byq_r (by decide +kernel)
theorem d_Ways_measurePairs_45 : decode b_Ways_measurePairs 45 = .ok (.iastore, 1) := kq_79 byq_r (by decide +kernel)
theorem d_Ways_measurePairs_46 : decode b_Ways_measurePairs 46 = .ok (.iconst 1, 1) := kq_4 byq_r (by decide +kernel)
theorem d_Ways_measurePairs_47 : decode b_Ways_measurePairs 47 = .ok (.istore_n 3, 1) := kq_62 byq_r (by decide +kernel)
theorem d_Ways_measurePairs_48 : decode b_Ways_measurePairs 48 = .ok (.iconst 0, 1) := kq_3 byq_r (by decide +kernel)
theorem d_Ways_measurePairs_49 : decode b_Ways_measurePairs 49 = .ok (.istore 4, 2) := kq_54 byq_r (by decide +kernel)
theorem d_Ways_measurePairs_51 : decode b_Ways_measurePairs 51 = .ok (.iload 4, 2) := kq_21 byq_r (by decide +kernel)
theorem d_Ways_measurePairs_53 : decode b_Ways_measurePairs 53 = .ok (.iload_n 3, 1) := kq_29 byq_r (by decide +kernel)
theorem d_Ways_measurePairs_54 : decode b_Ways_measurePairs 54 = .ok (.if_icmp .ge 106, 3) := kq_162 byq_r (a := 0) (b := 106) (by decide +kernel)
theorem d_Ways_measurePairs_57 : decode b_Ways_measurePairs 57 = .ok (.iload 4, 2) := kq_21 byq_r (by decide +kernel)
theorem d_Ways_measurePairs_59 : decode b_Ways_measurePairs 59 = .ok (.sipush 180, 3) := kq_17 byq_r (a := 0) (b := 180) (by decide +kernel)
theorem d_Ways_measurePairs_62 : decode b_Ways_measurePairs 62 = .ok (.if_icmp .ge 98, 3) := kq_162 byq_r (a := 0) (b := 98) (by decide +kernel)
theorem d_Ways_measurePairs_65 : decode b_Ways_measurePairs 65 = .ok (.iconst 0, 1) := kq_3 byq_r (by decide +kernel)
theorem d_Ways_measurePairs_66 : decode b_Ways_measurePairs 66 = .ok (.istore 5, 2) := kq_54 byq_r (by decide +kernel)
theorem d_Ways_measurePairs_68 : decode b_Ways_measurePairs 68 = .ok (.iload 5, 2) := kq_21 byq_r (by decide +kernel)
theorem d_Ways_measurePairs_70 : decode b_Ways_measurePairs 70 = .ok (.bipush 25, 2) := kq_16 byq_r (b := 25) (by decide +kernel)
theorem d_Ways_measurePairs_72 : decode b_Ways_measurePairs 72 = .ok (.if_icmp .ge 82, 3) := kq_162 byq_r (a := 0) (b := 82) (by decide +kernel)
theorem d_Ways_measurePairs_75 : decode b_Ways_measurePairs 75 = .ok (.aload_n 0, 1) := kq_42 byq_r (by decide +kernel)
theorem d_Ways_measurePairs_76 : decode b_Ways_measurePairs 76 = .ok (.aload_n 1, 1) := kq_43 byq_r (by decide +kernel)
theorem d_Ways_measurePairs_77 : decode b_Ways_measurePairs 77 = .ok (.aload_n 0, 1) := kq_42 byq_r (by decide +kernel)
theorem d_Ways_measurePairs_78 : decode b_Ways_measurePairs 78 = .ok (.getfield 27, 3) := kq_180 byq_r (a := 0) (b := 27) (by decide +kernel)
theorem d_Ways_measurePairs_81 : decode b_Ways_measurePairs 81 = .ok (.iload 4, 2) := kq_21 byq_r (by decide +kernel)
theorem d_Ways_measurePairs_83 : decode b_Ways_measurePairs 83 = .ok (.iaload, 1) := kq_46 byq_r (by decide +kernel)
theorem d_Ways_measurePairs_84 : decode b_Ways_measurePairs 84 = .ok (.iload 5, 2) := kq_21 byq_r (by decide +kernel)
theorem d_Ways_measurePairs_86 : decode b_Ways_measurePairs 86 = .ok (.invokevirtual 71, 3) := kq_182 byq_r (a := 0) (b := 71) (by decide +kernel)
theorem d_Ways_measurePairs_89 : decode b_Ways_measurePairs 89 = .ok (.istore 6, 2) := kq_54 byq_r (by decide +kernel)
theorem d_Ways_measurePairs_91 : decode b_Ways_measurePairs 91 = .ok (.iload 6, 2) := kq_21 byq_r (by decide +kernel)
theorem d_Ways_measurePairs_93 : decode b_Ways_measurePairs 93 = .ok (.iconst (-1), 1) := kq_2 byq_r (by decide +kernel)
theorem d_Ways_measurePairs_94 : decode b_Ways_measurePairs 94 = .ok (.if_icmp .eq 54, 3) := kq_159 byq_r (a := 0) (b := 54) (by decide +kernel)
theorem d_Ways_measurePairs_97 : decode b_Ways_measurePairs 97 = .ok (.aload_n 0, 1) := kq_42 byq_r (by decide +kernel)
theorem d_Ways_measurePairs_98 : decode b_Ways_measurePairs 98 = .ok (.getfield 24, 3) := kq_180 byq_r (a := 0) (b := 24) (by decide +kernel)
theorem d_Ways_measurePairs_101 : decode b_Ways_measurePairs 101 = .ok (.iload 6, 2) := kq_21 byq_r (by decide +kernel)
theorem d_Ways_measurePairs_103 : decode b_Ways_measurePairs 103 = .ok (.iaload, 1) := kq_46 byq_r (by decide +kernel)
theorem d_Ways_measurePairs_104 : decode b_Ways_measurePairs 104 = .ok (.ldc 36, 2) := kq_18 byq_r (by decide +kernel)
theorem d_Ways_measurePairs_106 : decode b_Ways_measurePairs 106 = .ok (.if_icmp .lt 42, 3) := kq_161 byq_r (a := 0) (b := 42) (by decide +kernel)
theorem d_Ways_measurePairs_109 : decode b_Ways_measurePairs 109 = .ok (.iload_n 3, 1) := kq_29 byq_r (by decide +kernel)
theorem d_Ways_measurePairs_110 : decode b_Ways_measurePairs 110 = .ok (.sipush 180, 3) := kq_17 byq_r (a := 0) (b := 180) (by decide +kernel)
theorem d_Ways_measurePairs_113 : decode b_Ways_measurePairs 113 = .ok (.if_icmp .ge 35, 3) := kq_162 byq_r (a := 0) (b := 35) (by decide +kernel)
theorem d_Ways_measurePairs_116 : decode b_Ways_measurePairs 116 = .ok (.aload_n 0, 1) := kq_42 byq_r (by decide +kernel)
theorem d_Ways_measurePairs_117 : decode b_Ways_measurePairs 117 = .ok (.getfield 24, 3) := kq_180 byq_r (a := 0) (b := 24) (by decide +kernel)
theorem d_Ways_measurePairs_120 : decode b_Ways_measurePairs 120 = .ok (.iload 6, 2) := kq_21 byq_r (by decide +kernel)
theorem d_Ways_measurePairs_122 : decode b_Ways_measurePairs 122 = .ok (.aload_n 0, 1) := kq_42 byq_r (by decide +kernel)
theorem d_Ways_measurePairs_123 : decode b_Ways_measurePairs 123 = .ok (.getfield 24, 3) := kq_180 byq_r (a := 0) (b := 24) (by decide +kernel)
theorem d_Ways_measurePairs_126 : decode b_Ways_measurePairs 126 = .ok (.aload_n 0, 1) := kq_42 byq_r (by decide +kernel)
theorem d_Ways_measurePairs_127 : decode b_Ways_measurePairs 127 = .ok (.getfield 27, 3) := kq_180 byq_r (a := 0) (b := 27) (by decide +kernel)
theorem d_Ways_measurePairs_130 : decode b_Ways_measurePairs 130 = .ok (.iload 4, 2) := kq_21 byq_r (by decide +kernel)
theorem d_Ways_measurePairs_132 : decode b_Ways_measurePairs 132 = .ok (.iaload, 1) := kq_46 byq_r (by decide +kernel)
theorem d_Ways_measurePairs_133 : decode b_Ways_measurePairs 133 = .ok (.iaload, 1) := kq_46 byq_r (by decide +kernel)
theorem d_Ways_measurePairs_134 : decode b_Ways_measurePairs 134 = .ok (.iconst 1, 1) := kq_4 byq_r (by decide +kernel)
theorem d_Ways_measurePairs_135 : decode b_Ways_measurePairs 135 = .ok (.iadd, 1) := kq_96 byq_r (by decide +kernel)
theorem d_Ways_measurePairs_136 : decode b_Ways_measurePairs 136 = .ok (.iastore, 1) := kq_79 byq_r (by decide +kernel)
theorem d_Ways_measurePairs_137 : decode b_Ways_measurePairs 137 = .ok (.aload_n 0, 1) := kq_42 byq_r (by decide +kernel)
theorem d_Ways_measurePairs_138 : decode b_Ways_measurePairs 138 = .ok (.getfield 27, 3) := kq_180 byq_r (a := 0) (b := 27) (by decide +kernel)
theorem d_Ways_measurePairs_141 : decode b_Ways_measurePairs 141 = .ok (.iload_n 3, 1) := kq_29 byq_r (by decide +kernel)
theorem d_Ways_measurePairs_142 : decode b_Ways_measurePairs 142 = .ok (.iload 6, 2) := kq_21 byq_r (by decide +kernel)
theorem d_Ways_measurePairs_144 : decode b_Ways_measurePairs 144 = .ok (.iastore, 1) := kq_79 byq_r (by decide +kernel)
theorem d_Ways_measurePairs_145 : decode b_Ways_measurePairs 145 = .ok (.iinc 3 1, 3) := kq_132 byq_r (b := 1) (by decide +kernel)
theorem d_Ways_measurePairs_148 : decode b_Ways_measurePairs 148 = .ok (.iinc 5 1, 3) := kq_132 byq_r (b := 1) (by decide +kernel)
theorem d_Ways_measurePairs_151 : decode b_Ways_measurePairs 151 = .ok (.goto (-83), 3) := kq_167 byq_r (a := 255) (b := 173) (by decide +kernel)
theorem d_Ways_measurePairs_154 : decode b_Ways_measurePairs 154 = .ok (.iinc 4 1, 3) := kq_132 byq_r (b := 1) (by decide +kernel)
theorem d_Ways_measurePairs_157 : decode b_Ways_measurePairs 157 = .ok (.goto (-106), 3) := kq_167 byq_r (a := 255) (b := 150) (by decide +kernel)
theorem d_Ways_measurePairs_160 : decode b_Ways_measurePairs 160 = .ok (.return_, 1) := kq_177 byq_r (by decide +kernel)
theorem d_Ways_pairNearer_0 : decode b_Ways_pairNearer 0 = .ok (.iconst 0, 1) := kq_3 byq_r (by decide +kernel)
theorem d_Ways_pairNearer_1 : decode b_Ways_pairNearer 1 = .ok (.istore_n 3, 1) := kq_62 byq_r (by decide +kernel)
theorem d_Ways_pairNearer_2 : decode b_Ways_pairNearer 2 = .ok (.iload_n 3, 1) := kq_29 byq_r (by decide +kernel)
theorem d_Ways_pairNearer_3 : decode b_Ways_pairNearer 3 = .ok (.bipush 25, 2) := kq_16 byq_r (b := 25) (by decide +kernel)
theorem d_Ways_pairNearer_5 : decode b_Ways_pairNearer 5 = .ok (.if_icmp .ge 42, 3) := kq_162 byq_r (a := 0) (b := 42) (by decide +kernel)
theorem d_Ways_pairNearer_8 : decode b_Ways_pairNearer 8 = .ok (.aload_n 0, 1) := kq_42 byq_r (by decide +kernel)
theorem d_Ways_pairNearer_9 : decode b_Ways_pairNearer 9 = .ok (.aload_n 1, 1) := kq_43 byq_r (by decide +kernel)
theorem d_Ways_pairNearer_10 : decode b_Ways_pairNearer 10 = .ok (.iload_n 2, 1) := kq_28 byq_r (by decide +kernel)
theorem d_Ways_pairNearer_11 : decode b_Ways_pairNearer 11 = .ok (.iload_n 3, 1) := kq_29 byq_r (by decide +kernel)
theorem d_Ways_pairNearer_12 : decode b_Ways_pairNearer 12 = .ok (.invokevirtual 71, 3) := kq_182 byq_r (a := 0) (b := 71) (by decide +kernel)
theorem d_Ways_pairNearer_15 : decode b_Ways_pairNearer 15 = .ok (.istore 4, 2) := kq_54 byq_r (by decide +kernel)
theorem d_Ways_pairNearer_17 : decode b_Ways_pairNearer 17 = .ok (.iload 4, 2) := kq_21 byq_r (by decide +kernel)
theorem d_Ways_pairNearer_19 : decode b_Ways_pairNearer 19 = .ok (.iconst (-1), 1) := kq_2 byq_r (by decide +kernel)
theorem d_Ways_pairNearer_20 : decode b_Ways_pairNearer 20 = .ok (.if_icmp .eq 21, 3) := kq_159 byq_r (a := 0) (b := 21) (by decide +kernel)
theorem d_Ways_pairNearer_23 : decode b_Ways_pairNearer 23 = .ok (.aload_n 0, 1) := kq_42 byq_r (by decide +kernel)
theorem d_Ways_pairNearer_24 : decode b_Ways_pairNearer 24 = .ok (.getfield 24, 3) := kq_180 byq_r (a := 0) (b := 24) (by decide +kernel)
theorem d_Ways_pairNearer_27 : decode b_Ways_pairNearer 27 = .ok (.iload 4, 2) := kq_21 byq_r (by decide +kernel)
theorem d_Ways_pairNearer_29 : decode b_Ways_pairNearer 29 = .ok (.iaload, 1) := kq_46 byq_r (by decide +kernel)
theorem d_Ways_pairNearer_30 : decode b_Ways_pairNearer 30 = .ok (.aload_n 0, 1) := kq_42 byq_r (by decide +kernel)
theorem d_Ways_pairNearer_31 : decode b_Ways_pairNearer 31 = .ok (.getfield 24, 3) := kq_180 byq_r (a := 0) (b := 24) (by decide +kernel)
theorem d_Ways_pairNearer_34 : decode b_Ways_pairNearer 34 = .ok (.iload_n 2, 1) := kq_28 byq_r (by decide +kernel)
theorem d_Ways_pairNearer_35 : decode b_Ways_pairNearer 35 = .ok (.iaload, 1) := kq_46 byq_r (by decide +kernel)
theorem d_Ways_pairNearer_36 : decode b_Ways_pairNearer 36 = .ok (.if_icmp .ge 5, 3) := kq_162 byq_r (a := 0) (b := 5) (by decide +kernel)
theorem d_Ways_pairNearer_39 : decode b_Ways_pairNearer 39 = .ok (.iload_n 3, 1) := kq_29 byq_r (by decide +kernel)
theorem d_Ways_pairNearer_40 : decode b_Ways_pairNearer 40 = .ok (.ireturn, 1) := kq_172 byq_r (by decide +kernel)
theorem d_Ways_pairNearer_41 : decode b_Ways_pairNearer 41 = .ok (.iinc 3 1, 3) := kq_132 byq_r (b := 1) (by decide +kernel)
theorem d_Ways_pairNearer_44 : decode b_Ways_pairNearer 44 = .ok (.goto (-42), 3) := kq_167 byq_r (a := 255) (b := 214) (by decide +kernel)
theorem d_Ways_pairNearer_47 : decode b_Ways_pairNearer 47 = .ok (.iconst (-1), 1) := kq_2 byq_r (by decide +kernel)
theorem d_Ways_pairNearer_48 : decode b_Ways_pairNearer 48 = .ok (.ireturn, 1) := kq_172 byq_r (by decide +kernel)
theorem d_Thief_start_0 : decode b_Thief_start 0 = .ok (.aload_n 0, 1) := kq_42 byq_r (by decide +kernel)
theorem d_Thief_start_1 : decode b_Thief_start 1 = .ok (.iload_n 1, 1) := kq_27 byq_r (by decide +kernel)
theorem d_Thief_start_2 : decode b_Thief_start 2 = .ok (.ifCond .ne 9, 3) := kq_154 byq_r (a := 0) (b := 9) (by decide +kernel)
theorem d_Thief_start_5 : decode b_Thief_start 5 = .ok (.lconst 1, 1) := kq_10 byq_r (by decide +kernel)
theorem d_Thief_start_6 : decode b_Thief_start 6 = .ok (.iload_n 2, 1) := kq_28 byq_r (by decide +kernel)
theorem d_Thief_start_7 : decode b_Thief_start 7 = .ok (.lshl, 1) := kq_121 byq_r (by decide +kernel)
theorem d_Thief_start_8 : decode b_Thief_start 8 = .ok (.goto 4, 3) := kq_167 byq_r (a := 0) (b := 4) (by decide +kernel)
theorem d_Thief_start_11 : decode b_Thief_start 11 = .ok (.lconst 0, 1) := kq_9 byq_r (by decide +kernel)
theorem d_Thief_start_12 : decode b_Thief_start 12 = .ok (.putfield 18, 3) := kq_181 byq_r (a := 0) (b := 18) (by decide +kernel)
theorem d_Thief_start_15 : decode b_Thief_start 15 = .ok (.aload_n 0, 1) := kq_42 byq_r (by decide +kernel)
theorem d_Thief_start_16 : decode b_Thief_start 16 = .ok (.iload_n 1, 1) := kq_27 byq_r (by decide +kernel)
theorem d_Thief_start_17 : decode b_Thief_start 17 = .ok (.iconst 1, 1) := kq_4 byq_r (by decide +kernel)
theorem d_Thief_start_18 : decode b_Thief_start 18 = .ok (.if_icmp .ne 9, 3) := kq_160 byq_r (a := 0) (b := 9) (by decide +kernel)
theorem d_Thief_start_21 : decode b_Thief_start 21 = .ok (.lconst 1, 1) := kq_10 byq_r (by decide +kernel)
theorem d_Thief_start_22 : decode b_Thief_start 22 = .ok (.iload_n 2, 1) := kq_28 byq_r (by decide +kernel)
theorem d_Thief_start_23 : decode b_Thief_start 23 = .ok (.lshl, 1) := kq_121 byq_r (by decide +kernel)
theorem d_Thief_start_24 : decode b_Thief_start 24 = .ok (.goto 4, 3) := kq_167 byq_r (a := 0) (b := 4) (by decide +kernel)
theorem d_Thief_start_27 : decode b_Thief_start 27 = .ok (.lconst 0, 1) := kq_9 byq_r (by decide +kernel)
theorem d_Thief_start_28 : decode b_Thief_start 28 = .ok (.putfield 22, 3) := kq_181 byq_r (a := 0) (b := 22) (by decide +kernel)
theorem d_Thief_start_31 : decode b_Thief_start 31 = .ok (.return_, 1) := kq_177 byq_r (by decide +kernel)
theorem d_Thief_stir_0 : decode b_Thief_stir 0 = .ok (.aload_n 0, 1) := kq_42 byq_r (by decide +kernel)
theorem d_Thief_stir_1 : decode b_Thief_stir 1 = .ok (.getfield 18, 3) := kq_180 byq_r (a := 0) (b := 18) (by decide +kernel)
theorem d_Thief_stir_4 : decode b_Thief_stir 4 = .ok (.aload_n 1, 1) := kq_43 byq_r (by decide +kernel)
theorem d_Thief_stir_5 : decode b_Thief_stir 5 = .ok (.iconst 0, 1) := kq_3 byq_r (by decide +kernel)
theorem d_Thief_stir_6 : decode b_Thief_stir 6 = .ok (.aload_n 0, 1) := kq_42 byq_r (by decide +kernel)
theorem d_Thief_stir_7 : decode b_Thief_stir 7 = .ok (.getfield 18, 3) := kq_180 byq_r (a := 0) (b := 18) (by decide +kernel)
theorem d_Thief_stir_10 : decode b_Thief_stir 10 = .ok (.invokevirtual 27, 3) := kq_182 byq_r (a := 0) (b := 27) (by decide +kernel)
theorem d_Thief_stir_13 : decode b_Thief_stir 13 = .ok (.lor, 1) := kq_129 byq_r (by decide +kernel)
theorem d_Thief_stir_14 : decode b_Thief_stir 14 = .ok (.aload_n 0, 1) := kq_42 byq_r (by decide +kernel)
theorem d_Thief_stir_15 : decode b_Thief_stir 15 = .ok (.getfield 22, 3) := kq_180 byq_r (a := 0) (b := 22) (by decide +kernel)
theorem d_Thief_stir_18 : decode b_Thief_stir 18 = .ok (.aload_n 1, 1) := kq_43 byq_r (by decide +kernel)
theorem d_Thief_stir_19 : decode b_Thief_stir 19 = .ok (.invokevirtual 33, 3) := kq_182 byq_r (a := 0) (b := 33) (by decide +kernel)
theorem d_Thief_stir_22 : decode b_Thief_stir 22 = .ok (.land, 1) := kq_127 byq_r (by decide +kernel)
theorem d_Thief_stir_23 : decode b_Thief_stir 23 = .ok (.lor, 1) := kq_129 byq_r (by decide +kernel)
theorem d_Thief_stir_24 : decode b_Thief_stir 24 = .ok (.lstore_n 2, 1) := kq_65 byq_r (by decide +kernel)
theorem d_Thief_stir_25 : decode b_Thief_stir 25 = .ok (.aload_n 0, 1) := kq_42 byq_r (by decide +kernel)
theorem d_Thief_stir_26 : decode b_Thief_stir 26 = .ok (.getfield 22, 3) := kq_180 byq_r (a := 0) (b := 22) (by decide +kernel)
theorem d_Thief_stir_29 : decode b_Thief_stir 29 = .ok (.aload_n 1, 1) := kq_43 byq_r (by decide +kernel)
theorem d_Thief_stir_30 : decode b_Thief_stir 30 = .ok (.iconst 1, 1) := kq_4 byq_r (by decide +kernel)
theorem d_Thief_stir_31 : decode b_Thief_stir 31 = .ok (.aload_n 0, 1) := kq_42 byq_r (by decide +kernel)
theorem d_Thief_stir_32 : decode b_Thief_stir 32 = .ok (.getfield 22, 3) := kq_180 byq_r (a := 0) (b := 22) (by decide +kernel)
theorem d_Thief_stir_35 : decode b_Thief_stir 35 = .ok (.invokevirtual 27, 3) := kq_182 byq_r (a := 0) (b := 27) (by decide +kernel)
theorem d_Thief_stir_38 : decode b_Thief_stir 38 = .ok (.lor, 1) := kq_129 byq_r (by decide +kernel)
theorem d_Thief_stir_39 : decode b_Thief_stir 39 = .ok (.aload_n 0, 1) := kq_42 byq_r (by decide +kernel)
theorem d_Thief_stir_40 : decode b_Thief_stir 40 = .ok (.getfield 18, 3) := kq_180 byq_r (a := 0) (b := 18) (by decide +kernel)
theorem d_Thief_stir_43 : decode b_Thief_stir 43 = .ok (.aload_n 1, 1) := kq_43 byq_r (by decide +kernel)
theorem d_Thief_stir_44 : decode b_Thief_stir 44 = .ok (.invokevirtual 33, 3) := kq_182 byq_r (a := 0) (b := 33) (by decide +kernel)
theorem d_Thief_stir_47 : decode b_Thief_stir 47 = .ok (.land, 1) := kq_127 byq_r (by decide +kernel)
theorem d_Thief_stir_48 : decode b_Thief_stir 48 = .ok (.lor, 1) := kq_129 byq_r (by decide +kernel)
theorem d_Thief_stir_49 : decode b_Thief_stir 49 = .ok (.lstore 4, 2) := kq_55 byq_r (by decide +kernel)
theorem d_Thief_stir_51 : decode b_Thief_stir 51 = .ok (.aload_n 0, 1) := kq_42 byq_r (by decide +kernel)
theorem d_Thief_stir_52 : decode b_Thief_stir 52 = .ok (.lload_n 2, 1) := kq_32 byq_r (by decide +kernel)
theorem d_Thief_stir_53 : decode b_Thief_stir 53 = .ok (.putfield 18, 3) := kq_181 byq_r (a := 0) (b := 18) (by decide +kernel)
theorem d_Thief_stir_56 : decode b_Thief_stir 56 = .ok (.aload_n 0, 1) := kq_42 byq_r (by decide +kernel)
theorem d_Thief_stir_57 : decode b_Thief_stir 57 = .ok (.lload 4, 2) := kq_22 byq_r (by decide +kernel)
theorem d_Thief_stir_59 : decode b_Thief_stir 59 = .ok (.putfield 22, 3) := kq_181 byq_r (a := 0) (b := 22) (by decide +kernel)
theorem d_Thief_stir_62 : decode b_Thief_stir 62 = .ok (.return_, 1) := kq_177 byq_r (by decide +kernel)
theorem d_Thief_record_0 : decode b_Thief_record 0 = .ok (.iload_n 1, 1) := kq_27 byq_r (by decide +kernel)
theorem d_Thief_record_1 : decode b_Thief_record 1 = .ok (.ifCond .lt 24, 3) := kq_155 byq_r (a := 0) (b := 24) (by decide +kernel)
theorem d_Thief_record_4 : decode b_Thief_record 4 = .ok (.iload_n 1, 1) := kq_27 byq_r (by decide +kernel)
theorem d_Thief_record_5 : decode b_Thief_record 5 = .ok (.bipush 30, 2) := kq_16 byq_r (b := 30) (by decide +kernel)
theorem d_Thief_record_7 : decode b_Thief_record 7 = .ok (.if_icmp .ge 18, 3) := kq_162 byq_r (a := 0) (b := 18) (by decide +kernel)
theorem d_Thief_record_10 : decode b_Thief_record 10 = .ok (.aload_n 0, 1) := kq_42 byq_r (by decide +kernel)
theorem d_Thief_record_11 : decode b_Thief_record 11 = .ok (.getfield 9, 3) := kq_180 byq_r (a := 0) (b := 9) (by decide +kernel)
theorem d_Thief_record_14 : decode b_Thief_record 14 = .ok (.iload_n 1, 1) := kq_27 byq_r (by decide +kernel)
theorem d_Thief_record_15 : decode b_Thief_record 15 = .ok (.lload_n 2, 1) := kq_32 byq_r (by decide +kernel)
theorem d_Thief_record_16 : decode b_Thief_record 16 = .ok (.lastore, 1) := kq_80 byq_r (by decide +kernel)
theorem d_Thief_record_17 : decode b_Thief_record 17 = .ok (.aload_n 0, 1) := kq_42 byq_r (by decide +kernel)
theorem d_Thief_record_18 : decode b_Thief_record 18 = .ok (.getfield 15, 3) := kq_180 byq_r (a := 0) (b := 15) (by decide +kernel)
theorem d_Thief_record_21 : decode b_Thief_record 21 = .ok (.iload_n 1, 1) := kq_27 byq_r (by decide +kernel)
theorem d_Thief_record_22 : decode b_Thief_record 22 = .ok (.lload 4, 2) := kq_22 byq_r (by decide +kernel)
theorem d_Thief_record_24 : decode b_Thief_record 24 = .ok (.lastore, 1) := kq_80 byq_r (by decide +kernel)
theorem d_Thief_record_25 : decode b_Thief_record 25 = .ok (.return_, 1) := kq_177 byq_r (by decide +kernel)
theorem d_Thief_strike_0 : decode b_Thief_strike 0 = .ok (.iload_n 1, 1) := kq_27 byq_r (by decide +kernel)
theorem d_Thief_strike_1 : decode b_Thief_strike 1 = .ok (.ifCond .lt 47, 3) := kq_155 byq_r (a := 0) (b := 47) (by decide +kernel)
theorem d_Thief_strike_4 : decode b_Thief_strike 4 = .ok (.iload_n 1, 1) := kq_27 byq_r (by decide +kernel)
theorem d_Thief_strike_5 : decode b_Thief_strike 5 = .ok (.bipush 30, 2) := kq_16 byq_r (b := 30) (by decide +kernel)
theorem d_Thief_strike_7 : decode b_Thief_strike 7 = .ok (.if_icmp .ge 41, 3) := kq_162 byq_r (a := 0) (b := 41) (by decide +kernel)
theorem d_Thief_strike_10 : decode b_Thief_strike 10 = .ok (.aload_n 0, 1) := kq_42 byq_r (by decide +kernel)
theorem d_Thief_strike_11 : decode b_Thief_strike 11 = .ok (.dup, 1) := kq_89 byq_r (by decide +kernel)
theorem d_Thief_strike_12 : decode b_Thief_strike 12 = .ok (.getfield 18, 3) := kq_180 byq_r (a := 0) (b := 18) (by decide +kernel)
theorem d_Thief_strike_15 : decode b_Thief_strike 15 = .ok (.aload_n 0, 1) := kq_42 byq_r (by decide +kernel)
theorem d_Thief_strike_16 : decode b_Thief_strike 16 = .ok (.getfield 9, 3) := kq_180 byq_r (a := 0) (b := 9) (by decide +kernel)
theorem d_Thief_strike_19 : decode b_Thief_strike 19 = .ok (.iload_n 1, 1) := kq_27 byq_r (by decide +kernel)
theorem d_Thief_strike_20 : decode b_Thief_strike 20 = .ok (.laload, 1) := kq_47 byq_r (by decide +kernel)
theorem d_Thief_strike_21 : decode b_Thief_strike 21 = .ok (.ldc2_w 25, 3) := kq_20 byq_r (a := 0) (b := 25) (by decide +kernel)
theorem d_Thief_strike_24 : decode b_Thief_strike 24 = .ok (.lxor, 1) := kq_131 byq_r (by decide +kernel)
theorem d_Thief_strike_25 : decode b_Thief_strike 25 = .ok (.land, 1) := kq_127 byq_r (by decide +kernel)
theorem d_Thief_strike_26 : decode b_Thief_strike 26 = .ok (.putfield 18, 3) := kq_181 byq_r (a := 0) (b := 18) (by decide +kernel)
theorem d_Thief_strike_29 : decode b_Thief_strike 29 = .ok (.aload_n 0, 1) := kq_42 byq_r (by decide +kernel)
theorem d_Thief_strike_30 : decode b_Thief_strike 30 = .ok (.dup, 1) := kq_89 byq_r (by decide +kernel)
theorem d_Thief_strike_31 : decode b_Thief_strike 31 = .ok (.getfield 22, 3) := kq_180 byq_r (a := 0) (b := 22) (by decide +kernel)
theorem d_Thief_strike_34 : decode b_Thief_strike 34 = .ok (.aload_n 0, 1) := kq_42 byq_r (by decide +kernel)
theorem d_Thief_strike_35 : decode b_Thief_strike 35 = .ok (.getfield 15, 3) := kq_180 byq_r (a := 0) (b := 15) (by decide +kernel)
theorem d_Thief_strike_38 : decode b_Thief_strike 38 = .ok (.iload_n 1, 1) := kq_27 byq_r (by decide +kernel)
theorem d_Thief_strike_39 : decode b_Thief_strike 39 = .ok (.laload, 1) := kq_47 byq_r (by decide +kernel)
theorem d_Thief_strike_40 : decode b_Thief_strike 40 = .ok (.ldc2_w 25, 3) := kq_20 byq_r (a := 0) (b := 25) (by decide +kernel)
theorem d_Thief_strike_43 : decode b_Thief_strike 43 = .ok (.lxor, 1) := kq_131 byq_r (by decide +kernel)
theorem d_Thief_strike_44 : decode b_Thief_strike 44 = .ok (.land, 1) := kq_127 byq_r (by decide +kernel)
theorem d_Thief_strike_45 : decode b_Thief_strike 45 = .ok (.putfield 22, 3) := kq_181 byq_r (a := 0) (b := 22) (by decide +kernel)
theorem d_Thief_strike_48 : decode b_Thief_strike 48 = .ok (.return_, 1) := kq_177 byq_r (by decide +kernel)
theorem d_Thief_gone_0 : decode b_Thief_gone 0 = .ok (.aload_n 0, 1) := kq_42 byq_r (by decide +kernel)
theorem d_Thief_gone_1 : decode b_Thief_gone 1 = .ok (.getfield 18, 3) := kq_180 byq_r (a := 0) (b := 18) (by decide +kernel)
theorem d_Thief_gone_4 : decode b_Thief_gone 4 = .ok (.aload_n 0, 1) := kq_42 byq_r (by decide +kernel)
theorem d_Thief_gone_5 : decode b_Thief_gone 5 = .ok (.getfield 22, 3) := kq_180 byq_r (a := 0) (b := 22) (by decide +kernel)
theorem d_Thief_gone_8 : decode b_Thief_gone 8 = .ok (.lor, 1) := kq_129 byq_r (by decide +kernel)
theorem d_Thief_gone_9 : decode b_Thief_gone 9 = .ok (.lconst 0, 1) := kq_9 byq_r (by decide +kernel)
theorem d_Thief_gone_10 : decode b_Thief_gone 10 = .ok (.lcmp, 1) := kq_148 byq_r (by decide +kernel)
theorem d_Thief_gone_11 : decode b_Thief_gone 11 = .ok (.ifCond .ne 7, 3) := kq_154 byq_r (a := 0) (b := 7) (by decide +kernel)
theorem d_Thief_gone_14 : decode b_Thief_gone 14 = .ok (.iconst 1, 1) := kq_4 byq_r (by decide +kernel)
theorem d_Thief_gone_15 : decode b_Thief_gone 15 = .ok (.goto 4, 3) := kq_167 byq_r (a := 0) (b := 4) (by decide +kernel)
theorem d_Thief_gone_18 : decode b_Thief_gone 18 = .ok (.iconst 0, 1) := kq_3 byq_r (by decide +kernel)
theorem d_Thief_gone_19 : decode b_Thief_gone 19 = .ok (.ireturn, 1) := kq_172 byq_r (by decide +kernel)
theorem d_Thief_roam_0 : decode b_Thief_roam 0 = .ok (.iconst 0, 1) := kq_3 byq_r (by decide +kernel)
theorem d_Thief_roam_1 : decode b_Thief_roam 1 = .ok (.istore_n 2, 1) := kq_61 byq_r (by decide +kernel)
theorem d_Thief_roam_2 : decode b_Thief_roam 2 = .ok (.iload_n 2, 1) := kq_28 byq_r (by decide +kernel)
theorem d_Thief_roam_3 : decode b_Thief_roam 3 = .ok (.bipush 72, 2) := kq_16 byq_r (b := 72) (by decide +kernel)
theorem d_Thief_roam_5 : decode b_Thief_roam 5 = .ok (.if_icmp .ge 88, 3) := kq_162 byq_r (a := 0) (b := 88) (by decide +kernel)
theorem d_Thief_roam_8 : decode b_Thief_roam 8 = .ok (.aload_n 0, 1) := kq_42 byq_r (by decide +kernel)
theorem d_Thief_roam_9 : decode b_Thief_roam 9 = .ok (.getfield 18, 3) := kq_180 byq_r (a := 0) (b := 18) (by decide +kernel)
theorem d_Thief_roam_12 : decode b_Thief_roam 12 = .ok (.lstore_n 3, 1) := kq_66 byq_r (by decide +kernel)
theorem d_Thief_roam_13 : decode b_Thief_roam 13 = .ok (.aload_n 0, 1) := kq_42 byq_r (by decide +kernel)
theorem d_Thief_roam_14 : decode b_Thief_roam 14 = .ok (.getfield 22, 3) := kq_180 byq_r (a := 0) (b := 22) (by decide +kernel)
theorem d_Thief_roam_17 : decode b_Thief_roam 17 = .ok (.lstore 5, 2) := kq_55 byq_r (by decide +kernel)
theorem d_Thief_roam_19 : decode b_Thief_roam 19 = .ok (.aload_n 0, 1) := kq_42 byq_r (by decide +kernel)
theorem d_Thief_roam_20 : decode b_Thief_roam 20 = .ok (.aload_n 1, 1) := kq_43 byq_r (by decide +kernel)
theorem d_Thief_roam_21 : decode b_Thief_roam 21 = .ok (.invokevirtual 37, 3) := kq_182 byq_r (a := 0) (b := 37) (by decide +kernel)
theorem d_Thief_roam_24 : decode b_Thief_roam 24 = .ok (.aload_n 0, 1) := kq_42 byq_r (by decide +kernel)
theorem d_Thief_roam_25 : decode b_Thief_roam 25 = .ok (.aload_n 0, 1) := kq_42 byq_r (by decide +kernel)
theorem d_Thief_roam_26 : decode b_Thief_roam 26 = .ok (.getfield 18, 3) := kq_180 byq_r (a := 0) (b := 18) (by decide +kernel)
theorem d_Thief_roam_29 : decode b_Thief_roam 29 = .ok (.aload_n 0, 1) := kq_42 byq_r (by decide +kernel)
theorem d_Thief_roam_30 : decode b_Thief_roam 30 = .ok (.getfield 9, 3) := kq_180 byq_r (a := 0) (b := 9) (by decide +kernel)
theorem d_Thief_roam_33 : decode b_Thief_roam 33 = .ok (.iconst 0, 1) := kq_3 byq_r (by decide +kernel)
theorem d_Thief_roam_34 : decode b_Thief_roam 34 = .ok (.laload, 1) := kq_47 byq_r (by decide +kernel)
theorem d_Thief_roam_35 : decode b_Thief_roam 35 = .ok (.ldc2_w 25, 3) := kq_20 byq_r (a := 0) (b := 25) (by decide +kernel)
theorem d_Thief_roam_38 : decode b_Thief_roam 38 = .ok (.lxor, 1) := kq_131 byq_r (by decide +kernel)
theorem d_Thief_roam_39 : decode b_Thief_roam 39 = .ok (.land, 1) := kq_127 byq_r (by decide +kernel)
theorem d_Thief_roam_40 : decode b_Thief_roam 40 = .ok (.lload_n 3, 1) := kq_33 byq_r (by decide +kernel)
theorem d_Thief_roam_41 : decode b_Thief_roam 41 = .ok (.lor, 1) := kq_129 byq_r (by decide +kernel)
theorem d_Thief_roam_42 : decode b_Thief_roam 42 = .ok (.putfield 18, 3) := kq_181 byq_r (a := 0) (b := 18) (by decide +kernel)
theorem d_Thief_roam_45 : decode b_Thief_roam 45 = .ok (.aload_n 0, 1) := kq_42 byq_r (by decide +kernel)
theorem d_Thief_roam_46 : decode b_Thief_roam 46 = .ok (.aload_n 0, 1) := kq_42 byq_r (by decide +kernel)
theorem d_Thief_roam_47 : decode b_Thief_roam 47 = .ok (.getfield 22, 3) := kq_180 byq_r (a := 0) (b := 22) (by decide +kernel)
theorem d_Thief_roam_50 : decode b_Thief_roam 50 = .ok (.aload_n 0, 1) := kq_42 byq_r (by decide +kernel)
theorem d_Thief_roam_51 : decode b_Thief_roam 51 = .ok (.getfield 15, 3) := kq_180 byq_r (a := 0) (b := 15) (by decide +kernel)
theorem d_Thief_roam_54 : decode b_Thief_roam 54 = .ok (.iconst 0, 1) := kq_3 byq_r (by decide +kernel)
theorem d_Thief_roam_55 : decode b_Thief_roam 55 = .ok (.laload, 1) := kq_47 byq_r (by decide +kernel)
theorem d_Thief_roam_56 : decode b_Thief_roam 56 = .ok (.ldc2_w 25, 3) := kq_20 byq_r (a := 0) (b := 25) (by decide +kernel)
theorem d_Thief_roam_59 : decode b_Thief_roam 59 = .ok (.lxor, 1) := kq_131 byq_r (by decide +kernel)
theorem d_Thief_roam_60 : decode b_Thief_roam 60 = .ok (.land, 1) := kq_127 byq_r (by decide +kernel)
theorem d_Thief_roam_61 : decode b_Thief_roam 61 = .ok (.lload 5, 2) := kq_22 byq_r (by decide +kernel)
theorem d_Thief_roam_63 : decode b_Thief_roam 63 = .ok (.lor, 1) := kq_129 byq_r (by decide +kernel)
theorem d_Thief_roam_64 : decode b_Thief_roam 64 = .ok (.putfield 22, 3) := kq_181 byq_r (a := 0) (b := 22) (by decide +kernel)
theorem d_Thief_roam_67 : decode b_Thief_roam 67 = .ok (.aload_n 0, 1) := kq_42 byq_r (by decide +kernel)
theorem d_Thief_roam_68 : decode b_Thief_roam 68 = .ok (.getfield 18, 3) := kq_180 byq_r (a := 0) (b := 18) (by decide +kernel)
theorem d_Thief_roam_71 : decode b_Thief_roam 71 = .ok (.lload_n 3, 1) := kq_33 byq_r (by decide +kernel)
theorem d_Thief_roam_72 : decode b_Thief_roam 72 = .ok (.lcmp, 1) := kq_148 byq_r (by decide +kernel)
theorem d_Thief_roam_73 : decode b_Thief_roam 73 = .ok (.ifCond .ne 14, 3) := kq_154 byq_r (a := 0) (b := 14) (by decide +kernel)
theorem d_Thief_roam_76 : decode b_Thief_roam 76 = .ok (.aload_n 0, 1) := kq_42 byq_r (by decide +kernel)
theorem d_Thief_roam_77 : decode b_Thief_roam 77 = .ok (.getfield 22, 3) := kq_180 byq_r (a := 0) (b := 22) (by decide +kernel)
theorem d_Thief_roam_80 : decode b_Thief_roam 80 = .ok (.lload 5, 2) := kq_22 byq_r (by decide +kernel)
theorem d_Thief_roam_82 : decode b_Thief_roam 82 = .ok (.lcmp, 1) := kq_148 byq_r (by decide +kernel)
theorem d_Thief_roam_83 : decode b_Thief_roam 83 = .ok (.ifCond .ne 4, 3) := kq_154 byq_r (a := 0) (b := 4) (by decide +kernel)
theorem d_Thief_roam_86 : decode b_Thief_roam 86 = .ok (.return_, 1) := kq_177 byq_r (by decide +kernel)
theorem d_Thief_roam_87 : decode b_Thief_roam 87 = .ok (.iinc 2 1, 3) := kq_132 byq_r (b := 1) (by decide +kernel)
theorem d_Thief_roam_90 : decode b_Thief_roam 90 = .ok (.goto (-88), 3) := kq_167 byq_r (a := 255) (b := 168) (by decide +kernel)
theorem d_Thief_roam_93 : decode b_Thief_roam 93 = .ok (.return_, 1) := kq_177 byq_r (by decide +kernel)
theorem d_Thief_isIn_0 : decode b_Thief_isIn 0 = .ok (.iload_n 1, 1) := kq_27 byq_r (by decide +kernel)
theorem d_Thief_isIn_1 : decode b_Thief_isIn 1 = .ok (.iconst 1, 1) := kq_4 byq_r (by decide +kernel)
theorem d_Thief_isIn_2 : decode b_Thief_isIn 2 = .ok (.if_icmp .ne 10, 3) := kq_160 byq_r (a := 0) (b := 10) (by decide +kernel)
theorem d_Thief_isIn_5 : decode b_Thief_isIn 5 = .ok (.aload_n 0, 1) := kq_42 byq_r (by decide +kernel)
theorem d_Thief_isIn_6 : decode b_Thief_isIn 6 = .ok (.getfield 22, 3) := kq_180 byq_r (a := 0) (b := 22) (by decide +kernel)
theorem d_Thief_isIn_9 : decode b_Thief_isIn 9 = .ok (.goto 7, 3) := kq_167 byq_r (a := 0) (b := 7) (by decide +kernel)
theorem d_Thief_isIn_12 : decode b_Thief_isIn 12 = .ok (.aload_n 0, 1) := kq_42 byq_r (by decide +kernel)
theorem d_Thief_isIn_13 : decode b_Thief_isIn 13 = .ok (.getfield 18, 3) := kq_180 byq_r (a := 0) (b := 18) (by decide +kernel)
theorem d_Thief_isIn_16 : decode b_Thief_isIn 16 = .ok (.iload_n 2, 1) := kq_28 byq_r (by decide +kernel)
theorem d_Thief_isIn_17 : decode b_Thief_isIn 17 = .ok (.lshr, 1) := kq_123 byq_r (by decide +kernel)
theorem d_Thief_isIn_18 : decode b_Thief_isIn 18 = .ok (.lconst 1, 1) := kq_10 byq_r (by decide +kernel)
theorem d_Thief_isIn_19 : decode b_Thief_isIn 19 = .ok (.land, 1) := kq_127 byq_r (by decide +kernel)
theorem d_Thief_isIn_20 : decode b_Thief_isIn 20 = .ok (.lconst 0, 1) := kq_9 byq_r (by decide +kernel)
theorem d_Thief_isIn_21 : decode b_Thief_isIn 21 = .ok (.lcmp, 1) := kq_148 byq_r (by decide +kernel)
theorem d_Thief_isIn_22 : decode b_Thief_isIn 22 = .ok (.ifCond .eq 7, 3) := kq_153 byq_r (a := 0) (b := 7) (by decide +kernel)
theorem d_Thief_isIn_25 : decode b_Thief_isIn 25 = .ok (.iconst 1, 1) := kq_4 byq_r (by decide +kernel)
theorem d_Thief_isIn_26 : decode b_Thief_isIn 26 = .ok (.goto 4, 3) := kq_167 byq_r (a := 0) (b := 4) (by decide +kernel)
theorem d_Thief_isIn_29 : decode b_Thief_isIn 29 = .ok (.iconst 0, 1) := kq_3 byq_r (by decide +kernel)
theorem d_Thief_isIn_30 : decode b_Thief_isIn 30 = .ok (.ireturn, 1) := kq_172 byq_r (by decide +kernel)
def lb_Ways_begin_2 (v1 : Int32) (s : Int32 × Mem) : Option ((Int32 × Mem) ⊕ ((Mem))) :=
  if (72 : Int32) ≤ s.1 then
  some (.inr s.2)
  else
  if inb s.1 72 = true then
  mem_ (s_i s.2 158 s.1.toNatClampNeg (1000000 : Int32)) fun M1 =>
  some (.inl ((s.1 + (1 : Int32)), M1))
  else none
theorem lb_Ways_begin_2_ok {E : Ev} {G : Gw} {d : Nat} {post : Mem → Prop} (X : Cx E G b_Ways_begin "WomenByTheRoofs$Ways" 3 d none) (hD : 1 ≤ d)  (v1 : Int32)   (s : Int32 × Mem) (o : (Int32 × Mem) ⊕ ((Mem))) (h : lb_Ways_begin_2 v1 s = some o) (kc : ∀ s9 : Int32 × Mem, o = .inl s9 → V E (0, 0) G 3 (QV E G post) s9.2 2 [(0, .ref (G.2.2 + 154)), (1, .int v1), (2, .int s9.1)] []) (kx0 : ∀ x9 : Mem, o = .inr x9 → V E (0, 0) G 3 (QV E G post) x9 22 [(0, .ref (G.2.2 + 154)), (1, .int v1)] []) : V E (0, 0) G 3 (QV E G post) s.2 2 [(0, .ref (G.2.2 + 154)), (1, .int v1), (2, .int s.1)] [] := by
  unfold lb_Ways_begin_2 at h
  refine V_iload_n (n := 2) X d_Ways_begin_2 rfl rfl rfl ?_
  refine V_bipush (v := 72) X d_Ways_begin_3 (by decide) rfl ?_
  refine V_icmp_ge (tgt := 22) X d_Ways_begin_5 (by decide) rfl (fun c2 => ?_) (fun c2 => ?_)
  · rw [if_pos c2] at h
    refine V_sub (lv' := [(0, .ref (G.2.2 + 154)), (1, .int v1)]) [0, 1] rfl ?_
    exact kx0 s.2 (Option.some.inj h).symm
  · rw [if_neg c2] at h
    refine V_aload_n (n := 0) X d_Ways_begin_8 rfl rfl rfl ?_
    refine V_getr (k2 := 158) X fo_Ways_21 kd_154 rfl rf_154_3 d_Ways_begin_9 rfl ?_
    refine V_iload_n (n := 2) X d_Ways_begin_12 rfl rfl rfl ?_
    refine V_ldc (v := 1000000) X d_Ways_begin_13 kc_Ways_36 rfl ?_
    obtain ⟨hb, h⟩ := ifn h
    obtain ⟨M1, eM1, h⟩ := memS h
    refine V_iast X kd_158 (inb_in ln_158 hb) d_Ways_begin_15 rfl ?_
    rw [← eM1]
    refine V_iinc (n := 2) (v := (s.1 + (1 : Int32))) (lv' := [(2, .int (s.1 + (1 : Int32))), (0, .ref (G.2.2 + 154)), (1, .int v1)]) X d_Ways_begin_16 rfl rfl (by decide) rfl rfl ?_
    refine V_goto (pc' := 2) X d_Ways_begin_19 (by decide) ?_
    refine V_sub (lv' := [(0, .ref (G.2.2 + 154)), (1, .int v1), (2, .int (s.1 + (1 : Int32)))]) [1, 2, 0] rfl ?_
    exact kc ((s.1 + (1 : Int32)), M1) (Option.some.inj h).symm
theorem lp_Ways_begin_2_ok {E : Ev} {G : Gw} {d : Nat} {post : Mem → Prop} (X : Cx E G b_Ways_begin "WomenByTheRoofs$Ways" 3 d none) (hD : 1 ≤ d)  (v1 : Int32)   (n9 : Nat) (s : Int32 × Mem) (x : (Mem)) (h : iter (lb_Ways_begin_2 v1) n9 s = some x) (kx0 : ∀ x9 : Mem, x = x9 → V E (0, 0) G 3 (QV E G post) x9 22 [(0, .ref (G.2.2 + 154)), (1, .int v1)] []) : V E (0, 0) G 3 (QV E G post) s.2 2 [(0, .ref (G.2.2 + 154)), (1, .int v1), (2, .int s.1)] [] :=
  iter_P (P := fun s : Int32 × Mem => V E (0, 0) G 3 (QV E G post) s.2 2 [(0, .ref (G.2.2 + 154)), (1, .int v1), (2, .int s.1)] []) (fun s o hb kc ky => lb_Ways_begin_2_ok X hD v1 s o hb kc (fun x9 e9 => kx0 x9 (ky _ e9).symm)) n9 s h
def f_Ways_begin (v1 : Int32) (M : Mem) : Option (Mem) :=
  Option.bind (iter (lb_Ways_begin_2 v1) FU ((0 : Int32), M)) fun x3 =>
  if inb v1 72 = true then
  mem_ (s_i x3 158 v1.toNatClampNeg (0 : Int32)) fun M4 =>
  some M4
  else none
theorem c_Ways_begin (l : Launch) (G : Gw)  (v1 : Int32) (M : Mem) (x : Mem) (h : f_Ways_begin v1 M = some x) (d : Nat) (hD : 1 ≤ d) : Cv l G y_Ways_begin b_Ways_begin 3 none d [.ref (G.2.2 + 154), .int v1] M (fun M9 => M9 = x) := by
  refine Cv_of (by decide) (Nat.le_of_ble_eq_true rfl) (fun E hE X => ?_)
  subst hE
  have kr : ∀ x9 : Mem, x = x9 → (fun M9 => M9 = x) x9 := fun x9 e9 => by subst e9; exact rfl
  unfold f_Ways_begin at h
  refine V_iconst (v := 0) X d_Ways_begin_0 (by decide) rfl ?_
  refine V_istore_n (lv' := [(2, .int (0 : Int32)), (0, .ref (G.2.2 + 154)), (1, .int v1)]) X d_Ways_begin_1 rfl (by decide) rfl rfl ?_
  refine V_sub (lv' := [(0, .ref (G.2.2 + 154)), (1, .int v1), (2, .int (0 : Int32))]) [1, 2, 0] rfl ?_
  obtain ⟨x3, hx3, h⟩ := ob_s h
  refine (lp_Ways_begin_2_ok X hD v1 _ _ _ hx3 (fun x9 e9 => ?_) :)
  subst e9
  refine V_aload_n (n := 0) X d_Ways_begin_22 rfl rfl rfl ?_
  refine V_getr (k2 := 158) X fo_Ways_21 kd_154 rfl rf_154_3 d_Ways_begin_23 rfl ?_
  refine V_iload_n (n := 1) X d_Ways_begin_26 rfl rfl rfl ?_
  refine V_iconst (v := 0) X d_Ways_begin_27 (by decide) rfl ?_
  obtain ⟨hb, h⟩ := ifn h
  obtain ⟨M4, eM4, h⟩ := memS h
  refine V_iast X kd_158 (inb_in ln_158 hb) d_Ways_begin_28 rfl ?_
  rw [← eM4]
  exact V_vret X (kr M4 (Option.some.inj h).symm) d_Ways_begin_29
def f_Ways_lower (v1 : Int32) (v2 : Int32) (M : Mem) : Option (Int32 × Mem) :=
  if inb v1 72 = true then
  if v2 < (M.1 158 v1.toNatClampNeg) then
  if inb v1 72 = true then
  mem_ (s_i M 158 v1.toNatClampNeg v2) fun M1 =>
  some ((1 : Int32), M1)
  else none
  else
  some ((0 : Int32), M)
  else none
theorem c_Ways_lower (l : Launch) (G : Gw)  (v1 : Int32) (v2 : Int32) (M : Mem) (x : Int32 × Mem) (h : f_Ways_lower v1 v2 M = some x) (d : Nat) (hD : 1 ≤ d) : Ci l G y_Ways_lower b_Ways_lower 3 (some .boolean) d [.ref (G.2.2 + 154), .int v1, .int v2] M (fun r9 M9 => r9 = x.1 ∧ M9 = x.2) := by
  refine Ci_of (by decide) (Nat.le_of_ble_eq_true rfl) (fun E hE X => ?_)
  subst hE
  have kr : ∀ x9 : Int32 × Mem, x = x9 → (fun r9 M9 => r9 = x.1 ∧ M9 = x.2) x9.1 x9.2 := fun x9 e9 => by subst e9; exact ⟨rfl, rfl⟩
  unfold f_Ways_lower at h
  refine V_iload_n (n := 2) X d_Ways_lower_0 rfl rfl rfl ?_
  refine V_aload_n (n := 0) X d_Ways_lower_1 rfl rfl rfl ?_
  refine V_getr (k2 := 158) X fo_Ways_21 kd_154 rfl rf_154_3 d_Ways_lower_2 rfl ?_
  refine V_iload_n (n := 1) X d_Ways_lower_5 rfl rfl rfl ?_
  obtain ⟨hb, h⟩ := ifn h
  refine V_iald X kd_158 (inb_in ln_158 hb) d_Ways_lower_6 rfl ?_
  refine V_icmp_lt (tgt := 12) X d_Ways_lower_7 (by decide) rfl (fun c2 => ?_) (fun c2 => ?_)
  · rw [if_pos c2] at h
    refine V_aload_n (n := 0) X d_Ways_lower_12 rfl rfl rfl ?_
    refine V_getr (k2 := 158) X fo_Ways_21 kd_154 rfl rf_154_3 d_Ways_lower_13 rfl ?_
    refine V_iload_n (n := 1) X d_Ways_lower_16 rfl rfl rfl ?_
    refine V_iload_n (n := 2) X d_Ways_lower_17 rfl rfl rfl ?_
    obtain ⟨hb, h⟩ := ifn h
    obtain ⟨M1, eM1, h⟩ := memS h
    refine V_iast X kd_158 (inb_in ln_158 hb) d_Ways_lower_18 rfl ?_
    rw [← eM1]
    refine V_iconst (v := 1) X d_Ways_lower_19 (by decide) rfl ?_
    exact V_zret X (kr ((1 : Int32), M1) (Option.some.inj h).symm) (by decide) d_Ways_lower_20
  · rw [if_neg c2] at h
    refine V_iconst (v := 0) X d_Ways_lower_10 (by decide) rfl ?_
    exact V_zret X (kr ((0 : Int32), M) (Option.some.inj h).symm) (by decide) d_Ways_lower_11
def lb_Ways_leave_28 (v1 : Nat) (v2 : Int32) (v3 : Int32) (v4 : Int32) (s : Int32 × Int32 × Mem) : Option ((Int32 × Int32 × Mem) ⊕ ((Int32 × Mem))) :=
  if (4 : Int32) ≤ s.2.1 then
  some (.inr (s.1, s.2.2))
  else
  Option.bind (f_Nets_toward v1 v2 v3 s.2.1 s.2.2) fun x1 =>
  if x1 = (-1 : Int32) then
  some (.inl (s.1, (s.2.1 + (1 : Int32)), s.2.2))
  else
  Option.bind (f_Ways_lower ((v2 * (36 : Int32)) + x1) ((v4 + (100 : Int32)) + v2) s.2.2) fun x2 =>
  some (.inl ((s.1 ||| x2.1), (s.2.1 + (1 : Int32)), x2.2))
theorem lb_Ways_leave_28_ok {E : Ev} {G : Gw} {d : Nat} {post : Int32 → Mem → Prop} (X : Cx E G b_Ways_leave "WomenByTheRoofs$Ways" 8 d (some .boolean)) (hD : 2 ≤ d)  (v1 : Nat) (v2 : Int32) (v3 : Int32) (v4 : Int32) (hk_v1 : kd v1 = 10 + 6)  (s : Int32 × Int32 × Mem) (o : (Int32 × Int32 × Mem) ⊕ ((Int32 × Mem))) (h : lb_Ways_leave_28 v1 v2 v3 v4 s = some o) (kc : ∀ s9 : Int32 × Int32 × Mem, o = .inl s9 → V E (0, 0) G 8 (QI E G post) s9.2.2 28 [(0, .ref (G.2.2 + 154)), (1, .ref (G.2.2 + v1)), (2, .int v2), (3, .int v3), (4, .int v4), (5, .int s9.1), (6, .int s9.2.1)] []) (kx0 : ∀ x9 : Int32 × Mem, o = .inr x9 → V E (0, 0) G 8 (QI E G post) x9.2 79 [(0, .ref (G.2.2 + 154)), (1, .ref (G.2.2 + v1)), (2, .int v2), (3, .int v3), (4, .int v4), (5, .int x9.1)] []) : V E (0, 0) G 8 (QI E G post) s.2.2 28 [(0, .ref (G.2.2 + 154)), (1, .ref (G.2.2 + v1)), (2, .int v2), (3, .int v3), (4, .int v4), (5, .int s.1), (6, .int s.2.1)] [] := by
  unfold lb_Ways_leave_28 at h
  refine V_iload (n := 6) X d_Ways_leave_28 rfl rfl ?_
  refine V_iconst (v := 4) X d_Ways_leave_30 (by decide) rfl ?_
  refine V_icmp_ge (tgt := 79) X d_Ways_leave_31 (by decide) rfl (fun c4 => ?_) (fun c4 => ?_)
  · rw [if_pos c4] at h
    refine V_sub (lv' := [(0, .ref (G.2.2 + 154)), (1, .ref (G.2.2 + v1)), (2, .int v2), (3, .int v3), (4, .int v4), (5, .int s.1)]) [0, 1, 2, 3, 4, 5] rfl ?_
    exact kx0 (s.1, s.2.2) (Option.some.inj h).symm
  · rw [if_neg c4] at h
    refine V_aload_n (n := 1) X d_Ways_leave_34 rfl rfl rfl ?_
    refine V_iload_n (n := 2) X d_Ways_leave_35 rfl rfl rfl ?_
    refine V_iload_n (n := 3) X d_Ways_leave_36 rfl rfl rfl ?_
    refine V_iload (n := 6) X d_Ways_leave_37 rfl rfl ?_
    obtain ⟨x1, hx1, h⟩ := ob_s h
    refine V_ci (As := [.int v2, .int v3, .int s.2.1]) X (Z0 E) ml_Ways_45 yq_Nets_toward (c_Nets_toward E.2.1 G v1 v2 v3 s.2.1 s.2.2 x1 hx1 _ (Nat.le_refl _)) hk_v1 rfl rfl (by omega) rfl (Nat.le_of_ble_eq_true rfl) d_Ways_leave_39 rfl (fun r9 M9 hq => ?_)
    rw [hq.1, hq.2]
    refine V_istore (lv' := [(7, .int x1), (0, .ref (G.2.2 + 154)), (1, .ref (G.2.2 + v1)), (2, .int v2), (3, .int v3), (4, .int v4), (5, .int s.1), (6, .int s.2.1)]) X d_Ways_leave_42 (by decide) rfl rfl ?_
    refine V_iload (n := 0) X d_Ways_leave_44 rfl rfl ?_
    refine V_iconst (v := -1) X d_Ways_leave_46 (by decide) rfl ?_
    refine V_icmp_eq (tgt := 73) X d_Ways_leave_47 (by decide) rfl (fun c3 => ?_) (fun c3 => ?_)
    · rw [if_pos c3] at h
      refine V_iinc (n := 7) (v := (s.2.1 + (1 : Int32))) (lv' := [(6, .int (s.2.1 + (1 : Int32))), (7, .int x1), (0, .ref (G.2.2 + 154)), (1, .ref (G.2.2 + v1)), (2, .int v2), (3, .int v3), (4, .int v4), (5, .int s.1)]) X d_Ways_leave_73 rfl rfl (by decide) rfl rfl ?_
      refine V_goto (pc' := 28) X d_Ways_leave_76 (by decide) ?_
      refine V_sub (lv' := [(0, .ref (G.2.2 + 154)), (1, .ref (G.2.2 + v1)), (2, .int v2), (3, .int v3), (4, .int v4), (5, .int s.1), (6, .int (s.2.1 + (1 : Int32)))]) [2, 3, 4, 5, 6, 7, 0] rfl ?_
      exact kc (s.1, (s.2.1 + (1 : Int32)), s.2.2) (Option.some.inj h).symm
    · rw [if_neg c3] at h
      refine V_iload (n := 6) X d_Ways_leave_50 rfl rfl ?_
      refine V_aload_n (n := 1) X d_Ways_leave_52 rfl rfl rfl ?_
      refine V_iload_n (n := 3) X d_Ways_leave_53 rfl rfl rfl ?_
      refine V_bipush (v := 36) X d_Ways_leave_54 (by decide) rfl ?_
      refine V_imul X d_Ways_leave_56 rfl ?_
      refine V_iload (n := 0) X d_Ways_leave_57 rfl rfl ?_
      refine V_iadd X d_Ways_leave_59 rfl ?_
      refine V_iload (n := 5) X d_Ways_leave_60 rfl rfl ?_
      refine V_bipush (v := 100) X d_Ways_leave_62 (by decide) rfl ?_
      refine V_iadd X d_Ways_leave_64 rfl ?_
      refine V_iload_n (n := 3) X d_Ways_leave_65 rfl rfl rfl ?_
      refine V_iadd X d_Ways_leave_66 rfl ?_
      obtain ⟨x2, hx2, h⟩ := ob_s h
      refine V_ci (As := [.int ((v2 * (36 : Int32)) + x1), .int ((v4 + (100 : Int32)) + v2)]) X (Z0 E) ml_Ways_51 yq_Ways_lower (c_Ways_lower E.2.1 G ((v2 * (36 : Int32)) + x1) ((v4 + (100 : Int32)) + v2) s.2.2 x2 hx2 _ (Nat.le_refl _)) kd_154 rfl rfl (by omega) rfl (Nat.le_of_ble_eq_true rfl) d_Ways_leave_67 rfl (fun r9 M9 hq => ?_)
      rw [hq.1, hq.2]
      refine V_ior X d_Ways_leave_70 rfl ?_
      refine V_istore (lv' := [(5, .int (s.1 ||| x2.1)), (7, .int x1), (0, .ref (G.2.2 + 154)), (1, .ref (G.2.2 + v1)), (2, .int v2), (3, .int v3), (4, .int v4), (6, .int s.2.1)]) X d_Ways_leave_71 (by decide) rfl rfl ?_
      refine V_iinc (n := 7) (v := (s.2.1 + (1 : Int32))) (lv' := [(6, .int (s.2.1 + (1 : Int32))), (5, .int (s.1 ||| x2.1)), (7, .int x1), (0, .ref (G.2.2 + 154)), (1, .ref (G.2.2 + v1)), (2, .int v2), (3, .int v3), (4, .int v4)]) X d_Ways_leave_73 rfl rfl (by decide) rfl rfl ?_
      refine V_goto (pc' := 28) X d_Ways_leave_76 (by decide) ?_
      refine V_sub (lv' := [(0, .ref (G.2.2 + 154)), (1, .ref (G.2.2 + v1)), (2, .int v2), (3, .int v3), (4, .int v4), (5, .int (s.1 ||| x2.1)), (6, .int (s.2.1 + (1 : Int32)))]) [3, 4, 5, 6, 7, 1, 0] rfl ?_
      exact kc ((s.1 ||| x2.1), (s.2.1 + (1 : Int32)), x2.2) (Option.some.inj h).symm
theorem lp_Ways_leave_28_ok {E : Ev} {G : Gw} {d : Nat} {post : Int32 → Mem → Prop} (X : Cx E G b_Ways_leave "WomenByTheRoofs$Ways" 8 d (some .boolean)) (hD : 2 ≤ d)  (v1 : Nat) (v2 : Int32) (v3 : Int32) (v4 : Int32) (hk_v1 : kd v1 = 10 + 6)  (n9 : Nat) (s : Int32 × Int32 × Mem) (x : (Int32 × Mem)) (h : iter (lb_Ways_leave_28 v1 v2 v3 v4) n9 s = some x) (kx0 : ∀ x9 : Int32 × Mem, x = x9 → V E (0, 0) G 8 (QI E G post) x9.2 79 [(0, .ref (G.2.2 + 154)), (1, .ref (G.2.2 + v1)), (2, .int v2), (3, .int v3), (4, .int v4), (5, .int x9.1)] []) : V E (0, 0) G 8 (QI E G post) s.2.2 28 [(0, .ref (G.2.2 + 154)), (1, .ref (G.2.2 + v1)), (2, .int v2), (3, .int v3), (4, .int v4), (5, .int s.1), (6, .int s.2.1)] [] :=
  iter_P (P := fun s : Int32 × Int32 × Mem => V E (0, 0) G 8 (QI E G post) s.2.2 28 [(0, .ref (G.2.2 + 154)), (1, .ref (G.2.2 + v1)), (2, .int v2), (3, .int v3), (4, .int v4), (5, .int s.1), (6, .int s.2.1)] []) (fun s o hb kc ky => lb_Ways_leave_28_ok X hD v1 v2 v3 v4 hk_v1 s o hb kc (fun x9 e9 => kx0 x9 (ky _ e9).symm)) n9 s h
def f_Ways_leave (v1 : Nat) (v2 : Int32) (v3 : Int32) (M : Mem) : Option (Int32 × Mem) :=
  if kd v1 = 10 + 6 then
  if inb ((v2 * (36 : Int32)) + v3) 72 = true then
  if (M.1 158 ((v2 * (36 : Int32)) + v3).toNatClampNeg) < (1000000 : Int32) then
  Option.bind (iter (lb_Ways_leave_28 v1 v2 v3 (M.1 158 ((v2 * (36 : Int32)) + v3).toNatClampNeg)) FU ((0 : Int32), (0 : Int32), M)) fun x5 =>
  Option.bind (f_Nets_stairs v1 x5.2) fun x6 =>
  if (lg_cmp ((x6 >>> (v3.toInt64 &&& 63)) &&& (1 : Int64)) (0 : Int64)) = 0 then
  if x5.1 = 0 ∨ x5.1 = 1 then some (x5.1, x5.2) else none
  else
  Option.bind (f_Ways_lower ((((1 : Int32) - v2) * (36 : Int32)) + v3) (M.1 158 ((v2 * (36 : Int32)) + v3).toNatClampNeg) x5.2) fun x7 =>
  if (x5.1 ||| x7.1) = 0 ∨ (x5.1 ||| x7.1) = 1 then some ((x5.1 ||| x7.1), x7.2) else none
  else
  some ((0 : Int32), M)
  else none
  else none
theorem c_Ways_leave (l : Launch) (G : Gw)  (v1 : Nat) (v2 : Int32) (v3 : Int32) (M : Mem) (x : Int32 × Mem) (h : f_Ways_leave v1 v2 v3 M = some x) (d : Nat) (hD : 2 ≤ d) : Ci l G y_Ways_leave b_Ways_leave 8 (some .boolean) d [.ref (G.2.2 + 154), .ref (G.2.2 + v1), .int v2, .int v3] M (fun r9 M9 => r9 = x.1 ∧ M9 = x.2) := by
  refine Ci_of (by decide) (Nat.le_of_ble_eq_true rfl) (fun E hE X => ?_)
  subst hE
  have kr : ∀ x9 : Int32 × Mem, x = x9 → (fun r9 M9 => r9 = x.1 ∧ M9 = x.2) x9.1 x9.2 := fun x9 e9 => by subst e9; exact ⟨rfl, rfl⟩
  unfold f_Ways_leave at h
  obtain ⟨hk_v1, h⟩ := ifn h
  refine V_aload_n (n := 0) X d_Ways_leave_0 rfl rfl rfl ?_
  refine V_getr (k2 := 158) X fo_Ways_21 kd_154 rfl rf_154_3 d_Ways_leave_1 rfl ?_
  refine V_iload_n (n := 2) X d_Ways_leave_4 rfl rfl rfl ?_
  refine V_bipush (v := 36) X d_Ways_leave_5 (by decide) rfl ?_
  refine V_imul X d_Ways_leave_7 rfl ?_
  refine V_iload_n (n := 3) X d_Ways_leave_8 rfl rfl rfl ?_
  refine V_iadd X d_Ways_leave_9 rfl ?_
  obtain ⟨hb, h⟩ := ifn h
  refine V_iald X kd_158 (inb_in ln_158 hb) d_Ways_leave_10 rfl ?_
  refine V_istore (lv' := [(4, .int (M.1 158 ((v2 * (36 : Int32)) + v3).toNatClampNeg)), (0, .ref (G.2.2 + 154)), (1, .ref (G.2.2 + v1)), (2, .int v2), (3, .int v3)]) X d_Ways_leave_11 (by decide) rfl rfl ?_
  refine V_iload (n := 0) X d_Ways_leave_13 rfl rfl ?_
  refine V_ldc (v := 1000000) X d_Ways_leave_15 kc_Ways_36 rfl ?_
  refine V_icmp_lt (tgt := 22) X d_Ways_leave_17 (by decide) rfl (fun c9 => ?_) (fun c9 => ?_)
  · rw [if_pos c9] at h
    refine V_iconst (v := 0) X d_Ways_leave_22 (by decide) rfl ?_
    refine V_istore (lv' := [(5, .int (0 : Int32)), (4, .int (M.1 158 ((v2 * (36 : Int32)) + v3).toNatClampNeg)), (0, .ref (G.2.2 + 154)), (1, .ref (G.2.2 + v1)), (2, .int v2), (3, .int v3)]) X d_Ways_leave_23 (by decide) rfl rfl ?_
    refine V_iconst (v := 0) X d_Ways_leave_25 (by decide) rfl ?_
    refine V_istore (lv' := [(6, .int (0 : Int32)), (5, .int (0 : Int32)), (4, .int (M.1 158 ((v2 * (36 : Int32)) + v3).toNatClampNeg)), (0, .ref (G.2.2 + 154)), (1, .ref (G.2.2 + v1)), (2, .int v2), (3, .int v3)]) X d_Ways_leave_26 (by decide) rfl rfl ?_
    refine V_sub (lv' := [(0, .ref (G.2.2 + 154)), (1, .ref (G.2.2 + v1)), (2, .int v2), (3, .int v3), (4, .int (M.1 158 ((v2 * (36 : Int32)) + v3).toNatClampNeg)), (5, .int (0 : Int32)), (6, .int (0 : Int32))]) [3, 4, 5, 6, 2, 1, 0] rfl ?_
    obtain ⟨x5, hx5, h⟩ := ob_s h
    refine (lp_Ways_leave_28_ok X hD v1 v2 v3 (M.1 158 ((v2 * (36 : Int32)) + v3).toNatClampNeg) hk_v1 _ _ _ hx5 (fun x9 e9 => ?_) :)
    subst e9
    refine V_aload_n (n := 1) X d_Ways_leave_79 rfl rfl rfl ?_
    obtain ⟨x6, hx6, h⟩ := ob_s h
    refine V_cl (As := []) X (Z0 E) ml_Ways_55 yq_Nets_stairs (c_Nets_stairs E.2.1 G v1 x5.2 x6 hx6 _ (Nat.le_refl _)) hk_v1 rfl rfl (by omega) rfl (Nat.le_of_ble_eq_true rfl) d_Ways_leave_80 rfl (fun r9 M9 hq => ?_)
    rw [hq.1, hq.2]
    refine V_iload_n (n := 3) X d_Ways_leave_83 rfl rfl rfl ?_
    refine V_lshr X d_Ways_leave_84 rfl ?_
    refine V_lconst (v := 1) X d_Ways_leave_85 (by decide) rfl ?_
    refine V_land X d_Ways_leave_86 rfl ?_
    refine V_lconst (v := 0) X d_Ways_leave_87 (by decide) rfl ?_
    refine V_lcmp X d_Ways_leave_88 rfl ?_
    refine V_if_eq (tgt := 111) X d_Ways_leave_89 (by decide) rfl (fun c8 => ?_) (fun c8 => ?_)
    · rw [if_pos c8] at h
      refine V_iload (n := 5) X d_Ways_leave_111 rfl rfl ?_
      obtain ⟨hq, h⟩ := ifn h
      exact V_zret X (kr (x5.1, x5.2) (Option.some.inj h).symm) hq d_Ways_leave_113
    · rw [if_neg c8] at h
      refine V_iload (n := 5) X d_Ways_leave_92 rfl rfl ?_
      refine V_aload_n (n := 0) X d_Ways_leave_94 rfl rfl rfl ?_
      refine V_iconst (v := 1) X d_Ways_leave_95 (by decide) rfl ?_
      refine V_iload_n (n := 2) X d_Ways_leave_96 rfl rfl rfl ?_
      refine V_isub X d_Ways_leave_97 rfl ?_
      refine V_bipush (v := 36) X d_Ways_leave_98 (by decide) rfl ?_
      refine V_imul X d_Ways_leave_100 rfl ?_
      refine V_iload_n (n := 3) X d_Ways_leave_101 rfl rfl rfl ?_
      refine V_iadd X d_Ways_leave_102 rfl ?_
      refine V_iload (n := 4) X d_Ways_leave_103 rfl rfl ?_
      obtain ⟨x7, hx7, h⟩ := ob_s h
      refine V_ci (As := [.int ((((1 : Int32) - v2) * (36 : Int32)) + v3), .int (M.1 158 ((v2 * (36 : Int32)) + v3).toNatClampNeg)]) X (Z0 E) ml_Ways_51 yq_Ways_lower (c_Ways_lower E.2.1 G ((((1 : Int32) - v2) * (36 : Int32)) + v3) (M.1 158 ((v2 * (36 : Int32)) + v3).toNatClampNeg) x5.2 x7 hx7 _ (Nat.le_refl _)) kd_154 rfl rfl (by omega) rfl (Nat.le_of_ble_eq_true rfl) d_Ways_leave_105 rfl (fun r9 M9 hq => ?_)
      rw [hq.1, hq.2]
      refine V_ior X d_Ways_leave_108 rfl ?_
      refine V_istore (lv' := [(5, .int (x5.1 ||| x7.1)), (0, .ref (G.2.2 + 154)), (1, .ref (G.2.2 + v1)), (2, .int v2), (3, .int v3), (4, .int (M.1 158 ((v2 * (36 : Int32)) + v3).toNatClampNeg))]) X d_Ways_leave_109 (by decide) rfl rfl ?_
      refine V_iload (n := 0) X d_Ways_leave_111 rfl rfl ?_
      obtain ⟨hq, h⟩ := ifn h
      exact V_zret X (kr ((x5.1 ||| x7.1), x7.2) (Option.some.inj h).symm) hq d_Ways_leave_113
  · rw [if_neg c9] at h
    refine V_iconst (v := 0) X d_Ways_leave_20 (by decide) rfl ?_
    exact V_zret X (kr ((0 : Int32), M) (Option.some.inj h).symm) (by decide) d_Ways_leave_21
def lb_Ways_acrossLevels_29 (v1 : Nat) (v3 : Int32) (v5 : Int32) (s : Int32 × Int32 × Mem) : Option ((Int32 × Int32 × Mem) ⊕ ((Int32 × Mem))) :=
  if (36 : Int32) ≤ s.2.1 then
  some (.inr (s.1, s.2.2))
  else
  Option.bind (f_Ways_leave v1 (0 : Int32) s.2.1 s.2.2) fun x2 =>
  Option.bind (f_Ways_leave v1 (1 : Int32) s.2.1 x2.2) fun x3 =>
  some (.inl (((s.1 ||| x2.1) ||| x3.1), (s.2.1 + (1 : Int32)), x3.2))
theorem lb_Ways_acrossLevels_29_ok {E : Ev} {G : Gw} {d : Nat} {post : Int32 → Mem → Prop} (X : Cx E G b_Ways_acrossLevels "WomenByTheRoofs$Ways" 7 d (some .int)) (hD : 3 ≤ d)  (v1 : Nat) (v3 : Int32) (v5 : Int32) (hk_v1 : kd v1 = 10 + 6)  (s : Int32 × Int32 × Mem) (o : (Int32 × Int32 × Mem) ⊕ ((Int32 × Mem))) (h : lb_Ways_acrossLevels_29 v1 v3 v5 s = some o) (kc : ∀ s9 : Int32 × Int32 × Mem, o = .inl s9 → V E (0, 0) G 7 (QI E G post) s9.2.2 29 [(0, .ref (G.2.2 + 154)), (1, .ref (G.2.2 + v1)), (3, .int v3), (4, .int s9.1), (5, .int v5), (6, .int s9.2.1)] []) (kx0 : ∀ x9 : Int32 × Mem, o = .inr x9 → V E (0, 0) G 7 (QI E G post) x9.2 68 [(0, .ref (G.2.2 + 154)), (1, .ref (G.2.2 + v1)), (3, .int v3), (4, .int x9.1), (5, .int v5)] []) : V E (0, 0) G 7 (QI E G post) s.2.2 29 [(0, .ref (G.2.2 + 154)), (1, .ref (G.2.2 + v1)), (3, .int v3), (4, .int s.1), (5, .int v5), (6, .int s.2.1)] [] := by
  unfold lb_Ways_acrossLevels_29 at h
  refine V_iload (n := 5) X d_Ways_acrossLevels_29 rfl rfl ?_
  refine V_bipush (v := 36) X d_Ways_acrossLevels_31 (by decide) rfl ?_
  refine V_icmp_ge (tgt := 68) X d_Ways_acrossLevels_33 (by decide) rfl (fun c4 => ?_) (fun c4 => ?_)
  · rw [if_pos c4] at h
    refine V_sub (lv' := [(0, .ref (G.2.2 + 154)), (1, .ref (G.2.2 + v1)), (3, .int v3), (4, .int s.1), (5, .int v5)]) [0, 1, 2, 3, 4] rfl ?_
    exact kx0 (s.1, s.2.2) (Option.some.inj h).symm
  · rw [if_neg c4] at h
    refine V_iload (n := 3) X d_Ways_acrossLevels_36 rfl rfl ?_
    refine V_aload_n (n := 0) X d_Ways_acrossLevels_38 rfl rfl rfl ?_
    refine V_aload_n (n := 1) X d_Ways_acrossLevels_39 rfl rfl rfl ?_
    refine V_iconst (v := 0) X d_Ways_acrossLevels_40 (by decide) rfl ?_
    refine V_iload (n := 5) X d_Ways_acrossLevels_41 rfl rfl ?_
    obtain ⟨x2, hx2, h⟩ := ob_s h
    refine V_ci (As := [.ref (G.2.2 + v1), .int (0 : Int32), .int s.2.1]) X (Z0 E) ml_Ways_41 yq_Ways_leave (c_Ways_leave E.2.1 G v1 (0 : Int32) s.2.1 s.2.2 x2 hx2 _ (Nat.le_refl _)) kd_154 rfl rfl (by omega) rfl (Nat.le_of_ble_eq_true rfl) d_Ways_acrossLevels_43 rfl (fun r9 M9 hq => ?_)
    rw [hq.1, hq.2]
    refine V_ior X d_Ways_acrossLevels_46 rfl ?_
    refine V_istore (lv' := [(4, .int (s.1 ||| x2.1)), (0, .ref (G.2.2 + 154)), (1, .ref (G.2.2 + v1)), (3, .int v3), (5, .int v5), (6, .int s.2.1)]) X d_Ways_acrossLevels_47 (by decide) rfl rfl ?_
    refine V_iload (n := 0) X d_Ways_acrossLevels_49 rfl rfl ?_
    refine V_aload_n (n := 1) X d_Ways_acrossLevels_51 rfl rfl rfl ?_
    refine V_aload_n (n := 2) X d_Ways_acrossLevels_52 rfl rfl rfl ?_
    refine V_iconst (v := 1) X d_Ways_acrossLevels_53 (by decide) rfl ?_
    refine V_iload (n := 5) X d_Ways_acrossLevels_54 rfl rfl ?_
    obtain ⟨x3, hx3, h⟩ := ob_s h
    refine V_ci (As := [.ref (G.2.2 + v1), .int (1 : Int32), .int s.2.1]) X (Z0 E) ml_Ways_41 yq_Ways_leave (c_Ways_leave E.2.1 G v1 (1 : Int32) s.2.1 x2.2 x3 hx3 _ (Nat.le_refl _)) kd_154 rfl rfl (by omega) rfl (Nat.le_of_ble_eq_true rfl) d_Ways_acrossLevels_56 rfl (fun r9 M9 hq => ?_)
    rw [hq.1, hq.2]
    refine V_ior X d_Ways_acrossLevels_59 rfl ?_
    refine V_istore (lv' := [(4, .int ((s.1 ||| x2.1) ||| x3.1)), (0, .ref (G.2.2 + 154)), (1, .ref (G.2.2 + v1)), (3, .int v3), (5, .int v5), (6, .int s.2.1)]) X d_Ways_acrossLevels_60 (by decide) rfl rfl ?_
    refine V_iinc (n := 5) (v := (s.2.1 + (1 : Int32))) (lv' := [(6, .int (s.2.1 + (1 : Int32))), (4, .int ((s.1 ||| x2.1) ||| x3.1)), (0, .ref (G.2.2 + 154)), (1, .ref (G.2.2 + v1)), (3, .int v3), (5, .int v5)]) X d_Ways_acrossLevels_62 rfl rfl (by decide) rfl rfl ?_
    refine V_goto (pc' := 29) X d_Ways_acrossLevels_65 (by decide) ?_
    refine V_sub (lv' := [(0, .ref (G.2.2 + 154)), (1, .ref (G.2.2 + v1)), (3, .int v3), (4, .int ((s.1 ||| x2.1) ||| x3.1)), (5, .int v5), (6, .int (s.2.1 + (1 : Int32)))]) [2, 3, 4, 1, 5, 0] rfl ?_
    exact kc (((s.1 ||| x2.1) ||| x3.1), (s.2.1 + (1 : Int32)), x3.2) (Option.some.inj h).symm
theorem lp_Ways_acrossLevels_29_ok {E : Ev} {G : Gw} {d : Nat} {post : Int32 → Mem → Prop} (X : Cx E G b_Ways_acrossLevels "WomenByTheRoofs$Ways" 7 d (some .int)) (hD : 3 ≤ d)  (v1 : Nat) (v3 : Int32) (v5 : Int32) (hk_v1 : kd v1 = 10 + 6)  (n9 : Nat) (s : Int32 × Int32 × Mem) (x : (Int32 × Mem)) (h : iter (lb_Ways_acrossLevels_29 v1 v3 v5) n9 s = some x) (kx0 : ∀ x9 : Int32 × Mem, x = x9 → V E (0, 0) G 7 (QI E G post) x9.2 68 [(0, .ref (G.2.2 + 154)), (1, .ref (G.2.2 + v1)), (3, .int v3), (4, .int x9.1), (5, .int v5)] []) : V E (0, 0) G 7 (QI E G post) s.2.2 29 [(0, .ref (G.2.2 + 154)), (1, .ref (G.2.2 + v1)), (3, .int v3), (4, .int s.1), (5, .int v5), (6, .int s.2.1)] [] :=
  iter_P (P := fun s : Int32 × Int32 × Mem => V E (0, 0) G 7 (QI E G post) s.2.2 29 [(0, .ref (G.2.2 + 154)), (1, .ref (G.2.2 + v1)), (3, .int v3), (4, .int s.1), (5, .int v5), (6, .int s.2.1)] []) (fun s o hb kc ky => lb_Ways_acrossLevels_29_ok X hD v1 v3 v5 hk_v1 s o hb kc (fun x9 e9 => kx0 x9 (ky _ e9).symm)) n9 s h
def lb_Ways_acrossLevels_11 (v1 : Nat) (v3 : Int32) (s : Int32 × Int32 × Mem) : Option ((Int32 × Int32 × Mem) ⊕ ((Mem))) :=
  if (72 : Int32) ≤ s.2.1 then
  some (.inr s.2.2)
  else
  if s.1 = 0 then
  some (.inr s.2.2)
  else
  Option.bind (iter (lb_Ways_acrossLevels_29 v1 v3 s.2.1) FU ((0 : Int32), (0 : Int32), s.2.2)) fun x5 =>
  some (.inl (x5.1, (s.2.1 + (1 : Int32)), x5.2))
theorem lb_Ways_acrossLevels_11_ok {E : Ev} {G : Gw} {d : Nat} {post : Int32 → Mem → Prop} (X : Cx E G b_Ways_acrossLevels "WomenByTheRoofs$Ways" 7 d (some .int)) (hD : 3 ≤ d)  (v1 : Nat) (v3 : Int32) (hk_v1 : kd v1 = 10 + 6)  (s : Int32 × Int32 × Mem) (o : (Int32 × Int32 × Mem) ⊕ ((Mem))) (h : lb_Ways_acrossLevels_11 v1 v3 s = some o) (kc : ∀ s9 : Int32 × Int32 × Mem, o = .inl s9 → V E (0, 0) G 7 (QI E G post) s9.2.2 11 [(0, .ref (G.2.2 + 154)), (1, .ref (G.2.2 + v1)), (3, .int v3), (4, .int s9.1), (5, .int s9.2.1)] []) (kx0 : ∀ x9 : Mem, o = .inr x9 → V E (0, 0) G 7 (QI E G post) x9 74 [(0, .ref (G.2.2 + 154)), (3, .int v3)] []) : V E (0, 0) G 7 (QI E G post) s.2.2 11 [(0, .ref (G.2.2 + 154)), (1, .ref (G.2.2 + v1)), (3, .int v3), (4, .int s.1), (5, .int s.2.1)] [] := by
  unfold lb_Ways_acrossLevels_11 at h
  refine V_iload (n := 4) X d_Ways_acrossLevels_11 rfl rfl ?_
  refine V_bipush (v := 72) X d_Ways_acrossLevels_13 (by decide) rfl ?_
  refine V_icmp_ge (tgt := 74) X d_Ways_acrossLevels_15 (by decide) rfl (fun c7 => ?_) (fun c7 => ?_)
  · rw [if_pos c7] at h
    refine V_sub (lv' := [(0, .ref (G.2.2 + 154)), (3, .int v3)]) [0, 2] rfl ?_
    exact kx0 s.2.2 (Option.some.inj h).symm
  · rw [if_neg c7] at h
    refine V_iload (n := 3) X d_Ways_acrossLevels_18 rfl rfl ?_
    refine V_if_eq (tgt := 74) X d_Ways_acrossLevels_20 (by decide) rfl (fun c6 => ?_) (fun c6 => ?_)
    · rw [if_pos c6] at h
      refine V_sub (lv' := [(0, .ref (G.2.2 + 154)), (3, .int v3)]) [0, 2] rfl ?_
      exact kx0 s.2.2 (Option.some.inj h).symm
    · rw [if_neg c6] at h
      refine V_iconst (v := 0) X d_Ways_acrossLevels_23 (by decide) rfl ?_
      refine V_istore (lv' := [(4, .int (0 : Int32)), (0, .ref (G.2.2 + 154)), (1, .ref (G.2.2 + v1)), (3, .int v3), (5, .int s.2.1)]) X d_Ways_acrossLevels_24 (by decide) rfl rfl ?_
      refine V_iconst (v := 0) X d_Ways_acrossLevels_26 (by decide) rfl ?_
      refine V_istore (lv' := [(6, .int (0 : Int32)), (4, .int (0 : Int32)), (0, .ref (G.2.2 + 154)), (1, .ref (G.2.2 + v1)), (3, .int v3), (5, .int s.2.1)]) X d_Ways_acrossLevels_27 (by decide) rfl rfl ?_
      refine V_sub (lv' := [(0, .ref (G.2.2 + 154)), (1, .ref (G.2.2 + v1)), (3, .int v3), (4, .int (0 : Int32)), (5, .int s.2.1), (6, .int (0 : Int32))]) [2, 3, 4, 1, 5, 0] rfl ?_
      obtain ⟨x5, hx5, h⟩ := ob_s h
      refine (lp_Ways_acrossLevels_29_ok X hD v1 v3 s.2.1 hk_v1 _ _ _ hx5 (fun x9 e9 => ?_) :)
      subst e9
      refine V_iinc (n := 4) (v := (s.2.1 + (1 : Int32))) (lv' := [(5, .int (s.2.1 + (1 : Int32))), (0, .ref (G.2.2 + 154)), (1, .ref (G.2.2 + v1)), (3, .int v3), (4, .int x5.1)]) X d_Ways_acrossLevels_68 rfl rfl (by decide) rfl rfl ?_
      refine V_goto (pc' := 11) X d_Ways_acrossLevels_71 (by decide) ?_
      refine V_sub (lv' := [(0, .ref (G.2.2 + 154)), (1, .ref (G.2.2 + v1)), (3, .int v3), (4, .int x5.1), (5, .int (s.2.1 + (1 : Int32)))]) [1, 2, 3, 4, 0] rfl ?_
      exact kc (x5.1, (s.2.1 + (1 : Int32)), x5.2) (Option.some.inj h).symm
theorem lp_Ways_acrossLevels_11_ok {E : Ev} {G : Gw} {d : Nat} {post : Int32 → Mem → Prop} (X : Cx E G b_Ways_acrossLevels "WomenByTheRoofs$Ways" 7 d (some .int)) (hD : 3 ≤ d)  (v1 : Nat) (v3 : Int32) (hk_v1 : kd v1 = 10 + 6)  (n9 : Nat) (s : Int32 × Int32 × Mem) (x : (Mem)) (h : iter (lb_Ways_acrossLevels_11 v1 v3) n9 s = some x) (kx0 : ∀ x9 : Mem, x = x9 → V E (0, 0) G 7 (QI E G post) x9 74 [(0, .ref (G.2.2 + 154)), (3, .int v3)] []) : V E (0, 0) G 7 (QI E G post) s.2.2 11 [(0, .ref (G.2.2 + 154)), (1, .ref (G.2.2 + v1)), (3, .int v3), (4, .int s.1), (5, .int s.2.1)] [] :=
  iter_P (P := fun s : Int32 × Int32 × Mem => V E (0, 0) G 7 (QI E G post) s.2.2 11 [(0, .ref (G.2.2 + 154)), (1, .ref (G.2.2 + v1)), (3, .int v3), (4, .int s.1), (5, .int s.2.1)] []) (fun s o hb kc ky => lb_Ways_acrossLevels_11_ok X hD v1 v3 hk_v1 s o hb kc (fun x9 e9 => kx0 x9 (ky _ e9).symm)) n9 s h
def f_Ways_acrossLevels (v1 : Nat) (v2 : Int32) (v3 : Int32) (M : Mem) : Option (Int32 × Mem) :=
  if kd v1 = 10 + 6 then
  Option.bind (f_Ways_begin v2 M) fun x1 =>
  Option.bind (iter (lb_Ways_acrossLevels_11 v1 v3) FU ((1 : Int32), (0 : Int32), x1)) fun x8 =>
  if inb v3 72 = true then
  some ((x8.1 158 v3.toNatClampNeg), x8)
  else none
  else none
theorem c_Ways_acrossLevels (l : Launch) (G : Gw)  (v1 : Nat) (v2 : Int32) (v3 : Int32) (M : Mem) (x : Int32 × Mem) (h : f_Ways_acrossLevels v1 v2 v3 M = some x) (d : Nat) (hD : 3 ≤ d) : Ci l G y_Ways_acrossLevels b_Ways_acrossLevels 7 (some .int) d [.ref (G.2.2 + 154), .ref (G.2.2 + v1), .int v2, .int v3] M (fun r9 M9 => r9 = x.1 ∧ M9 = x.2) := by
  refine Ci_of (by decide) (Nat.le_of_ble_eq_true rfl) (fun E hE X => ?_)
  subst hE
  have kr : ∀ x9 : Int32 × Mem, x = x9 → (fun r9 M9 => r9 = x.1 ∧ M9 = x.2) x9.1 x9.2 := fun x9 e9 => by subst e9; exact ⟨rfl, rfl⟩
  unfold f_Ways_acrossLevels at h
  obtain ⟨hk_v1, h⟩ := ifn h
  refine V_aload_n (n := 0) X d_Ways_acrossLevels_0 rfl rfl rfl ?_
  refine V_iload_n (n := 2) X d_Ways_acrossLevels_1 rfl rfl rfl ?_
  obtain ⟨x1, hx1, h⟩ := ob_s h
  refine V_cv (As := [.int v2]) X (Z0 E) ml_Ways_37 yq_Ways_begin (c_Ways_begin E.2.1 G v2 M x1 hx1 _ (Nat.le_refl _)) kd_154 rfl rfl (by omega) rfl (Nat.le_of_ble_eq_true rfl) d_Ways_acrossLevels_2 rfl (fun M9 hq => ?_)
  rw [hq]
  refine V_iconst (v := 1) X d_Ways_acrossLevels_5 (by decide) rfl ?_
  refine V_istore (lv' := [(4, .int (1 : Int32)), (0, .ref (G.2.2 + 154)), (1, .ref (G.2.2 + v1)), (2, .int v2), (3, .int v3)]) X d_Ways_acrossLevels_6 (by decide) rfl rfl ?_
  refine V_iconst (v := 0) X d_Ways_acrossLevels_8 (by decide) rfl ?_
  refine V_istore (lv' := [(5, .int (0 : Int32)), (4, .int (1 : Int32)), (0, .ref (G.2.2 + 154)), (1, .ref (G.2.2 + v1)), (2, .int v2), (3, .int v3)]) X d_Ways_acrossLevels_9 (by decide) rfl rfl ?_
  refine V_sub (lv' := [(0, .ref (G.2.2 + 154)), (1, .ref (G.2.2 + v1)), (3, .int v3), (4, .int (1 : Int32)), (5, .int (0 : Int32))]) [2, 3, 5, 1, 0] rfl ?_
  obtain ⟨x8, hx8, h⟩ := ob_s h
  refine (lp_Ways_acrossLevels_11_ok X hD v1 v3 hk_v1 _ _ _ hx8 (fun x9 e9 => ?_) :)
  subst e9
  refine V_aload_n (n := 0) X d_Ways_acrossLevels_74 rfl rfl rfl ?_
  refine V_getr (k2 := 158) X fo_Ways_21 kd_154 rfl rf_154_3 d_Ways_acrossLevels_75 rfl ?_
  refine V_iload_n (n := 1) X d_Ways_acrossLevels_78 rfl rfl rfl ?_
  obtain ⟨hb, h⟩ := ifn h
  refine V_iald X kd_158 (inb_in ln_158 hb) d_Ways_acrossLevels_79 rfl ?_
  exact V_iret X (kr ((x8.1 158 v3.toNatClampNeg), x8) (Option.some.inj h).symm) d_Ways_acrossLevels_80
def f_Ways_later (v1 : Int32) (M : Mem) : Option (Int32) :=
  if inb v1 36 = true then
  if inb v1 36 = true then
  some (if (M.1 155 v1.toNatClampNeg) < (M.1 156 v1.toNatClampNeg) then (M.1 156 v1.toNatClampNeg) else (M.1 155 v1.toNatClampNeg))
  else none
  else none
theorem c_Ways_later (l : Launch) (G : Gw)  (v1 : Int32) (M : Mem) (x : Int32) (h : f_Ways_later v1 M = some x) (d : Nat) (hD : 1 ≤ d) : Ci l G y_Ways_later b_Ways_later 2 (some .int) d [.ref (G.2.2 + 154), .int v1] M (fun r9 M9 => r9 = x ∧ M9 = M) := by
  refine Ci_of (by decide) (Nat.le_of_ble_eq_true rfl) (fun E hE X => ?_)
  subst hE
  have kr : ∀ x9 : Int32, x = x9 → (fun r9 M9 => r9 = x ∧ M9 = M) x9 M := fun x9 e9 => by subst e9; exact ⟨rfl, rfl⟩
  unfold f_Ways_later at h
  refine V_aload_n (n := 0) X d_Ways_later_0 rfl rfl rfl ?_
  refine V_getr (k2 := 155) X fo_Ways_9 kd_154 rfl rf_154_0 d_Ways_later_1 rfl ?_
  refine V_iload_n (n := 1) X d_Ways_later_4 rfl rfl rfl ?_
  obtain ⟨hb, h⟩ := ifn h
  refine V_iald X kd_155 (inb_in ln_155 hb) d_Ways_later_5 rfl ?_
  refine V_aload_n (n := 0) X d_Ways_later_6 rfl rfl rfl ?_
  refine V_getr (k2 := 156) X fo_Ways_15 kd_154 rfl rf_154_1 d_Ways_later_7 rfl ?_
  refine V_iload_n (n := 1) X d_Ways_later_10 rfl rfl rfl ?_
  obtain ⟨hb, h⟩ := ifn h
  refine V_iald X kd_156 (inb_in ln_156 hb) d_Ways_later_11 rfl ?_
  refine V_mmax X (Z0 E) mm_Ways_30 (by omega) (Nat.le_of_ble_eq_true rfl) d_Ways_later_12 rfl ?_
  exact V_iret X (kr (if (M.1 155 v1.toNatClampNeg) < (M.1 156 v1.toNatClampNeg) then (M.1 156 v1.toNatClampNeg) else (M.1 155 v1.toNatClampNeg)) (Option.some.inj h).symm) d_Ways_later_15
def lb_Ways_cross_6 (v2 : Nat) (v3 : Int32) (s : Int32 × Int32 × Mem) : Option ((Int32 × Int32 × Mem) ⊕ ((Int32 × Mem))) :=
  if (4 : Int32) ≤ s.2.1 then
  some (.inr (s.1, s.2.2))
  else
  Option.bind (f_Nets_toward v2 (1 : Int32) v3 s.2.1 s.2.2) fun x1 =>
  Option.bind (f_Ground_beside v3 s.2.1 s.2.2) fun x2 =>
  Option.bind (f_Ground_beside x2 s.2.1 s.2.2) fun x3 =>
  if x1 = (-1 : Int32) then
  Option.bind (f_Ground_holds (1 : Int32) x3 s.2.2) fun x4 =>
  if x4 = 0 then
  some (.inl (s.1, (s.2.1 + (1 : Int32)), s.2.2))
  else
  if inb v3 72 = true then
  Option.bind (f_Ways_lower x3 (((s.2.2.1 158 v3.toNatClampNeg) + (100 : Int32)) + (1 : Int32)) s.2.2) fun x5 =>
  some (.inl ((s.1 ||| x5.1), (s.2.1 + (1 : Int32)), x5.2))
  else none
  else
  if inb v3 72 = true then
  Option.bind (f_Ways_lower x1 ((s.2.2.1 158 v3.toNatClampNeg) + (1 : Int32)) s.2.2) fun x7 =>
  some (.inl ((s.1 ||| x7.1), (s.2.1 + (1 : Int32)), x7.2))
  else none
theorem lb_Ways_cross_6_ok {E : Ev} {G : Gw} {d : Nat} {post : Int32 → Mem → Prop} (X : Cx E G b_Ways_cross "WomenByTheRoofs$Ways" 8 d (some .boolean)) (hD : 2 ≤ d)  (v2 : Nat) (v3 : Int32) (hk_v2 : kd v2 = 10 + 6)  (s : Int32 × Int32 × Mem) (o : (Int32 × Int32 × Mem) ⊕ ((Int32 × Mem))) (h : lb_Ways_cross_6 v2 v3 s = some o) (kc : ∀ s9 : Int32 × Int32 × Mem, o = .inl s9 → V E (0, 0) G 8 (QI E G post) s9.2.2 6 [(0, .ref (G.2.2 + 154)), (1, .ref (G.2.2 + 3)), (2, .ref (G.2.2 + v2)), (3, .int v3), (4, .int s9.1), (5, .int s9.2.1)] []) (kx0 : ∀ x9 : Int32 × Mem, o = .inr x9 → V E (0, 0) G 8 (QI E G post) x9.2 103 [(4, .int x9.1)] []) : V E (0, 0) G 8 (QI E G post) s.2.2 6 [(0, .ref (G.2.2 + 154)), (1, .ref (G.2.2 + 3)), (2, .ref (G.2.2 + v2)), (3, .int v3), (4, .int s.1), (5, .int s.2.1)] [] := by
  unfold lb_Ways_cross_6 at h
  refine V_iload (n := 5) X d_Ways_cross_6 rfl rfl ?_
  refine V_iconst (v := 4) X d_Ways_cross_8 (by decide) rfl ?_
  refine V_icmp_ge (tgt := 103) X d_Ways_cross_9 (by decide) rfl (fun c9 => ?_) (fun c9 => ?_)
  · rw [if_pos c9] at h
    refine V_sub (lv' := [(4, .int s.1)]) [4] rfl ?_
    exact kx0 (s.1, s.2.2) (Option.some.inj h).symm
  · rw [if_neg c9] at h
    refine V_aload_n (n := 2) X d_Ways_cross_12 rfl rfl rfl ?_
    refine V_iconst (v := 1) X d_Ways_cross_13 (by decide) rfl ?_
    refine V_iload_n (n := 3) X d_Ways_cross_14 rfl rfl rfl ?_
    refine V_iload (n := 5) X d_Ways_cross_15 rfl rfl ?_
    obtain ⟨x1, hx1, h⟩ := ob_s h
    refine V_ci (As := [.int (1 : Int32), .int v3, .int s.2.1]) X (Z0 E) ml_Ways_45 yq_Nets_toward (c_Nets_toward E.2.1 G v2 (1 : Int32) v3 s.2.1 s.2.2 x1 hx1 _ (Nat.le_refl _)) hk_v2 rfl rfl (by omega) rfl (Nat.le_of_ble_eq_true rfl) d_Ways_cross_17 rfl (fun r9 M9 hq => ?_)
    rw [hq.1, hq.2]
    refine V_istore (lv' := [(6, .int x1), (0, .ref (G.2.2 + 154)), (1, .ref (G.2.2 + 3)), (2, .ref (G.2.2 + v2)), (3, .int v3), (4, .int s.1), (5, .int s.2.1)]) X d_Ways_cross_20 (by decide) rfl rfl ?_
    refine V_aload_n (n := 2) X d_Ways_cross_22 rfl rfl rfl ?_
    refine V_aload_n (n := 2) X d_Ways_cross_23 rfl rfl rfl ?_
    refine V_iload_n (n := 4) X d_Ways_cross_24 rfl rfl rfl ?_
    refine V_iload (n := 6) X d_Ways_cross_25 rfl rfl ?_
    obtain ⟨x2, hx2, h⟩ := ob_s h
    refine V_ci (As := [.int v3, .int s.2.1]) X (Z0 E) ml_Ways_63 yq_Ground_beside (c_Ground_beside E.2.1 G v3 s.2.1 s.2.2 x2 hx2 _ (Nat.le_refl _)) kd_3 rfl rfl (by omega) rfl (Nat.le_of_ble_eq_true rfl) d_Ways_cross_27 rfl (fun r9 M9 hq => ?_)
    rw [hq.1, hq.2]
    refine V_iload (n := 6) X d_Ways_cross_30 rfl rfl ?_
    obtain ⟨x3, hx3, h⟩ := ob_s h
    refine V_ci (As := [.int x2, .int s.2.1]) X (Z0 E) ml_Ways_63 yq_Ground_beside (c_Ground_beside E.2.1 G x2 s.2.1 s.2.2 x3 hx3 _ (Nat.le_refl _)) kd_3 rfl rfl (by omega) rfl (Nat.le_of_ble_eq_true rfl) d_Ways_cross_32 rfl (fun r9 M9 hq => ?_)
    rw [hq.1, hq.2]
    refine V_istore (lv' := [(7, .int x3), (6, .int x1), (0, .ref (G.2.2 + 154)), (1, .ref (G.2.2 + 3)), (2, .ref (G.2.2 + v2)), (3, .int v3), (4, .int s.1), (5, .int s.2.1)]) X d_Ways_cross_35 (by decide) rfl rfl ?_
    refine V_iload (n := 1) X d_Ways_cross_37 rfl rfl ?_
    refine V_iconst (v := -1) X d_Ways_cross_39 (by decide) rfl ?_
    refine V_icmp_eq (tgt := 65) X d_Ways_cross_40 (by decide) rfl (fun c8 => ?_) (fun c8 => ?_)
    · rw [if_pos c8] at h
      refine V_aload_n (n := 3) X d_Ways_cross_65 rfl rfl rfl ?_
      refine V_iconst (v := 1) X d_Ways_cross_66 (by decide) rfl ?_
      refine V_iload (n := 0) X d_Ways_cross_67 rfl rfl ?_
      obtain ⟨x4, hx4, h⟩ := ob_s h
      refine V_ci (As := [.int (1 : Int32), .int x3]) X (Z0 E) ml_Ways_68 yq_Ground_holds (c_Ground_holds E.2.1 G (1 : Int32) x3 s.2.2 x4 hx4 _ (Nat.le_refl _)) kd_3 rfl rfl (by omega) rfl (Nat.le_of_ble_eq_true rfl) d_Ways_cross_69 rfl (fun r9 M9 hq => ?_)
      rw [hq.1, hq.2]
      refine V_if_eq (tgt := 97) X d_Ways_cross_72 (by decide) rfl (fun c6 => ?_) (fun c6 => ?_)
      · rw [if_pos c6] at h
        refine V_iinc (n := 7) (v := (s.2.1 + (1 : Int32))) (lv' := [(5, .int (s.2.1 + (1 : Int32))), (7, .int x3), (6, .int x1), (0, .ref (G.2.2 + 154)), (1, .ref (G.2.2 + 3)), (2, .ref (G.2.2 + v2)), (3, .int v3), (4, .int s.1)]) X d_Ways_cross_97 rfl rfl (by decide) rfl rfl ?_
        refine V_goto (pc' := 6) X d_Ways_cross_100 (by decide) ?_
        refine V_sub (lv' := [(0, .ref (G.2.2 + 154)), (1, .ref (G.2.2 + 3)), (2, .ref (G.2.2 + v2)), (3, .int v3), (4, .int s.1), (5, .int (s.2.1 + (1 : Int32)))]) [3, 4, 5, 6, 7, 0] rfl ?_
        exact kc (s.1, (s.2.1 + (1 : Int32)), s.2.2) (Option.some.inj h).symm
      · rw [if_neg c6] at h
        refine V_iload (n := 6) X d_Ways_cross_75 rfl rfl ?_
        refine V_aload_n (n := 2) X d_Ways_cross_77 rfl rfl rfl ?_
        refine V_iload (n := 0) X d_Ways_cross_78 rfl rfl ?_
        refine V_aload_n (n := 2) X d_Ways_cross_80 rfl rfl rfl ?_
        refine V_getr (k2 := 158) X fo_Ways_21 kd_154 rfl rf_154_3 d_Ways_cross_81 rfl ?_
        refine V_iload_n (n := 5) X d_Ways_cross_84 rfl rfl rfl ?_
        obtain ⟨hb, h⟩ := ifn h
        refine V_iald X kd_158 (inb_in ln_158 hb) d_Ways_cross_85 rfl ?_
        refine V_bipush (v := 100) X d_Ways_cross_86 (by decide) rfl ?_
        refine V_iadd X d_Ways_cross_88 rfl ?_
        refine V_iconst (v := 1) X d_Ways_cross_89 (by decide) rfl ?_
        refine V_iadd X d_Ways_cross_90 rfl ?_
        obtain ⟨x5, hx5, h⟩ := ob_s h
        refine V_ci (As := [.int x3, .int (((s.2.2.1 158 v3.toNatClampNeg) + (100 : Int32)) + (1 : Int32))]) X (Z0 E) ml_Ways_51 yq_Ways_lower (c_Ways_lower E.2.1 G x3 (((s.2.2.1 158 v3.toNatClampNeg) + (100 : Int32)) + (1 : Int32)) s.2.2 x5 hx5 _ (Nat.le_refl _)) kd_154 rfl rfl (by omega) rfl (Nat.le_of_ble_eq_true rfl) d_Ways_cross_91 rfl (fun r9 M9 hq => ?_)
        rw [hq.1, hq.2]
        refine V_ior X d_Ways_cross_94 rfl ?_
        refine V_istore (lv' := [(4, .int (s.1 ||| x5.1)), (7, .int x3), (6, .int x1), (0, .ref (G.2.2 + 154)), (1, .ref (G.2.2 + 3)), (2, .ref (G.2.2 + v2)), (3, .int v3), (5, .int s.2.1)]) X d_Ways_cross_95 (by decide) rfl rfl ?_
        refine V_iinc (n := 7) (v := (s.2.1 + (1 : Int32))) (lv' := [(5, .int (s.2.1 + (1 : Int32))), (4, .int (s.1 ||| x5.1)), (7, .int x3), (6, .int x1), (0, .ref (G.2.2 + 154)), (1, .ref (G.2.2 + 3)), (2, .ref (G.2.2 + v2)), (3, .int v3)]) X d_Ways_cross_97 rfl rfl (by decide) rfl rfl ?_
        refine V_goto (pc' := 6) X d_Ways_cross_100 (by decide) ?_
        refine V_sub (lv' := [(0, .ref (G.2.2 + 154)), (1, .ref (G.2.2 + 3)), (2, .ref (G.2.2 + v2)), (3, .int v3), (4, .int (s.1 ||| x5.1)), (5, .int (s.2.1 + (1 : Int32)))]) [4, 5, 6, 7, 1, 0] rfl ?_
        exact kc ((s.1 ||| x5.1), (s.2.1 + (1 : Int32)), x5.2) (Option.some.inj h).symm
    · rw [if_neg c8] at h
      refine V_iload (n := 6) X d_Ways_cross_43 rfl rfl ?_
      refine V_aload_n (n := 2) X d_Ways_cross_45 rfl rfl rfl ?_
      refine V_iload (n := 1) X d_Ways_cross_46 rfl rfl ?_
      refine V_aload_n (n := 2) X d_Ways_cross_48 rfl rfl rfl ?_
      refine V_getr (k2 := 158) X fo_Ways_21 kd_154 rfl rf_154_3 d_Ways_cross_49 rfl ?_
      refine V_iload_n (n := 5) X d_Ways_cross_52 rfl rfl rfl ?_
      obtain ⟨hb, h⟩ := ifn h
      refine V_iald X kd_158 (inb_in ln_158 hb) d_Ways_cross_53 rfl ?_
      refine V_iconst (v := 1) X d_Ways_cross_54 (by decide) rfl ?_
      refine V_iadd X d_Ways_cross_55 rfl ?_
      obtain ⟨x7, hx7, h⟩ := ob_s h
      refine V_ci (As := [.int x1, .int ((s.2.2.1 158 v3.toNatClampNeg) + (1 : Int32))]) X (Z0 E) ml_Ways_51 yq_Ways_lower (c_Ways_lower E.2.1 G x1 ((s.2.2.1 158 v3.toNatClampNeg) + (1 : Int32)) s.2.2 x7 hx7 _ (Nat.le_refl _)) kd_154 rfl rfl (by omega) rfl (Nat.le_of_ble_eq_true rfl) d_Ways_cross_56 rfl (fun r9 M9 hq => ?_)
      rw [hq.1, hq.2]
      refine V_ior X d_Ways_cross_59 rfl ?_
      refine V_istore (lv' := [(4, .int (s.1 ||| x7.1)), (7, .int x3), (6, .int x1), (0, .ref (G.2.2 + 154)), (1, .ref (G.2.2 + 3)), (2, .ref (G.2.2 + v2)), (3, .int v3), (5, .int s.2.1)]) X d_Ways_cross_60 (by decide) rfl rfl ?_
      refine V_goto (pc' := 97) X d_Ways_cross_62 (by decide) ?_
      refine V_iinc (n := 7) (v := (s.2.1 + (1 : Int32))) (lv' := [(5, .int (s.2.1 + (1 : Int32))), (4, .int (s.1 ||| x7.1)), (7, .int x3), (6, .int x1), (0, .ref (G.2.2 + 154)), (1, .ref (G.2.2 + 3)), (2, .ref (G.2.2 + v2)), (3, .int v3)]) X d_Ways_cross_97 rfl rfl (by decide) rfl rfl ?_
      refine V_goto (pc' := 6) X d_Ways_cross_100 (by decide) ?_
      refine V_sub (lv' := [(0, .ref (G.2.2 + 154)), (1, .ref (G.2.2 + 3)), (2, .ref (G.2.2 + v2)), (3, .int v3), (4, .int (s.1 ||| x7.1)), (5, .int (s.2.1 + (1 : Int32)))]) [4, 5, 6, 7, 1, 0] rfl ?_
      exact kc ((s.1 ||| x7.1), (s.2.1 + (1 : Int32)), x7.2) (Option.some.inj h).symm
theorem lp_Ways_cross_6_ok {E : Ev} {G : Gw} {d : Nat} {post : Int32 → Mem → Prop} (X : Cx E G b_Ways_cross "WomenByTheRoofs$Ways" 8 d (some .boolean)) (hD : 2 ≤ d)  (v2 : Nat) (v3 : Int32) (hk_v2 : kd v2 = 10 + 6)  (n9 : Nat) (s : Int32 × Int32 × Mem) (x : (Int32 × Mem)) (h : iter (lb_Ways_cross_6 v2 v3) n9 s = some x) (kx0 : ∀ x9 : Int32 × Mem, x = x9 → V E (0, 0) G 8 (QI E G post) x9.2 103 [(4, .int x9.1)] []) : V E (0, 0) G 8 (QI E G post) s.2.2 6 [(0, .ref (G.2.2 + 154)), (1, .ref (G.2.2 + 3)), (2, .ref (G.2.2 + v2)), (3, .int v3), (4, .int s.1), (5, .int s.2.1)] [] :=
  iter_P (P := fun s : Int32 × Int32 × Mem => V E (0, 0) G 8 (QI E G post) s.2.2 6 [(0, .ref (G.2.2 + 154)), (1, .ref (G.2.2 + 3)), (2, .ref (G.2.2 + v2)), (3, .int v3), (4, .int s.1), (5, .int s.2.1)] []) (fun s o hb kc ky => lb_Ways_cross_6_ok X hD v2 v3 hk_v2 s o hb kc (fun x9 e9 => kx0 x9 (ky _ e9).symm)) n9 s h
def f_Ways_cross (v2 : Nat) (v3 : Int32) (M : Mem) : Option (Int32 × Mem) :=
  if kd v2 = 10 + 6 then
  Option.bind (iter (lb_Ways_cross_6 v2 v3) FU ((0 : Int32), (0 : Int32), M)) fun x10 =>
  if x10.1 = 0 ∨ x10.1 = 1 then some (x10.1, x10.2) else none
  else none
theorem c_Ways_cross (l : Launch) (G : Gw)  (v2 : Nat) (v3 : Int32) (M : Mem) (x : Int32 × Mem) (h : f_Ways_cross v2 v3 M = some x) (d : Nat) (hD : 2 ≤ d) : Ci l G y_Ways_cross b_Ways_cross 8 (some .boolean) d [.ref (G.2.2 + 154), .ref (G.2.2 + 3), .ref (G.2.2 + v2), .int v3] M (fun r9 M9 => r9 = x.1 ∧ M9 = x.2) := by
  refine Ci_of (by decide) (Nat.le_of_ble_eq_true rfl) (fun E hE X => ?_)
  subst hE
  have kr : ∀ x9 : Int32 × Mem, x = x9 → (fun r9 M9 => r9 = x.1 ∧ M9 = x.2) x9.1 x9.2 := fun x9 e9 => by subst e9; exact ⟨rfl, rfl⟩
  unfold f_Ways_cross at h
  obtain ⟨hk_v2, h⟩ := ifn h
  refine V_iconst (v := 0) X d_Ways_cross_0 (by decide) rfl ?_
  refine V_istore (lv' := [(4, .int (0 : Int32)), (0, .ref (G.2.2 + 154)), (1, .ref (G.2.2 + 3)), (2, .ref (G.2.2 + v2)), (3, .int v3)]) X d_Ways_cross_1 (by decide) rfl rfl ?_
  refine V_iconst (v := 0) X d_Ways_cross_3 (by decide) rfl ?_
  refine V_istore (lv' := [(5, .int (0 : Int32)), (4, .int (0 : Int32)), (0, .ref (G.2.2 + 154)), (1, .ref (G.2.2 + 3)), (2, .ref (G.2.2 + v2)), (3, .int v3)]) X d_Ways_cross_4 (by decide) rfl rfl ?_
  refine V_sub (lv' := [(0, .ref (G.2.2 + 154)), (1, .ref (G.2.2 + 3)), (2, .ref (G.2.2 + v2)), (3, .int v3), (4, .int (0 : Int32)), (5, .int (0 : Int32))]) [2, 3, 4, 5, 1, 0] rfl ?_
  obtain ⟨x10, hx10, h⟩ := ob_s h
  refine (lp_Ways_cross_6_ok X hD v2 v3 hk_v2 _ _ _ hx10 (fun x9 e9 => ?_) :)
  subst e9
  refine V_iload (n := 0) X d_Ways_cross_103 rfl rfl ?_
  obtain ⟨hq, h⟩ := ifn h
  exact V_zret X (kr (x10.1, x10.2) (Option.some.inj h).symm) hq d_Ways_cross_105
def lb_Ways_bridged_29 (v2 : Nat) (v4 : Int32) (v6 : Int32) (s : Int32 × Int32 × Mem) : Option ((Int32 × Int32 × Mem) ⊕ ((Int32 × Mem))) :=
  if (36 : Int32) ≤ s.2.1 then
  some (.inr (s.1, s.2.2))
  else
  if inb s.2.1 72 = true then
  if (1000000 : Int32) ≤ (s.2.2.1 158 s.2.1.toNatClampNeg) then
  some (.inl ((s.1 ||| (0 : Int32)), (s.2.1 + (1 : Int32)), s.2.2))
  else
  Option.bind (f_Ways_cross v2 s.2.1 s.2.2) fun x2 =>
  if x2.1 = 0 then
  some (.inl ((s.1 ||| (0 : Int32)), (s.2.1 + (1 : Int32)), x2.2))
  else
  some (.inl ((s.1 ||| (1 : Int32)), (s.2.1 + (1 : Int32)), x2.2))
  else none
theorem lb_Ways_bridged_29_ok {E : Ev} {G : Gw} {d : Nat} {post : Int32 → Mem → Prop} (X : Cx E G b_Ways_bridged "WomenByTheRoofs$Ways" 8 d (some .int)) (hD : 3 ≤ d)  (v2 : Nat) (v4 : Int32) (v6 : Int32) (hk_v2 : kd v2 = 10 + 6)  (s : Int32 × Int32 × Mem) (o : (Int32 × Int32 × Mem) ⊕ ((Int32 × Mem))) (h : lb_Ways_bridged_29 v2 v4 v6 s = some o) (kc : ∀ s9 : Int32 × Int32 × Mem, o = .inl s9 → V E (0, 0) G 8 (QI E G post) s9.2.2 29 [(0, .ref (G.2.2 + 154)), (1, .ref (G.2.2 + 3)), (2, .ref (G.2.2 + v2)), (4, .int v4), (5, .int s9.1), (6, .int v6), (7, .int s9.2.1)] []) (kx0 : ∀ x9 : Int32 × Mem, o = .inr x9 → V E (0, 0) G 8 (QI E G post) x9.2 75 [(0, .ref (G.2.2 + 154)), (1, .ref (G.2.2 + 3)), (2, .ref (G.2.2 + v2)), (4, .int v4), (5, .int x9.1), (6, .int v6)] []) : V E (0, 0) G 8 (QI E G post) s.2.2 29 [(0, .ref (G.2.2 + 154)), (1, .ref (G.2.2 + 3)), (2, .ref (G.2.2 + v2)), (4, .int v4), (5, .int s.1), (6, .int v6), (7, .int s.2.1)] [] := by
  unfold lb_Ways_bridged_29 at h
  refine V_iload (n := 6) X d_Ways_bridged_29 rfl rfl ?_
  refine V_bipush (v := 36) X d_Ways_bridged_31 (by decide) rfl ?_
  refine V_icmp_ge (tgt := 75) X d_Ways_bridged_33 (by decide) rfl (fun c5 => ?_) (fun c5 => ?_)
  · rw [if_pos c5] at h
    refine V_sub (lv' := [(0, .ref (G.2.2 + 154)), (1, .ref (G.2.2 + 3)), (2, .ref (G.2.2 + v2)), (4, .int v4), (5, .int s.1), (6, .int v6)]) [0, 1, 2, 3, 4, 5] rfl ?_
    exact kx0 (s.1, s.2.2) (Option.some.inj h).symm
  · rw [if_neg c5] at h
    refine V_iload (n := 4) X d_Ways_bridged_36 rfl rfl ?_
    refine V_aload_n (n := 0) X d_Ways_bridged_38 rfl rfl rfl ?_
    refine V_getr (k2 := 158) X fo_Ways_21 kd_154 rfl rf_154_3 d_Ways_bridged_39 rfl ?_
    refine V_iload (n := 6) X d_Ways_bridged_42 rfl rfl ?_
    obtain ⟨hb, h⟩ := ifn h
    refine V_iald X kd_158 (inb_in ln_158 hb) d_Ways_bridged_44 rfl ?_
    refine V_ldc (v := 1000000) X d_Ways_bridged_45 kc_Ways_36 rfl ?_
    refine V_icmp_ge (tgt := 65) X d_Ways_bridged_47 (by decide) rfl (fun c4 => ?_) (fun c4 => ?_)
    · rw [if_pos c4] at h
      refine V_iconst (v := 0) X d_Ways_bridged_65 (by decide) rfl ?_
      refine V_ior X d_Ways_bridged_66 rfl ?_
      refine V_istore (lv' := [(5, .int (s.1 ||| (0 : Int32))), (0, .ref (G.2.2 + 154)), (1, .ref (G.2.2 + 3)), (2, .ref (G.2.2 + v2)), (4, .int v4), (6, .int v6), (7, .int s.2.1)]) X d_Ways_bridged_67 (by decide) rfl rfl ?_
      refine V_iinc (n := 6) (v := (s.2.1 + (1 : Int32))) (lv' := [(7, .int (s.2.1 + (1 : Int32))), (5, .int (s.1 ||| (0 : Int32))), (0, .ref (G.2.2 + 154)), (1, .ref (G.2.2 + 3)), (2, .ref (G.2.2 + v2)), (4, .int v4), (6, .int v6)]) X d_Ways_bridged_69 rfl rfl (by decide) rfl rfl ?_
      refine V_goto (pc' := 29) X d_Ways_bridged_72 (by decide) ?_
      refine V_sub (lv' := [(0, .ref (G.2.2 + 154)), (1, .ref (G.2.2 + 3)), (2, .ref (G.2.2 + v2)), (4, .int v4), (5, .int (s.1 ||| (0 : Int32))), (6, .int v6), (7, .int (s.2.1 + (1 : Int32)))]) [2, 3, 4, 5, 1, 6, 0] rfl ?_
      exact kc ((s.1 ||| (0 : Int32)), (s.2.1 + (1 : Int32)), s.2.2) (Option.some.inj h).symm
    · rw [if_neg c4] at h
      refine V_aload_n (n := 0) X d_Ways_bridged_50 rfl rfl rfl ?_
      refine V_aload_n (n := 1) X d_Ways_bridged_51 rfl rfl rfl ?_
      refine V_aload_n (n := 2) X d_Ways_bridged_52 rfl rfl rfl ?_
      refine V_iload (n := 6) X d_Ways_bridged_53 rfl rfl ?_
      obtain ⟨x2, hx2, h⟩ := ob_s h
      refine V_ci (As := [.ref (G.2.2 + 3), .ref (G.2.2 + v2), .int s.2.1]) X (Z0 E) ml_Ways_59 yq_Ways_cross (c_Ways_cross E.2.1 G v2 s.2.1 s.2.2 x2 hx2 _ (Nat.le_refl _)) kd_154 rfl rfl (by omega) rfl (Nat.le_of_ble_eq_true rfl) d_Ways_bridged_55 rfl (fun r9 M9 hq => ?_)
      rw [hq.1, hq.2]
      refine V_if_eq (tgt := 65) X d_Ways_bridged_58 (by decide) rfl (fun c3 => ?_) (fun c3 => ?_)
      · rw [if_pos c3] at h
        refine V_iconst (v := 0) X d_Ways_bridged_65 (by decide) rfl ?_
        refine V_ior X d_Ways_bridged_66 rfl ?_
        refine V_istore (lv' := [(5, .int (s.1 ||| (0 : Int32))), (0, .ref (G.2.2 + 154)), (1, .ref (G.2.2 + 3)), (2, .ref (G.2.2 + v2)), (4, .int v4), (6, .int v6), (7, .int s.2.1)]) X d_Ways_bridged_67 (by decide) rfl rfl ?_
        refine V_iinc (n := 6) (v := (s.2.1 + (1 : Int32))) (lv' := [(7, .int (s.2.1 + (1 : Int32))), (5, .int (s.1 ||| (0 : Int32))), (0, .ref (G.2.2 + 154)), (1, .ref (G.2.2 + 3)), (2, .ref (G.2.2 + v2)), (4, .int v4), (6, .int v6)]) X d_Ways_bridged_69 rfl rfl (by decide) rfl rfl ?_
        refine V_goto (pc' := 29) X d_Ways_bridged_72 (by decide) ?_
        refine V_sub (lv' := [(0, .ref (G.2.2 + 154)), (1, .ref (G.2.2 + 3)), (2, .ref (G.2.2 + v2)), (4, .int v4), (5, .int (s.1 ||| (0 : Int32))), (6, .int v6), (7, .int (s.2.1 + (1 : Int32)))]) [2, 3, 4, 5, 1, 6, 0] rfl ?_
        exact kc ((s.1 ||| (0 : Int32)), (s.2.1 + (1 : Int32)), x2.2) (Option.some.inj h).symm
      · rw [if_neg c3] at h
        refine V_iconst (v := 1) X d_Ways_bridged_61 (by decide) rfl ?_
        refine V_goto (pc' := 66) X d_Ways_bridged_62 (by decide) ?_
        refine V_ior X d_Ways_bridged_66 rfl ?_
        refine V_istore (lv' := [(5, .int (s.1 ||| (1 : Int32))), (0, .ref (G.2.2 + 154)), (1, .ref (G.2.2 + 3)), (2, .ref (G.2.2 + v2)), (4, .int v4), (6, .int v6), (7, .int s.2.1)]) X d_Ways_bridged_67 (by decide) rfl rfl ?_
        refine V_iinc (n := 6) (v := (s.2.1 + (1 : Int32))) (lv' := [(7, .int (s.2.1 + (1 : Int32))), (5, .int (s.1 ||| (1 : Int32))), (0, .ref (G.2.2 + 154)), (1, .ref (G.2.2 + 3)), (2, .ref (G.2.2 + v2)), (4, .int v4), (6, .int v6)]) X d_Ways_bridged_69 rfl rfl (by decide) rfl rfl ?_
        refine V_goto (pc' := 29) X d_Ways_bridged_72 (by decide) ?_
        refine V_sub (lv' := [(0, .ref (G.2.2 + 154)), (1, .ref (G.2.2 + 3)), (2, .ref (G.2.2 + v2)), (4, .int v4), (5, .int (s.1 ||| (1 : Int32))), (6, .int v6), (7, .int (s.2.1 + (1 : Int32)))]) [2, 3, 4, 5, 1, 6, 0] rfl ?_
        exact kc ((s.1 ||| (1 : Int32)), (s.2.1 + (1 : Int32)), x2.2) (Option.some.inj h).symm
theorem lp_Ways_bridged_29_ok {E : Ev} {G : Gw} {d : Nat} {post : Int32 → Mem → Prop} (X : Cx E G b_Ways_bridged "WomenByTheRoofs$Ways" 8 d (some .int)) (hD : 3 ≤ d)  (v2 : Nat) (v4 : Int32) (v6 : Int32) (hk_v2 : kd v2 = 10 + 6)  (n9 : Nat) (s : Int32 × Int32 × Mem) (x : (Int32 × Mem)) (h : iter (lb_Ways_bridged_29 v2 v4 v6) n9 s = some x) (kx0 : ∀ x9 : Int32 × Mem, x = x9 → V E (0, 0) G 8 (QI E G post) x9.2 75 [(0, .ref (G.2.2 + 154)), (1, .ref (G.2.2 + 3)), (2, .ref (G.2.2 + v2)), (4, .int v4), (5, .int x9.1), (6, .int v6)] []) : V E (0, 0) G 8 (QI E G post) s.2.2 29 [(0, .ref (G.2.2 + 154)), (1, .ref (G.2.2 + 3)), (2, .ref (G.2.2 + v2)), (4, .int v4), (5, .int s.1), (6, .int v6), (7, .int s.2.1)] [] :=
  iter_P (P := fun s : Int32 × Int32 × Mem => V E (0, 0) G 8 (QI E G post) s.2.2 29 [(0, .ref (G.2.2 + 154)), (1, .ref (G.2.2 + 3)), (2, .ref (G.2.2 + v2)), (4, .int v4), (5, .int s.1), (6, .int v6), (7, .int s.2.1)] []) (fun s o hb kc ky => lb_Ways_bridged_29_ok X hD v2 v4 v6 hk_v2 s o hb kc (fun x9 e9 => kx0 x9 (ky _ e9).symm)) n9 s h
def lb_Ways_bridged_11 (v2 : Nat) (v4 : Int32) (s : Int32 × Int32 × Mem) : Option ((Int32 × Int32 × Mem) ⊕ ((Mem))) :=
  if (36 : Int32) ≤ s.2.1 then
  some (.inr s.2.2)
  else
  if s.1 = 0 then
  some (.inr s.2.2)
  else
  Option.bind (iter (lb_Ways_bridged_29 v2 v4 s.2.1) FU ((0 : Int32), (0 : Int32), s.2.2)) fun x6 =>
  some (.inl (x6.1, (s.2.1 + (1 : Int32)), x6.2))
theorem lb_Ways_bridged_11_ok {E : Ev} {G : Gw} {d : Nat} {post : Int32 → Mem → Prop} (X : Cx E G b_Ways_bridged "WomenByTheRoofs$Ways" 8 d (some .int)) (hD : 3 ≤ d)  (v2 : Nat) (v4 : Int32) (hk_v2 : kd v2 = 10 + 6)  (s : Int32 × Int32 × Mem) (o : (Int32 × Int32 × Mem) ⊕ ((Mem))) (h : lb_Ways_bridged_11 v2 v4 s = some o) (kc : ∀ s9 : Int32 × Int32 × Mem, o = .inl s9 → V E (0, 0) G 8 (QI E G post) s9.2.2 11 [(0, .ref (G.2.2 + 154)), (1, .ref (G.2.2 + 3)), (2, .ref (G.2.2 + v2)), (4, .int v4), (5, .int s9.1), (6, .int s9.2.1)] []) (kx0 : ∀ x9 : Mem, o = .inr x9 → V E (0, 0) G 8 (QI E G post) x9 81 [(0, .ref (G.2.2 + 154)), (4, .int v4)] []) : V E (0, 0) G 8 (QI E G post) s.2.2 11 [(0, .ref (G.2.2 + 154)), (1, .ref (G.2.2 + 3)), (2, .ref (G.2.2 + v2)), (4, .int v4), (5, .int s.1), (6, .int s.2.1)] [] := by
  unfold lb_Ways_bridged_11 at h
  refine V_iload (n := 5) X d_Ways_bridged_11 rfl rfl ?_
  refine V_bipush (v := 36) X d_Ways_bridged_13 (by decide) rfl ?_
  refine V_icmp_ge (tgt := 81) X d_Ways_bridged_15 (by decide) rfl (fun c8 => ?_) (fun c8 => ?_)
  · rw [if_pos c8] at h
    refine V_sub (lv' := [(0, .ref (G.2.2 + 154)), (4, .int v4)]) [0, 3] rfl ?_
    exact kx0 s.2.2 (Option.some.inj h).symm
  · rw [if_neg c8] at h
    refine V_iload (n := 4) X d_Ways_bridged_18 rfl rfl ?_
    refine V_if_eq (tgt := 81) X d_Ways_bridged_20 (by decide) rfl (fun c7 => ?_) (fun c7 => ?_)
    · rw [if_pos c7] at h
      refine V_sub (lv' := [(0, .ref (G.2.2 + 154)), (4, .int v4)]) [0, 3] rfl ?_
      exact kx0 s.2.2 (Option.some.inj h).symm
    · rw [if_neg c7] at h
      refine V_iconst (v := 0) X d_Ways_bridged_23 (by decide) rfl ?_
      refine V_istore (lv' := [(5, .int (0 : Int32)), (0, .ref (G.2.2 + 154)), (1, .ref (G.2.2 + 3)), (2, .ref (G.2.2 + v2)), (4, .int v4), (6, .int s.2.1)]) X d_Ways_bridged_24 (by decide) rfl rfl ?_
      refine V_iconst (v := 0) X d_Ways_bridged_26 (by decide) rfl ?_
      refine V_istore (lv' := [(7, .int (0 : Int32)), (5, .int (0 : Int32)), (0, .ref (G.2.2 + 154)), (1, .ref (G.2.2 + 3)), (2, .ref (G.2.2 + v2)), (4, .int v4), (6, .int s.2.1)]) X d_Ways_bridged_27 (by decide) rfl rfl ?_
      refine V_sub (lv' := [(0, .ref (G.2.2 + 154)), (1, .ref (G.2.2 + 3)), (2, .ref (G.2.2 + v2)), (4, .int v4), (5, .int (0 : Int32)), (6, .int s.2.1), (7, .int (0 : Int32))]) [2, 3, 4, 5, 1, 6, 0] rfl ?_
      obtain ⟨x6, hx6, h⟩ := ob_s h
      refine (lp_Ways_bridged_29_ok X hD v2 v4 s.2.1 hk_v2 _ _ _ hx6 (fun x9 e9 => ?_) :)
      subst e9
      refine V_iinc (n := 5) (v := (s.2.1 + (1 : Int32))) (lv' := [(6, .int (s.2.1 + (1 : Int32))), (0, .ref (G.2.2 + 154)), (1, .ref (G.2.2 + 3)), (2, .ref (G.2.2 + v2)), (4, .int v4), (5, .int x6.1)]) X d_Ways_bridged_75 rfl rfl (by decide) rfl rfl ?_
      refine V_goto (pc' := 11) X d_Ways_bridged_78 (by decide) ?_
      refine V_sub (lv' := [(0, .ref (G.2.2 + 154)), (1, .ref (G.2.2 + 3)), (2, .ref (G.2.2 + v2)), (4, .int v4), (5, .int x6.1), (6, .int (s.2.1 + (1 : Int32)))]) [1, 2, 3, 4, 5, 0] rfl ?_
      exact kc (x6.1, (s.2.1 + (1 : Int32)), x6.2) (Option.some.inj h).symm
theorem lp_Ways_bridged_11_ok {E : Ev} {G : Gw} {d : Nat} {post : Int32 → Mem → Prop} (X : Cx E G b_Ways_bridged "WomenByTheRoofs$Ways" 8 d (some .int)) (hD : 3 ≤ d)  (v2 : Nat) (v4 : Int32) (hk_v2 : kd v2 = 10 + 6)  (n9 : Nat) (s : Int32 × Int32 × Mem) (x : (Mem)) (h : iter (lb_Ways_bridged_11 v2 v4) n9 s = some x) (kx0 : ∀ x9 : Mem, x = x9 → V E (0, 0) G 8 (QI E G post) x9 81 [(0, .ref (G.2.2 + 154)), (4, .int v4)] []) : V E (0, 0) G 8 (QI E G post) s.2.2 11 [(0, .ref (G.2.2 + 154)), (1, .ref (G.2.2 + 3)), (2, .ref (G.2.2 + v2)), (4, .int v4), (5, .int s.1), (6, .int s.2.1)] [] :=
  iter_P (P := fun s : Int32 × Int32 × Mem => V E (0, 0) G 8 (QI E G post) s.2.2 11 [(0, .ref (G.2.2 + 154)), (1, .ref (G.2.2 + 3)), (2, .ref (G.2.2 + v2)), (4, .int v4), (5, .int s.1), (6, .int s.2.1)] []) (fun s o hb kc ky => lb_Ways_bridged_11_ok X hD v2 v4 hk_v2 s o hb kc (fun x9 e9 => kx0 x9 (ky _ e9).symm)) n9 s h
def f_Ways_bridged (v2 : Nat) (v3 : Int32) (v4 : Int32) (M : Mem) : Option (Int32 × Mem) :=
  if kd v2 = 10 + 6 then
  Option.bind (f_Ways_begin v3 M) fun x1 =>
  Option.bind (iter (lb_Ways_bridged_11 v2 v4) FU ((1 : Int32), (0 : Int32), x1)) fun x9 =>
  if inb v4 72 = true then
  some ((x9.1 158 v4.toNatClampNeg), x9)
  else none
  else none
theorem c_Ways_bridged (l : Launch) (G : Gw)  (v2 : Nat) (v3 : Int32) (v4 : Int32) (M : Mem) (x : Int32 × Mem) (h : f_Ways_bridged v2 v3 v4 M = some x) (d : Nat) (hD : 3 ≤ d) : Ci l G y_Ways_bridged b_Ways_bridged 8 (some .int) d [.ref (G.2.2 + 154), .ref (G.2.2 + 3), .ref (G.2.2 + v2), .int v3, .int v4] M (fun r9 M9 => r9 = x.1 ∧ M9 = x.2) := by
  refine Ci_of (by decide) (Nat.le_of_ble_eq_true rfl) (fun E hE X => ?_)
  subst hE
  have kr : ∀ x9 : Int32 × Mem, x = x9 → (fun r9 M9 => r9 = x.1 ∧ M9 = x.2) x9.1 x9.2 := fun x9 e9 => by subst e9; exact ⟨rfl, rfl⟩
  unfold f_Ways_bridged at h
  obtain ⟨hk_v2, h⟩ := ifn h
  refine V_aload_n (n := 0) X d_Ways_bridged_0 rfl rfl rfl ?_
  refine V_iload_n (n := 3) X d_Ways_bridged_1 rfl rfl rfl ?_
  obtain ⟨x1, hx1, h⟩ := ob_s h
  refine V_cv (As := [.int v3]) X (Z0 E) ml_Ways_37 yq_Ways_begin (c_Ways_begin E.2.1 G v3 M x1 hx1 _ (Nat.le_refl _)) kd_154 rfl rfl (by omega) rfl (Nat.le_of_ble_eq_true rfl) d_Ways_bridged_2 rfl (fun M9 hq => ?_)
  rw [hq]
  refine V_iconst (v := 1) X d_Ways_bridged_5 (by decide) rfl ?_
  refine V_istore (lv' := [(5, .int (1 : Int32)), (0, .ref (G.2.2 + 154)), (1, .ref (G.2.2 + 3)), (2, .ref (G.2.2 + v2)), (3, .int v3), (4, .int v4)]) X d_Ways_bridged_6 (by decide) rfl rfl ?_
  refine V_iconst (v := 0) X d_Ways_bridged_8 (by decide) rfl ?_
  refine V_istore (lv' := [(6, .int (0 : Int32)), (5, .int (1 : Int32)), (0, .ref (G.2.2 + 154)), (1, .ref (G.2.2 + 3)), (2, .ref (G.2.2 + v2)), (3, .int v3), (4, .int v4)]) X d_Ways_bridged_9 (by decide) rfl rfl ?_
  refine V_sub (lv' := [(0, .ref (G.2.2 + 154)), (1, .ref (G.2.2 + 3)), (2, .ref (G.2.2 + v2)), (4, .int v4), (5, .int (1 : Int32)), (6, .int (0 : Int32))]) [2, 3, 4, 6, 1, 0] rfl ?_
  obtain ⟨x9, hx9, h⟩ := ob_s h
  refine (lp_Ways_bridged_11_ok X hD v2 v4 hk_v2 _ _ _ hx9 (fun x9 e9 => ?_) :)
  subst e9
  refine V_aload_n (n := 0) X d_Ways_bridged_81 rfl rfl rfl ?_
  refine V_getr (k2 := 158) X fo_Ways_21 kd_154 rfl rf_154_3 d_Ways_bridged_82 rfl ?_
  refine V_iload (n := 1) X d_Ways_bridged_85 rfl rfl ?_
  obtain ⟨hb, h⟩ := ifn h
  refine V_iald X kd_158 (inb_in ln_158 hb) d_Ways_bridged_87 rfl ?_
  exact V_iret X (kr ((x9.1 158 v4.toNatClampNeg), x9) (Option.some.inj h).symm) d_Ways_bridged_88
def f_Ways_toSide (v1 : Int32) (v2 : Int32) (M : Mem) : Option (Int32) :=
  if v2 = (4 : Int32) then
  some v1
  else
  Option.bind (f_Ground_beside v1 v2 M) fun x1 =>
  some x1
theorem c_Ways_toSide (l : Launch) (G : Gw)  (v1 : Int32) (v2 : Int32) (M : Mem) (x : Int32) (h : f_Ways_toSide v1 v2 M = some x) (d : Nat) (hD : 2 ≤ d) : Ci l G y_Ways_toSide b_Ways_toSide 3 (some .int) d [.ref (G.2.2 + 3), .int v1, .int v2] M (fun r9 M9 => r9 = x ∧ M9 = M) := by
  refine Ci_of (by decide) (Nat.le_of_ble_eq_true rfl) (fun E hE X => ?_)
  subst hE
  have kr : ∀ x9 : Int32, x = x9 → (fun r9 M9 => r9 = x ∧ M9 = M) x9 M := fun x9 e9 => by subst e9; exact ⟨rfl, rfl⟩
  unfold f_Ways_toSide at h
  refine V_iload_n (n := 2) X d_Ways_toSide_0 rfl rfl rfl ?_
  refine V_iconst (v := 4) X d_Ways_toSide_1 (by decide) rfl ?_
  refine V_icmp_ne (tgt := 9) X d_Ways_toSide_2 (by decide) rfl (fun c2 => ?_) (fun c2 => ?_)
  · rw [if_neg c2] at h
    refine V_aload_n (n := 0) X d_Ways_toSide_9 rfl rfl rfl ?_
    refine V_iload_n (n := 1) X d_Ways_toSide_10 rfl rfl rfl ?_
    refine V_iload_n (n := 2) X d_Ways_toSide_11 rfl rfl rfl ?_
    obtain ⟨x1, hx1, h⟩ := ob_s h
    refine V_ci (As := [.int v1, .int v2]) X (Z0 E) ml_Ways_63 yq_Ground_beside (c_Ground_beside E.2.1 G v1 v2 M x1 hx1 _ (Nat.le_refl _)) kd_3 rfl rfl (by omega) rfl (Nat.le_of_ble_eq_true rfl) d_Ways_toSide_12 rfl (fun r9 M9 hq => ?_)
    rw [hq.1, hq.2]
    exact V_iret X (kr x1 (Option.some.inj h).symm) d_Ways_toSide_15
  · rw [if_pos c2] at h
    refine V_iload_n (n := 1) X d_Ways_toSide_5 rfl rfl rfl ?_
    refine V_goto (pc' := 15) X d_Ways_toSide_6 (by decide) ?_
    exact V_iret X (kr v1 (Option.some.inj h).symm) d_Ways_toSide_15
def lb_Ways_pairAfter_63 (v6 : Int32) (v7 : Int32) (M : Mem) (s : Int32) : Option ((Int32) ⊕ ((Unit) ⊕ (Int32))) :=
  if (5 : Int32) ≤ s then
  some (.inr (Sum.inl ()))
  else
  Option.bind (f_Ways_toSide v6 s M) fun x6 =>
  if x6 = v7 then
  some (.inr (Sum.inr s))
  else
  some (.inl (s + (1 : Int32)))
theorem lb_Ways_pairAfter_63_ok {E : Ev} {G : Gw} {d : Nat} {post : Int32 → Mem → Prop} (X : Cx E G b_Ways_pairAfter "WomenByTheRoofs$Ways" 9 d (some .int)) (hD : 3 ≤ d)  (v6 : Int32) (v7 : Int32)  (M : Mem) (s : Int32) (o : (Int32) ⊕ ((Unit) ⊕ (Int32))) (h : lb_Ways_pairAfter_63 v6 v7 M s = some o) (kc : ∀ s9 : Int32, o = .inl s9 → V E (0, 0) G 9 (QI E G post) M 63 [(1, .ref (G.2.2 + 3)), (6, .int v6), (7, .int v7), (8, .int s9)] []) (kx0 : ∀ x9 : Unit, o = .inr (Sum.inl x9) → V E (0, 0) G 9 (QI E G post) M 96 [] []) (kx1 : ∀ x9 : Int32, o = .inr (Sum.inr x9) → V E (0, 0) G 9 (QI E G post) M 82 [(6, .int v6), (8, .int x9)] []) : V E (0, 0) G 9 (QI E G post) M 63 [(1, .ref (G.2.2 + 3)), (6, .int v6), (7, .int v7), (8, .int s)] [] := by
  unfold lb_Ways_pairAfter_63 at h
  refine V_iload (n := 3) X d_Ways_pairAfter_63 rfl rfl ?_
  refine V_iconst (v := 5) X d_Ways_pairAfter_65 (by decide) rfl ?_
  refine V_icmp_ge (tgt := 96) X d_Ways_pairAfter_66 (by decide) rfl (fun c8 => ?_) (fun c8 => ?_)
  · rw [if_pos c8] at h
    refine V_sub (lv' := []) [] rfl ?_
    exact kx0 () (Option.some.inj h).symm
  · rw [if_neg c8] at h
    refine V_aload_n (n := 0) X d_Ways_pairAfter_69 rfl rfl rfl ?_
    refine V_iload (n := 1) X d_Ways_pairAfter_70 rfl rfl ?_
    refine V_iload (n := 3) X d_Ways_pairAfter_72 rfl rfl ?_
    obtain ⟨x6, hx6, h⟩ := ob_s h
    refine V_si (As := [.ref (G.2.2 + 3), .int v6, .int s]) X (Z0 E) ml_Ways_75 yq_Ways_toSide (c_Ways_toSide E.2.1 G v6 s M x6 hx6 _ (Nat.le_refl _)) rfl (by omega) rfl (Nat.le_of_ble_eq_true rfl) d_Ways_pairAfter_74 rfl (fun r9 M9 hq => ?_)
    rw [hq.1, hq.2]
    refine V_iload (n := 2) X d_Ways_pairAfter_77 rfl rfl ?_
    refine V_icmp_ne (tgt := 90) X d_Ways_pairAfter_79 (by decide) rfl (fun c7 => ?_) (fun c7 => ?_)
    · rw [if_neg c7] at h
      refine V_iinc (n := 3) (v := (s + (1 : Int32))) (lv' := [(8, .int (s + (1 : Int32))), (1, .ref (G.2.2 + 3)), (6, .int v6), (7, .int v7)]) X d_Ways_pairAfter_90 rfl rfl (by decide) rfl rfl ?_
      refine V_goto (pc' := 63) X d_Ways_pairAfter_93 (by decide) ?_
      refine V_sub (lv' := [(1, .ref (G.2.2 + 3)), (6, .int v6), (7, .int v7), (8, .int (s + (1 : Int32)))]) [1, 2, 3, 0] rfl ?_
      exact kc (s + (1 : Int32)) (Option.some.inj h).symm
    · rw [if_pos c7] at h
      refine V_sub (lv' := [(6, .int v6), (8, .int s)]) [1, 3] rfl ?_
      exact kx1 s (Option.some.inj h).symm
theorem lp_Ways_pairAfter_63_ok {E : Ev} {G : Gw} {d : Nat} {post : Int32 → Mem → Prop} (X : Cx E G b_Ways_pairAfter "WomenByTheRoofs$Ways" 9 d (some .int)) (hD : 3 ≤ d)  (v6 : Int32) (v7 : Int32)  (M : Mem) (n9 : Nat) (s : Int32) (x : (Unit) ⊕ (Int32)) (h : iter (lb_Ways_pairAfter_63 v6 v7 M) n9 s = some x) (kx0 : ∀ x9 : Unit, x = (Sum.inl x9) → V E (0, 0) G 9 (QI E G post) M 96 [] []) (kx1 : ∀ x9 : Int32, x = (Sum.inr x9) → V E (0, 0) G 9 (QI E G post) M 82 [(6, .int v6), (8, .int x9)] []) : V E (0, 0) G 9 (QI E G post) M 63 [(1, .ref (G.2.2 + 3)), (6, .int v6), (7, .int v7), (8, .int s)] [] :=
  iter_P (P := fun s : Int32 => V E (0, 0) G 9 (QI E G post) M 63 [(1, .ref (G.2.2 + 3)), (6, .int v6), (7, .int v7), (8, .int s)] []) (fun s o hb kc ky => lb_Ways_pairAfter_63_ok X hD v6 v7 M s o hb kc (fun x9 e9 => kx0 x9 (ky _ e9).symm) (fun x9 e9 => kx1 x9 (ky _ e9).symm)) n9 s h
def f_Ways_pairAfter (v2 : Int32) (v3 : Int32) (M : Mem) : Option (Int32) :=
  Option.bind (f_Ways_toSide (v2 / (5 : Int32)) (v2 - v2 / (5 : Int32) * (5 : Int32)) M) fun x1 =>
  Option.bind (f_Ways_toSide (v2 / (5 : Int32)) (v3 / (5 : Int32)) M) fun x2 =>
  Option.bind (f_Ways_toSide x1 (v3 - v3 / (5 : Int32) * (5 : Int32)) M) fun x3 =>
  Option.bind (f_Ground_holds (0 : Int32) x2 M) fun x4 =>
  if x4 = 0 then
  some (-1 : Int32)
  else
  Option.bind (f_Ground_holds (1 : Int32) x3 M) fun x5 =>
  if x5 = 0 then
  some (-1 : Int32)
  else
  Option.bind (iter (lb_Ways_pairAfter_63 x2 x3 M) FU (0 : Int32)) (Sum.elim (fun y10 => some (-1 : Int32)) (fun y11 => some ((x2 * (5 : Int32)) + y11)))
theorem c_Ways_pairAfter (l : Launch) (G : Gw)  (v2 : Int32) (v3 : Int32) (M : Mem) (x : Int32) (h : f_Ways_pairAfter v2 v3 M = some x) (d : Nat) (hD : 3 ≤ d) : Ci l G y_Ways_pairAfter b_Ways_pairAfter 9 (some .int) d [.ref (G.2.2 + 154), .ref (G.2.2 + 3), .int v2, .int v3] M (fun r9 M9 => r9 = x ∧ M9 = M) := by
  refine Ci_of (by decide) (Nat.le_of_ble_eq_true rfl) (fun E hE X => ?_)
  subst hE
  have kr : ∀ x9 : Int32, x = x9 → (fun r9 M9 => r9 = x ∧ M9 = M) x9 M := fun x9 e9 => by subst e9; exact ⟨rfl, rfl⟩
  unfold f_Ways_pairAfter at h
  refine V_iload_n (n := 2) X d_Ways_pairAfter_0 rfl rfl rfl ?_
  refine V_iconst (v := 5) X d_Ways_pairAfter_1 (by decide) rfl ?_
  refine V_idiv X d_Ways_pairAfter_2 (by decide) rfl ?_
  refine V_istore (lv' := [(4, .int (v2 / (5 : Int32))), (0, .ref (G.2.2 + 154)), (1, .ref (G.2.2 + 3)), (2, .int v2), (3, .int v3)]) X d_Ways_pairAfter_3 (by decide) rfl rfl ?_
  refine V_aload_n (n := 2) X d_Ways_pairAfter_5 rfl rfl rfl ?_
  refine V_iload (n := 0) X d_Ways_pairAfter_6 rfl rfl ?_
  refine V_iload_n (n := 3) X d_Ways_pairAfter_8 rfl rfl rfl ?_
  refine V_iconst (v := 5) X d_Ways_pairAfter_9 (by decide) rfl ?_
  refine V_irem X d_Ways_pairAfter_10 (by decide) rfl ?_
  obtain ⟨x1, hx1, h⟩ := ob_s h
  refine V_si (As := [.ref (G.2.2 + 3), .int (v2 / (5 : Int32)), .int (v2 - v2 / (5 : Int32) * (5 : Int32))]) X (Z0 E) ml_Ways_75 yq_Ways_toSide (c_Ways_toSide E.2.1 G (v2 / (5 : Int32)) (v2 - v2 / (5 : Int32) * (5 : Int32)) M x1 hx1 _ (Nat.le_refl _)) rfl (by omega) rfl (Nat.le_of_ble_eq_true rfl) d_Ways_pairAfter_11 rfl (fun r9 M9 hq => ?_)
  rw [hq.1, hq.2]
  refine V_istore (lv' := [(5, .int x1), (4, .int (v2 / (5 : Int32))), (0, .ref (G.2.2 + 154)), (1, .ref (G.2.2 + 3)), (2, .int v2), (3, .int v3)]) X d_Ways_pairAfter_14 (by decide) rfl rfl ?_
  refine V_aload_n (n := 3) X d_Ways_pairAfter_16 rfl rfl rfl ?_
  refine V_iload (n := 1) X d_Ways_pairAfter_17 rfl rfl ?_
  refine V_iload_n (n := 5) X d_Ways_pairAfter_19 rfl rfl rfl ?_
  refine V_iconst (v := 5) X d_Ways_pairAfter_20 (by decide) rfl ?_
  refine V_idiv X d_Ways_pairAfter_21 (by decide) rfl ?_
  obtain ⟨x2, hx2, h⟩ := ob_s h
  refine V_si (As := [.ref (G.2.2 + 3), .int (v2 / (5 : Int32)), .int (v3 / (5 : Int32))]) X (Z0 E) ml_Ways_75 yq_Ways_toSide (c_Ways_toSide E.2.1 G (v2 / (5 : Int32)) (v3 / (5 : Int32)) M x2 hx2 _ (Nat.le_refl _)) rfl (by omega) rfl (Nat.le_of_ble_eq_true rfl) d_Ways_pairAfter_22 rfl (fun r9 M9 hq => ?_)
  rw [hq.1, hq.2]
  refine V_istore (lv' := [(6, .int x2), (5, .int x1), (4, .int (v2 / (5 : Int32))), (0, .ref (G.2.2 + 154)), (1, .ref (G.2.2 + 3)), (2, .int v2), (3, .int v3)]) X d_Ways_pairAfter_25 (by decide) rfl rfl ?_
  refine V_aload_n (n := 4) X d_Ways_pairAfter_27 rfl rfl rfl ?_
  refine V_iload (n := 1) X d_Ways_pairAfter_28 rfl rfl ?_
  refine V_iload_n (n := 6) X d_Ways_pairAfter_30 rfl rfl rfl ?_
  refine V_iconst (v := 5) X d_Ways_pairAfter_31 (by decide) rfl ?_
  refine V_irem X d_Ways_pairAfter_32 (by decide) rfl ?_
  obtain ⟨x3, hx3, h⟩ := ob_s h
  refine V_si (As := [.ref (G.2.2 + 3), .int x1, .int (v3 - v3 / (5 : Int32) * (5 : Int32))]) X (Z0 E) ml_Ways_75 yq_Ways_toSide (c_Ways_toSide E.2.1 G x1 (v3 - v3 / (5 : Int32) * (5 : Int32)) M x3 hx3 _ (Nat.le_refl _)) rfl (by omega) rfl (Nat.le_of_ble_eq_true rfl) d_Ways_pairAfter_33 rfl (fun r9 M9 hq => ?_)
  rw [hq.1, hq.2]
  refine V_istore (lv' := [(7, .int x3), (6, .int x2), (5, .int x1), (4, .int (v2 / (5 : Int32))), (0, .ref (G.2.2 + 154)), (1, .ref (G.2.2 + 3)), (2, .int v2), (3, .int v3)]) X d_Ways_pairAfter_36 (by decide) rfl rfl ?_
  refine V_aload_n (n := 5) X d_Ways_pairAfter_38 rfl rfl rfl ?_
  refine V_iconst (v := 0) X d_Ways_pairAfter_39 (by decide) rfl ?_
  refine V_iload (n := 1) X d_Ways_pairAfter_40 rfl rfl ?_
  obtain ⟨x4, hx4, h⟩ := ob_s h
  refine V_ci (As := [.int (0 : Int32), .int x2]) X (Z0 E) ml_Ways_68 yq_Ground_holds (c_Ground_holds E.2.1 G (0 : Int32) x2 M x4 hx4 _ (Nat.le_refl _)) kd_3 rfl rfl (by omega) rfl (Nat.le_of_ble_eq_true rfl) d_Ways_pairAfter_42 rfl (fun r9 M9 hq => ?_)
  rw [hq.1, hq.2]
  refine V_if_eq (tgt := 58) X d_Ways_pairAfter_45 (by decide) rfl (fun c13 => ?_) (fun c13 => ?_)
  · rw [if_pos c13] at h
    refine V_iconst (v := -1) X d_Ways_pairAfter_58 (by decide) rfl ?_
    exact V_iret X (kr (-1 : Int32) (Option.some.inj h).symm) d_Ways_pairAfter_59
  · rw [if_neg c13] at h
    refine V_aload_n (n := 5) X d_Ways_pairAfter_48 rfl rfl rfl ?_
    refine V_iconst (v := 1) X d_Ways_pairAfter_49 (by decide) rfl ?_
    refine V_iload (n := 0) X d_Ways_pairAfter_50 rfl rfl ?_
    obtain ⟨x5, hx5, h⟩ := ob_s h
    refine V_ci (As := [.int (1 : Int32), .int x3]) X (Z0 E) ml_Ways_68 yq_Ground_holds (c_Ground_holds E.2.1 G (1 : Int32) x3 M x5 hx5 _ (Nat.le_refl _)) kd_3 rfl rfl (by omega) rfl (Nat.le_of_ble_eq_true rfl) d_Ways_pairAfter_52 rfl (fun r9 M9 hq => ?_)
    rw [hq.1, hq.2]
    refine V_if_ne (tgt := 60) X d_Ways_pairAfter_55 (by decide) rfl (fun c12 => ?_) (fun c12 => ?_)
    · rw [if_neg c12] at h
      refine V_iconst (v := 0) X d_Ways_pairAfter_60 (by decide) rfl ?_
      refine V_istore (lv' := [(8, .int (0 : Int32)), (7, .int x3), (6, .int x2), (5, .int x1), (4, .int (v2 / (5 : Int32))), (0, .ref (G.2.2 + 154)), (1, .ref (G.2.2 + 3)), (2, .int v2), (3, .int v3)]) X d_Ways_pairAfter_61 (by decide) rfl rfl ?_
      refine V_sub (lv' := [(1, .ref (G.2.2 + 3)), (6, .int x2), (7, .int x3), (8, .int (0 : Int32))]) [6, 2, 1, 0] rfl ?_
      obtain ⟨x9, hx9, h⟩ := ob_s h
      rcases x9 with y10 | y11
      · simp only [Sum.elim_inl, Sum.elim_inr] at h
        refine (lp_Ways_pairAfter_63_ok X hD x2 x3 M _ _ _ hx9 (fun x9 e9 => ?_) (fun x9 e9 => by cases e9) :)
        cases e9
        refine V_iconst (v := -1) X d_Ways_pairAfter_96 (by decide) rfl ?_
        exact V_iret X (kr (-1 : Int32) (Option.some.inj h).symm) d_Ways_pairAfter_97
      · simp only [Sum.elim_inl, Sum.elim_inr] at h
        refine (lp_Ways_pairAfter_63_ok X hD x2 x3 M _ _ _ hx9 (fun x9 e9 => by cases e9) (fun x9 e9 => ?_) :)
        cases e9
        refine V_iload (n := 0) X d_Ways_pairAfter_82 rfl rfl ?_
        refine V_iconst (v := 5) X d_Ways_pairAfter_84 (by decide) rfl ?_
        refine V_imul X d_Ways_pairAfter_85 rfl ?_
        refine V_iload (n := 1) X d_Ways_pairAfter_86 rfl rfl ?_
        refine V_iadd X d_Ways_pairAfter_88 rfl ?_
        exact V_iret X (kr ((x2 * (5 : Int32)) + y11) (Option.some.inj h).symm) d_Ways_pairAfter_89
    · rw [if_pos c12] at h
      refine V_iconst (v := -1) X d_Ways_pairAfter_58 (by decide) rfl ?_
      exact V_iret X (kr (-1 : Int32) (Option.some.inj h).symm) d_Ways_pairAfter_59
def lb_Ways_measurePairs_2 (v2 : Int32) (s : Int32 × Mem) : Option ((Int32 × Mem) ⊕ ((Mem))) :=
  if (180 : Int32) ≤ s.1 then
  some (.inr s.2)
  else
  if inb s.1 180 = true then
  mem_ (s_i s.2 159 s.1.toNatClampNeg (1000000 : Int32)) fun M1 =>
  some (.inl ((s.1 + (1 : Int32)), M1))
  else none
theorem lb_Ways_measurePairs_2_ok {E : Ev} {G : Gw} {d : Nat} {post : Mem → Prop} (X : Cx E G b_Ways_measurePairs "WomenByTheRoofs$Ways" 7 d none) (hD : 4 ≤ d)  (v2 : Int32)   (s : Int32 × Mem) (o : (Int32 × Mem) ⊕ ((Mem))) (h : lb_Ways_measurePairs_2 v2 s = some o) (kc : ∀ s9 : Int32 × Mem, o = .inl s9 → V E (0, 0) G 7 (QV E G post) s9.2 2 [(0, .ref (G.2.2 + 154)), (1, .ref (G.2.2 + 3)), (2, .int v2), (3, .int s9.1)] []) (kx0 : ∀ x9 : Mem, o = .inr x9 → V E (0, 0) G 7 (QV E G post) x9 23 [(0, .ref (G.2.2 + 154)), (1, .ref (G.2.2 + 3)), (2, .int v2)] []) : V E (0, 0) G 7 (QV E G post) s.2 2 [(0, .ref (G.2.2 + 154)), (1, .ref (G.2.2 + 3)), (2, .int v2), (3, .int s.1)] [] := by
  unfold lb_Ways_measurePairs_2 at h
  refine V_iload_n (n := 3) X d_Ways_measurePairs_2 rfl rfl rfl ?_
  refine V_sipush (v := 180) X d_Ways_measurePairs_3 (by decide) rfl ?_
  refine V_icmp_ge (tgt := 23) X d_Ways_measurePairs_6 (by decide) rfl (fun c2 => ?_) (fun c2 => ?_)
  · rw [if_pos c2] at h
    refine V_sub (lv' := [(0, .ref (G.2.2 + 154)), (1, .ref (G.2.2 + 3)), (2, .int v2)]) [0, 1, 2] rfl ?_
    exact kx0 s.2 (Option.some.inj h).symm
  · rw [if_neg c2] at h
    refine V_aload_n (n := 0) X d_Ways_measurePairs_9 rfl rfl rfl ?_
    refine V_getr (k2 := 159) X fo_Ways_24 kd_154 rfl rf_154_4 d_Ways_measurePairs_10 rfl ?_
    refine V_iload_n (n := 3) X d_Ways_measurePairs_13 rfl rfl rfl ?_
    refine V_ldc (v := 1000000) X d_Ways_measurePairs_14 kc_Ways_36 rfl ?_
    obtain ⟨hb, h⟩ := ifn h
    obtain ⟨M1, eM1, h⟩ := memS h
    refine V_iast X kd_159 (inb_in ln_159 hb) d_Ways_measurePairs_16 rfl ?_
    rw [← eM1]
    refine V_iinc (n := 3) (v := (s.1 + (1 : Int32))) (lv' := [(3, .int (s.1 + (1 : Int32))), (0, .ref (G.2.2 + 154)), (1, .ref (G.2.2 + 3)), (2, .int v2)]) X d_Ways_measurePairs_17 rfl rfl (by decide) rfl rfl ?_
    refine V_goto (pc' := 2) X d_Ways_measurePairs_20 (by decide) ?_
    refine V_sub (lv' := [(0, .ref (G.2.2 + 154)), (1, .ref (G.2.2 + 3)), (2, .int v2), (3, .int (s.1 + (1 : Int32)))]) [1, 2, 3, 0] rfl ?_
    exact kc ((s.1 + (1 : Int32)), M1) (Option.some.inj h).symm
theorem lp_Ways_measurePairs_2_ok {E : Ev} {G : Gw} {d : Nat} {post : Mem → Prop} (X : Cx E G b_Ways_measurePairs "WomenByTheRoofs$Ways" 7 d none) (hD : 4 ≤ d)  (v2 : Int32)   (n9 : Nat) (s : Int32 × Mem) (x : (Mem)) (h : iter (lb_Ways_measurePairs_2 v2) n9 s = some x) (kx0 : ∀ x9 : Mem, x = x9 → V E (0, 0) G 7 (QV E G post) x9 23 [(0, .ref (G.2.2 + 154)), (1, .ref (G.2.2 + 3)), (2, .int v2)] []) : V E (0, 0) G 7 (QV E G post) s.2 2 [(0, .ref (G.2.2 + 154)), (1, .ref (G.2.2 + 3)), (2, .int v2), (3, .int s.1)] [] :=
  iter_P (P := fun s : Int32 × Mem => V E (0, 0) G 7 (QV E G post) s.2 2 [(0, .ref (G.2.2 + 154)), (1, .ref (G.2.2 + 3)), (2, .int v2), (3, .int s.1)] []) (fun s o hb kc ky => lb_Ways_measurePairs_2_ok X hD v2 s o hb kc (fun x9 e9 => kx0 x9 (ky _ e9).symm)) n9 s h
def lb_Ways_measurePairs_68 (v4 : Int32) (s : Int32 × Int32 × Mem) : Option ((Int32 × Int32 × Mem) ⊕ ((Int32 × Mem))) :=
  if (25 : Int32) ≤ s.2.1 then
  some (.inr (s.1, s.2.2))
  else
  if inb v4 180 = true then
  Option.bind (f_Ways_pairAfter (s.2.2.1 160 v4.toNatClampNeg) s.2.1 s.2.2) fun x6 =>
  if x6 = (-1 : Int32) then
  some (.inl (s.1, (s.2.1 + (1 : Int32)), s.2.2))
  else
  if inb x6 180 = true then
  if (s.2.2.1 159 x6.toNatClampNeg) < (1000000 : Int32) then
  some (.inl (s.1, (s.2.1 + (1 : Int32)), s.2.2))
  else
  if (180 : Int32) ≤ s.1 then
  some (.inl (s.1, (s.2.1 + (1 : Int32)), s.2.2))
  else
  if inb v4 180 = true then
  if inb (s.2.2.1 160 v4.toNatClampNeg) 180 = true then
  if inb x6 180 = true then
  mem_ (s_i s.2.2 159 x6.toNatClampNeg ((s.2.2.1 159 (s.2.2.1 160 v4.toNatClampNeg).toNatClampNeg) + (1 : Int32))) fun M7 =>
  if inb s.1 180 = true then
  mem_ (s_i M7 160 s.1.toNatClampNeg x6) fun M8 =>
  some (.inl ((s.1 + (1 : Int32)), (s.2.1 + (1 : Int32)), M8))
  else none
  else none
  else none
  else none
  else none
  else none
theorem lb_Ways_measurePairs_68_ok {E : Ev} {G : Gw} {d : Nat} {post : Mem → Prop} (X : Cx E G b_Ways_measurePairs "WomenByTheRoofs$Ways" 7 d none) (hD : 4 ≤ d)  (v4 : Int32)   (s : Int32 × Int32 × Mem) (o : (Int32 × Int32 × Mem) ⊕ ((Int32 × Mem))) (h : lb_Ways_measurePairs_68 v4 s = some o) (kc : ∀ s9 : Int32 × Int32 × Mem, o = .inl s9 → V E (0, 0) G 7 (QV E G post) s9.2.2 68 [(0, .ref (G.2.2 + 154)), (1, .ref (G.2.2 + 3)), (3, .int s9.1), (4, .int v4), (5, .int s9.2.1)] []) (kx0 : ∀ x9 : Int32 × Mem, o = .inr x9 → V E (0, 0) G 7 (QV E G post) x9.2 154 [(0, .ref (G.2.2 + 154)), (1, .ref (G.2.2 + 3)), (3, .int x9.1), (4, .int v4)] []) : V E (0, 0) G 7 (QV E G post) s.2.2 68 [(0, .ref (G.2.2 + 154)), (1, .ref (G.2.2 + 3)), (3, .int s.1), (4, .int v4), (5, .int s.2.1)] [] := by
  unfold lb_Ways_measurePairs_68 at h
  refine V_iload (n := 4) X d_Ways_measurePairs_68 rfl rfl ?_
  refine V_bipush (v := 25) X d_Ways_measurePairs_70 (by decide) rfl ?_
  refine V_icmp_ge (tgt := 154) X d_Ways_measurePairs_72 (by decide) rfl (fun c12 => ?_) (fun c12 => ?_)
  · rw [if_pos c12] at h
    refine V_sub (lv' := [(0, .ref (G.2.2 + 154)), (1, .ref (G.2.2 + 3)), (3, .int s.1), (4, .int v4)]) [0, 1, 2, 3] rfl ?_
    exact kx0 (s.1, s.2.2) (Option.some.inj h).symm
  · rw [if_neg c12] at h
    refine V_aload_n (n := 0) X d_Ways_measurePairs_75 rfl rfl rfl ?_
    refine V_aload_n (n := 1) X d_Ways_measurePairs_76 rfl rfl rfl ?_
    refine V_aload_n (n := 0) X d_Ways_measurePairs_77 rfl rfl rfl ?_
    refine V_getr (k2 := 160) X fo_Ways_27 kd_154 rfl rf_154_5 d_Ways_measurePairs_78 rfl ?_
    refine V_iload (n := 3) X d_Ways_measurePairs_81 rfl rfl ?_
    obtain ⟨hb, h⟩ := ifn h
    refine V_iald X kd_160 (inb_in ln_160 hb) d_Ways_measurePairs_83 rfl ?_
    refine V_iload (n := 4) X d_Ways_measurePairs_84 rfl rfl ?_
    obtain ⟨x6, hx6, h⟩ := ob_s h
    refine V_ci (As := [.ref (G.2.2 + 3), .int (s.2.2.1 160 v4.toNatClampNeg), .int s.2.1]) X (Z0 E) ml_Ways_71 yq_Ways_pairAfter (c_Ways_pairAfter E.2.1 G (s.2.2.1 160 v4.toNatClampNeg) s.2.1 s.2.2 x6 hx6 _ (Nat.le_refl _)) kd_154 rfl rfl (by omega) rfl (Nat.le_of_ble_eq_true rfl) d_Ways_measurePairs_86 rfl (fun r9 M9 hq => ?_)
    rw [hq.1, hq.2]
    refine V_istore (lv' := [(6, .int x6), (0, .ref (G.2.2 + 154)), (1, .ref (G.2.2 + 3)), (3, .int s.1), (4, .int v4), (5, .int s.2.1)]) X d_Ways_measurePairs_89 (by decide) rfl rfl ?_
    refine V_iload (n := 0) X d_Ways_measurePairs_91 rfl rfl ?_
    refine V_iconst (v := -1) X d_Ways_measurePairs_93 (by decide) rfl ?_
    refine V_icmp_eq (tgt := 148) X d_Ways_measurePairs_94 (by decide) rfl (fun c11 => ?_) (fun c11 => ?_)
    · rw [if_pos c11] at h
      refine V_iinc (n := 5) (v := (s.2.1 + (1 : Int32))) (lv' := [(5, .int (s.2.1 + (1 : Int32))), (6, .int x6), (0, .ref (G.2.2 + 154)), (1, .ref (G.2.2 + 3)), (3, .int s.1), (4, .int v4)]) X d_Ways_measurePairs_148 rfl rfl (by decide) rfl rfl ?_
      refine V_goto (pc' := 68) X d_Ways_measurePairs_151 (by decide) ?_
      refine V_sub (lv' := [(0, .ref (G.2.2 + 154)), (1, .ref (G.2.2 + 3)), (3, .int s.1), (4, .int v4), (5, .int (s.2.1 + (1 : Int32)))]) [2, 3, 4, 5, 0] rfl ?_
      exact kc (s.1, (s.2.1 + (1 : Int32)), s.2.2) (Option.some.inj h).symm
    · rw [if_neg c11] at h
      refine V_aload_n (n := 1) X d_Ways_measurePairs_97 rfl rfl rfl ?_
      refine V_getr (k2 := 159) X fo_Ways_24 kd_154 rfl rf_154_4 d_Ways_measurePairs_98 rfl ?_
      refine V_iload (n := 0) X d_Ways_measurePairs_101 rfl rfl ?_
      obtain ⟨hb, h⟩ := ifn h
      refine V_iald X kd_159 (inb_in ln_159 hb) d_Ways_measurePairs_103 rfl ?_
      refine V_ldc (v := 1000000) X d_Ways_measurePairs_104 kc_Ways_36 rfl ?_
      refine V_icmp_lt (tgt := 148) X d_Ways_measurePairs_106 (by decide) rfl (fun c10 => ?_) (fun c10 => ?_)
      · rw [if_pos c10] at h
        refine V_iinc (n := 5) (v := (s.2.1 + (1 : Int32))) (lv' := [(5, .int (s.2.1 + (1 : Int32))), (6, .int x6), (0, .ref (G.2.2 + 154)), (1, .ref (G.2.2 + 3)), (3, .int s.1), (4, .int v4)]) X d_Ways_measurePairs_148 rfl rfl (by decide) rfl rfl ?_
        refine V_goto (pc' := 68) X d_Ways_measurePairs_151 (by decide) ?_
        refine V_sub (lv' := [(0, .ref (G.2.2 + 154)), (1, .ref (G.2.2 + 3)), (3, .int s.1), (4, .int v4), (5, .int (s.2.1 + (1 : Int32)))]) [2, 3, 4, 5, 0] rfl ?_
        exact kc (s.1, (s.2.1 + (1 : Int32)), s.2.2) (Option.some.inj h).symm
      · rw [if_neg c10] at h
        refine V_iload_n (n := 3) X d_Ways_measurePairs_109 rfl rfl rfl ?_
        refine V_sipush (v := 180) X d_Ways_measurePairs_110 (by decide) rfl ?_
        refine V_icmp_ge (tgt := 148) X d_Ways_measurePairs_113 (by decide) rfl (fun c9 => ?_) (fun c9 => ?_)
        · rw [if_pos c9] at h
          refine V_iinc (n := 5) (v := (s.2.1 + (1 : Int32))) (lv' := [(5, .int (s.2.1 + (1 : Int32))), (6, .int x6), (0, .ref (G.2.2 + 154)), (1, .ref (G.2.2 + 3)), (3, .int s.1), (4, .int v4)]) X d_Ways_measurePairs_148 rfl rfl (by decide) rfl rfl ?_
          refine V_goto (pc' := 68) X d_Ways_measurePairs_151 (by decide) ?_
          refine V_sub (lv' := [(0, .ref (G.2.2 + 154)), (1, .ref (G.2.2 + 3)), (3, .int s.1), (4, .int v4), (5, .int (s.2.1 + (1 : Int32)))]) [2, 3, 4, 5, 0] rfl ?_
          exact kc (s.1, (s.2.1 + (1 : Int32)), s.2.2) (Option.some.inj h).symm
        · rw [if_neg c9] at h
          refine V_aload_n (n := 1) X d_Ways_measurePairs_116 rfl rfl rfl ?_
          refine V_getr (k2 := 159) X fo_Ways_24 kd_154 rfl rf_154_4 d_Ways_measurePairs_117 rfl ?_
          refine V_iload (n := 0) X d_Ways_measurePairs_120 rfl rfl ?_
          refine V_aload_n (n := 1) X d_Ways_measurePairs_122 rfl rfl rfl ?_
          refine V_getr (k2 := 159) X fo_Ways_24 kd_154 rfl rf_154_4 d_Ways_measurePairs_123 rfl ?_
          refine V_aload_n (n := 1) X d_Ways_measurePairs_126 rfl rfl rfl ?_
          refine V_getr (k2 := 160) X fo_Ways_27 kd_154 rfl rf_154_5 d_Ways_measurePairs_127 rfl ?_
          refine V_iload (n := 4) X d_Ways_measurePairs_130 rfl rfl ?_
          obtain ⟨hb, h⟩ := ifn h
          refine V_iald X kd_160 (inb_in ln_160 hb) d_Ways_measurePairs_132 rfl ?_
          obtain ⟨hb, h⟩ := ifn h
          refine V_iald X kd_159 (inb_in ln_159 hb) d_Ways_measurePairs_133 rfl ?_
          refine V_iconst (v := 1) X d_Ways_measurePairs_134 (by decide) rfl ?_
          refine V_iadd X d_Ways_measurePairs_135 rfl ?_
          obtain ⟨hb, h⟩ := ifn h
          obtain ⟨M7, eM7, h⟩ := memS h
          refine V_iast X kd_159 (inb_in ln_159 hb) d_Ways_measurePairs_136 rfl ?_
          rw [← eM7]
          refine V_aload_n (n := 1) X d_Ways_measurePairs_137 rfl rfl rfl ?_
          refine V_getr (k2 := 160) X fo_Ways_27 kd_154 rfl rf_154_5 d_Ways_measurePairs_138 rfl ?_
          refine V_iload_n (n := 3) X d_Ways_measurePairs_141 rfl rfl rfl ?_
          refine V_iload (n := 0) X d_Ways_measurePairs_142 rfl rfl ?_
          obtain ⟨hb, h⟩ := ifn h
          obtain ⟨M8, eM8, h⟩ := memS h
          refine V_iast X kd_160 (inb_in ln_160 hb) d_Ways_measurePairs_144 rfl ?_
          rw [← eM8]
          refine V_iinc (n := 3) (v := (s.1 + (1 : Int32))) (lv' := [(3, .int (s.1 + (1 : Int32))), (6, .int x6), (0, .ref (G.2.2 + 154)), (1, .ref (G.2.2 + 3)), (4, .int v4), (5, .int s.2.1)]) X d_Ways_measurePairs_145 rfl rfl (by decide) rfl rfl ?_
          refine V_iinc (n := 5) (v := (s.2.1 + (1 : Int32))) (lv' := [(5, .int (s.2.1 + (1 : Int32))), (3, .int (s.1 + (1 : Int32))), (6, .int x6), (0, .ref (G.2.2 + 154)), (1, .ref (G.2.2 + 3)), (4, .int v4)]) X d_Ways_measurePairs_148 rfl rfl (by decide) rfl rfl ?_
          refine V_goto (pc' := 68) X d_Ways_measurePairs_151 (by decide) ?_
          refine V_sub (lv' := [(0, .ref (G.2.2 + 154)), (1, .ref (G.2.2 + 3)), (3, .int (s.1 + (1 : Int32))), (4, .int v4), (5, .int (s.2.1 + (1 : Int32)))]) [3, 4, 1, 5, 0] rfl ?_
          exact kc ((s.1 + (1 : Int32)), (s.2.1 + (1 : Int32)), M8) (Option.some.inj h).symm
theorem lp_Ways_measurePairs_68_ok {E : Ev} {G : Gw} {d : Nat} {post : Mem → Prop} (X : Cx E G b_Ways_measurePairs "WomenByTheRoofs$Ways" 7 d none) (hD : 4 ≤ d)  (v4 : Int32)   (n9 : Nat) (s : Int32 × Int32 × Mem) (x : (Int32 × Mem)) (h : iter (lb_Ways_measurePairs_68 v4) n9 s = some x) (kx0 : ∀ x9 : Int32 × Mem, x = x9 → V E (0, 0) G 7 (QV E G post) x9.2 154 [(0, .ref (G.2.2 + 154)), (1, .ref (G.2.2 + 3)), (3, .int x9.1), (4, .int v4)] []) : V E (0, 0) G 7 (QV E G post) s.2.2 68 [(0, .ref (G.2.2 + 154)), (1, .ref (G.2.2 + 3)), (3, .int s.1), (4, .int v4), (5, .int s.2.1)] [] :=
  iter_P (P := fun s : Int32 × Int32 × Mem => V E (0, 0) G 7 (QV E G post) s.2.2 68 [(0, .ref (G.2.2 + 154)), (1, .ref (G.2.2 + 3)), (3, .int s.1), (4, .int v4), (5, .int s.2.1)] []) (fun s o hb kc ky => lb_Ways_measurePairs_68_ok X hD v4 s o hb kc (fun x9 e9 => kx0 x9 (ky _ e9).symm)) n9 s h
def lb_Ways_measurePairs_51  (s : Int32 × Int32 × Mem) : Option ((Int32 × Int32 × Mem) ⊕ ((Mem))) :=
  if s.1 ≤ s.2.1 then
  some (.inr s.2.2)
  else
  if (180 : Int32) ≤ s.2.1 then
  some (.inr s.2.2)
  else
  Option.bind (iter (lb_Ways_measurePairs_68 s.2.1) FU (s.1, (0 : Int32), s.2.2)) fun x13 =>
  some (.inl (x13.1, (s.2.1 + (1 : Int32)), x13.2))
theorem lb_Ways_measurePairs_51_ok {E : Ev} {G : Gw} {d : Nat} {post : Mem → Prop} (X : Cx E G b_Ways_measurePairs "WomenByTheRoofs$Ways" 7 d none) (hD : 4 ≤ d)     (s : Int32 × Int32 × Mem) (o : (Int32 × Int32 × Mem) ⊕ ((Mem))) (h : lb_Ways_measurePairs_51 s = some o) (kc : ∀ s9 : Int32 × Int32 × Mem, o = .inl s9 → V E (0, 0) G 7 (QV E G post) s9.2.2 51 [(0, .ref (G.2.2 + 154)), (1, .ref (G.2.2 + 3)), (3, .int s9.1), (4, .int s9.2.1)] []) (kx0 : ∀ x9 : Mem, o = .inr x9 → V E (0, 0) G 7 (QV E G post) x9 160 [] []) : V E (0, 0) G 7 (QV E G post) s.2.2 51 [(0, .ref (G.2.2 + 154)), (1, .ref (G.2.2 + 3)), (3, .int s.1), (4, .int s.2.1)] [] := by
  unfold lb_Ways_measurePairs_51 at h
  refine V_iload (n := 3) X d_Ways_measurePairs_51 rfl rfl ?_
  refine V_iload_n (n := 2) X d_Ways_measurePairs_53 rfl rfl rfl ?_
  refine V_icmp_ge (tgt := 160) X d_Ways_measurePairs_54 (by decide) rfl (fun c15 => ?_) (fun c15 => ?_)
  · rw [if_pos c15] at h
    refine V_sub (lv' := []) [] rfl ?_
    exact kx0 s.2.2 (Option.some.inj h).symm
  · rw [if_neg c15] at h
    refine V_iload (n := 3) X d_Ways_measurePairs_57 rfl rfl ?_
    refine V_sipush (v := 180) X d_Ways_measurePairs_59 (by decide) rfl ?_
    refine V_icmp_ge (tgt := 160) X d_Ways_measurePairs_62 (by decide) rfl (fun c14 => ?_) (fun c14 => ?_)
    · rw [if_pos c14] at h
      refine V_sub (lv' := []) [] rfl ?_
      exact kx0 s.2.2 (Option.some.inj h).symm
    · rw [if_neg c14] at h
      refine V_iconst (v := 0) X d_Ways_measurePairs_65 (by decide) rfl ?_
      refine V_istore (lv' := [(5, .int (0 : Int32)), (0, .ref (G.2.2 + 154)), (1, .ref (G.2.2 + 3)), (3, .int s.1), (4, .int s.2.1)]) X d_Ways_measurePairs_66 (by decide) rfl rfl ?_
      refine V_sub (lv' := [(0, .ref (G.2.2 + 154)), (1, .ref (G.2.2 + 3)), (3, .int s.1), (4, .int s.2.1), (5, .int (0 : Int32))]) [1, 2, 3, 4, 0] rfl ?_
      obtain ⟨x13, hx13, h⟩ := ob_s h
      refine (lp_Ways_measurePairs_68_ok X hD s.2.1 _ _ _ hx13 (fun x9 e9 => ?_) :)
      subst e9
      refine V_iinc (n := 3) (v := (s.2.1 + (1 : Int32))) (lv' := [(4, .int (s.2.1 + (1 : Int32))), (0, .ref (G.2.2 + 154)), (1, .ref (G.2.2 + 3)), (3, .int x13.1)]) X d_Ways_measurePairs_154 rfl rfl (by decide) rfl rfl ?_
      refine V_goto (pc' := 51) X d_Ways_measurePairs_157 (by decide) ?_
      refine V_sub (lv' := [(0, .ref (G.2.2 + 154)), (1, .ref (G.2.2 + 3)), (3, .int x13.1), (4, .int (s.2.1 + (1 : Int32)))]) [1, 2, 3, 0] rfl ?_
      exact kc (x13.1, (s.2.1 + (1 : Int32)), x13.2) (Option.some.inj h).symm
theorem lp_Ways_measurePairs_51_ok {E : Ev} {G : Gw} {d : Nat} {post : Mem → Prop} (X : Cx E G b_Ways_measurePairs "WomenByTheRoofs$Ways" 7 d none) (hD : 4 ≤ d)     (n9 : Nat) (s : Int32 × Int32 × Mem) (x : (Mem)) (h : iter (lb_Ways_measurePairs_51) n9 s = some x) (kx0 : ∀ x9 : Mem, x = x9 → V E (0, 0) G 7 (QV E G post) x9 160 [] []) : V E (0, 0) G 7 (QV E G post) s.2.2 51 [(0, .ref (G.2.2 + 154)), (1, .ref (G.2.2 + 3)), (3, .int s.1), (4, .int s.2.1)] [] :=
  iter_P (P := fun s : Int32 × Int32 × Mem => V E (0, 0) G 7 (QV E G post) s.2.2 51 [(0, .ref (G.2.2 + 154)), (1, .ref (G.2.2 + 3)), (3, .int s.1), (4, .int s.2.1)] []) (fun s o hb kc ky => lb_Ways_measurePairs_51_ok X hD  s o hb kc (fun x9 e9 => kx0 x9 (ky _ e9).symm)) n9 s h
def f_Ways_measurePairs (v2 : Int32) (M : Mem) : Option (Mem) :=
  Option.bind (iter (lb_Ways_measurePairs_2 v2) FU ((0 : Int32), M)) fun x3 =>
  mem_ (s_i x3 160 (0 : Int32).toNatClampNeg ((v2 * (5 : Int32)) + (4 : Int32))) fun M4 =>
  if inb (M4.1 160 (0 : Int32).toNatClampNeg) 180 = true then
  mem_ (s_i M4 159 (M4.1 160 (0 : Int32).toNatClampNeg).toNatClampNeg (0 : Int32)) fun M5 =>
  Option.bind (iter (lb_Ways_measurePairs_51) FU ((1 : Int32), (0 : Int32), M5)) fun x16 =>
  some x16
  else none
theorem c_Ways_measurePairs (l : Launch) (G : Gw)  (v2 : Int32) (M : Mem) (x : Mem) (h : f_Ways_measurePairs v2 M = some x) (d : Nat) (hD : 4 ≤ d) : Cv l G y_Ways_measurePairs b_Ways_measurePairs 7 none d [.ref (G.2.2 + 154), .ref (G.2.2 + 3), .int v2] M (fun M9 => M9 = x) := by
  refine Cv_of (by decide) (Nat.le_of_ble_eq_true rfl) (fun E hE X => ?_)
  subst hE
  have kr : ∀ x9 : Mem, x = x9 → (fun M9 => M9 = x) x9 := fun x9 e9 => by subst e9; exact rfl
  unfold f_Ways_measurePairs at h
  refine V_iconst (v := 0) X d_Ways_measurePairs_0 (by decide) rfl ?_
  refine V_istore_n (lv' := [(3, .int (0 : Int32)), (0, .ref (G.2.2 + 154)), (1, .ref (G.2.2 + 3)), (2, .int v2)]) X d_Ways_measurePairs_1 rfl (by decide) rfl rfl ?_
  refine V_sub (lv' := [(0, .ref (G.2.2 + 154)), (1, .ref (G.2.2 + 3)), (2, .int v2), (3, .int (0 : Int32))]) [1, 2, 3, 0] rfl ?_
  obtain ⟨x3, hx3, h⟩ := ob_s h
  refine (lp_Ways_measurePairs_2_ok X hD v2 _ _ _ hx3 (fun x9 e9 => ?_) :)
  subst e9
  refine V_aload_n (n := 0) X d_Ways_measurePairs_23 rfl rfl rfl ?_
  refine V_getr (k2 := 160) X fo_Ways_27 kd_154 rfl rf_154_5 d_Ways_measurePairs_24 rfl ?_
  refine V_iconst (v := 0) X d_Ways_measurePairs_27 (by decide) rfl ?_
  refine V_iload_n (n := 2) X d_Ways_measurePairs_28 rfl rfl rfl ?_
  refine V_iconst (v := 5) X d_Ways_measurePairs_29 (by decide) rfl ?_
  refine V_imul X d_Ways_measurePairs_30 rfl ?_
  refine V_iconst (v := 4) X d_Ways_measurePairs_31 (by decide) rfl ?_
  refine V_iadd X d_Ways_measurePairs_32 rfl ?_
  obtain ⟨M4, eM4, h⟩ := memS h
  refine V_iast X kd_160 (inb_in ln_160 (by decide)) d_Ways_measurePairs_33 rfl ?_
  rw [← eM4]
  refine V_aload_n (n := 0) X d_Ways_measurePairs_34 rfl rfl rfl ?_
  refine V_getr (k2 := 159) X fo_Ways_24 kd_154 rfl rf_154_4 d_Ways_measurePairs_35 rfl ?_
  refine V_aload_n (n := 0) X d_Ways_measurePairs_38 rfl rfl rfl ?_
  refine V_getr (k2 := 160) X fo_Ways_27 kd_154 rfl rf_154_5 d_Ways_measurePairs_39 rfl ?_
  refine V_iconst (v := 0) X d_Ways_measurePairs_42 (by decide) rfl ?_
  refine V_iald X kd_160 (inb_in ln_160 (by decide)) d_Ways_measurePairs_43 rfl ?_
  refine V_iconst (v := 0) X d_Ways_measurePairs_44 (by decide) rfl ?_
  obtain ⟨hb, h⟩ := ifn h
  obtain ⟨M5, eM5, h⟩ := memS h
  refine V_iast X kd_159 (inb_in ln_159 hb) d_Ways_measurePairs_45 rfl ?_
  rw [← eM5]
  refine V_iconst (v := 1) X d_Ways_measurePairs_46 (by decide) rfl ?_
  refine V_istore_n (lv' := [(3, .int (1 : Int32)), (0, .ref (G.2.2 + 154)), (1, .ref (G.2.2 + 3)), (2, .int v2)]) X d_Ways_measurePairs_47 rfl (by decide) rfl rfl ?_
  refine V_iconst (v := 0) X d_Ways_measurePairs_48 (by decide) rfl ?_
  refine V_istore (lv' := [(4, .int (0 : Int32)), (3, .int (1 : Int32)), (0, .ref (G.2.2 + 154)), (1, .ref (G.2.2 + 3)), (2, .int v2)]) X d_Ways_measurePairs_49 (by decide) rfl rfl ?_
  refine V_sub (lv' := [(0, .ref (G.2.2 + 154)), (1, .ref (G.2.2 + 3)), (3, .int (1 : Int32)), (4, .int (0 : Int32))]) [2, 3, 1, 0] rfl ?_
  obtain ⟨x16, hx16, h⟩ := ob_s h
  refine (lp_Ways_measurePairs_51_ok X hD  _ _ _ hx16 (fun x9 e9 => ?_) :)
  subst e9
  exact V_vret X (kr x16 (Option.some.inj h).symm) d_Ways_measurePairs_160
def lb_Ways_pairNearer_2 (v2 : Int32) (M : Mem) (s : Int32) : Option ((Int32) ⊕ ((Unit) ⊕ (Int32))) :=
  if (25 : Int32) ≤ s then
  some (.inr (Sum.inl ()))
  else
  Option.bind (f_Ways_pairAfter v2 s M) fun x1 =>
  if x1 = (-1 : Int32) then
  some (.inl (s + (1 : Int32)))
  else
  if inb x1 180 = true then
  if inb v2 180 = true then
  if (M.1 159 v2.toNatClampNeg) ≤ (M.1 159 x1.toNatClampNeg) then
  some (.inl (s + (1 : Int32)))
  else
  some (.inr (Sum.inr s))
  else none
  else none
theorem lb_Ways_pairNearer_2_ok {E : Ev} {G : Gw} {d : Nat} {post : Int32 → Mem → Prop} (X : Cx E G b_Ways_pairNearer "WomenByTheRoofs$Ways" 5 d (some .int)) (hD : 4 ≤ d)  (v2 : Int32)  (M : Mem) (s : Int32) (o : (Int32) ⊕ ((Unit) ⊕ (Int32))) (h : lb_Ways_pairNearer_2 v2 M s = some o) (kc : ∀ s9 : Int32, o = .inl s9 → V E (0, 0) G 5 (QI E G post) M 2 [(0, .ref (G.2.2 + 154)), (1, .ref (G.2.2 + 3)), (2, .int v2), (3, .int s9)] []) (kx0 : ∀ x9 : Unit, o = .inr (Sum.inl x9) → V E (0, 0) G 5 (QI E G post) M 47 [] []) (kx1 : ∀ x9 : Int32, o = .inr (Sum.inr x9) → V E (0, 0) G 5 (QI E G post) M 39 [(3, .int x9)] []) : V E (0, 0) G 5 (QI E G post) M 2 [(0, .ref (G.2.2 + 154)), (1, .ref (G.2.2 + 3)), (2, .int v2), (3, .int s)] [] := by
  unfold lb_Ways_pairNearer_2 at h
  refine V_iload_n (n := 3) X d_Ways_pairNearer_2 rfl rfl rfl ?_
  refine V_bipush (v := 25) X d_Ways_pairNearer_3 (by decide) rfl ?_
  refine V_icmp_ge (tgt := 47) X d_Ways_pairNearer_5 (by decide) rfl (fun c4 => ?_) (fun c4 => ?_)
  · rw [if_pos c4] at h
    refine V_sub (lv' := []) [] rfl ?_
    exact kx0 () (Option.some.inj h).symm
  · rw [if_neg c4] at h
    refine V_aload_n (n := 0) X d_Ways_pairNearer_8 rfl rfl rfl ?_
    refine V_aload_n (n := 1) X d_Ways_pairNearer_9 rfl rfl rfl ?_
    refine V_iload_n (n := 2) X d_Ways_pairNearer_10 rfl rfl rfl ?_
    refine V_iload_n (n := 3) X d_Ways_pairNearer_11 rfl rfl rfl ?_
    obtain ⟨x1, hx1, h⟩ := ob_s h
    refine V_ci (As := [.ref (G.2.2 + 3), .int v2, .int s]) X (Z0 E) ml_Ways_71 yq_Ways_pairAfter (c_Ways_pairAfter E.2.1 G v2 s M x1 hx1 _ (Nat.le_refl _)) kd_154 rfl rfl (by omega) rfl (Nat.le_of_ble_eq_true rfl) d_Ways_pairNearer_12 rfl (fun r9 M9 hq => ?_)
    rw [hq.1, hq.2]
    refine V_istore (lv' := [(4, .int x1), (0, .ref (G.2.2 + 154)), (1, .ref (G.2.2 + 3)), (2, .int v2), (3, .int s)]) X d_Ways_pairNearer_15 (by decide) rfl rfl ?_
    refine V_iload (n := 0) X d_Ways_pairNearer_17 rfl rfl ?_
    refine V_iconst (v := -1) X d_Ways_pairNearer_19 (by decide) rfl ?_
    refine V_icmp_eq (tgt := 41) X d_Ways_pairNearer_20 (by decide) rfl (fun c3 => ?_) (fun c3 => ?_)
    · rw [if_pos c3] at h
      refine V_iinc (n := 4) (v := (s + (1 : Int32))) (lv' := [(3, .int (s + (1 : Int32))), (4, .int x1), (0, .ref (G.2.2 + 154)), (1, .ref (G.2.2 + 3)), (2, .int v2)]) X d_Ways_pairNearer_41 rfl rfl (by decide) rfl rfl ?_
      refine V_goto (pc' := 2) X d_Ways_pairNearer_44 (by decide) ?_
      refine V_sub (lv' := [(0, .ref (G.2.2 + 154)), (1, .ref (G.2.2 + 3)), (2, .int v2), (3, .int (s + (1 : Int32)))]) [2, 3, 4, 0] rfl ?_
      exact kc (s + (1 : Int32)) (Option.some.inj h).symm
    · rw [if_neg c3] at h
      refine V_aload_n (n := 1) X d_Ways_pairNearer_23 rfl rfl rfl ?_
      refine V_getr (k2 := 159) X fo_Ways_24 kd_154 rfl rf_154_4 d_Ways_pairNearer_24 rfl ?_
      refine V_iload (n := 0) X d_Ways_pairNearer_27 rfl rfl ?_
      obtain ⟨hb, h⟩ := ifn h
      refine V_iald X kd_159 (inb_in ln_159 hb) d_Ways_pairNearer_29 rfl ?_
      refine V_aload_n (n := 1) X d_Ways_pairNearer_30 rfl rfl rfl ?_
      refine V_getr (k2 := 159) X fo_Ways_24 kd_154 rfl rf_154_4 d_Ways_pairNearer_31 rfl ?_
      refine V_iload_n (n := 3) X d_Ways_pairNearer_34 rfl rfl rfl ?_
      obtain ⟨hb, h⟩ := ifn h
      refine V_iald X kd_159 (inb_in ln_159 hb) d_Ways_pairNearer_35 rfl ?_
      refine V_icmp_ge (tgt := 41) X d_Ways_pairNearer_36 (by decide) rfl (fun c2 => ?_) (fun c2 => ?_)
      · rw [if_pos c2] at h
        refine V_iinc (n := 4) (v := (s + (1 : Int32))) (lv' := [(3, .int (s + (1 : Int32))), (4, .int x1), (0, .ref (G.2.2 + 154)), (1, .ref (G.2.2 + 3)), (2, .int v2)]) X d_Ways_pairNearer_41 rfl rfl (by decide) rfl rfl ?_
        refine V_goto (pc' := 2) X d_Ways_pairNearer_44 (by decide) ?_
        refine V_sub (lv' := [(0, .ref (G.2.2 + 154)), (1, .ref (G.2.2 + 3)), (2, .int v2), (3, .int (s + (1 : Int32)))]) [2, 3, 4, 0] rfl ?_
        exact kc (s + (1 : Int32)) (Option.some.inj h).symm
      · rw [if_neg c2] at h
        refine V_sub (lv' := [(3, .int s)]) [4] rfl ?_
        exact kx1 s (Option.some.inj h).symm
theorem lp_Ways_pairNearer_2_ok {E : Ev} {G : Gw} {d : Nat} {post : Int32 → Mem → Prop} (X : Cx E G b_Ways_pairNearer "WomenByTheRoofs$Ways" 5 d (some .int)) (hD : 4 ≤ d)  (v2 : Int32)  (M : Mem) (n9 : Nat) (s : Int32) (x : (Unit) ⊕ (Int32)) (h : iter (lb_Ways_pairNearer_2 v2 M) n9 s = some x) (kx0 : ∀ x9 : Unit, x = (Sum.inl x9) → V E (0, 0) G 5 (QI E G post) M 47 [] []) (kx1 : ∀ x9 : Int32, x = (Sum.inr x9) → V E (0, 0) G 5 (QI E G post) M 39 [(3, .int x9)] []) : V E (0, 0) G 5 (QI E G post) M 2 [(0, .ref (G.2.2 + 154)), (1, .ref (G.2.2 + 3)), (2, .int v2), (3, .int s)] [] :=
  iter_P (P := fun s : Int32 => V E (0, 0) G 5 (QI E G post) M 2 [(0, .ref (G.2.2 + 154)), (1, .ref (G.2.2 + 3)), (2, .int v2), (3, .int s)] []) (fun s o hb kc ky => lb_Ways_pairNearer_2_ok X hD v2 M s o hb kc (fun x9 e9 => kx0 x9 (ky _ e9).symm) (fun x9 e9 => kx1 x9 (ky _ e9).symm)) n9 s h
def f_Ways_pairNearer (v2 : Int32) (M : Mem) : Option (Int32) :=
  Option.bind (iter (lb_Ways_pairNearer_2 v2 M) FU (0 : Int32)) (Sum.elim (fun y6 => some (-1 : Int32)) (fun y7 => some y7))
theorem c_Ways_pairNearer (l : Launch) (G : Gw)  (v2 : Int32) (M : Mem) (x : Int32) (h : f_Ways_pairNearer v2 M = some x) (d : Nat) (hD : 4 ≤ d) : Ci l G y_Ways_pairNearer b_Ways_pairNearer 5 (some .int) d [.ref (G.2.2 + 154), .ref (G.2.2 + 3), .int v2] M (fun r9 M9 => r9 = x ∧ M9 = M) := by
  refine Ci_of (by decide) (Nat.le_of_ble_eq_true rfl) (fun E hE X => ?_)
  subst hE
  have kr : ∀ x9 : Int32, x = x9 → (fun r9 M9 => r9 = x ∧ M9 = M) x9 M := fun x9 e9 => by subst e9; exact ⟨rfl, rfl⟩
  unfold f_Ways_pairNearer at h
  refine V_iconst (v := 0) X d_Ways_pairNearer_0 (by decide) rfl ?_
  refine V_istore_n (lv' := [(3, .int (0 : Int32)), (0, .ref (G.2.2 + 154)), (1, .ref (G.2.2 + 3)), (2, .int v2)]) X d_Ways_pairNearer_1 rfl (by decide) rfl rfl ?_
  refine V_sub (lv' := [(0, .ref (G.2.2 + 154)), (1, .ref (G.2.2 + 3)), (2, .int v2), (3, .int (0 : Int32))]) [1, 2, 3, 0] rfl ?_
  obtain ⟨x5, hx5, h⟩ := ob_s h
  rcases x5 with y6 | y7
  · simp only [Sum.elim_inl, Sum.elim_inr] at h
    refine (lp_Ways_pairNearer_2_ok X hD v2 M _ _ _ hx5 (fun x9 e9 => ?_) (fun x9 e9 => by cases e9) :)
    cases e9
    refine V_iconst (v := -1) X d_Ways_pairNearer_47 (by decide) rfl ?_
    exact V_iret X (kr (-1 : Int32) (Option.some.inj h).symm) d_Ways_pairNearer_48
  · simp only [Sum.elim_inl, Sum.elim_inr] at h
    refine (lp_Ways_pairNearer_2_ok X hD v2 M _ _ _ hx5 (fun x9 e9 => by cases e9) (fun x9 e9 => ?_) :)
    cases e9
    refine V_iload_n (n := 0) X d_Ways_pairNearer_39 rfl rfl rfl ?_
    exact V_iret X (kr y7 (Option.some.inj h).symm) d_Ways_pairNearer_40
def j_Thief_start_12 (v1 : Int32) (v2 : Int32) (w0 : Int64) (M : Mem) : Option (Mem) :=
  mem_ (s_l M 151 2 w0) fun M1 =>
  if v1 = (1 : Int32) then
  mem_ (s_l M1 151 3 ((1 : Int64) <<< (v2.toInt64 &&& 63))) fun M3 =>
  some M3
  else
  mem_ (s_l M1 151 3 (0 : Int64)) fun M2 =>
  some M2
theorem j_Thief_start_12_ok {E : Ev} {G : Gw} {d : Nat} {post : Mem → Prop} (X : Cx E G b_Thief_start "WomenByTheRoofs$Thief" 3 d none) (hD : 1 ≤ d)  (v1 : Int32) (v2 : Int32) (w0 : Int64)  (M : Mem)  (o : Mem) (h : j_Thief_start_12 v1 v2 w0 M = some o) (kr : ∀ x9 : Mem, o = x9 → post x9) : V E (0, 0) G 3 (QV E G post) M 12 [(0, .ref (G.2.2 + 151)), (1, .int v1), (2, .int v2)] [.long w0, .ref (G.2.2 + 151)] := by
  unfold j_Thief_start_12 at h
  obtain ⟨M1, eM1, h⟩ := memS h
  refine V_putl X fp_Thief_18 kd_151 rfl d_Thief_start_12 rfl ?_
  rw [← eM1]
  refine V_aload_n (n := 0) X d_Thief_start_15 rfl rfl rfl ?_
  refine V_iload_n (n := 1) X d_Thief_start_16 rfl rfl rfl ?_
  refine V_iconst (v := 1) X d_Thief_start_17 (by decide) rfl ?_
  refine V_icmp_ne (tgt := 27) X d_Thief_start_18 (by decide) rfl (fun c4 => ?_) (fun c4 => ?_)
  · rw [if_neg c4] at h
    refine V_lconst (v := 0) X d_Thief_start_27 (by decide) rfl ?_
    obtain ⟨M2, eM2, h⟩ := memS h
    refine V_putl X fp_Thief_22 kd_151 rfl d_Thief_start_28 rfl ?_
    rw [← eM2]
    exact V_vret X (kr M2 (Option.some.inj h).symm) d_Thief_start_31
  · rw [if_pos c4] at h
    refine V_lconst (v := 1) X d_Thief_start_21 (by decide) rfl ?_
    refine V_iload_n (n := 2) X d_Thief_start_22 rfl rfl rfl ?_
    refine V_lshl X d_Thief_start_23 rfl ?_
    refine V_goto (pc' := 28) X d_Thief_start_24 (by decide) ?_
    obtain ⟨M3, eM3, h⟩ := memS h
    refine V_putl X fp_Thief_22 kd_151 rfl d_Thief_start_28 rfl ?_
    rw [← eM3]
    exact V_vret X (kr M3 (Option.some.inj h).symm) d_Thief_start_31
def f_Thief_start (v1 : Int32) (v2 : Int32) (M : Mem) : Option (Mem) :=
  if v1 = 0 then
  j_Thief_start_12 v1 v2 ((1 : Int64) <<< (v2.toInt64 &&& 63)) M
  else
  j_Thief_start_12 v1 v2 (0 : Int64) M
theorem c_Thief_start (l : Launch) (G : Gw)  (v1 : Int32) (v2 : Int32) (M : Mem) (x : Mem) (h : f_Thief_start v1 v2 M = some x) (d : Nat) (hD : 1 ≤ d) : Cv l G y_Thief_start b_Thief_start 3 none d [.ref (G.2.2 + 151), .int v1, .int v2] M (fun M9 => M9 = x) := by
  refine Cv_of (by decide) (Nat.le_of_ble_eq_true rfl) (fun E hE X => ?_)
  subst hE
  have kr : ∀ x9 : Mem, x = x9 → (fun M9 => M9 = x) x9 := fun x9 e9 => by subst e9; exact rfl
  unfold f_Thief_start at h
  refine V_aload_n (n := 0) X d_Thief_start_0 rfl rfl rfl ?_
  refine V_iload_n (n := 1) X d_Thief_start_1 rfl rfl rfl ?_
  refine V_if_ne (tgt := 11) X d_Thief_start_2 (by decide) rfl (fun c5 => ?_) (fun c5 => ?_)
  · rw [if_neg c5] at h
    refine V_lconst (v := 0) X d_Thief_start_11 (by decide) rfl ?_
    exact j_Thief_start_12_ok X hD v1 v2 (0 : Int64) M _ h kr
  · rw [if_pos c5] at h
    refine V_lconst (v := 1) X d_Thief_start_5 (by decide) rfl ?_
    refine V_iload_n (n := 2) X d_Thief_start_6 rfl rfl rfl ?_
    refine V_lshl X d_Thief_start_7 rfl ?_
    refine V_goto (pc' := 12) X d_Thief_start_8 (by decide) ?_
    exact j_Thief_start_12_ok X hD v1 v2 ((1 : Int64) <<< (v2.toInt64 &&& 63)) M _ h kr
def f_Thief_stir (v1 : Nat) (M : Mem) : Option (Mem) :=
  if kd v1 = 10 + 6 then
  Option.bind (f_Nets_around v1 (0 : Int32) (M.2.1 151 2) M) fun x1 =>
  Option.bind (f_Nets_stairs v1 M) fun x2 =>
  Option.bind (f_Nets_around v1 (1 : Int32) (M.2.1 151 3) M) fun x3 =>
  Option.bind (f_Nets_stairs v1 M) fun x4 =>
  mem_ (s_l M 151 2 (((M.2.1 151 2) ||| x1) ||| ((M.2.1 151 3) &&& x2))) fun M5 =>
  mem_ (s_l M5 151 3 (((M.2.1 151 3) ||| x3) ||| ((M.2.1 151 2) &&& x4))) fun M6 =>
  some M6
  else none
theorem c_Thief_stir (l : Launch) (G : Gw)  (v1 : Nat) (M : Mem) (x : Mem) (h : f_Thief_stir v1 M = some x) (d : Nat) (hD : 2 ≤ d) : Cv l G y_Thief_stir b_Thief_stir 6 none d [.ref (G.2.2 + 151), .ref (G.2.2 + v1)] M (fun M9 => M9 = x) := by
  refine Cv_of (by decide) (Nat.le_of_ble_eq_true rfl) (fun E hE X => ?_)
  subst hE
  have kr : ∀ x9 : Mem, x = x9 → (fun M9 => M9 = x) x9 := fun x9 e9 => by subst e9; exact rfl
  unfold f_Thief_stir at h
  obtain ⟨hk_v1, h⟩ := ifn h
  refine V_aload_n (n := 0) X d_Thief_stir_0 rfl rfl rfl ?_
  refine V_getl X fo_Thief_18 kd_151 rfl d_Thief_stir_1 rfl ?_
  refine V_aload_n (n := 1) X d_Thief_stir_4 rfl rfl rfl ?_
  refine V_iconst (v := 0) X d_Thief_stir_5 (by decide) rfl ?_
  refine V_aload_n (n := 0) X d_Thief_stir_6 rfl rfl rfl ?_
  refine V_getl X fo_Thief_18 kd_151 rfl d_Thief_stir_7 rfl ?_
  obtain ⟨x1, hx1, h⟩ := ob_s h
  refine V_cl (As := [.int (0 : Int32), .long (M.2.1 151 2)]) X (Z0 E) ml_Thief_27 yq_Nets_around (c_Nets_around E.2.1 G v1 (0 : Int32) (M.2.1 151 2) M x1 hx1 _ (Nat.le_refl _)) hk_v1 rfl rfl (by omega) rfl (Nat.le_of_ble_eq_true rfl) d_Thief_stir_10 rfl (fun r9 M9 hq => ?_)
  rw [hq.1, hq.2]
  refine V_lor X d_Thief_stir_13 rfl ?_
  refine V_aload_n (n := 0) X d_Thief_stir_14 rfl rfl rfl ?_
  refine V_getl X fo_Thief_22 kd_151 rfl d_Thief_stir_15 rfl ?_
  refine V_aload_n (n := 1) X d_Thief_stir_18 rfl rfl rfl ?_
  obtain ⟨x2, hx2, h⟩ := ob_s h
  refine V_cl (As := []) X (Z0 E) ml_Thief_33 yq_Nets_stairs (c_Nets_stairs E.2.1 G v1 M x2 hx2 _ (Nat.le_refl _)) hk_v1 rfl rfl (by omega) rfl (Nat.le_of_ble_eq_true rfl) d_Thief_stir_19 rfl (fun r9 M9 hq => ?_)
  rw [hq.1, hq.2]
  refine V_land X d_Thief_stir_22 rfl ?_
  refine V_lor X d_Thief_stir_23 rfl ?_
  refine V_lstore_n (lv' := [(2, .long (((M.2.1 151 2) ||| x1) ||| ((M.2.1 151 3) &&& x2))), (0, .ref (G.2.2 + 151)), (1, .ref (G.2.2 + v1))]) X d_Thief_stir_24 rfl (by decide) rfl rfl ?_
  refine V_aload_n (n := 1) X d_Thief_stir_25 rfl rfl rfl ?_
  refine V_getl X fo_Thief_22 kd_151 rfl d_Thief_stir_26 rfl ?_
  refine V_aload_n (n := 2) X d_Thief_stir_29 rfl rfl rfl ?_
  refine V_iconst (v := 1) X d_Thief_stir_30 (by decide) rfl ?_
  refine V_aload_n (n := 1) X d_Thief_stir_31 rfl rfl rfl ?_
  refine V_getl X fo_Thief_22 kd_151 rfl d_Thief_stir_32 rfl ?_
  obtain ⟨x3, hx3, h⟩ := ob_s h
  refine V_cl (As := [.int (1 : Int32), .long (M.2.1 151 3)]) X (Z0 E) ml_Thief_27 yq_Nets_around (c_Nets_around E.2.1 G v1 (1 : Int32) (M.2.1 151 3) M x3 hx3 _ (Nat.le_refl _)) hk_v1 rfl rfl (by omega) rfl (Nat.le_of_ble_eq_true rfl) d_Thief_stir_35 rfl (fun r9 M9 hq => ?_)
  rw [hq.1, hq.2]
  refine V_lor X d_Thief_stir_38 rfl ?_
  refine V_aload_n (n := 1) X d_Thief_stir_39 rfl rfl rfl ?_
  refine V_getl X fo_Thief_18 kd_151 rfl d_Thief_stir_40 rfl ?_
  refine V_aload_n (n := 2) X d_Thief_stir_43 rfl rfl rfl ?_
  obtain ⟨x4, hx4, h⟩ := ob_s h
  refine V_cl (As := []) X (Z0 E) ml_Thief_33 yq_Nets_stairs (c_Nets_stairs E.2.1 G v1 M x4 hx4 _ (Nat.le_refl _)) hk_v1 rfl rfl (by omega) rfl (Nat.le_of_ble_eq_true rfl) d_Thief_stir_44 rfl (fun r9 M9 hq => ?_)
  rw [hq.1, hq.2]
  refine V_land X d_Thief_stir_47 rfl ?_
  refine V_lor X d_Thief_stir_48 rfl ?_
  refine V_lstore (lv' := [(4, .long (((M.2.1 151 3) ||| x3) ||| ((M.2.1 151 2) &&& x4))), (2, .long (((M.2.1 151 2) ||| x1) ||| ((M.2.1 151 3) &&& x2))), (0, .ref (G.2.2 + 151)), (1, .ref (G.2.2 + v1))]) X d_Thief_stir_49 (by decide) rfl rfl ?_
  refine V_aload_n (n := 2) X d_Thief_stir_51 rfl rfl rfl ?_
  refine V_lload_n (n := 1) X d_Thief_stir_52 rfl rfl rfl ?_
  obtain ⟨M5, eM5, h⟩ := memS h
  refine V_putl X fp_Thief_18 kd_151 rfl d_Thief_stir_53 rfl ?_
  rw [← eM5]
  refine V_aload_n (n := 2) X d_Thief_stir_56 rfl rfl rfl ?_
  refine V_lload (n := 0) X d_Thief_stir_57 rfl rfl ?_
  obtain ⟨M6, eM6, h⟩ := memS h
  refine V_putl X fp_Thief_22 kd_151 rfl d_Thief_stir_59 rfl ?_
  rw [← eM6]
  exact V_vret X (kr M6 (Option.some.inj h).symm) d_Thief_stir_62
def f_Thief_record (v1 : Int32) (v2 : Int64) (v4 : Int64) (M : Mem) : Option (Mem) :=
  if v1 < 0 then
  some M
  else
  if (30 : Int32) ≤ v1 then
  some M
  else
  if inb v1 30 = true then
  mem_ (s_l M 152 v1.toNatClampNeg v2) fun M1 =>
  if inb v1 30 = true then
  mem_ (s_l M1 153 v1.toNatClampNeg v4) fun M2 =>
  some M2
  else none
  else none
theorem c_Thief_record (l : Launch) (G : Gw)  (v1 : Int32) (v2 : Int64) (v4 : Int64) (M : Mem) (x : Mem) (h : f_Thief_record v1 v2 v4 M = some x) (d : Nat) (hD : 1 ≤ d) : Cv l G y_Thief_record b_Thief_record 6 none d [.ref (G.2.2 + 151), .int v1, .long v2, .long v4] M (fun M9 => M9 = x) := by
  refine Cv_of (by decide) (Nat.le_of_ble_eq_true rfl) (fun E hE X => ?_)
  subst hE
  have kr : ∀ x9 : Mem, x = x9 → (fun M9 => M9 = x) x9 := fun x9 e9 => by subst e9; exact rfl
  unfold f_Thief_record at h
  refine V_iload_n (n := 1) X d_Thief_record_0 rfl rfl rfl ?_
  refine V_if_lt (tgt := 25) X d_Thief_record_1 (by decide) rfl (fun c4 => ?_) (fun c4 => ?_)
  · rw [if_pos c4] at h
    exact V_vret X (kr M (Option.some.inj h).symm) d_Thief_record_25
  · rw [if_neg c4] at h
    refine V_iload_n (n := 1) X d_Thief_record_4 rfl rfl rfl ?_
    refine V_bipush (v := 30) X d_Thief_record_5 (by decide) rfl ?_
    refine V_icmp_ge (tgt := 25) X d_Thief_record_7 (by decide) rfl (fun c3 => ?_) (fun c3 => ?_)
    · rw [if_pos c3] at h
      exact V_vret X (kr M (Option.some.inj h).symm) d_Thief_record_25
    · rw [if_neg c3] at h
      refine V_aload_n (n := 0) X d_Thief_record_10 rfl rfl rfl ?_
      refine V_getr (k2 := 152) X fo_Thief_9 kd_151 rfl rf_151_0 d_Thief_record_11 rfl ?_
      refine V_iload_n (n := 1) X d_Thief_record_14 rfl rfl rfl ?_
      refine V_lload_n (n := 2) X d_Thief_record_15 rfl rfl rfl ?_
      obtain ⟨hb, h⟩ := ifn h
      obtain ⟨M1, eM1, h⟩ := memS h
      refine V_last X kd_152 (inb_in ln_152 hb) d_Thief_record_16 rfl ?_
      rw [← eM1]
      refine V_aload_n (n := 0) X d_Thief_record_17 rfl rfl rfl ?_
      refine V_getr (k2 := 153) X fo_Thief_15 kd_151 rfl rf_151_1 d_Thief_record_18 rfl ?_
      refine V_iload_n (n := 1) X d_Thief_record_21 rfl rfl rfl ?_
      refine V_lload (n := 3) X d_Thief_record_22 rfl rfl ?_
      obtain ⟨hb, h⟩ := ifn h
      obtain ⟨M2, eM2, h⟩ := memS h
      refine V_last X kd_153 (inb_in ln_153 hb) d_Thief_record_24 rfl ?_
      rw [← eM2]
      exact V_vret X (kr M2 (Option.some.inj h).symm) d_Thief_record_25
def f_Thief_strike (v1 : Int32) (M : Mem) : Option (Mem) :=
  if v1 < 0 then
  some M
  else
  if (30 : Int32) ≤ v1 then
  some M
  else
  if inb v1 30 = true then
  mem_ (s_l M 151 2 ((M.2.1 151 2) &&& ((M.2.1 152 v1.toNatClampNeg) ^^^ (-1 : Int64)))) fun M1 =>
  if inb v1 30 = true then
  mem_ (s_l M1 151 3 ((M1.2.1 151 3) &&& ((M1.2.1 153 v1.toNatClampNeg) ^^^ (-1 : Int64)))) fun M2 =>
  some M2
  else none
  else none
theorem c_Thief_strike (l : Launch) (G : Gw)  (v1 : Int32) (M : Mem) (x : Mem) (h : f_Thief_strike v1 M = some x) (d : Nat) (hD : 1 ≤ d) : Cv l G y_Thief_strike b_Thief_strike 2 none d [.ref (G.2.2 + 151), .int v1] M (fun M9 => M9 = x) := by
  refine Cv_of (by decide) (Nat.le_of_ble_eq_true rfl) (fun E hE X => ?_)
  subst hE
  have kr : ∀ x9 : Mem, x = x9 → (fun M9 => M9 = x) x9 := fun x9 e9 => by subst e9; exact rfl
  unfold f_Thief_strike at h
  refine V_iload_n (n := 1) X d_Thief_strike_0 rfl rfl rfl ?_
  refine V_if_lt (tgt := 48) X d_Thief_strike_1 (by decide) rfl (fun c4 => ?_) (fun c4 => ?_)
  · rw [if_pos c4] at h
    exact V_vret X (kr M (Option.some.inj h).symm) d_Thief_strike_48
  · rw [if_neg c4] at h
    refine V_iload_n (n := 1) X d_Thief_strike_4 rfl rfl rfl ?_
    refine V_bipush (v := 30) X d_Thief_strike_5 (by decide) rfl ?_
    refine V_icmp_ge (tgt := 48) X d_Thief_strike_7 (by decide) rfl (fun c3 => ?_) (fun c3 => ?_)
    · rw [if_pos c3] at h
      exact V_vret X (kr M (Option.some.inj h).symm) d_Thief_strike_48
    · rw [if_neg c3] at h
      refine V_aload_n (n := 0) X d_Thief_strike_10 rfl rfl rfl ?_
      refine V_dup X d_Thief_strike_11 rfl rfl ?_
      refine V_getl X fo_Thief_18 kd_151 rfl d_Thief_strike_12 rfl ?_
      refine V_aload_n (n := 0) X d_Thief_strike_15 rfl rfl rfl ?_
      refine V_getr (k2 := 152) X fo_Thief_9 kd_151 rfl rf_151_0 d_Thief_strike_16 rfl ?_
      refine V_iload_n (n := 1) X d_Thief_strike_19 rfl rfl rfl ?_
      obtain ⟨hb, h⟩ := ifn h
      refine V_lald X kd_152 (inb_in ln_152 hb) d_Thief_strike_20 rfl ?_
      refine V_ldc2_w (v := -1) X d_Thief_strike_21 kc_Thief_25 rfl ?_
      refine V_lxor X d_Thief_strike_24 rfl ?_
      refine V_land X d_Thief_strike_25 rfl ?_
      obtain ⟨M1, eM1, h⟩ := memS h
      refine V_putl X fp_Thief_18 kd_151 rfl d_Thief_strike_26 rfl ?_
      rw [← eM1]
      refine V_aload_n (n := 0) X d_Thief_strike_29 rfl rfl rfl ?_
      refine V_dup X d_Thief_strike_30 rfl rfl ?_
      refine V_getl X fo_Thief_22 kd_151 rfl d_Thief_strike_31 rfl ?_
      refine V_aload_n (n := 0) X d_Thief_strike_34 rfl rfl rfl ?_
      refine V_getr (k2 := 153) X fo_Thief_15 kd_151 rfl rf_151_1 d_Thief_strike_35 rfl ?_
      refine V_iload_n (n := 1) X d_Thief_strike_38 rfl rfl rfl ?_
      obtain ⟨hb, h⟩ := ifn h
      refine V_lald X kd_153 (inb_in ln_153 hb) d_Thief_strike_39 rfl ?_
      refine V_ldc2_w (v := -1) X d_Thief_strike_40 kc_Thief_25 rfl ?_
      refine V_lxor X d_Thief_strike_43 rfl ?_
      refine V_land X d_Thief_strike_44 rfl ?_
      obtain ⟨M2, eM2, h⟩ := memS h
      refine V_putl X fp_Thief_22 kd_151 rfl d_Thief_strike_45 rfl ?_
      rw [← eM2]
      exact V_vret X (kr M2 (Option.some.inj h).symm) d_Thief_strike_48
def f_Thief_gone (M : Mem) : Option (Int32) :=
  if (lg_cmp ((M.2.1 151 2) ||| (M.2.1 151 3)) (0 : Int64)) = 0 then
  some (1 : Int32)
  else
  some (0 : Int32)
theorem c_Thief_gone (l : Launch) (G : Gw)   (M : Mem) (x : Int32) (h : f_Thief_gone M = some x) (d : Nat) (hD : 1 ≤ d) : Ci l G y_Thief_gone b_Thief_gone 1 (some .boolean) d [.ref (G.2.2 + 151)] M (fun r9 M9 => r9 = x ∧ M9 = M) := by
  refine Ci_of (by decide) (Nat.le_of_ble_eq_true rfl) (fun E hE X => ?_)
  subst hE
  have kr : ∀ x9 : Int32, x = x9 → (fun r9 M9 => r9 = x ∧ M9 = M) x9 M := fun x9 e9 => by subst e9; exact ⟨rfl, rfl⟩
  unfold f_Thief_gone at h
  refine V_aload_n (n := 0) X d_Thief_gone_0 rfl rfl rfl ?_
  refine V_getl X fo_Thief_18 kd_151 rfl d_Thief_gone_1 rfl ?_
  refine V_aload_n (n := 0) X d_Thief_gone_4 rfl rfl rfl ?_
  refine V_getl X fo_Thief_22 kd_151 rfl d_Thief_gone_5 rfl ?_
  refine V_lor X d_Thief_gone_8 rfl ?_
  refine V_lconst (v := 0) X d_Thief_gone_9 (by decide) rfl ?_
  refine V_lcmp X d_Thief_gone_10 rfl ?_
  refine V_if_ne (tgt := 18) X d_Thief_gone_11 (by decide) rfl (fun c1 => ?_) (fun c1 => ?_)
  · rw [if_neg c1] at h
    refine V_iconst (v := 0) X d_Thief_gone_18 (by decide) rfl ?_
    exact V_zret X (kr (0 : Int32) (Option.some.inj h).symm) (by decide) d_Thief_gone_19
  · rw [if_pos c1] at h
    refine V_iconst (v := 1) X d_Thief_gone_14 (by decide) rfl ?_
    refine V_goto (pc' := 19) X d_Thief_gone_15 (by decide) ?_
    exact V_zret X (kr (1 : Int32) (Option.some.inj h).symm) (by decide) d_Thief_gone_19
def lb_Thief_roam_2 (v1 : Nat) (s : Int32 × Mem) : Option ((Int32 × Mem) ⊕ ((Mem) ⊕ (Mem))) :=
  if (72 : Int32) ≤ s.1 then
  some (.inr (Sum.inl s.2))
  else
  Option.bind (f_Thief_stir v1 s.2) fun x1 =>
  mem_ (s_l x1 151 2 (((x1.2.1 151 2) &&& ((x1.2.1 152 (0 : Int32).toNatClampNeg) ^^^ (-1 : Int64))) ||| (s.2.2.1 151 2))) fun M2 =>
  mem_ (s_l M2 151 3 (((M2.2.1 151 3) &&& ((M2.2.1 153 (0 : Int32).toNatClampNeg) ^^^ (-1 : Int64))) ||| (s.2.2.1 151 3))) fun M3 =>
  if (lg_cmp (M3.2.1 151 2) (s.2.2.1 151 2)) = 0 then
  if (lg_cmp (M3.2.1 151 3) (s.2.2.1 151 3)) = 0 then
  some (.inr (Sum.inr M3))
  else
  some (.inl ((s.1 + (1 : Int32)), M3))
  else
  some (.inl ((s.1 + (1 : Int32)), M3))
theorem lb_Thief_roam_2_ok {E : Ev} {G : Gw} {d : Nat} {post : Mem → Prop} (X : Cx E G b_Thief_roam "WomenByTheRoofs$Thief" 7 d none) (hD : 3 ≤ d)  (v1 : Nat) (hk_v1 : kd v1 = 10 + 6)  (s : Int32 × Mem) (o : (Int32 × Mem) ⊕ ((Mem) ⊕ (Mem))) (h : lb_Thief_roam_2 v1 s = some o) (kc : ∀ s9 : Int32 × Mem, o = .inl s9 → V E (0, 0) G 7 (QV E G post) s9.2 2 [(0, .ref (G.2.2 + 151)), (1, .ref (G.2.2 + v1)), (2, .int s9.1)] []) (kx0 : ∀ x9 : Mem, o = .inr (Sum.inl x9) → V E (0, 0) G 7 (QV E G post) x9 93 [] []) (kx1 : ∀ x9 : Mem, o = .inr (Sum.inr x9) → V E (0, 0) G 7 (QV E G post) x9 86 [] []) : V E (0, 0) G 7 (QV E G post) s.2 2 [(0, .ref (G.2.2 + 151)), (1, .ref (G.2.2 + v1)), (2, .int s.1)] [] := by
  unfold lb_Thief_roam_2 at h
  refine V_iload_n (n := 2) X d_Thief_roam_2 rfl rfl rfl ?_
  refine V_bipush (v := 72) X d_Thief_roam_3 (by decide) rfl ?_
  refine V_icmp_ge (tgt := 93) X d_Thief_roam_5 (by decide) rfl (fun c6 => ?_) (fun c6 => ?_)
  · rw [if_pos c6] at h
    refine V_sub (lv' := []) [] rfl ?_
    exact kx0 s.2 (Option.some.inj h).symm
  · rw [if_neg c6] at h
    refine V_aload_n (n := 0) X d_Thief_roam_8 rfl rfl rfl ?_
    refine V_getl X fo_Thief_18 kd_151 rfl d_Thief_roam_9 rfl ?_
    refine V_lstore_n (lv' := [(3, .long (s.2.2.1 151 2)), (0, .ref (G.2.2 + 151)), (1, .ref (G.2.2 + v1)), (2, .int s.1)]) X d_Thief_roam_12 rfl (by decide) rfl rfl ?_
    refine V_aload_n (n := 1) X d_Thief_roam_13 rfl rfl rfl ?_
    refine V_getl X fo_Thief_22 kd_151 rfl d_Thief_roam_14 rfl ?_
    refine V_lstore (lv' := [(5, .long (s.2.2.1 151 3)), (3, .long (s.2.2.1 151 2)), (0, .ref (G.2.2 + 151)), (1, .ref (G.2.2 + v1)), (2, .int s.1)]) X d_Thief_roam_17 (by decide) rfl rfl ?_
    refine V_aload_n (n := 2) X d_Thief_roam_19 rfl rfl rfl ?_
    refine V_aload_n (n := 3) X d_Thief_roam_20 rfl rfl rfl ?_
    obtain ⟨x1, hx1, h⟩ := ob_s h
    refine V_cv (As := [.ref (G.2.2 + v1)]) X (Z0 E) ml_Thief_37 yq_Thief_stir (c_Thief_stir E.2.1 G v1 s.2 x1 hx1 _ (Nat.le_refl _)) kd_151 rfl rfl (by omega) rfl (Nat.le_of_ble_eq_true rfl) d_Thief_roam_21 rfl (fun M9 hq => ?_)
    rw [hq]
    refine V_aload_n (n := 2) X d_Thief_roam_24 rfl rfl rfl ?_
    refine V_aload_n (n := 2) X d_Thief_roam_25 rfl rfl rfl ?_
    refine V_getl X fo_Thief_18 kd_151 rfl d_Thief_roam_26 rfl ?_
    refine V_aload_n (n := 2) X d_Thief_roam_29 rfl rfl rfl ?_
    refine V_getr (k2 := 152) X fo_Thief_9 kd_151 rfl rf_151_0 d_Thief_roam_30 rfl ?_
    refine V_iconst (v := 0) X d_Thief_roam_33 (by decide) rfl ?_
    refine V_lald X kd_152 (inb_in ln_152 (by decide)) d_Thief_roam_34 rfl ?_
    refine V_ldc2_w (v := -1) X d_Thief_roam_35 kc_Thief_25 rfl ?_
    refine V_lxor X d_Thief_roam_38 rfl ?_
    refine V_land X d_Thief_roam_39 rfl ?_
    refine V_lload_n (n := 1) X d_Thief_roam_40 rfl rfl rfl ?_
    refine V_lor X d_Thief_roam_41 rfl ?_
    obtain ⟨M2, eM2, h⟩ := memS h
    refine V_putl X fp_Thief_18 kd_151 rfl d_Thief_roam_42 rfl ?_
    rw [← eM2]
    refine V_aload_n (n := 2) X d_Thief_roam_45 rfl rfl rfl ?_
    refine V_aload_n (n := 2) X d_Thief_roam_46 rfl rfl rfl ?_
    refine V_getl X fo_Thief_22 kd_151 rfl d_Thief_roam_47 rfl ?_
    refine V_aload_n (n := 2) X d_Thief_roam_50 rfl rfl rfl ?_
    refine V_getr (k2 := 153) X fo_Thief_15 kd_151 rfl rf_151_1 d_Thief_roam_51 rfl ?_
    refine V_iconst (v := 0) X d_Thief_roam_54 (by decide) rfl ?_
    refine V_lald X kd_153 (inb_in ln_153 (by decide)) d_Thief_roam_55 rfl ?_
    refine V_ldc2_w (v := -1) X d_Thief_roam_56 kc_Thief_25 rfl ?_
    refine V_lxor X d_Thief_roam_59 rfl ?_
    refine V_land X d_Thief_roam_60 rfl ?_
    refine V_lload (n := 0) X d_Thief_roam_61 rfl rfl ?_
    refine V_lor X d_Thief_roam_63 rfl ?_
    obtain ⟨M3, eM3, h⟩ := memS h
    refine V_putl X fp_Thief_22 kd_151 rfl d_Thief_roam_64 rfl ?_
    rw [← eM3]
    refine V_aload_n (n := 2) X d_Thief_roam_67 rfl rfl rfl ?_
    refine V_getl X fo_Thief_18 kd_151 rfl d_Thief_roam_68 rfl ?_
    refine V_lload_n (n := 1) X d_Thief_roam_71 rfl rfl rfl ?_
    refine V_lcmp X d_Thief_roam_72 rfl ?_
    refine V_if_ne (tgt := 87) X d_Thief_roam_73 (by decide) rfl (fun c5 => ?_) (fun c5 => ?_)
    · rw [if_neg c5] at h
      refine V_iinc (n := 4) (v := (s.1 + (1 : Int32))) (lv' := [(2, .int (s.1 + (1 : Int32))), (5, .long (s.2.2.1 151 3)), (3, .long (s.2.2.1 151 2)), (0, .ref (G.2.2 + 151)), (1, .ref (G.2.2 + v1))]) X d_Thief_roam_87 rfl rfl (by decide) rfl rfl ?_
      refine V_goto (pc' := 2) X d_Thief_roam_90 (by decide) ?_
      refine V_sub (lv' := [(0, .ref (G.2.2 + 151)), (1, .ref (G.2.2 + v1)), (2, .int (s.1 + (1 : Int32)))]) [3, 4, 0] rfl ?_
      exact kc ((s.1 + (1 : Int32)), M3) (Option.some.inj h).symm
    · rw [if_pos c5] at h
      refine V_aload_n (n := 2) X d_Thief_roam_76 rfl rfl rfl ?_
      refine V_getl X fo_Thief_22 kd_151 rfl d_Thief_roam_77 rfl ?_
      refine V_lload (n := 0) X d_Thief_roam_80 rfl rfl ?_
      refine V_lcmp X d_Thief_roam_82 rfl ?_
      refine V_if_ne (tgt := 87) X d_Thief_roam_83 (by decide) rfl (fun c4 => ?_) (fun c4 => ?_)
      · rw [if_neg c4] at h
        refine V_iinc (n := 4) (v := (s.1 + (1 : Int32))) (lv' := [(2, .int (s.1 + (1 : Int32))), (5, .long (s.2.2.1 151 3)), (3, .long (s.2.2.1 151 2)), (0, .ref (G.2.2 + 151)), (1, .ref (G.2.2 + v1))]) X d_Thief_roam_87 rfl rfl (by decide) rfl rfl ?_
        refine V_goto (pc' := 2) X d_Thief_roam_90 (by decide) ?_
        refine V_sub (lv' := [(0, .ref (G.2.2 + 151)), (1, .ref (G.2.2 + v1)), (2, .int (s.1 + (1 : Int32)))]) [3, 4, 0] rfl ?_
        exact kc ((s.1 + (1 : Int32)), M3) (Option.some.inj h).symm
      · rw [if_pos c4] at h
        refine V_sub (lv' := []) [] rfl ?_
        exact kx1 M3 (Option.some.inj h).symm
theorem lp_Thief_roam_2_ok {E : Ev} {G : Gw} {d : Nat} {post : Mem → Prop} (X : Cx E G b_Thief_roam "WomenByTheRoofs$Thief" 7 d none) (hD : 3 ≤ d)  (v1 : Nat) (hk_v1 : kd v1 = 10 + 6)  (n9 : Nat) (s : Int32 × Mem) (x : (Mem) ⊕ (Mem)) (h : iter (lb_Thief_roam_2 v1) n9 s = some x) (kx0 : ∀ x9 : Mem, x = (Sum.inl x9) → V E (0, 0) G 7 (QV E G post) x9 93 [] []) (kx1 : ∀ x9 : Mem, x = (Sum.inr x9) → V E (0, 0) G 7 (QV E G post) x9 86 [] []) : V E (0, 0) G 7 (QV E G post) s.2 2 [(0, .ref (G.2.2 + 151)), (1, .ref (G.2.2 + v1)), (2, .int s.1)] [] :=
  iter_P (P := fun s : Int32 × Mem => V E (0, 0) G 7 (QV E G post) s.2 2 [(0, .ref (G.2.2 + 151)), (1, .ref (G.2.2 + v1)), (2, .int s.1)] []) (fun s o hb kc ky => lb_Thief_roam_2_ok X hD v1 hk_v1 s o hb kc (fun x9 e9 => kx0 x9 (ky _ e9).symm) (fun x9 e9 => kx1 x9 (ky _ e9).symm)) n9 s h
def f_Thief_roam (v1 : Nat) (M : Mem) : Option (Mem) :=
  if kd v1 = 10 + 6 then
  Option.bind (iter (lb_Thief_roam_2 v1) FU ((0 : Int32), M)) (Sum.elim (fun y8 => some y8) (fun y9 => some y9))
  else none
theorem c_Thief_roam (l : Launch) (G : Gw)  (v1 : Nat) (M : Mem) (x : Mem) (h : f_Thief_roam v1 M = some x) (d : Nat) (hD : 3 ≤ d) : Cv l G y_Thief_roam b_Thief_roam 7 none d [.ref (G.2.2 + 151), .ref (G.2.2 + v1)] M (fun M9 => M9 = x) := by
  refine Cv_of (by decide) (Nat.le_of_ble_eq_true rfl) (fun E hE X => ?_)
  subst hE
  have kr : ∀ x9 : Mem, x = x9 → (fun M9 => M9 = x) x9 := fun x9 e9 => by subst e9; exact rfl
  unfold f_Thief_roam at h
  obtain ⟨hk_v1, h⟩ := ifn h
  refine V_iconst (v := 0) X d_Thief_roam_0 (by decide) rfl ?_
  refine V_istore_n (lv' := [(2, .int (0 : Int32)), (0, .ref (G.2.2 + 151)), (1, .ref (G.2.2 + v1))]) X d_Thief_roam_1 rfl (by decide) rfl rfl ?_
  refine V_sub (lv' := [(0, .ref (G.2.2 + 151)), (1, .ref (G.2.2 + v1)), (2, .int (0 : Int32))]) [1, 2, 0] rfl ?_
  obtain ⟨x7, hx7, h⟩ := ob_s h
  rcases x7 with y8 | y9
  · simp only [Sum.elim_inl, Sum.elim_inr] at h
    refine (lp_Thief_roam_2_ok X hD v1 hk_v1 _ _ _ hx7 (fun x9 e9 => ?_) (fun x9 e9 => by cases e9) :)
    cases e9
    exact V_vret X (kr y8 (Option.some.inj h).symm) d_Thief_roam_93
  · simp only [Sum.elim_inl, Sum.elim_inr] at h
    refine (lp_Thief_roam_2_ok X hD v1 hk_v1 _ _ _ hx7 (fun x9 e9 => by cases e9) (fun x9 e9 => ?_) :)
    cases e9
    exact V_vret X (kr y9 (Option.some.inj h).symm) d_Thief_roam_86
def j_Thief_isIn_16 (v2 : Int32) (w0 : Int64) (M : Mem) : Option (Int32) :=
  if (lg_cmp ((w0 >>> (v2.toInt64 &&& 63)) &&& (1 : Int64)) (0 : Int64)) = 0 then
  some (0 : Int32)
  else
  some (1 : Int32)
theorem j_Thief_isIn_16_ok {E : Ev} {G : Gw} {d : Nat} {post : Int32 → Mem → Prop} (X : Cx E G b_Thief_isIn "WomenByTheRoofs$Thief" 3 d (some .boolean)) (hD : 1 ≤ d)  (v2 : Int32) (w0 : Int64)  (M : Mem)  (o : Int32) (h : j_Thief_isIn_16 v2 w0 M = some o) (kr : ∀ x9 : Int32, o = x9 → post x9 M) : V E (0, 0) G 3 (QI E G post) M 16 [(2, .int v2)] [.long w0] := by
  unfold j_Thief_isIn_16 at h
  refine V_iload_n (n := 0) X d_Thief_isIn_16 rfl rfl rfl ?_
  refine V_lshr X d_Thief_isIn_17 rfl ?_
  refine V_lconst (v := 1) X d_Thief_isIn_18 (by decide) rfl ?_
  refine V_land X d_Thief_isIn_19 rfl ?_
  refine V_lconst (v := 0) X d_Thief_isIn_20 (by decide) rfl ?_
  refine V_lcmp X d_Thief_isIn_21 rfl ?_
  refine V_if_eq (tgt := 29) X d_Thief_isIn_22 (by decide) rfl (fun c1 => ?_) (fun c1 => ?_)
  · rw [if_pos c1] at h
    refine V_iconst (v := 0) X d_Thief_isIn_29 (by decide) rfl ?_
    exact V_zret X (kr (0 : Int32) (Option.some.inj h).symm) (by decide) d_Thief_isIn_30
  · rw [if_neg c1] at h
    refine V_iconst (v := 1) X d_Thief_isIn_25 (by decide) rfl ?_
    refine V_goto (pc' := 30) X d_Thief_isIn_26 (by decide) ?_
    exact V_zret X (kr (1 : Int32) (Option.some.inj h).symm) (by decide) d_Thief_isIn_30
def f_Thief_isIn (v1 : Int32) (v2 : Int32) (M : Mem) : Option (Int32) :=
  if v1 = (1 : Int32) then
  j_Thief_isIn_16 v2 (M.2.1 151 3) M
  else
  j_Thief_isIn_16 v2 (M.2.1 151 2) M
theorem c_Thief_isIn (l : Launch) (G : Gw)  (v1 : Int32) (v2 : Int32) (M : Mem) (x : Int32) (h : f_Thief_isIn v1 v2 M = some x) (d : Nat) (hD : 1 ≤ d) : Ci l G y_Thief_isIn b_Thief_isIn 3 (some .boolean) d [.ref (G.2.2 + 151), .int v1, .int v2] M (fun r9 M9 => r9 = x ∧ M9 = M) := by
  refine Ci_of (by decide) (Nat.le_of_ble_eq_true rfl) (fun E hE X => ?_)
  subst hE
  have kr : ∀ x9 : Int32, x = x9 → (fun r9 M9 => r9 = x ∧ M9 = M) x9 M := fun x9 e9 => by subst e9; exact ⟨rfl, rfl⟩
  unfold f_Thief_isIn at h
  refine V_iload_n (n := 1) X d_Thief_isIn_0 rfl rfl rfl ?_
  refine V_iconst (v := 1) X d_Thief_isIn_1 (by decide) rfl ?_
  refine V_icmp_ne (tgt := 12) X d_Thief_isIn_2 (by decide) rfl (fun c2 => ?_) (fun c2 => ?_)
  · rw [if_neg c2] at h
    refine V_aload_n (n := 0) X d_Thief_isIn_12 rfl rfl rfl ?_
    refine V_getl X fo_Thief_18 kd_151 rfl d_Thief_isIn_13 rfl ?_
    refine V_sub (lv' := [(2, .int v2)]) [2] rfl ?_
    exact j_Thief_isIn_16_ok X hD v2 (M.2.1 151 2) M _ h kr
  · rw [if_pos c2] at h
    refine V_aload_n (n := 0) X d_Thief_isIn_5 rfl rfl rfl ?_
    refine V_getl X fo_Thief_22 kd_151 rfl d_Thief_isIn_6 rfl ?_
    refine V_goto (pc' := 16) X d_Thief_isIn_9 (by decide) ?_
    refine V_sub (lv' := [(2, .int v2)]) [2] rfl ?_
    exact j_Thief_isIn_16_ok X hD v2 (M.2.1 151 3) M _ h kr
