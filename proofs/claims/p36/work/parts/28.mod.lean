theorem d_Mod_watch_0 : decode b_Mod_watch 0 = .ok (.aload_n 0, 1) := kq_42 byq_r (by decide +kernel)
theorem d_Mod_watch_1 : decode b_Mod_watch 1 = .ok (.iconst 0, 1) := kq_3 byq_r (by decide +kernel)
theorem d_Mod_watch_2 : decode b_Mod_watch 2 = .ok (.putfield 109, 3) := kq_181 byq_r (a := 0) (b := 109) (by decide +kernel)
theorem d_Mod_watch_5 : decode b_Mod_watch 5 = .ok (.aload_n 0, 1) := kq_42 byq_r (by decide +kernel)
theorem d_Mod_watch_6 : decode b_Mod_watch 6 = .ok (.iload_n 2, 1) := kq_28 byq_r (by decide +kernel)
theorem d_Mod_watch_7 : decode b_Mod_watch 7 = .ok (.iload_n 1, 1) := kq_27 byq_r (by decide +kernel)
theorem d_Mod_watch_8 : decode b_Mod_watch 8 = .ok (.invokevirtual 374, 3) := kq_182 byq_r (a := 1) (b := 118) (by decide +kernel)
theorem d_Mod_watch_11 : decode b_Mod_watch 11 = .ok (.ifCond .eq 13, 3) := kq_153 byq_r (a := 0) (b := 13) (by decide +kernel)
theorem d_Mod_watch_14 : decode b_Mod_watch 14 = .ok (.aload_n 0, 1) := kq_42 byq_r (by decide +kernel)
theorem d_Mod_watch_15 : decode b_Mod_watch 15 = .ok (.iload 4, 2) := kq_21 byq_r (by decide +kernel)
theorem d_Mod_watch_17 : decode b_Mod_watch 17 = .ok (.iload_n 3, 1) := kq_29 byq_r (by decide +kernel)
theorem d_Mod_watch_18 : decode b_Mod_watch 18 = .ok (.invokevirtual 374, 3) := kq_182 byq_r (a := 1) (b := 118) (by decide +kernel)
theorem d_Mod_watch_21 : decode b_Mod_watch 21 = .ok (.ifCond .ne 5, 3) := kq_154 byq_r (a := 0) (b := 5) (by decide +kernel)
theorem d_Mod_watch_24 : decode b_Mod_watch 24 = .ok (.iconst (-1), 1) := kq_2 byq_r (by decide +kernel)
theorem d_Mod_watch_25 : decode b_Mod_watch 25 = .ok (.ireturn, 1) := kq_172 byq_r (by decide +kernel)
theorem d_Mod_watch_26 : decode b_Mod_watch 26 = .ok (.iconst (-1), 1) := kq_2 byq_r (by decide +kernel)
theorem d_Mod_watch_27 : decode b_Mod_watch 27 = .ok (.istore 5, 2) := kq_54 byq_r (by decide +kernel)
theorem d_Mod_watch_29 : decode b_Mod_watch 29 = .ok (.iconst 0, 1) := kq_3 byq_r (by decide +kernel)
theorem d_Mod_watch_30 : decode b_Mod_watch 30 = .ok (.istore 6, 2) := kq_54 byq_r (by decide +kernel)
theorem d_Mod_watch_32 : decode b_Mod_watch 32 = .ok (.iload 6, 2) := kq_21 byq_r (by decide +kernel)
theorem d_Mod_watch_34 : decode b_Mod_watch 34 = .ok (.iconst 1, 1) := kq_4 byq_r (by decide +kernel)
theorem d_Mod_watch_35 : decode b_Mod_watch 35 = .ok (.aload_n 0, 1) := kq_42 byq_r (by decide +kernel)
theorem d_Mod_watch_36 : decode b_Mod_watch 36 = .ok (.getfield 123, 3) := kq_180 byq_r (a := 0) (b := 123) (by decide +kernel)
theorem d_Mod_watch_39 : decode b_Mod_watch 39 = .ok (.ishl, 1) := kq_120 byq_r (by decide +kernel)
theorem d_Mod_watch_40 : decode b_Mod_watch 40 = .ok (.if_icmp .ge 55, 3) := kq_162 byq_r (a := 0) (b := 55) (by decide +kernel)
theorem d_Mod_watch_43 : decode b_Mod_watch 43 = .ok (.iload 5, 2) := kq_21 byq_r (by decide +kernel)
theorem d_Mod_watch_45 : decode b_Mod_watch 45 = .ok (.iconst (-1), 1) := kq_2 byq_r (by decide +kernel)
theorem d_Mod_watch_46 : decode b_Mod_watch 46 = .ok (.if_icmp .eq 19, 3) := kq_159 byq_r (a := 0) (b := 19) (by decide +kernel)
theorem d_Mod_watch_49 : decode b_Mod_watch 49 = .ok (.iload 6, 2) := kq_21 byq_r (by decide +kernel)
theorem d_Mod_watch_51 : decode b_Mod_watch 51 = .ok (.invokestatic 310, 3) := kq_184 byq_r (a := 1) (b := 54) (by decide +kernel)
theorem d_Mod_watch_54 : decode b_Mod_watch 54 = .ok (.iload 5, 2) := kq_21 byq_r (by decide +kernel)
theorem d_Mod_watch_56 : decode b_Mod_watch 56 = .ok (.invokestatic 310, 3) := kq_184 byq_r (a := 1) (b := 54) (by decide +kernel)
theorem d_Mod_watch_59 : decode b_Mod_watch 59 = .ok (.if_icmp .lt 6, 3) := kq_161 byq_r (a := 0) (b := 6) (by decide +kernel)
theorem d_Mod_watch_62 : decode b_Mod_watch 62 = .ok (.goto 27, 3) := kq_167 byq_r (a := 0) (b := 27) (by decide +kernel)
theorem d_Mod_watch_65 : decode b_Mod_watch 65 = .ok (.aload_n 0, 1) := kq_42 byq_r (by decide +kernel)
theorem d_Mod_watch_66 : decode b_Mod_watch 66 = .ok (.iload_n 2, 1) := kq_28 byq_r (by decide +kernel)
theorem d_Mod_watch_67 : decode b_Mod_watch 67 = .ok (.iload_n 1, 1) := kq_27 byq_r (by decide +kernel)
theorem d_Mod_watch_68 : decode b_Mod_watch 68 = .ok (.invokestatic 154, 3) := kq_184 byq_r (a := 0) (b := 154) (by decide +kernel)
theorem d_Mod_watch_71 : decode b_Mod_watch 71 = .ok (.iload 4, 2) := kq_21 byq_r (by decide +kernel)
theorem d_Mod_watch_73 : decode b_Mod_watch 73 = .ok (.iload_n 3, 1) := kq_29 byq_r (by decide +kernel)
theorem d_Mod_watch_74 : decode b_Mod_watch 74 = .ok (.invokestatic 154, 3) := kq_184 byq_r (a := 0) (b := 154) (by decide +kernel)
theorem d_Mod_watch_77 : decode b_Mod_watch 77 = .ok (.iload 6, 2) := kq_21 byq_r (by decide +kernel)
theorem d_Mod_watch_79 : decode b_Mod_watch 79 = .ok (.invokevirtual 423, 3) := kq_182 byq_r (a := 1) (b := 167) (by decide +kernel)
theorem d_Mod_watch_82 : decode b_Mod_watch 82 = .ok (.ifCond .ne 7, 3) := kq_154 byq_r (a := 0) (b := 7) (by decide +kernel)
theorem d_Mod_watch_85 : decode b_Mod_watch 85 = .ok (.iload 6, 2) := kq_21 byq_r (by decide +kernel)
theorem d_Mod_watch_87 : decode b_Mod_watch 87 = .ok (.istore 5, 2) := kq_54 byq_r (by decide +kernel)
theorem d_Mod_watch_89 : decode b_Mod_watch 89 = .ok (.iinc 6 1, 3) := kq_132 byq_r (b := 1) (by decide +kernel)
theorem d_Mod_watch_92 : decode b_Mod_watch 92 = .ok (.goto (-60), 3) := kq_167 byq_r (a := 255) (b := 196) (by decide +kernel)
theorem d_Mod_watch_95 : decode b_Mod_watch 95 = .ok (.iload 5, 2) := kq_21 byq_r (by decide +kernel)
theorem d_Mod_watch_97 : decode b_Mod_watch 97 = .ok (.iconst (-1), 1) := kq_2 byq_r (by decide +kernel)
theorem d_Mod_watch_98 : decode b_Mod_watch 98 = .ok (.if_icmp .ne 6, 3) := kq_160 byq_r (a := 0) (b := 6) (by decide +kernel)
theorem d_Mod_watch_101 : decode b_Mod_watch 101 = .ok (.bipush (-2), 2) := kq_16 byq_r (b := 254) (by decide +kernel)
theorem d_Mod_watch_103 : decode b_Mod_watch 103 = .ok (.ireturn, 1) := kq_172 byq_r (by decide +kernel)
theorem d_Mod_watch_104 : decode b_Mod_watch 104 = .ok (.aload_n 0, 1) := kq_42 byq_r (by decide +kernel)
theorem d_Mod_watch_105 : decode b_Mod_watch 105 = .ok (.iconst 0, 1) := kq_3 byq_r (by decide +kernel)
theorem d_Mod_watch_106 : decode b_Mod_watch 106 = .ok (.putfield 112, 3) := kq_181 byq_r (a := 0) (b := 112) (by decide +kernel)
theorem d_Mod_watch_109 : decode b_Mod_watch 109 = .ok (.aload_n 0, 1) := kq_42 byq_r (by decide +kernel)
theorem d_Mod_watch_110 : decode b_Mod_watch 110 = .ok (.iload 5, 2) := kq_21 byq_r (by decide +kernel)
theorem d_Mod_watch_112 : decode b_Mod_watch 112 = .ok (.invokevirtual 342, 3) := kq_182 byq_r (a := 1) (b := 86) (by decide +kernel)
theorem d_Mod_watch_115 : decode b_Mod_watch 115 = .ok (.iload 5, 2) := kq_21 byq_r (by decide +kernel)
theorem d_Mod_watch_117 : decode b_Mod_watch 117 = .ok (.invokestatic 310, 3) := kq_184 byq_r (a := 1) (b := 54) (by decide +kernel)
theorem d_Mod_watch_120 : decode b_Mod_watch 120 = .ok (.ireturn, 1) := kq_172 byq_r (by decide +kernel)
theorem d_Mod_keep_0 : decode b_Mod_keep 0 = .ok (.aload_n 0, 1) := kq_42 byq_r (by decide +kernel)
theorem d_Mod_keep_1 : decode b_Mod_keep 1 = .ok (.iconst 0, 1) := kq_3 byq_r (by decide +kernel)
theorem d_Mod_keep_2 : decode b_Mod_keep 2 = .ok (.putfield 109, 3) := kq_181 byq_r (a := 0) (b := 109) (by decide +kernel)
theorem d_Mod_keep_5 : decode b_Mod_keep 5 = .ok (.iload_n 1, 1) := kq_27 byq_r (by decide +kernel)
theorem d_Mod_keep_6 : decode b_Mod_keep 6 = .ok (.iconst 0, 1) := kq_3 byq_r (by decide +kernel)
theorem d_Mod_keep_7 : decode b_Mod_keep 7 = .ok (.iconst 1, 1) := kq_4 byq_r (by decide +kernel)
theorem d_Mod_keep_8 : decode b_Mod_keep 8 = .ok (.invokestatic 119, 3) := kq_184 byq_r (a := 0) (b := 119) (by decide +kernel)
theorem d_Mod_keep_11 : decode b_Mod_keep 11 = .ok (.ifCond .ne 5, 3) := kq_154 byq_r (a := 0) (b := 5) (by decide +kernel)
theorem d_Mod_keep_14 : decode b_Mod_keep 14 = .ok (.iconst 0, 1) := kq_3 byq_r (by decide +kernel)
theorem d_Mod_keep_15 : decode b_Mod_keep 15 = .ok (.ireturn, 1) := kq_172 byq_r (by decide +kernel)
theorem d_Mod_keep_16 : decode b_Mod_keep 16 = .ok (.aload_n 0, 1) := kq_42 byq_r (by decide +kernel)
theorem d_Mod_keep_17 : decode b_Mod_keep 17 = .ok (.getfield 103, 3) := kq_180 byq_r (a := 0) (b := 103) (by decide +kernel)
theorem d_Mod_keep_20 : decode b_Mod_keep 20 = .ok (.iload_n 1, 1) := kq_27 byq_r (by decide +kernel)
theorem d_Mod_keep_21 : decode b_Mod_keep 21 = .ok (.iconst 1, 1) := kq_4 byq_r (by decide +kernel)
theorem d_Mod_keep_22 : decode b_Mod_keep 22 = .ok (.bastore, 1) := kq_84 byq_r (by decide +kernel)
theorem d_Mod_keep_23 : decode b_Mod_keep 23 = .ok (.aload_n 0, 1) := kq_42 byq_r (by decide +kernel)
theorem d_Mod_keep_24 : decode b_Mod_keep 24 = .ok (.getfield 106, 3) := kq_180 byq_r (a := 0) (b := 106) (by decide +kernel)
theorem d_Mod_keep_27 : decode b_Mod_keep 27 = .ok (.iload_n 1, 1) := kq_27 byq_r (by decide +kernel)
theorem d_Mod_keep_28 : decode b_Mod_keep 28 = .ok (.aload_n 0, 1) := kq_42 byq_r (by decide +kernel)
theorem d_Mod_keep_29 : decode b_Mod_keep 29 = .ok (.getfield 210, 3) := kq_180 byq_r (a := 0) (b := 210) (by decide +kernel)
theorem d_Mod_keep_32 : decode b_Mod_keep 32 = .ok (.iastore, 1) := kq_79 byq_r (by decide +kernel)
theorem d_Mod_keep_33 : decode b_Mod_keep 33 = .ok (.aload_n 0, 1) := kq_42 byq_r (by decide +kernel)
theorem d_Mod_keep_34 : decode b_Mod_keep 34 = .ok (.getfield 9, 3) := kq_180 byq_r (a := 0) (b := 9) (by decide +kernel)
theorem d_Mod_keep_37 : decode b_Mod_keep 37 = .ok (.aload_n 0, 1) := kq_42 byq_r (by decide +kernel)
theorem d_Mod_keep_38 : decode b_Mod_keep 38 = .ok (.getfield 100, 3) := kq_180 byq_r (a := 0) (b := 100) (by decide +kernel)
theorem d_Mod_keep_41 : decode b_Mod_keep 41 = .ok (.bipush 96, 2) := kq_16 byq_r (b := 96) (by decide +kernel)
theorem d_Mod_keep_43 : decode b_Mod_keep 43 = .ok (.iload_n 1, 1) := kq_27 byq_r (by decide +kernel)
theorem d_Mod_keep_44 : decode b_Mod_keep 44 = .ok (.imul, 1) := kq_104 byq_r (by decide +kernel)
theorem d_Mod_keep_45 : decode b_Mod_keep 45 = .ok (.invokestatic 286, 3) := kq_184 byq_r (a := 1) (b := 30) (by decide +kernel)
theorem d_Mod_keep_48 : decode b_Mod_keep 48 = .ok (.iconst 1, 1) := kq_4 byq_r (by decide +kernel)
theorem d_Mod_keep_49 : decode b_Mod_keep 49 = .ok (.ireturn, 1) := kq_172 byq_r (by decide +kernel)
theorem d_Mod_again_0 : decode b_Mod_again 0 = .ok (.aload_n 0, 1) := kq_42 byq_r (by decide +kernel)
theorem d_Mod_again_1 : decode b_Mod_again 1 = .ok (.iconst 0, 1) := kq_3 byq_r (by decide +kernel)
theorem d_Mod_again_2 : decode b_Mod_again 2 = .ok (.putfield 109, 3) := kq_181 byq_r (a := 0) (b := 109) (by decide +kernel)
theorem d_Mod_again_5 : decode b_Mod_again 5 = .ok (.iload_n 1, 1) := kq_27 byq_r (by decide +kernel)
theorem d_Mod_again_6 : decode b_Mod_again 6 = .ok (.iconst 0, 1) := kq_3 byq_r (by decide +kernel)
theorem d_Mod_again_7 : decode b_Mod_again 7 = .ok (.iconst 1, 1) := kq_4 byq_r (by decide +kernel)
theorem d_Mod_again_8 : decode b_Mod_again 8 = .ok (.invokestatic 119, 3) := kq_184 byq_r (a := 0) (b := 119) (by decide +kernel)
theorem d_Mod_again_11 : decode b_Mod_again 11 = .ok (.ifCond .eq 25, 3) := kq_153 byq_r (a := 0) (b := 25) (by decide +kernel)
theorem d_Mod_again_14 : decode b_Mod_again 14 = .ok (.aload_n 0, 1) := kq_42 byq_r (by decide +kernel)
theorem d_Mod_again_15 : decode b_Mod_again 15 = .ok (.getfield 103, 3) := kq_180 byq_r (a := 0) (b := 103) (by decide +kernel)
theorem d_Mod_again_18 : decode b_Mod_again 18 = .ok (.iload_n 1, 1) := kq_27 byq_r (by decide +kernel)
theorem d_Mod_again_19 : decode b_Mod_again 19 = .ok (.baload, 1) := kq_51 byq_r (by decide +kernel)
theorem d_Mod_again_20 : decode b_Mod_again 20 = .ok (.ifCond .eq 16, 3) := kq_153 byq_r (a := 0) (b := 16) (by decide +kernel)
theorem d_Mod_again_23 : decode b_Mod_again 23 = .ok (.aload_n 0, 1) := kq_42 byq_r (by decide +kernel)
theorem d_Mod_again_24 : decode b_Mod_again 24 = .ok (.getfield 106, 3) := kq_180 byq_r (a := 0) (b := 106) (by decide +kernel)
theorem d_Mod_again_27 : decode b_Mod_again 27 = .ok (.iload_n 1, 1) := kq_27 byq_r (by decide +kernel)
theorem d_Mod_again_28 : decode b_Mod_again 28 = .ok (.iaload, 1) := kq_46 byq_r (by decide +kernel)
theorem d_Mod_again_29 : decode b_Mod_again 29 = .ok (.aload_n 0, 1) := kq_42 byq_r (by decide +kernel)
theorem d_Mod_again_30 : decode b_Mod_again 30 = .ok (.getfield 210, 3) := kq_180 byq_r (a := 0) (b := 210) (by decide +kernel)
theorem d_Mod_again_33 : decode b_Mod_again 33 = .ok (.if_icmp .eq 5, 3) := kq_159 byq_r (a := 0) (b := 5) (by decide +kernel)
theorem d_Mod_again_36 : decode b_Mod_again 36 = .ok (.iconst 0, 1) := kq_3 byq_r (by decide +kernel)
theorem d_Mod_again_37 : decode b_Mod_again 37 = .ok (.ireturn, 1) := kq_172 byq_r (by decide +kernel)
theorem d_Mod_again_38 : decode b_Mod_again 38 = .ok (.iconst 0, 1) := kq_3 byq_r (by decide +kernel)
theorem d_Mod_again_39 : decode b_Mod_again 39 = .ok (.istore_n 2, 1) := kq_61 byq_r (by decide +kernel)
theorem d_Mod_again_40 : decode b_Mod_again 40 = .ok (.iload_n 2, 1) := kq_28 byq_r (by decide +kernel)
theorem d_Mod_again_41 : decode b_Mod_again 41 = .ok (.bipush 96, 2) := kq_16 byq_r (b := 96) (by decide +kernel)
theorem d_Mod_again_43 : decode b_Mod_again 43 = .ok (.if_icmp .ge 26, 3) := kq_162 byq_r (a := 0) (b := 26) (by decide +kernel)
theorem d_Mod_again_46 : decode b_Mod_again 46 = .ok (.aload_n 0, 1) := kq_42 byq_r (by decide +kernel)
theorem d_Mod_again_47 : decode b_Mod_again 47 = .ok (.getfield 9, 3) := kq_180 byq_r (a := 0) (b := 9) (by decide +kernel)
theorem d_Mod_again_50 : decode b_Mod_again 50 = .ok (.iload_n 2, 1) := kq_28 byq_r (by decide +kernel)
theorem d_Mod_again_51 : decode b_Mod_again 51 = .ok (.aload_n 0, 1) := kq_42 byq_r (by decide +kernel)
theorem d_Mod_again_52 : decode b_Mod_again 52 = .ok (.getfield 100, 3) := kq_180 byq_r (a := 0) (b := 100) (by decide +kernel)
theorem d_Mod_again_55 : decode b_Mod_again 55 = .ok (.bipush 96, 2) := kq_16 byq_r (b := 96) (by decide +kernel)
theorem d_Mod_again_57 : decode b_Mod_again 57 = .ok (.iload_n 1, 1) := kq_27 byq_r (by decide +kernel)
theorem d_Mod_again_58 : decode b_Mod_again 58 = .ok (.imul, 1) := kq_104 byq_r (by decide +kernel)
theorem d_Mod_again_59 : decode b_Mod_again 59 = .ok (.iload_n 2, 1) := kq_28 byq_r (by decide +kernel)
theorem d_Mod_again_60 : decode b_Mod_again 60 = .ok (.iadd, 1) := kq_96 byq_r (by decide +kernel)
theorem d_Mod_again_61 : decode b_Mod_again 61 = .ok (.iaload, 1) := kq_46 byq_r (by decide +kernel)
theorem d_Mod_again_62 : decode b_Mod_again 62 = .ok (.iastore, 1) := kq_79 byq_r (by decide +kernel)
theorem d_Mod_again_63 : decode b_Mod_again 63 = .ok (.iinc 2 1, 3) := kq_132 byq_r (b := 1) (by decide +kernel)
theorem d_Mod_again_66 : decode b_Mod_again 66 = .ok (.goto (-26), 3) := kq_167 byq_r (a := 255) (b := 230) (by decide +kernel)
theorem d_Mod_again_69 : decode b_Mod_again 69 = .ok (.aload_n 0, 1) := kq_42 byq_r (by decide +kernel)
theorem d_Mod_again_70 : decode b_Mod_again 70 = .ok (.iconst 0, 1) := kq_3 byq_r (by decide +kernel)
theorem d_Mod_again_71 : decode b_Mod_again 71 = .ok (.putfield 201, 3) := kq_181 byq_r (a := 0) (b := 201) (by decide +kernel)
theorem d_Mod_again_74 : decode b_Mod_again 74 = .ok (.iconst 1, 1) := kq_4 byq_r (by decide +kernel)
theorem d_Mod_again_75 : decode b_Mod_again 75 = .ok (.ireturn, 1) := kq_172 byq_r (by decide +kernel)
theorem d_Mod_count_0 : decode b_Mod_count 0 = .ok (.aload_n 0, 1) := kq_42 byq_r (by decide +kernel)
theorem d_Mod_count_1 : decode b_Mod_count 1 = .ok (.iconst 0, 1) := kq_3 byq_r (by decide +kernel)
theorem d_Mod_count_2 : decode b_Mod_count 2 = .ok (.putfield 109, 3) := kq_181 byq_r (a := 0) (b := 109) (by decide +kernel)
theorem d_Mod_count_5 : decode b_Mod_count 5 = .ok (.iconst 0, 1) := kq_3 byq_r (by decide +kernel)
theorem d_Mod_count_6 : decode b_Mod_count 6 = .ok (.istore_n 2, 1) := kq_61 byq_r (by decide +kernel)
theorem d_Mod_count_7 : decode b_Mod_count 7 = .ok (.iload_n 1, 1) := kq_27 byq_r (by decide +kernel)
theorem d_Mod_count_8 : decode b_Mod_count 8 = .ok (.tableswitch 168 0 12 #[68, 73, 78, 83, 91, 99, 104, 112, 120, 148, 153, 158, 163], 68) := by decide +kernel
theorem d_Mod_count_76 : decode b_Mod_count 76 = .ok (.aload_n 0, 1) := kq_42 byq_r (by decide +kernel)
theorem d_Mod_count_77 : decode b_Mod_count 77 = .ok (.invokevirtual 115, 3) := kq_182 byq_r (a := 0) (b := 115) (by decide +kernel)
theorem d_Mod_count_80 : decode b_Mod_count 80 = .ok (.ireturn, 1) := kq_172 byq_r (by decide +kernel)
theorem d_Mod_count_81 : decode b_Mod_count 81 = .ok (.aload_n 0, 1) := kq_42 byq_r (by decide +kernel)
theorem d_Mod_count_82 : decode b_Mod_count 82 = .ok (.getfield 16, 3) := kq_180 byq_r (a := 0) (b := 16) (by decide +kernel)
theorem d_Mod_count_85 : decode b_Mod_count 85 = .ok (.ireturn, 1) := kq_172 byq_r (by decide +kernel)
theorem d_Mod_count_86 : decode b_Mod_count 86 = .ok (.aload_n 0, 1) := kq_42 byq_r (by decide +kernel)
theorem d_Mod_count_87 : decode b_Mod_count 87 = .ok (.getfield 123, 3) := kq_180 byq_r (a := 0) (b := 123) (by decide +kernel)
theorem d_Mod_count_90 : decode b_Mod_count 90 = .ok (.ireturn, 1) := kq_172 byq_r (by decide +kernel)
theorem d_Mod_count_91 : decode b_Mod_count 91 = .ok (.aload_n 0, 1) := kq_42 byq_r (by decide +kernel)
theorem d_Mod_count_92 : decode b_Mod_count 92 = .ok (.getfield 9, 3) := kq_180 byq_r (a := 0) (b := 9) (by decide +kernel)
theorem d_Mod_count_95 : decode b_Mod_count 95 = .ok (.bipush 95, 2) := kq_16 byq_r (b := 95) (by decide +kernel)
theorem d_Mod_count_97 : decode b_Mod_count 97 = .ok (.iaload, 1) := kq_46 byq_r (by decide +kernel)
theorem d_Mod_count_98 : decode b_Mod_count 98 = .ok (.ireturn, 1) := kq_172 byq_r (by decide +kernel)
theorem d_Mod_count_99 : decode b_Mod_count 99 = .ok (.aload_n 0, 1) := kq_42 byq_r (by decide +kernel)
theorem d_Mod_count_100 : decode b_Mod_count 100 = .ok (.getfield 9, 3) := kq_180 byq_r (a := 0) (b := 9) (by decide +kernel)
theorem d_Mod_count_103 : decode b_Mod_count 103 = .ok (.bipush 92, 2) := kq_16 byq_r (b := 92) (by decide +kernel)
theorem d_Mod_count_105 : decode b_Mod_count 105 = .ok (.iaload, 1) := kq_46 byq_r (by decide +kernel)
theorem d_Mod_count_106 : decode b_Mod_count 106 = .ok (.ireturn, 1) := kq_172 byq_r (by decide +kernel)
theorem d_Mod_count_107 : decode b_Mod_count 107 = .ok (.aload_n 0, 1) := kq_42 byq_r (by decide +kernel)
theorem d_Mod_count_108 : decode b_Mod_count 108 = .ok (.getfield 130, 3) := kq_180 byq_r (a := 0) (b := 130) (by decide +kernel)
theorem d_Mod_count_111 : decode b_Mod_count 111 = .ok (.ireturn, 1) := kq_172 byq_r (by decide +kernel)
theorem d_Mod_count_112 : decode b_Mod_count 112 = .ok (.aload_n 0, 1) := kq_42 byq_r (by decide +kernel)
theorem d_Mod_count_113 : decode b_Mod_count 113 = .ok (.getfield 9, 3) := kq_180 byq_r (a := 0) (b := 9) (by decide +kernel)
theorem d_Mod_count_116 : decode b_Mod_count 116 = .ok (.bipush 93, 2) := kq_16 byq_r (b := 93) (by decide +kernel)
theorem d_Mod_count_118 : decode b_Mod_count 118 = .ok (.iaload, 1) := kq_46 byq_r (by decide +kernel)
theorem d_Mod_count_119 : decode b_Mod_count 119 = .ok (.ireturn, 1) := kq_172 byq_r (by decide +kernel)
theorem d_Mod_count_120 : decode b_Mod_count 120 = .ok (.aload_n 0, 1) := kq_42 byq_r (by decide +kernel)
theorem d_Mod_count_121 : decode b_Mod_count 121 = .ok (.getfield 9, 3) := kq_180 byq_r (a := 0) (b := 9) (by decide +kernel)
theorem d_Mod_count_124 : decode b_Mod_count 124 = .ok (.bipush 94, 2) := kq_16 byq_r (b := 94) (by decide +kernel)
theorem d_Mod_count_126 : decode b_Mod_count 126 = .ok (.iaload, 1) := kq_46 byq_r (by decide +kernel)
theorem d_Mod_count_127 : decode b_Mod_count 127 = .ok (.ireturn, 1) := kq_172 byq_r (by decide +kernel)
theorem d_Mod_count_128 : decode b_Mod_count 128 = .ok (.iconst 0, 1) := kq_3 byq_r (by decide +kernel)
theorem d_Mod_count_129 : decode b_Mod_count 129 = .ok (.istore_n 3, 1) := kq_62 byq_r (by decide +kernel)
theorem d_Mod_count_130 : decode b_Mod_count 130 = .ok (.iload_n 3, 1) := kq_29 byq_r (by decide +kernel)
theorem d_Mod_count_131 : decode b_Mod_count 131 = .ok (.aload_n 0, 1) := kq_42 byq_r (by decide +kernel)
theorem d_Mod_count_132 : decode b_Mod_count 132 = .ok (.getfield 123, 3) := kq_180 byq_r (a := 0) (b := 123) (by decide +kernel)
theorem d_Mod_count_135 : decode b_Mod_count 135 = .ok (.if_icmp .ge 17, 3) := kq_162 byq_r (a := 0) (b := 17) (by decide +kernel)
theorem d_Mod_count_138 : decode b_Mod_count 138 = .ok (.iload_n 2, 1) := kq_28 byq_r (by decide +kernel)
theorem d_Mod_count_139 : decode b_Mod_count 139 = .ok (.aload_n 0, 1) := kq_42 byq_r (by decide +kernel)
theorem d_Mod_count_140 : decode b_Mod_count 140 = .ok (.iload_n 3, 1) := kq_29 byq_r (by decide +kernel)
theorem d_Mod_count_141 : decode b_Mod_count 141 = .ok (.invokevirtual 265, 3) := kq_182 byq_r (a := 1) (b := 9) (by decide +kernel)
theorem d_Mod_count_144 : decode b_Mod_count 144 = .ok (.iadd, 1) := kq_96 byq_r (by decide +kernel)
theorem d_Mod_count_145 : decode b_Mod_count 145 = .ok (.istore_n 2, 1) := kq_61 byq_r (by decide +kernel)
theorem d_Mod_count_146 : decode b_Mod_count 146 = .ok (.iinc 3 1, 3) := kq_132 byq_r (b := 1) (by decide +kernel)
theorem d_Mod_count_149 : decode b_Mod_count 149 = .ok (.goto (-19), 3) := kq_167 byq_r (a := 255) (b := 237) (by decide +kernel)
theorem d_Mod_count_152 : decode b_Mod_count 152 = .ok (.iload_n 2, 1) := kq_28 byq_r (by decide +kernel)
theorem d_Mod_count_153 : decode b_Mod_count 153 = .ok (.iconst 2, 1) := kq_5 byq_r (by decide +kernel)
theorem d_Mod_count_154 : decode b_Mod_count 154 = .ok (.idiv, 1) := kq_108 byq_r (by decide +kernel)
theorem d_Mod_count_155 : decode b_Mod_count 155 = .ok (.ireturn, 1) := kq_172 byq_r (by decide +kernel)
theorem d_Mod_count_156 : decode b_Mod_count 156 = .ok (.aload_n 0, 1) := kq_42 byq_r (by decide +kernel)
theorem d_Mod_count_157 : decode b_Mod_count 157 = .ok (.getfield 29, 3) := kq_180 byq_r (a := 0) (b := 29) (by decide +kernel)
theorem d_Mod_count_160 : decode b_Mod_count 160 = .ok (.ireturn, 1) := kq_172 byq_r (by decide +kernel)
theorem d_Mod_count_161 : decode b_Mod_count 161 = .ok (.aload_n 0, 1) := kq_42 byq_r (by decide +kernel)
theorem d_Mod_count_162 : decode b_Mod_count 162 = .ok (.getfield 201, 3) := kq_180 byq_r (a := 0) (b := 201) (by decide +kernel)
theorem d_Mod_count_165 : decode b_Mod_count 165 = .ok (.ireturn, 1) := kq_172 byq_r (by decide +kernel)
theorem d_Mod_count_166 : decode b_Mod_count 166 = .ok (.aload_n 0, 1) := kq_42 byq_r (by decide +kernel)
theorem d_Mod_count_167 : decode b_Mod_count 167 = .ok (.getfield 112, 3) := kq_180 byq_r (a := 0) (b := 112) (by decide +kernel)
theorem d_Mod_count_170 : decode b_Mod_count 170 = .ok (.ireturn, 1) := kq_172 byq_r (by decide +kernel)
theorem d_Mod_count_171 : decode b_Mod_count 171 = .ok (.aload_n 0, 1) := kq_42 byq_r (by decide +kernel)
theorem d_Mod_count_172 : decode b_Mod_count 172 = .ok (.getfield 161, 3) := kq_180 byq_r (a := 0) (b := 161) (by decide +kernel)
theorem d_Mod_count_175 : decode b_Mod_count 175 = .ok (.ireturn, 1) := kq_172 byq_r (by decide +kernel)
theorem d_Mod_count_176 : decode b_Mod_count 176 = .ok (.bipush (-100), 2) := kq_16 byq_r (b := 156) (by decide +kernel)
theorem d_Mod_count_178 : decode b_Mod_count 178 = .ok (.ireturn, 1) := kq_172 byq_r (by decide +kernel)
theorem d_Mod_row_0 : decode b_Mod_row 0 = .ok (.aload_n 0, 1) := kq_42 byq_r (by decide +kernel)
theorem d_Mod_row_1 : decode b_Mod_row 1 = .ok (.iconst 0, 1) := kq_3 byq_r (by decide +kernel)
theorem d_Mod_row_2 : decode b_Mod_row 2 = .ok (.putfield 109, 3) := kq_181 byq_r (a := 0) (b := 109) (by decide +kernel)
theorem d_Mod_row_5 : decode b_Mod_row 5 = .ok (.iload_n 1, 1) := kq_27 byq_r (by decide +kernel)
theorem d_Mod_row_6 : decode b_Mod_row 6 = .ok (.iconst 0, 1) := kq_3 byq_r (by decide +kernel)
theorem d_Mod_row_7 : decode b_Mod_row 7 = .ok (.aload_n 0, 1) := kq_42 byq_r (by decide +kernel)
theorem d_Mod_row_8 : decode b_Mod_row 8 = .ok (.getfield 112, 3) := kq_180 byq_r (a := 0) (b := 112) (by decide +kernel)
theorem d_Mod_row_11 : decode b_Mod_row 11 = .ok (.iconst 1, 1) := kq_4 byq_r (by decide +kernel)
theorem d_Mod_row_12 : decode b_Mod_row 12 = .ok (.isub, 1) := kq_100 byq_r (by decide +kernel)
theorem d_Mod_row_13 : decode b_Mod_row 13 = .ok (.invokestatic 119, 3) := kq_184 byq_r (a := 0) (b := 119) (by decide +kernel)
theorem d_Mod_row_16 : decode b_Mod_row 16 = .ok (.ifCond .eq 12, 3) := kq_153 byq_r (a := 0) (b := 12) (by decide +kernel)
theorem d_Mod_row_19 : decode b_Mod_row 19 = .ok (.aload_n 0, 1) := kq_42 byq_r (by decide +kernel)
theorem d_Mod_row_20 : decode b_Mod_row 20 = .ok (.getfield 36, 3) := kq_180 byq_r (a := 0) (b := 36) (by decide +kernel)
theorem d_Mod_row_23 : decode b_Mod_row 23 = .ok (.iload_n 1, 1) := kq_27 byq_r (by decide +kernel)
theorem d_Mod_row_24 : decode b_Mod_row 24 = .ok (.iaload, 1) := kq_46 byq_r (by decide +kernel)
theorem d_Mod_row_25 : decode b_Mod_row 25 = .ok (.goto 7, 3) := kq_167 byq_r (a := 0) (b := 7) (by decide +kernel)
theorem d_Mod_row_28 : decode b_Mod_row 28 = .ok (.aload_n 0, 1) := kq_42 byq_r (by decide +kernel)
theorem d_Mod_row_29 : decode b_Mod_row 29 = .ok (.invokevirtual 256, 3) := kq_182 byq_r (a := 1) (b := 0) (by decide +kernel)
theorem d_Mod_row_32 : decode b_Mod_row 32 = .ok (.ireturn, 1) := kq_172 byq_r (by decide +kernel)
def j_Mod_watch_65_32 (v1 : Int32) (v2 : Int32) (v3 : Int32) (v4 : Int32) (v5 : Int32) (v6 : Int32) (M : Mem) : Option ((Int32 × Int32 × Mem) ⊕ ((Int32 × Mem))) :=
  Option.bind (f_Mod_placeOf v2 v1) fun x4 =>
  Option.bind (f_Mod_placeOf v4 v3) fun x5 =>
  Option.bind (f_Mod_gets x4 x5 v6 M) fun x6 =>
  if x6.1 = 0 then
  some (.inl (v6, (v6 + (1 : Int32)), x6.2))
  else
  some (.inl (v5, (v6 + (1 : Int32)), x6.2))
theorem j_Mod_watch_65_32_ok {E : Ev} {G : Gw} {d : Nat} {post : Int32 → Mem → Prop} (X : Cx E G b_Mod_watch "WomenByTheRoofsModel" 7 d (some .int)) (hD : 6 ≤ d)  (v1 : Int32) (v2 : Int32) (v3 : Int32) (v4 : Int32) (v5 : Int32) (v6 : Int32)  (M : Mem)  (o : (Int32 × Int32 × Mem) ⊕ ((Int32 × Mem))) (h : j_Mod_watch_65_32 v1 v2 v3 v4 v5 v6 M = some o) (kc : ∀ s9 : Int32 × Int32 × Mem, o = .inl s9 → V E (0, 0) G 7 (QI E G post) s9.2.2 32 [(0, .ref (G.2.2 + 162)), (1, .int v1), (2, .int v2), (3, .int v3), (4, .int v4), (5, .int s9.1), (6, .int s9.2.1)] []) (kx0 : ∀ x9 : Int32 × Mem, o = .inr x9 → V E (0, 0) G 7 (QI E G post) x9.2 95 [(0, .ref (G.2.2 + 162)), (5, .int x9.1)] []) : V E (0, 0) G 7 (QI E G post) M 65 [(0, .ref (G.2.2 + 162)), (1, .int v1), (2, .int v2), (3, .int v3), (4, .int v4), (5, .int v5), (6, .int v6)] [] := by
  unfold j_Mod_watch_65_32 at h
  refine V_aload_n (n := 0) X d_Mod_watch_65 rfl rfl rfl ?_
  refine V_iload_n (n := 2) X d_Mod_watch_66 rfl rfl rfl ?_
  refine V_iload_n (n := 1) X d_Mod_watch_67 rfl rfl rfl ?_
  obtain ⟨x4, hx4, h⟩ := ob_s h
  refine V_si (As := [.int v2, .int v1]) X (Z0 E) ml_Mod_154 yq_Mod_placeOf (c_Mod_placeOf E.2.1 G v2 v1 M x4 hx4 _ (Nat.le_refl _)) rfl (by omega) rfl (Nat.le_of_ble_eq_true rfl) d_Mod_watch_68 rfl (fun r9 M9 hq => ?_)
  rw [hq.1, hq.2]
  refine V_iload (n := 4) X d_Mod_watch_71 rfl rfl ?_
  refine V_iload_n (n := 3) X d_Mod_watch_73 rfl rfl rfl ?_
  obtain ⟨x5, hx5, h⟩ := ob_s h
  refine V_si (As := [.int v4, .int v3]) X (Z0 E) ml_Mod_154 yq_Mod_placeOf (c_Mod_placeOf E.2.1 G v4 v3 M x5 hx5 _ (Nat.le_refl _)) rfl (by omega) rfl (Nat.le_of_ble_eq_true rfl) d_Mod_watch_74 rfl (fun r9 M9 hq => ?_)
  rw [hq.1, hq.2]
  refine V_iload (n := 6) X d_Mod_watch_77 rfl rfl ?_
  obtain ⟨x6, hx6, h⟩ := ob_s h
  refine V_ci (As := [.int x4, .int x5, .int v6]) X (Z0 E) ml_Mod_423 yq_Mod_gets (c_Mod_gets E.2.1 G x4 x5 v6 M x6 hx6 _ (Nat.le_refl _)) kd_162 rfl rfl (by omega) rfl (Nat.le_of_ble_eq_true rfl) d_Mod_watch_79 rfl (fun r9 M9 hq => ?_)
  rw [hq.1, hq.2]
  refine V_if_ne (tgt := 89) X d_Mod_watch_82 (by decide) rfl (fun c7 => ?_) (fun c7 => ?_)
  · rw [if_neg c7] at h
    refine V_iinc (n := 6) (v := (v6 + (1 : Int32))) (lv' := [(6, .int (v6 + (1 : Int32))), (0, .ref (G.2.2 + 162)), (1, .int v1), (2, .int v2), (3, .int v3), (4, .int v4), (5, .int v5)]) X d_Mod_watch_89 rfl rfl (by decide) rfl rfl ?_
    refine V_goto (pc' := 32) X d_Mod_watch_92 (by decide) ?_
    refine V_sub (lv' := [(0, .ref (G.2.2 + 162)), (1, .int v1), (2, .int v2), (3, .int v3), (4, .int v4), (5, .int v5), (6, .int (v6 + (1 : Int32)))]) [1, 2, 3, 4, 5, 6, 0] rfl ?_
    exact kc (v5, (v6 + (1 : Int32)), x6.2) (Option.some.inj h).symm
  · rw [if_pos c7] at h
    refine V_iload (n := 6) X d_Mod_watch_85 rfl rfl ?_
    refine V_istore (lv' := [(5, .int v6), (0, .ref (G.2.2 + 162)), (1, .int v1), (2, .int v2), (3, .int v3), (4, .int v4), (6, .int v6)]) X d_Mod_watch_87 (by decide) rfl rfl ?_
    refine V_iinc (n := 6) (v := (v6 + (1 : Int32))) (lv' := [(6, .int (v6 + (1 : Int32))), (5, .int v6), (0, .ref (G.2.2 + 162)), (1, .int v1), (2, .int v2), (3, .int v3), (4, .int v4)]) X d_Mod_watch_89 rfl rfl (by decide) rfl rfl ?_
    refine V_goto (pc' := 32) X d_Mod_watch_92 (by decide) ?_
    refine V_sub (lv' := [(0, .ref (G.2.2 + 162)), (1, .int v1), (2, .int v2), (3, .int v3), (4, .int v4), (5, .int v6), (6, .int (v6 + (1 : Int32)))]) [2, 3, 4, 5, 6, 1, 0] rfl ?_
    exact kc (v6, (v6 + (1 : Int32)), x6.2) (Option.some.inj h).symm
def lb_Mod_watch_32 (v1 : Int32) (v2 : Int32) (v3 : Int32) (v4 : Int32) (s : Int32 × Int32 × Mem) : Option ((Int32 × Int32 × Mem) ⊕ ((Int32 × Mem))) :=
  if ((1 : Int32) <<< ((s.2.2.1 162 4) &&& 31)) ≤ s.2.1 then
  some (.inr (s.1, s.2.2))
  else
  if s.1 = (-1 : Int32) then
  j_Mod_watch_65_32 v1 v2 v3 v4 s.1 s.2.1 s.2.2
  else
  Option.bind (f_JInteger_bitCount s.2.1) fun x8 =>
  Option.bind (f_JInteger_bitCount s.1) fun x9 =>
  if x8 < x9 then
  j_Mod_watch_65_32 v1 v2 v3 v4 s.1 s.2.1 s.2.2
  else
  some (.inl (s.1, (s.2.1 + (1 : Int32)), s.2.2))
theorem lb_Mod_watch_32_ok {E : Ev} {G : Gw} {d : Nat} {post : Int32 → Mem → Prop} (X : Cx E G b_Mod_watch "WomenByTheRoofsModel" 7 d (some .int)) (hD : 6 ≤ d)  (v1 : Int32) (v2 : Int32) (v3 : Int32) (v4 : Int32)   (s : Int32 × Int32 × Mem) (o : (Int32 × Int32 × Mem) ⊕ ((Int32 × Mem))) (h : lb_Mod_watch_32 v1 v2 v3 v4 s = some o) (kc : ∀ s9 : Int32 × Int32 × Mem, o = .inl s9 → V E (0, 0) G 7 (QI E G post) s9.2.2 32 [(0, .ref (G.2.2 + 162)), (1, .int v1), (2, .int v2), (3, .int v3), (4, .int v4), (5, .int s9.1), (6, .int s9.2.1)] []) (kx0 : ∀ x9 : Int32 × Mem, o = .inr x9 → V E (0, 0) G 7 (QI E G post) x9.2 95 [(0, .ref (G.2.2 + 162)), (5, .int x9.1)] []) : V E (0, 0) G 7 (QI E G post) s.2.2 32 [(0, .ref (G.2.2 + 162)), (1, .int v1), (2, .int v2), (3, .int v3), (4, .int v4), (5, .int s.1), (6, .int s.2.1)] [] := by
  unfold lb_Mod_watch_32 at h
  refine V_iload (n := 6) X d_Mod_watch_32 rfl rfl ?_
  refine V_iconst (v := 1) X d_Mod_watch_34 (by decide) rfl ?_
  refine V_aload_n (n := 0) X d_Mod_watch_35 rfl rfl rfl ?_
  refine V_geti X fo_Mod_123 kd_162 rfl d_Mod_watch_36 rfl ?_
  refine V_ishl X d_Mod_watch_39 rfl ?_
  refine V_icmp_ge (tgt := 95) X d_Mod_watch_40 (by decide) rfl (fun c12 => ?_) (fun c12 => ?_)
  · rw [if_pos c12] at h
    refine V_sub (lv' := [(0, .ref (G.2.2 + 162)), (5, .int s.1)]) [0, 5] rfl ?_
    exact kx0 (s.1, s.2.2) (Option.some.inj h).symm
  · rw [if_neg c12] at h
    refine V_iload (n := 5) X d_Mod_watch_43 rfl rfl ?_
    refine V_iconst (v := -1) X d_Mod_watch_45 (by decide) rfl ?_
    refine V_icmp_eq (tgt := 65) X d_Mod_watch_46 (by decide) rfl (fun c11 => ?_) (fun c11 => ?_)
    · rw [if_pos c11] at h
      exact j_Mod_watch_65_32_ok X hD v1 v2 v3 v4 s.1 s.2.1 s.2.2 _ h kc kx0
    · rw [if_neg c11] at h
      refine V_iload (n := 6) X d_Mod_watch_49 rfl rfl ?_
      obtain ⟨x8, hx8, h⟩ := ob_s h
      refine V_si (As := [.int s.2.1]) X (Z0 E) ml_Mod_310 yq_JInteger_bitCount (c_JInteger_bitCount E.2.1 G s.2.1 s.2.2 x8 hx8 _ (Nat.le_refl _)) rfl (by omega) rfl (Nat.le_of_ble_eq_true rfl) d_Mod_watch_51 rfl (fun r9 M9 hq => ?_)
      rw [hq.1, hq.2]
      refine V_iload (n := 5) X d_Mod_watch_54 rfl rfl ?_
      obtain ⟨x9, hx9, h⟩ := ob_s h
      refine V_si (As := [.int s.1]) X (Z0 E) ml_Mod_310 yq_JInteger_bitCount (c_JInteger_bitCount E.2.1 G s.1 s.2.2 x9 hx9 _ (Nat.le_refl _)) rfl (by omega) rfl (Nat.le_of_ble_eq_true rfl) d_Mod_watch_56 rfl (fun r9 M9 hq => ?_)
      rw [hq.1, hq.2]
      refine V_icmp_lt (tgt := 65) X d_Mod_watch_59 (by decide) rfl (fun c10 => ?_) (fun c10 => ?_)
      · rw [if_pos c10] at h
        exact j_Mod_watch_65_32_ok X hD v1 v2 v3 v4 s.1 s.2.1 s.2.2 _ h kc kx0
      · rw [if_neg c10] at h
        refine V_goto (pc' := 89) X d_Mod_watch_62 (by decide) ?_
        refine V_iinc (n := 6) (v := (s.2.1 + (1 : Int32))) (lv' := [(6, .int (s.2.1 + (1 : Int32))), (0, .ref (G.2.2 + 162)), (1, .int v1), (2, .int v2), (3, .int v3), (4, .int v4), (5, .int s.1)]) X d_Mod_watch_89 rfl rfl (by decide) rfl rfl ?_
        refine V_goto (pc' := 32) X d_Mod_watch_92 (by decide) ?_
        refine V_sub (lv' := [(0, .ref (G.2.2 + 162)), (1, .int v1), (2, .int v2), (3, .int v3), (4, .int v4), (5, .int s.1), (6, .int (s.2.1 + (1 : Int32)))]) [1, 2, 3, 4, 5, 6, 0] rfl ?_
        exact kc (s.1, (s.2.1 + (1 : Int32)), s.2.2) (Option.some.inj h).symm
theorem lp_Mod_watch_32_ok {E : Ev} {G : Gw} {d : Nat} {post : Int32 → Mem → Prop} (X : Cx E G b_Mod_watch "WomenByTheRoofsModel" 7 d (some .int)) (hD : 6 ≤ d)  (v1 : Int32) (v2 : Int32) (v3 : Int32) (v4 : Int32)   (n9 : Nat) (s : Int32 × Int32 × Mem) (x : (Int32 × Mem)) (h : iter (lb_Mod_watch_32 v1 v2 v3 v4) n9 s = some x) (kx0 : ∀ x9 : Int32 × Mem, x = x9 → V E (0, 0) G 7 (QI E G post) x9.2 95 [(0, .ref (G.2.2 + 162)), (5, .int x9.1)] []) : V E (0, 0) G 7 (QI E G post) s.2.2 32 [(0, .ref (G.2.2 + 162)), (1, .int v1), (2, .int v2), (3, .int v3), (4, .int v4), (5, .int s.1), (6, .int s.2.1)] [] :=
  iter_P (P := fun s : Int32 × Int32 × Mem => V E (0, 0) G 7 (QI E G post) s.2.2 32 [(0, .ref (G.2.2 + 162)), (1, .int v1), (2, .int v2), (3, .int v3), (4, .int v4), (5, .int s.1), (6, .int s.2.1)] []) (fun s o hb kc ky => lb_Mod_watch_32_ok X hD v1 v2 v3 v4 s o hb kc (fun x9 e9 => kx0 x9 (ky _ e9).symm)) n9 s h
def f_Mod_watch (v1 : Int32) (v2 : Int32) (v3 : Int32) (v4 : Int32) (M : Mem) : Option (Int32 × Mem) :=
  mem_ (s_i M 162 13 (0 : Int32)) fun M1 =>
  Option.bind (f_Mod_isPlaceOf v2 v1 M1) fun x2 =>
  if x2 = 0 then
  some ((-1 : Int32), M1)
  else
  Option.bind (f_Mod_isPlaceOf v4 v3 M1) fun x3 =>
  if x3 = 0 then
  some ((-1 : Int32), M1)
  else
  Option.bind (iter (lb_Mod_watch_32 v1 v2 v3 v4) FU ((-1 : Int32), (0 : Int32), M1)) fun x13 =>
  if x13.1 = (-1 : Int32) then
  some ((-2 : Int32), x13.2)
  else
  mem_ (s_i x13.2 162 12 (0 : Int32)) fun M14 =>
  Option.bind (f_Mod_put x13.1 M14) fun x15 =>
  Option.bind (f_JInteger_bitCount x13.1) fun x16 =>
  some (x16, x15)
theorem c_Mod_watch (l : Launch) (G : Gw)  (v1 : Int32) (v2 : Int32) (v3 : Int32) (v4 : Int32) (M : Mem) (x : Int32 × Mem) (h : f_Mod_watch v1 v2 v3 v4 M = some x) (d : Nat) (hD : 6 ≤ d) : Ci l G y_Mod_watch b_Mod_watch 7 (some .int) d [.ref (G.2.2 + 162), .int v1, .int v2, .int v3, .int v4] M (fun r9 M9 => r9 = x.1 ∧ M9 = x.2) := by
  refine Ci_of (by decide) (Nat.le_of_ble_eq_true rfl) (fun E hE X => ?_)
  subst hE
  have kr : ∀ x9 : Int32 × Mem, x = x9 → (fun r9 M9 => r9 = x.1 ∧ M9 = x.2) x9.1 x9.2 := fun x9 e9 => by subst e9; exact ⟨rfl, rfl⟩
  unfold f_Mod_watch at h
  refine V_aload_n (n := 0) X d_Mod_watch_0 rfl rfl rfl ?_
  refine V_iconst (v := 0) X d_Mod_watch_1 (by decide) rfl ?_
  obtain ⟨M1, eM1, h⟩ := memS h
  refine V_putI X fp_Mod_109 kd_162 rfl d_Mod_watch_2 rfl ?_
  rw [← eM1]
  refine V_aload_n (n := 0) X d_Mod_watch_5 rfl rfl rfl ?_
  refine V_iload_n (n := 2) X d_Mod_watch_6 rfl rfl rfl ?_
  refine V_iload_n (n := 1) X d_Mod_watch_7 rfl rfl rfl ?_
  obtain ⟨x2, hx2, h⟩ := ob_s h
  refine V_ci (As := [.int v2, .int v1]) X (Z0 E) ml_Mod_374 yq_Mod_isPlaceOf (c_Mod_isPlaceOf E.2.1 G v2 v1 M1 x2 hx2 _ (Nat.le_refl _)) kd_162 rfl rfl (by omega) rfl (Nat.le_of_ble_eq_true rfl) d_Mod_watch_8 rfl (fun r9 M9 hq => ?_)
  rw [hq.1, hq.2]
  refine V_if_eq (tgt := 24) X d_Mod_watch_11 (by decide) rfl (fun c19 => ?_) (fun c19 => ?_)
  · rw [if_pos c19] at h
    refine V_iconst (v := -1) X d_Mod_watch_24 (by decide) rfl ?_
    exact V_iret X (kr ((-1 : Int32), M1) (Option.some.inj h).symm) d_Mod_watch_25
  · rw [if_neg c19] at h
    refine V_aload_n (n := 0) X d_Mod_watch_14 rfl rfl rfl ?_
    refine V_iload (n := 4) X d_Mod_watch_15 rfl rfl ?_
    refine V_iload_n (n := 3) X d_Mod_watch_17 rfl rfl rfl ?_
    obtain ⟨x3, hx3, h⟩ := ob_s h
    refine V_ci (As := [.int v4, .int v3]) X (Z0 E) ml_Mod_374 yq_Mod_isPlaceOf (c_Mod_isPlaceOf E.2.1 G v4 v3 M1 x3 hx3 _ (Nat.le_refl _)) kd_162 rfl rfl (by omega) rfl (Nat.le_of_ble_eq_true rfl) d_Mod_watch_18 rfl (fun r9 M9 hq => ?_)
    rw [hq.1, hq.2]
    refine V_if_ne (tgt := 26) X d_Mod_watch_21 (by decide) rfl (fun c18 => ?_) (fun c18 => ?_)
    · rw [if_neg c18] at h
      refine V_iconst (v := -1) X d_Mod_watch_26 (by decide) rfl ?_
      refine V_istore (lv' := [(5, .int (-1 : Int32)), (0, .ref (G.2.2 + 162)), (1, .int v1), (2, .int v2), (3, .int v3), (4, .int v4)]) X d_Mod_watch_27 (by decide) rfl rfl ?_
      refine V_iconst (v := 0) X d_Mod_watch_29 (by decide) rfl ?_
      refine V_istore (lv' := [(6, .int (0 : Int32)), (5, .int (-1 : Int32)), (0, .ref (G.2.2 + 162)), (1, .int v1), (2, .int v2), (3, .int v3), (4, .int v4)]) X d_Mod_watch_30 (by decide) rfl rfl ?_
      refine V_sub (lv' := [(0, .ref (G.2.2 + 162)), (1, .int v1), (2, .int v2), (3, .int v3), (4, .int v4), (5, .int (-1 : Int32)), (6, .int (0 : Int32))]) [2, 3, 4, 5, 6, 1, 0] rfl ?_
      obtain ⟨x13, hx13, h⟩ := ob_s h
      refine (lp_Mod_watch_32_ok X hD v1 v2 v3 v4 _ _ _ hx13 (fun x9 e9 => ?_) :)
      subst e9
      refine V_iload (n := 1) X d_Mod_watch_95 rfl rfl ?_
      refine V_iconst (v := -1) X d_Mod_watch_97 (by decide) rfl ?_
      refine V_icmp_ne (tgt := 104) X d_Mod_watch_98 (by decide) rfl (fun c17 => ?_) (fun c17 => ?_)
      · rw [if_neg c17] at h
        refine V_aload_n (n := 0) X d_Mod_watch_104 rfl rfl rfl ?_
        refine V_iconst (v := 0) X d_Mod_watch_105 (by decide) rfl ?_
        obtain ⟨M14, eM14, h⟩ := memS h
        refine V_putI X fp_Mod_112 kd_162 rfl d_Mod_watch_106 rfl ?_
        rw [← eM14]
        refine V_aload_n (n := 0) X d_Mod_watch_109 rfl rfl rfl ?_
        refine V_iload (n := 1) X d_Mod_watch_110 rfl rfl ?_
        obtain ⟨x15, hx15, h⟩ := ob_s h
        refine V_cv (As := [.int x13.1]) X (Z0 E) ml_Mod_342 yq_Mod_put (c_Mod_put E.2.1 G x13.1 M14 x15 hx15 _ (Nat.le_refl _)) kd_162 rfl rfl (by omega) rfl (Nat.le_of_ble_eq_true rfl) d_Mod_watch_112 rfl (fun M9 hq => ?_)
        rw [hq]
        refine V_iload (n := 1) X d_Mod_watch_115 rfl rfl ?_
        obtain ⟨x16, hx16, h⟩ := ob_s h
        refine V_si (As := [.int x13.1]) X (Z0 E) ml_Mod_310 yq_JInteger_bitCount (c_JInteger_bitCount E.2.1 G x13.1 x15 x16 hx16 _ (Nat.le_refl _)) rfl (by omega) rfl (Nat.le_of_ble_eq_true rfl) d_Mod_watch_117 rfl (fun r9 M9 hq => ?_)
        rw [hq.1, hq.2]
        exact V_iret X (kr (x16, x15) (Option.some.inj h).symm) d_Mod_watch_120
      · rw [if_pos c17] at h
        refine V_bipush (v := -2) X d_Mod_watch_101 (by decide) rfl ?_
        exact V_iret X (kr ((-2 : Int32), x13.2) (Option.some.inj h).symm) d_Mod_watch_103
    · rw [if_pos c18] at h
      refine V_iconst (v := -1) X d_Mod_watch_24 (by decide) rfl ?_
      exact V_iret X (kr ((-1 : Int32), M1) (Option.some.inj h).symm) d_Mod_watch_25
def f_Mod_keep (v1 : Int32) (M : Mem) : Option (Int32 × Mem) :=
  mem_ (s_i M 162 13 (0 : Int32)) fun M1 =>
  Option.bind (f_Mod_in v1 (0 : Int32) (1 : Int32)) fun x2 =>
  if x2 = 0 then
  some ((0 : Int32), M1)
  else
  if inb v1 2 = true then
  mem_ (s_i M1 190 v1.toNatClampNeg (vp_nar .boolean (1 : Int32))) fun M3 =>
  if inb v1 2 = true then
  mem_ (s_i M3 191 v1.toNatClampNeg (M3.1 162 48)) fun M4 =>
  Option.bind (f_Mod_lay 163 189 ((96 : Int32) * v1) M4) fun x5 =>
  some ((1 : Int32), x5)
  else none
  else none
theorem c_Mod_keep (l : Launch) (G : Gw)  (v1 : Int32) (M : Mem) (x : Int32 × Mem) (h : f_Mod_keep v1 M = some x) (d : Nat) (hD : 2 ≤ d) : Ci l G y_Mod_keep b_Mod_keep 2 (some .boolean) d [.ref (G.2.2 + 162), .int v1] M (fun r9 M9 => r9 = x.1 ∧ M9 = x.2) := by
  refine Ci_of (by decide) (Nat.le_of_ble_eq_true rfl) (fun E hE X => ?_)
  subst hE
  have kr : ∀ x9 : Int32 × Mem, x = x9 → (fun r9 M9 => r9 = x.1 ∧ M9 = x.2) x9.1 x9.2 := fun x9 e9 => by subst e9; exact ⟨rfl, rfl⟩
  unfold f_Mod_keep at h
  refine V_aload_n (n := 0) X d_Mod_keep_0 rfl rfl rfl ?_
  refine V_iconst (v := 0) X d_Mod_keep_1 (by decide) rfl ?_
  obtain ⟨M1, eM1, h⟩ := memS h
  refine V_putI X fp_Mod_109 kd_162 rfl d_Mod_keep_2 rfl ?_
  rw [← eM1]
  refine V_iload_n (n := 1) X d_Mod_keep_5 rfl rfl rfl ?_
  refine V_iconst (v := 0) X d_Mod_keep_6 (by decide) rfl ?_
  refine V_iconst (v := 1) X d_Mod_keep_7 (by decide) rfl ?_
  obtain ⟨x2, hx2, h⟩ := ob_s h
  refine V_si (As := [.int v1, .int (0 : Int32), .int (1 : Int32)]) X (Z0 E) ml_Mod_119 yq_Mod_in (c_Mod_in E.2.1 G v1 (0 : Int32) (1 : Int32) M1 x2 hx2 _ (Nat.le_refl _)) rfl (by omega) rfl (Nat.le_of_ble_eq_true rfl) d_Mod_keep_8 rfl (fun r9 M9 hq => ?_)
  rw [hq.1, hq.2]
  refine V_if_ne (tgt := 16) X d_Mod_keep_11 (by decide) rfl (fun c6 => ?_) (fun c6 => ?_)
  · rw [if_neg c6] at h
    refine V_aload_n (n := 0) X d_Mod_keep_16 rfl rfl rfl ?_
    refine V_getr (k2 := 190) X fo_Mod_103 kd_162 rfl rf_162_50 d_Mod_keep_17 rfl ?_
    refine V_iload_n (n := 1) X d_Mod_keep_20 rfl rfl rfl ?_
    refine V_iconst (v := 1) X d_Mod_keep_21 (by decide) rfl ?_
    obtain ⟨hb, h⟩ := ifn h
    obtain ⟨M3, eM3, h⟩ := memS h
    refine V_zast X kd_190 (inb_in ln_190 hb) d_Mod_keep_22 rfl ?_
    rw [← eM3]
    refine V_aload_n (n := 0) X d_Mod_keep_23 rfl rfl rfl ?_
    refine V_getr (k2 := 191) X fo_Mod_106 kd_162 rfl rf_162_51 d_Mod_keep_24 rfl ?_
    refine V_iload_n (n := 1) X d_Mod_keep_27 rfl rfl rfl ?_
    refine V_aload_n (n := 0) X d_Mod_keep_28 rfl rfl rfl ?_
    refine V_geti X fo_Mod_210 kd_162 rfl d_Mod_keep_29 rfl ?_
    obtain ⟨hb, h⟩ := ifn h
    obtain ⟨M4, eM4, h⟩ := memS h
    refine V_iast X kd_191 (inb_in ln_191 hb) d_Mod_keep_32 rfl ?_
    rw [← eM4]
    refine V_aload_n (n := 0) X d_Mod_keep_33 rfl rfl rfl ?_
    refine V_getr (k2 := 163) X fo_Mod_9 kd_162 rfl rf_162_0 d_Mod_keep_34 rfl ?_
    refine V_aload_n (n := 0) X d_Mod_keep_37 rfl rfl rfl ?_
    refine V_getr (k2 := 189) X fo_Mod_100 kd_162 rfl rf_162_49 d_Mod_keep_38 rfl ?_
    refine V_bipush (v := 96) X d_Mod_keep_41 (by decide) rfl ?_
    refine V_iload_n (n := 1) X d_Mod_keep_43 rfl rfl rfl ?_
    refine V_imul X d_Mod_keep_44 rfl ?_
    obtain ⟨x5, hx5, h⟩ := ob_s h
    refine V_sv (As := [.ref (G.2.2 + 163), .ref (G.2.2 + 189), .int ((96 : Int32) * v1)]) X (Z0 E) ml_Mod_286 yq_Mod_lay (c_Mod_lay E.2.1 G 163 189 ((96 : Int32) * v1) M4 x5 hx5 _ (Nat.le_refl _)) rfl (by omega) rfl (Nat.le_of_ble_eq_true rfl) d_Mod_keep_45 rfl (fun M9 hq => ?_)
    rw [hq]
    refine V_iconst (v := 1) X d_Mod_keep_48 (by decide) rfl ?_
    exact V_zret X (kr ((1 : Int32), x5) (Option.some.inj h).symm) (by decide) d_Mod_keep_49
  · rw [if_pos c6] at h
    refine V_iconst (v := 0) X d_Mod_keep_14 (by decide) rfl ?_
    exact V_zret X (kr ((0 : Int32), M1) (Option.some.inj h).symm) (by decide) d_Mod_keep_15
def lb_Mod_again_40 (v1 : Int32) (s : Int32 × Mem) : Option ((Int32 × Mem) ⊕ ((Mem))) :=
  if (96 : Int32) ≤ s.1 then
  some (.inr s.2)
  else
  if inb (((96 : Int32) * v1) + s.1) 192 = true then
  if inb s.1 96 = true then
  mem_ (s_i s.2 163 s.1.toNatClampNeg (s.2.1 189 (((96 : Int32) * v1) + s.1).toNatClampNeg)) fun M3 =>
  some (.inl ((s.1 + (1 : Int32)), M3))
  else none
  else none
theorem lb_Mod_again_40_ok {E : Ev} {G : Gw} {d : Nat} {post : Int32 → Mem → Prop} (X : Cx E G b_Mod_again "WomenByTheRoofsModel" 3 d (some .boolean)) (hD : 2 ≤ d)  (v1 : Int32)   (s : Int32 × Mem) (o : (Int32 × Mem) ⊕ ((Mem))) (h : lb_Mod_again_40 v1 s = some o) (kc : ∀ s9 : Int32 × Mem, o = .inl s9 → V E (0, 0) G 3 (QI E G post) s9.2 40 [(0, .ref (G.2.2 + 162)), (1, .int v1), (2, .int s9.1)] []) (kx0 : ∀ x9 : Mem, o = .inr x9 → V E (0, 0) G 3 (QI E G post) x9 69 [(0, .ref (G.2.2 + 162))] []) : V E (0, 0) G 3 (QI E G post) s.2 40 [(0, .ref (G.2.2 + 162)), (1, .int v1), (2, .int s.1)] [] := by
  unfold lb_Mod_again_40 at h
  refine V_iload_n (n := 2) X d_Mod_again_40 rfl rfl rfl ?_
  refine V_bipush (v := 96) X d_Mod_again_41 (by decide) rfl ?_
  refine V_icmp_ge (tgt := 69) X d_Mod_again_43 (by decide) rfl (fun c4 => ?_) (fun c4 => ?_)
  · rw [if_pos c4] at h
    refine V_sub (lv' := [(0, .ref (G.2.2 + 162))]) [0] rfl ?_
    exact kx0 s.2 (Option.some.inj h).symm
  · rw [if_neg c4] at h
    refine V_aload_n (n := 0) X d_Mod_again_46 rfl rfl rfl ?_
    refine V_getr (k2 := 163) X fo_Mod_9 kd_162 rfl rf_162_0 d_Mod_again_47 rfl ?_
    refine V_iload_n (n := 2) X d_Mod_again_50 rfl rfl rfl ?_
    refine V_aload_n (n := 0) X d_Mod_again_51 rfl rfl rfl ?_
    refine V_getr (k2 := 189) X fo_Mod_100 kd_162 rfl rf_162_49 d_Mod_again_52 rfl ?_
    refine V_bipush (v := 96) X d_Mod_again_55 (by decide) rfl ?_
    refine V_iload_n (n := 1) X d_Mod_again_57 rfl rfl rfl ?_
    refine V_imul X d_Mod_again_58 rfl ?_
    refine V_iload_n (n := 2) X d_Mod_again_59 rfl rfl rfl ?_
    refine V_iadd X d_Mod_again_60 rfl ?_
    obtain ⟨hb, h⟩ := ifn h
    refine V_iald X kd_189 (inb_in ln_189 hb) d_Mod_again_61 rfl ?_
    obtain ⟨hb, h⟩ := ifn h
    obtain ⟨M3, eM3, h⟩ := memS h
    refine V_iast X kd_163 (inb_in ln_163 hb) d_Mod_again_62 rfl ?_
    rw [← eM3]
    refine V_iinc (n := 2) (v := (s.1 + (1 : Int32))) (lv' := [(2, .int (s.1 + (1 : Int32))), (0, .ref (G.2.2 + 162)), (1, .int v1)]) X d_Mod_again_63 rfl rfl (by decide) rfl rfl ?_
    refine V_goto (pc' := 40) X d_Mod_again_66 (by decide) ?_
    refine V_sub (lv' := [(0, .ref (G.2.2 + 162)), (1, .int v1), (2, .int (s.1 + (1 : Int32)))]) [1, 2, 0] rfl ?_
    exact kc ((s.1 + (1 : Int32)), M3) (Option.some.inj h).symm
theorem lp_Mod_again_40_ok {E : Ev} {G : Gw} {d : Nat} {post : Int32 → Mem → Prop} (X : Cx E G b_Mod_again "WomenByTheRoofsModel" 3 d (some .boolean)) (hD : 2 ≤ d)  (v1 : Int32)   (n9 : Nat) (s : Int32 × Mem) (x : (Mem)) (h : iter (lb_Mod_again_40 v1) n9 s = some x) (kx0 : ∀ x9 : Mem, x = x9 → V E (0, 0) G 3 (QI E G post) x9 69 [(0, .ref (G.2.2 + 162))] []) : V E (0, 0) G 3 (QI E G post) s.2 40 [(0, .ref (G.2.2 + 162)), (1, .int v1), (2, .int s.1)] [] :=
  iter_P (P := fun s : Int32 × Mem => V E (0, 0) G 3 (QI E G post) s.2 40 [(0, .ref (G.2.2 + 162)), (1, .int v1), (2, .int s.1)] []) (fun s o hb kc ky => lb_Mod_again_40_ok X hD v1 s o hb kc (fun x9 e9 => kx0 x9 (ky _ e9).symm)) n9 s h
def f_Mod_again (v1 : Int32) (M : Mem) : Option (Int32 × Mem) :=
  mem_ (s_i M 162 13 (0 : Int32)) fun M1 =>
  Option.bind (f_Mod_in v1 (0 : Int32) (1 : Int32)) fun x2 =>
  if x2 = 0 then
  some ((0 : Int32), M1)
  else
  if inb v1 2 = true then
  if (M1.1 190 v1.toNatClampNeg) = 0 then
  some ((0 : Int32), M1)
  else
  if inb v1 2 = true then
  if (M1.1 191 v1.toNatClampNeg) = (M1.1 162 48) then
  Option.bind (iter (lb_Mod_again_40 v1) FU ((0 : Int32), M1)) fun x5 =>
  mem_ (s_i x5 162 27 (0 : Int32)) fun M6 =>
  some ((1 : Int32), M6)
  else
  some ((0 : Int32), M1)
  else none
  else none
theorem c_Mod_again (l : Launch) (G : Gw)  (v1 : Int32) (M : Mem) (x : Int32 × Mem) (h : f_Mod_again v1 M = some x) (d : Nat) (hD : 2 ≤ d) : Ci l G y_Mod_again b_Mod_again 3 (some .boolean) d [.ref (G.2.2 + 162), .int v1] M (fun r9 M9 => r9 = x.1 ∧ M9 = x.2) := by
  refine Ci_of (by decide) (Nat.le_of_ble_eq_true rfl) (fun E hE X => ?_)
  subst hE
  have kr : ∀ x9 : Int32 × Mem, x = x9 → (fun r9 M9 => r9 = x.1 ∧ M9 = x.2) x9.1 x9.2 := fun x9 e9 => by subst e9; exact ⟨rfl, rfl⟩
  unfold f_Mod_again at h
  refine V_aload_n (n := 0) X d_Mod_again_0 rfl rfl rfl ?_
  refine V_iconst (v := 0) X d_Mod_again_1 (by decide) rfl ?_
  obtain ⟨M1, eM1, h⟩ := memS h
  refine V_putI X fp_Mod_109 kd_162 rfl d_Mod_again_2 rfl ?_
  rw [← eM1]
  refine V_iload_n (n := 1) X d_Mod_again_5 rfl rfl rfl ?_
  refine V_iconst (v := 0) X d_Mod_again_6 (by decide) rfl ?_
  refine V_iconst (v := 1) X d_Mod_again_7 (by decide) rfl ?_
  obtain ⟨x2, hx2, h⟩ := ob_s h
  refine V_si (As := [.int v1, .int (0 : Int32), .int (1 : Int32)]) X (Z0 E) ml_Mod_119 yq_Mod_in (c_Mod_in E.2.1 G v1 (0 : Int32) (1 : Int32) M1 x2 hx2 _ (Nat.le_refl _)) rfl (by omega) rfl (Nat.le_of_ble_eq_true rfl) d_Mod_again_8 rfl (fun r9 M9 hq => ?_)
  rw [hq.1, hq.2]
  refine V_if_eq (tgt := 36) X d_Mod_again_11 (by decide) rfl (fun c9 => ?_) (fun c9 => ?_)
  · rw [if_pos c9] at h
    refine V_iconst (v := 0) X d_Mod_again_36 (by decide) rfl ?_
    exact V_zret X (kr ((0 : Int32), M1) (Option.some.inj h).symm) (by decide) d_Mod_again_37
  · rw [if_neg c9] at h
    refine V_aload_n (n := 0) X d_Mod_again_14 rfl rfl rfl ?_
    refine V_getr (k2 := 190) X fo_Mod_103 kd_162 rfl rf_162_50 d_Mod_again_15 rfl ?_
    refine V_iload_n (n := 1) X d_Mod_again_18 rfl rfl rfl ?_
    obtain ⟨hb, h⟩ := ifn h
    refine V_zald X kd_190 (inb_in ln_190 hb) d_Mod_again_19 rfl ?_
    refine V_if_eq (tgt := 36) X d_Mod_again_20 (by decide) rfl (fun c8 => ?_) (fun c8 => ?_)
    · rw [if_pos c8] at h
      refine V_iconst (v := 0) X d_Mod_again_36 (by decide) rfl ?_
      exact V_zret X (kr ((0 : Int32), M1) (Option.some.inj h).symm) (by decide) d_Mod_again_37
    · rw [if_neg c8] at h
      refine V_aload_n (n := 0) X d_Mod_again_23 rfl rfl rfl ?_
      refine V_getr (k2 := 191) X fo_Mod_106 kd_162 rfl rf_162_51 d_Mod_again_24 rfl ?_
      refine V_iload_n (n := 1) X d_Mod_again_27 rfl rfl rfl ?_
      obtain ⟨hb, h⟩ := ifn h
      refine V_iald X kd_191 (inb_in ln_191 hb) d_Mod_again_28 rfl ?_
      refine V_aload_n (n := 0) X d_Mod_again_29 rfl rfl rfl ?_
      refine V_geti X fo_Mod_210 kd_162 rfl d_Mod_again_30 rfl ?_
      refine V_icmp_eq (tgt := 38) X d_Mod_again_33 (by decide) rfl (fun c7 => ?_) (fun c7 => ?_)
      · rw [if_pos c7] at h
        refine V_iconst (v := 0) X d_Mod_again_38 (by decide) rfl ?_
        refine V_istore_n (lv' := [(2, .int (0 : Int32)), (0, .ref (G.2.2 + 162)), (1, .int v1)]) X d_Mod_again_39 rfl (by decide) rfl rfl ?_
        refine V_sub (lv' := [(0, .ref (G.2.2 + 162)), (1, .int v1), (2, .int (0 : Int32))]) [1, 2, 0] rfl ?_
        obtain ⟨x5, hx5, h⟩ := ob_s h
        refine (lp_Mod_again_40_ok X hD v1 _ _ _ hx5 (fun x9 e9 => ?_) :)
        subst e9
        refine V_aload_n (n := 0) X d_Mod_again_69 rfl rfl rfl ?_
        refine V_iconst (v := 0) X d_Mod_again_70 (by decide) rfl ?_
        obtain ⟨M6, eM6, h⟩ := memS h
        refine V_putI X fp_Mod_201 kd_162 rfl d_Mod_again_71 rfl ?_
        rw [← eM6]
        refine V_iconst (v := 1) X d_Mod_again_74 (by decide) rfl ?_
        exact V_zret X (kr ((1 : Int32), M6) (Option.some.inj h).symm) (by decide) d_Mod_again_75
      · rw [if_neg c7] at h
        refine V_iconst (v := 0) X d_Mod_again_36 (by decide) rfl ?_
        exact V_zret X (kr ((0 : Int32), M1) (Option.some.inj h).symm) (by decide) d_Mod_again_37
def lb_Mod_count_130 (M : Mem) (s : Int32 × Int32) : Option ((Int32 × Int32) ⊕ ((Int32))) :=
  if (M.1 162 4) ≤ s.2 then
  some (.inr s.1)
  else
  Option.bind (f_Mod_meetingsOf s.2 M) fun x11 =>
  some (.inl ((s.1 + x11), (s.2 + (1 : Int32))))
theorem lb_Mod_count_130_ok {E : Ev} {G : Gw} {d : Nat} {post : Int32 → Mem → Prop} (X : Cx E G b_Mod_count "WomenByTheRoofsModel" 4 d (some .int)) (hD : 2 ≤ d)    (M : Mem) (s : Int32 × Int32) (o : (Int32 × Int32) ⊕ ((Int32))) (h : lb_Mod_count_130 M s = some o) (kc : ∀ s9 : Int32 × Int32, o = .inl s9 → V E (0, 0) G 4 (QI E G post) M 130 [(0, .ref (G.2.2 + 162)), (2, .int s9.1), (3, .int s9.2)] []) (kx0 : ∀ x9 : Int32, o = .inr x9 → V E (0, 0) G 4 (QI E G post) M 152 [(2, .int x9)] []) : V E (0, 0) G 4 (QI E G post) M 130 [(0, .ref (G.2.2 + 162)), (2, .int s.1), (3, .int s.2)] [] := by
  unfold lb_Mod_count_130 at h
  refine V_iload_n (n := 2) X d_Mod_count_130 rfl rfl rfl ?_
  refine V_aload_n (n := 0) X d_Mod_count_131 rfl rfl rfl ?_
  refine V_geti X fo_Mod_123 kd_162 rfl d_Mod_count_132 rfl ?_
  refine V_icmp_ge (tgt := 152) X d_Mod_count_135 (by decide) rfl (fun c12 => ?_) (fun c12 => ?_)
  · rw [if_pos c12] at h
    refine V_sub (lv' := [(2, .int s.1)]) [1] rfl ?_
    exact kx0 s.1 (Option.some.inj h).symm
  · rw [if_neg c12] at h
    refine V_iload_n (n := 1) X d_Mod_count_138 rfl rfl rfl ?_
    refine V_aload_n (n := 0) X d_Mod_count_139 rfl rfl rfl ?_
    refine V_iload_n (n := 2) X d_Mod_count_140 rfl rfl rfl ?_
    obtain ⟨x11, hx11, h⟩ := ob_s h
    refine V_ci (As := [.int s.2]) X (Z0 E) ml_Mod_265 yq_Mod_meetingsOf (c_Mod_meetingsOf E.2.1 G s.2 M x11 hx11 _ (Nat.le_refl _)) kd_162 rfl rfl (by omega) rfl (Nat.le_of_ble_eq_true rfl) d_Mod_count_141 rfl (fun r9 M9 hq => ?_)
    rw [hq.1, hq.2]
    refine V_iadd X d_Mod_count_144 rfl ?_
    refine V_istore_n (lv' := [(2, .int (s.1 + x11)), (0, .ref (G.2.2 + 162)), (3, .int s.2)]) X d_Mod_count_145 rfl (by decide) rfl rfl ?_
    refine V_iinc (n := 2) (v := (s.2 + (1 : Int32))) (lv' := [(3, .int (s.2 + (1 : Int32))), (2, .int (s.1 + x11)), (0, .ref (G.2.2 + 162))]) X d_Mod_count_146 rfl rfl (by decide) rfl rfl ?_
    refine V_goto (pc' := 130) X d_Mod_count_149 (by decide) ?_
    refine V_sub (lv' := [(0, .ref (G.2.2 + 162)), (2, .int (s.1 + x11)), (3, .int (s.2 + (1 : Int32)))]) [2, 1, 0] rfl ?_
    exact kc ((s.1 + x11), (s.2 + (1 : Int32))) (Option.some.inj h).symm
theorem lp_Mod_count_130_ok {E : Ev} {G : Gw} {d : Nat} {post : Int32 → Mem → Prop} (X : Cx E G b_Mod_count "WomenByTheRoofsModel" 4 d (some .int)) (hD : 2 ≤ d)    (M : Mem) (n9 : Nat) (s : Int32 × Int32) (x : (Int32)) (h : iter (lb_Mod_count_130 M) n9 s = some x) (kx0 : ∀ x9 : Int32, x = x9 → V E (0, 0) G 4 (QI E G post) M 152 [(2, .int x9)] []) : V E (0, 0) G 4 (QI E G post) M 130 [(0, .ref (G.2.2 + 162)), (2, .int s.1), (3, .int s.2)] [] :=
  iter_P (P := fun s : Int32 × Int32 => V E (0, 0) G 4 (QI E G post) M 130 [(0, .ref (G.2.2 + 162)), (2, .int s.1), (3, .int s.2)] []) (fun s o hb kc ky => lb_Mod_count_130_ok X hD M s o hb kc (fun x9 e9 => kx0 x9 (ky _ e9).symm)) n9 s h
def f_Mod_count (v1 : Int32) (M : Mem) : Option (Int32 × Mem) :=
  mem_ (s_i M 162 13 (0 : Int32)) fun M1 =>
  if v1 = (0 : Int32) then
  Option.bind (f_Mod_cells M1) fun x2 =>
  some (x2, M1)
  else if v1 = (1 : Int32) then
  some ((M1.1 162 2), M1)
  else if v1 = (2 : Int32) then
  some ((M1.1 162 4), M1)
  else if v1 = (3 : Int32) then
  some ((M1.1 163 (95 : Int32).toNatClampNeg), M1)
  else if v1 = (4 : Int32) then
  some ((M1.1 163 (92 : Int32).toNatClampNeg), M1)
  else if v1 = (5 : Int32) then
  some ((M1.1 162 5), M1)
  else if v1 = (6 : Int32) then
  some ((M1.1 163 (93 : Int32).toNatClampNeg), M1)
  else if v1 = (7 : Int32) then
  some ((M1.1 163 (94 : Int32).toNatClampNeg), M1)
  else if v1 = (8 : Int32) then
  Option.bind (iter (lb_Mod_count_130 M1) FU ((0 : Int32), (0 : Int32))) fun x13 =>
  some ((x13 / (2 : Int32)), M1)
  else if v1 = (9 : Int32) then
  some ((M1.1 162 8), M1)
  else if v1 = (10 : Int32) then
  some ((M1.1 162 27), M1)
  else if v1 = (11 : Int32) then
  some ((M1.1 162 12), M1)
  else if v1 = (12 : Int32) then
  some ((M1.1 162 10), M1)
  else some ((-100 : Int32), M1)
theorem c_Mod_count (l : Launch) (G : Gw)  (v1 : Int32) (M : Mem) (x : Int32 × Mem) (h : f_Mod_count v1 M = some x) (d : Nat) (hD : 2 ≤ d) : Ci l G y_Mod_count b_Mod_count 4 (some .int) d [.ref (G.2.2 + 162), .int v1] M (fun r9 M9 => r9 = x.1 ∧ M9 = x.2) := by
  refine Ci_of (by decide) (Nat.le_of_ble_eq_true rfl) (fun E hE X => ?_)
  subst hE
  have kr : ∀ x9 : Int32 × Mem, x = x9 → (fun r9 M9 => r9 = x.1 ∧ M9 = x.2) x9.1 x9.2 := fun x9 e9 => by subst e9; exact ⟨rfl, rfl⟩
  unfold f_Mod_count at h
  refine V_aload_n (n := 0) X d_Mod_count_0 rfl rfl rfl ?_
  refine V_iconst (v := 0) X d_Mod_count_1 (by decide) rfl ?_
  obtain ⟨M1, eM1, h⟩ := memS h
  refine V_putI X fp_Mod_109 kd_162 rfl d_Mod_count_2 rfl ?_
  rw [← eM1]
  refine V_iconst (v := 0) X d_Mod_count_5 (by decide) rfl ?_
  refine V_istore_n (lv' := [(2, .int (0 : Int32)), (0, .ref (G.2.2 + 162)), (1, .int v1)]) X d_Mod_count_6 rfl (by decide) rfl rfl ?_
  refine V_iload_n (n := 2) X d_Mod_count_7 rfl rfl rfl ?_
  by_cases c3 : v1 = (0 : Int32)
  · rw [if_pos c3] at h
    refine V_tbl (v := 0) (pc' := 76) (off := 68) X d_Mod_count_8 c3 (by decide) (by decide) (by decide +kernel) (by decide) ?_
    refine V_aload_n (n := 1) X d_Mod_count_76 rfl rfl rfl ?_
    obtain ⟨x2, hx2, h⟩ := ob_s h
    refine V_ci (As := []) X (Z0 E) ml_Mod_115 yq_Mod_cells (c_Mod_cells E.2.1 G  M1 x2 hx2 _ (Nat.le_refl _)) kd_162 rfl rfl (by omega) rfl (Nat.le_of_ble_eq_true rfl) d_Mod_count_77 rfl (fun r9 M9 hq => ?_)
    rw [hq.1, hq.2]
    exact V_iret X (kr (x2, M1) (Option.some.inj h).symm) d_Mod_count_80
  · rw [if_neg c3] at h
    by_cases c4 : v1 = (1 : Int32)
    · rw [if_pos c4] at h
      refine V_tbl (v := 1) (pc' := 81) (off := 73) X d_Mod_count_8 c4 (by decide) (by decide) (by decide +kernel) (by decide) ?_
      refine V_aload_n (n := 1) X d_Mod_count_81 rfl rfl rfl ?_
      refine V_geti X fo_Mod_16 kd_162 rfl d_Mod_count_82 rfl ?_
      exact V_iret X (kr ((M1.1 162 2), M1) (Option.some.inj h).symm) d_Mod_count_85
    · rw [if_neg c4] at h
      by_cases c5 : v1 = (2 : Int32)
      · rw [if_pos c5] at h
        refine V_tbl (v := 2) (pc' := 86) (off := 78) X d_Mod_count_8 c5 (by decide) (by decide) (by decide +kernel) (by decide) ?_
        refine V_aload_n (n := 1) X d_Mod_count_86 rfl rfl rfl ?_
        refine V_geti X fo_Mod_123 kd_162 rfl d_Mod_count_87 rfl ?_
        exact V_iret X (kr ((M1.1 162 4), M1) (Option.some.inj h).symm) d_Mod_count_90
      · rw [if_neg c5] at h
        by_cases c6 : v1 = (3 : Int32)
        · rw [if_pos c6] at h
          refine V_tbl (v := 3) (pc' := 91) (off := 83) X d_Mod_count_8 c6 (by decide) (by decide) (by decide +kernel) (by decide) ?_
          refine V_aload_n (n := 1) X d_Mod_count_91 rfl rfl rfl ?_
          refine V_getr (k2 := 163) X fo_Mod_9 kd_162 rfl rf_162_0 d_Mod_count_92 rfl ?_
          refine V_bipush (v := 95) X d_Mod_count_95 (by decide) rfl ?_
          refine V_iald X kd_163 (inb_in ln_163 (by decide)) d_Mod_count_97 rfl ?_
          exact V_iret X (kr ((M1.1 163 (95 : Int32).toNatClampNeg), M1) (Option.some.inj h).symm) d_Mod_count_98
        · rw [if_neg c6] at h
          by_cases c7 : v1 = (4 : Int32)
          · rw [if_pos c7] at h
            refine V_tbl (v := 4) (pc' := 99) (off := 91) X d_Mod_count_8 c7 (by decide) (by decide) (by decide +kernel) (by decide) ?_
            refine V_aload_n (n := 1) X d_Mod_count_99 rfl rfl rfl ?_
            refine V_getr (k2 := 163) X fo_Mod_9 kd_162 rfl rf_162_0 d_Mod_count_100 rfl ?_
            refine V_bipush (v := 92) X d_Mod_count_103 (by decide) rfl ?_
            refine V_iald X kd_163 (inb_in ln_163 (by decide)) d_Mod_count_105 rfl ?_
            exact V_iret X (kr ((M1.1 163 (92 : Int32).toNatClampNeg), M1) (Option.some.inj h).symm) d_Mod_count_106
          · rw [if_neg c7] at h
            by_cases c8 : v1 = (5 : Int32)
            · rw [if_pos c8] at h
              refine V_tbl (v := 5) (pc' := 107) (off := 99) X d_Mod_count_8 c8 (by decide) (by decide) (by decide +kernel) (by decide) ?_
              refine V_aload_n (n := 1) X d_Mod_count_107 rfl rfl rfl ?_
              refine V_geti X fo_Mod_130 kd_162 rfl d_Mod_count_108 rfl ?_
              exact V_iret X (kr ((M1.1 162 5), M1) (Option.some.inj h).symm) d_Mod_count_111
            · rw [if_neg c8] at h
              by_cases c9 : v1 = (6 : Int32)
              · rw [if_pos c9] at h
                refine V_tbl (v := 6) (pc' := 112) (off := 104) X d_Mod_count_8 c9 (by decide) (by decide) (by decide +kernel) (by decide) ?_
                refine V_aload_n (n := 1) X d_Mod_count_112 rfl rfl rfl ?_
                refine V_getr (k2 := 163) X fo_Mod_9 kd_162 rfl rf_162_0 d_Mod_count_113 rfl ?_
                refine V_bipush (v := 93) X d_Mod_count_116 (by decide) rfl ?_
                refine V_iald X kd_163 (inb_in ln_163 (by decide)) d_Mod_count_118 rfl ?_
                exact V_iret X (kr ((M1.1 163 (93 : Int32).toNatClampNeg), M1) (Option.some.inj h).symm) d_Mod_count_119
              · rw [if_neg c9] at h
                by_cases c10 : v1 = (7 : Int32)
                · rw [if_pos c10] at h
                  refine V_tbl (v := 7) (pc' := 120) (off := 112) X d_Mod_count_8 c10 (by decide) (by decide) (by decide +kernel) (by decide) ?_
                  refine V_aload_n (n := 1) X d_Mod_count_120 rfl rfl rfl ?_
                  refine V_getr (k2 := 163) X fo_Mod_9 kd_162 rfl rf_162_0 d_Mod_count_121 rfl ?_
                  refine V_bipush (v := 94) X d_Mod_count_124 (by decide) rfl ?_
                  refine V_iald X kd_163 (inb_in ln_163 (by decide)) d_Mod_count_126 rfl ?_
                  exact V_iret X (kr ((M1.1 163 (94 : Int32).toNatClampNeg), M1) (Option.some.inj h).symm) d_Mod_count_127
                · rw [if_neg c10] at h
                  by_cases c14 : v1 = (8 : Int32)
                  · rw [if_pos c14] at h
                    refine V_tbl (v := 8) (pc' := 128) (off := 120) X d_Mod_count_8 c14 (by decide) (by decide) (by decide +kernel) (by decide) ?_
                    refine V_iconst (v := 0) X d_Mod_count_128 (by decide) rfl ?_
                    refine V_istore_n (lv' := [(3, .int (0 : Int32)), (2, .int (0 : Int32)), (0, .ref (G.2.2 + 162)), (1, .int v1)]) X d_Mod_count_129 rfl (by decide) rfl rfl ?_
                    refine V_sub (lv' := [(0, .ref (G.2.2 + 162)), (2, .int (0 : Int32)), (3, .int (0 : Int32))]) [2, 1, 0] rfl ?_
                    obtain ⟨x13, hx13, h⟩ := ob_s h
                    refine (lp_Mod_count_130_ok X hD M1 _ _ _ hx13 (fun x9 e9 => ?_) :)
                    subst e9
                    refine V_iload_n (n := 0) X d_Mod_count_152 rfl rfl rfl ?_
                    refine V_iconst (v := 2) X d_Mod_count_153 (by decide) rfl ?_
                    refine V_idiv X d_Mod_count_154 (by decide) rfl ?_
                    exact V_iret X (kr ((x13 / (2 : Int32)), M1) (Option.some.inj h).symm) d_Mod_count_155
                  · rw [if_neg c14] at h
                    by_cases c15 : v1 = (9 : Int32)
                    · rw [if_pos c15] at h
                      refine V_tbl (v := 9) (pc' := 156) (off := 148) X d_Mod_count_8 c15 (by decide) (by decide) (by decide +kernel) (by decide) ?_
                      refine V_aload_n (n := 1) X d_Mod_count_156 rfl rfl rfl ?_
                      refine V_geti X fo_Mod_29 kd_162 rfl d_Mod_count_157 rfl ?_
                      exact V_iret X (kr ((M1.1 162 8), M1) (Option.some.inj h).symm) d_Mod_count_160
                    · rw [if_neg c15] at h
                      by_cases c16 : v1 = (10 : Int32)
                      · rw [if_pos c16] at h
                        refine V_tbl (v := 10) (pc' := 161) (off := 153) X d_Mod_count_8 c16 (by decide) (by decide) (by decide +kernel) (by decide) ?_
                        refine V_aload_n (n := 1) X d_Mod_count_161 rfl rfl rfl ?_
                        refine V_geti X fo_Mod_201 kd_162 rfl d_Mod_count_162 rfl ?_
                        exact V_iret X (kr ((M1.1 162 27), M1) (Option.some.inj h).symm) d_Mod_count_165
                      · rw [if_neg c16] at h
                        by_cases c17 : v1 = (11 : Int32)
                        · rw [if_pos c17] at h
                          refine V_tbl (v := 11) (pc' := 166) (off := 158) X d_Mod_count_8 c17 (by decide) (by decide) (by decide +kernel) (by decide) ?_
                          refine V_aload_n (n := 1) X d_Mod_count_166 rfl rfl rfl ?_
                          refine V_geti X fo_Mod_112 kd_162 rfl d_Mod_count_167 rfl ?_
                          exact V_iret X (kr ((M1.1 162 12), M1) (Option.some.inj h).symm) d_Mod_count_170
                        · rw [if_neg c17] at h
                          by_cases c18 : v1 = (12 : Int32)
                          · rw [if_pos c18] at h
                            refine V_tbl (v := 12) (pc' := 171) (off := 163) X d_Mod_count_8 c18 (by decide) (by decide) (by decide +kernel) (by decide) ?_
                            refine V_aload_n (n := 1) X d_Mod_count_171 rfl rfl rfl ?_
                            refine V_geti X fo_Mod_161 kd_162 rfl d_Mod_count_172 rfl ?_
                            exact V_iret X (kr ((M1.1 162 10), M1) (Option.some.inj h).symm) d_Mod_count_175
                          · rw [if_neg c18] at h
                            refine V_tableOut (pc' := 176) X d_Mod_count_8 (by have g0 := neT c3 (z := 0) (by decide); have g1 := neT c4 (z := 1) (by decide); have g2 := neT c5 (z := 2) (by decide); have g3 := neT c6 (z := 3) (by decide); have g4 := neT c7 (z := 4) (by decide); have g5 := neT c8 (z := 5) (by decide); have g6 := neT c9 (z := 6) (by decide); have g7 := neT c10 (z := 7) (by decide); have g8 := neT c14 (z := 8) (by decide); have g9 := neT c15 (z := 9) (by decide); have g10 := neT c16 (z := 10) (by decide); have g11 := neT c17 (z := 11) (by decide); have g12 := neT c18 (z := 12) (by decide); omega) (by decide) ?_
                            refine V_bipush (v := -100) X d_Mod_count_176 (by decide) rfl ?_
                            exact V_iret X (kr ((-100 : Int32), M1) (Option.some.inj h).symm) d_Mod_count_178
def f_Mod_row (v1 : Int32) (M : Mem) : Option (Int32 × Mem) :=
  mem_ (s_i M 162 13 (0 : Int32)) fun M1 =>
  Option.bind (f_Mod_in v1 (0 : Int32) ((M1.1 162 12) - (1 : Int32))) fun x2 =>
  if x2 = 0 then
  Option.bind (f_Mod_lost M1) fun x3 =>
  some (x3.1, x3.2)
  else
  if inb v1 16 = true then
  some ((M1.1 168 v1.toNatClampNeg), M1)
  else none
theorem c_Mod_row (l : Launch) (G : Gw)  (v1 : Int32) (M : Mem) (x : Int32 × Mem) (h : f_Mod_row v1 M = some x) (d : Nat) (hD : 2 ≤ d) : Ci l G y_Mod_row b_Mod_row 2 (some .int) d [.ref (G.2.2 + 162), .int v1] M (fun r9 M9 => r9 = x.1 ∧ M9 = x.2) := by
  refine Ci_of (by decide) (Nat.le_of_ble_eq_true rfl) (fun E hE X => ?_)
  subst hE
  have kr : ∀ x9 : Int32 × Mem, x = x9 → (fun r9 M9 => r9 = x.1 ∧ M9 = x.2) x9.1 x9.2 := fun x9 e9 => by subst e9; exact ⟨rfl, rfl⟩
  unfold f_Mod_row at h
  refine V_aload_n (n := 0) X d_Mod_row_0 rfl rfl rfl ?_
  refine V_iconst (v := 0) X d_Mod_row_1 (by decide) rfl ?_
  obtain ⟨M1, eM1, h⟩ := memS h
  refine V_putI X fp_Mod_109 kd_162 rfl d_Mod_row_2 rfl ?_
  rw [← eM1]
  refine V_iload_n (n := 1) X d_Mod_row_5 rfl rfl rfl ?_
  refine V_iconst (v := 0) X d_Mod_row_6 (by decide) rfl ?_
  refine V_aload_n (n := 0) X d_Mod_row_7 rfl rfl rfl ?_
  refine V_geti X fo_Mod_112 kd_162 rfl d_Mod_row_8 rfl ?_
  refine V_iconst (v := 1) X d_Mod_row_11 (by decide) rfl ?_
  refine V_isub X d_Mod_row_12 rfl ?_
  obtain ⟨x2, hx2, h⟩ := ob_s h
  refine V_si (As := [.int v1, .int (0 : Int32), .int ((M1.1 162 12) - (1 : Int32))]) X (Z0 E) ml_Mod_119 yq_Mod_in (c_Mod_in E.2.1 G v1 (0 : Int32) ((M1.1 162 12) - (1 : Int32)) M1 x2 hx2 _ (Nat.le_refl _)) rfl (by omega) rfl (Nat.le_of_ble_eq_true rfl) d_Mod_row_13 rfl (fun r9 M9 hq => ?_)
  rw [hq.1, hq.2]
  refine V_if_eq (tgt := 28) X d_Mod_row_16 (by decide) rfl (fun c4 => ?_) (fun c4 => ?_)
  · rw [if_pos c4] at h
    refine V_aload_n (n := 0) X d_Mod_row_28 rfl rfl rfl ?_
    obtain ⟨x3, hx3, h⟩ := ob_s h
    refine V_ci (As := []) X (Z0 E) ml_Mod_256 yq_Mod_lost (c_Mod_lost E.2.1 G  M1 x3 hx3 _ (Nat.le_refl _)) kd_162 rfl rfl (by omega) rfl (Nat.le_of_ble_eq_true rfl) d_Mod_row_29 rfl (fun r9 M9 hq => ?_)
    rw [hq.1, hq.2]
    exact V_iret X (kr (x3.1, x3.2) (Option.some.inj h).symm) d_Mod_row_32
  · rw [if_neg c4] at h
    refine V_aload_n (n := 0) X d_Mod_row_19 rfl rfl rfl ?_
    refine V_getr (k2 := 168) X fo_Mod_36 kd_162 rfl rf_162_11 d_Mod_row_20 rfl ?_
    refine V_iload_n (n := 1) X d_Mod_row_23 rfl rfl rfl ?_
    obtain ⟨hb, h⟩ := ifn h
    refine V_iald X kd_168 (inb_in ln_168 hb) d_Mod_row_24 rfl ?_
    refine V_goto (pc' := 32) X d_Mod_row_25 (by decide) ?_
    exact V_iret X (kr ((M1.1 168 v1.toNatClampNeg), M1) (Option.some.inj h).symm) d_Mod_row_32
