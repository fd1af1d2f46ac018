theorem d_Mod_rule_0 : decode b_Mod_rule 0 = .ok (.aload_n 0, 1) := kq_42 byq_r (by decide +kernel)
theorem d_Mod_rule_1 : decode b_Mod_rule 1 = .ok (.iconst 0, 1) := kq_3 byq_r (by decide +kernel)
theorem d_Mod_rule_2 : decode b_Mod_rule 2 = .ok (.putfield 109, 3) := kq_181 byq_r (a := 0) (b := 109) (by decide +kernel)
theorem d_Mod_rule_5 : decode b_Mod_rule 5 = .ok (.aload_n 0, 1) := kq_42 byq_r (by decide +kernel)
theorem d_Mod_rule_6 : decode b_Mod_rule 6 = .ok (.getfield 161, 3) := kq_180 byq_r (a := 0) (b := 161) (by decide +kernel)
theorem d_Mod_rule_9 : decode b_Mod_rule 9 = .ok (.istore_n 1, 1) := kq_60 byq_r (by decide +kernel)
theorem d_Mod_rule_10 : decode b_Mod_rule 10 = .ok (.aload_n 0, 1) := kq_42 byq_r (by decide +kernel)
theorem d_Mod_rule_11 : decode b_Mod_rule 11 = .ok (.aload_n 0, 1) := kq_42 byq_r (by decide +kernel)
theorem d_Mod_rule_12 : decode b_Mod_rule 12 = .ok (.getfield 32, 3) := kq_180 byq_r (a := 0) (b := 32) (by decide +kernel)
theorem d_Mod_rule_15 : decode b_Mod_rule 15 = .ok (.iload_n 1, 1) := kq_27 byq_r (by decide +kernel)
theorem d_Mod_rule_16 : decode b_Mod_rule 16 = .ok (.bipush 40, 2) := kq_16 byq_r (b := 40) (by decide +kernel)
theorem d_Mod_rule_18 : decode b_Mod_rule 18 = .ok (.invokevirtual 194, 3) := kq_182 byq_r (a := 0) (b := 194) (by decide +kernel)
theorem d_Mod_rule_21 : decode b_Mod_rule 21 = .ok (.aload_n 0, 1) := kq_42 byq_r (by decide +kernel)
theorem d_Mod_rule_22 : decode b_Mod_rule 22 = .ok (.iconst 0, 1) := kq_3 byq_r (by decide +kernel)
theorem d_Mod_rule_23 : decode b_Mod_rule 23 = .ok (.putfield 161, 3) := kq_181 byq_r (a := 0) (b := 161) (by decide +kernel)
theorem d_Mod_rule_26 : decode b_Mod_rule 26 = .ok (.aload_n 0, 1) := kq_42 byq_r (by decide +kernel)
theorem d_Mod_rule_27 : decode b_Mod_rule 27 = .ok (.aconst_null, 1) := kq_1 byq_r (by decide +kernel)
theorem d_Mod_rule_28 : decode b_Mod_rule 28 = .ok (.putfield 239, 3) := kq_181 byq_r (a := 0) (b := 239) (by decide +kernel)
theorem d_Mod_rule_31 : decode b_Mod_rule 31 = .ok (.iload_n 1, 1) := kq_27 byq_r (by decide +kernel)
theorem d_Mod_rule_32 : decode b_Mod_rule 32 = .ok (.ifCond .le 39, 3) := kq_158 byq_r (a := 0) (b := 39) (by decide +kernel)
theorem d_Mod_rule_35 : decode b_Mod_rule 35 = .ok (.aload_n 0, 1) := kq_42 byq_r (by decide +kernel)
theorem d_Mod_rule_36 : decode b_Mod_rule 36 = .ok (.iconst 0, 1) := kq_3 byq_r (by decide +kernel)
theorem d_Mod_rule_37 : decode b_Mod_rule 37 = .ok (.invokevirtual 236, 3) := kq_182 byq_r (a := 0) (b := 236) (by decide +kernel)
theorem d_Mod_rule_40 : decode b_Mod_rule 40 = .ok (.pop, 1) := kq_87 byq_r (by decide +kernel)
theorem d_Mod_rule_41 : decode b_Mod_rule 41 = .ok (.aload_n 0, 1) := kq_42 byq_r (by decide +kernel)
theorem d_Mod_rule_42 : decode b_Mod_rule 42 = .ok (.getfield 173, 3) := kq_180 byq_r (a := 0) (b := 173) (by decide +kernel)
theorem d_Mod_rule_45 : decode b_Mod_rule 45 = .ok (.iload_n 1, 1) := kq_27 byq_r (by decide +kernel)
theorem d_Mod_rule_46 : decode b_Mod_rule 46 = .ok (.if_icmp .ge 11, 3) := kq_162 byq_r (a := 0) (b := 11) (by decide +kernel)
theorem d_Mod_rule_49 : decode b_Mod_rule 49 = .ok (.aload_n 0, 1) := kq_42 byq_r (by decide +kernel)
theorem d_Mod_rule_50 : decode b_Mod_rule 50 = .ok (.aload_n 0, 1) := kq_42 byq_r (by decide +kernel)
theorem d_Mod_rule_51 : decode b_Mod_rule 51 = .ok (.getfield 173, 3) := kq_180 byq_r (a := 0) (b := 173) (by decide +kernel)
theorem d_Mod_rule_54 : decode b_Mod_rule 54 = .ok (.invokevirtual 190, 3) := kq_182 byq_r (a := 0) (b := 190) (by decide +kernel)
theorem d_Mod_rule_57 : decode b_Mod_rule 57 = .ok (.aload_n 0, 1) := kq_42 byq_r (by decide +kernel)
theorem d_Mod_rule_58 : decode b_Mod_rule 58 = .ok (.invokevirtual 179, 3) := kq_182 byq_r (a := 0) (b := 179) (by decide +kernel)
theorem d_Mod_rule_61 : decode b_Mod_rule 61 = .ok (.ifCond .ne 10, 3) := kq_154 byq_r (a := 0) (b := 10) (by decide +kernel)
theorem d_Mod_rule_64 : decode b_Mod_rule 64 = .ok (.iconst (-1), 1) := kq_2 byq_r (by decide +kernel)
theorem d_Mod_rule_65 : decode b_Mod_rule 65 = .ok (.aload_n 0, 1) := kq_42 byq_r (by decide +kernel)
theorem d_Mod_rule_66 : decode b_Mod_rule 66 = .ok (.getfield 176, 3) := kq_180 byq_r (a := 0) (b := 176) (by decide +kernel)
theorem d_Mod_rule_69 : decode b_Mod_rule 69 = .ok (.isub, 1) := kq_100 byq_r (by decide +kernel)
theorem d_Mod_rule_70 : decode b_Mod_rule 70 = .ok (.ireturn, 1) := kq_172 byq_r (by decide +kernel)
theorem d_Mod_rule_71 : decode b_Mod_rule 71 = .ok (.iconst 0, 1) := kq_3 byq_r (by decide +kernel)
theorem d_Mod_rule_72 : decode b_Mod_rule 72 = .ok (.istore_n 2, 1) := kq_61 byq_r (by decide +kernel)
theorem d_Mod_rule_73 : decode b_Mod_rule 73 = .ok (.iload_n 2, 1) := kq_28 byq_r (by decide +kernel)
theorem d_Mod_rule_74 : decode b_Mod_rule 74 = .ok (.iload_n 1, 1) := kq_27 byq_r (by decide +kernel)
theorem d_Mod_rule_75 : decode b_Mod_rule 75 = .ok (.if_icmp .ge 21, 3) := kq_162 byq_r (a := 0) (b := 21) (by decide +kernel)
theorem d_Mod_rule_78 : decode b_Mod_rule 78 = .ok (.aload_n 0, 1) := kq_42 byq_r (by decide +kernel)
theorem d_Mod_rule_79 : decode b_Mod_rule 79 = .ok (.getfield 48, 3) := kq_180 byq_r (a := 0) (b := 48) (by decide +kernel)
theorem d_Mod_rule_82 : decode b_Mod_rule 82 = .ok (.iload_n 2, 1) := kq_28 byq_r (by decide +kernel)
theorem d_Mod_rule_83 : decode b_Mod_rule 83 = .ok (.aload_n 0, 1) := kq_42 byq_r (by decide +kernel)
theorem d_Mod_rule_84 : decode b_Mod_rule 84 = .ok (.getfield 32, 3) := kq_180 byq_r (a := 0) (b := 32) (by decide +kernel)
theorem d_Mod_rule_87 : decode b_Mod_rule 87 = .ok (.iload_n 2, 1) := kq_28 byq_r (by decide +kernel)
theorem d_Mod_rule_88 : decode b_Mod_rule 88 = .ok (.baload, 1) := kq_51 byq_r (by decide +kernel)
theorem d_Mod_rule_89 : decode b_Mod_rule 89 = .ok (.bastore, 1) := kq_84 byq_r (by decide +kernel)
theorem d_Mod_rule_90 : decode b_Mod_rule 90 = .ok (.iinc 2 1, 3) := kq_132 byq_r (b := 1) (by decide +kernel)
theorem d_Mod_rule_93 : decode b_Mod_rule 93 = .ok (.goto (-20), 3) := kq_167 byq_r (a := 255) (b := 236) (by decide +kernel)
theorem d_Mod_rule_96 : decode b_Mod_rule 96 = .ok (.aload_n 0, 1) := kq_42 byq_r (by decide +kernel)
theorem d_Mod_rule_97 : decode b_Mod_rule 97 = .ok (.iload_n 1, 1) := kq_27 byq_r (by decide +kernel)
theorem d_Mod_rule_98 : decode b_Mod_rule 98 = .ok (.putfield 249, 3) := kq_181 byq_r (a := 0) (b := 249) (by decide +kernel)
theorem d_Mod_rule_101 : decode b_Mod_rule 101 = .ok (.iconst 0, 1) := kq_3 byq_r (by decide +kernel)
theorem d_Mod_rule_102 : decode b_Mod_rule 102 = .ok (.ireturn, 1) := kq_172 byq_r (by decide +kernel)
theorem d_Mod_goes_0 : decode b_Mod_goes 0 = .ok (.aload_n 1, 1) := kq_43 byq_r (by decide +kernel)
theorem d_Mod_goes_1 : decode b_Mod_goes 1 = .ok (.bipush 94, 2) := kq_16 byq_r (b := 94) (by decide +kernel)
theorem d_Mod_goes_3 : decode b_Mod_goes 3 = .ok (.iaload, 1) := kq_46 byq_r (by decide +kernel)
theorem d_Mod_goes_4 : decode b_Mod_goes 4 = .ok (.iconst 1, 1) := kq_4 byq_r (by decide +kernel)
theorem d_Mod_goes_5 : decode b_Mod_goes 5 = .ok (.if_icmp .ne 26, 3) := kq_160 byq_r (a := 0) (b := 26) (by decide +kernel)
theorem d_Mod_goes_8 : decode b_Mod_goes 8 = .ok (.aload_n 0, 1) := kq_42 byq_r (by decide +kernel)
theorem d_Mod_goes_9 : decode b_Mod_goes 9 = .ok (.getfield 130, 3) := kq_180 byq_r (a := 0) (b := 130) (by decide +kernel)
theorem d_Mod_goes_12 : decode b_Mod_goes 12 = .ok (.iload_n 2, 1) := kq_28 byq_r (by decide +kernel)
theorem d_Mod_goes_13 : decode b_Mod_goes 13 = .ok (.invokestatic 133, 3) := kq_184 byq_r (a := 0) (b := 133) (by decide +kernel)
theorem d_Mod_goes_16 : decode b_Mod_goes 16 = .ok (.ifCond .eq 15, 3) := kq_153 byq_r (a := 0) (b := 15) (by decide +kernel)
theorem d_Mod_goes_19 : decode b_Mod_goes 19 = .ok (.aload_n 1, 1) := kq_43 byq_r (by decide +kernel)
theorem d_Mod_goes_20 : decode b_Mod_goes 20 = .ok (.iload_n 2, 1) := kq_28 byq_r (by decide +kernel)
theorem d_Mod_goes_21 : decode b_Mod_goes 21 = .ok (.iaload, 1) := kq_46 byq_r (by decide +kernel)
theorem d_Mod_goes_22 : decode b_Mod_goes 22 = .ok (.invokestatic 143, 3) := kq_184 byq_r (a := 0) (b := 143) (by decide +kernel)
theorem d_Mod_goes_25 : decode b_Mod_goes 25 = .ok (.iconst 1, 1) := kq_4 byq_r (by decide +kernel)
theorem d_Mod_goes_26 : decode b_Mod_goes 26 = .ok (.if_icmp .ne 5, 3) := kq_160 byq_r (a := 0) (b := 5) (by decide +kernel)
theorem d_Mod_goes_29 : decode b_Mod_goes 29 = .ok (.iconst 0, 1) := kq_3 byq_r (by decide +kernel)
theorem d_Mod_goes_30 : decode b_Mod_goes 30 = .ok (.ireturn, 1) := kq_172 byq_r (by decide +kernel)
theorem d_Mod_goes_31 : decode b_Mod_goes 31 = .ok (.aload_n 0, 1) := kq_42 byq_r (by decide +kernel)
theorem d_Mod_goes_32 : decode b_Mod_goes 32 = .ok (.getfield 249, 3) := kq_180 byq_r (a := 0) (b := 249) (by decide +kernel)
theorem d_Mod_goes_35 : decode b_Mod_goes 35 = .ok (.ifCond .ne 5, 3) := kq_154 byq_r (a := 0) (b := 5) (by decide +kernel)
theorem d_Mod_goes_38 : decode b_Mod_goes 38 = .ok (.iconst 1, 1) := kq_4 byq_r (by decide +kernel)
theorem d_Mod_goes_39 : decode b_Mod_goes 39 = .ok (.ireturn, 1) := kq_172 byq_r (by decide +kernel)
theorem d_Mod_goes_40 : decode b_Mod_goes 40 = .ok (.aload_n 0, 1) := kq_42 byq_r (by decide +kernel)
theorem d_Mod_goes_41 : decode b_Mod_goes 41 = .ok (.aload_n 0, 1) := kq_42 byq_r (by decide +kernel)
theorem d_Mod_goes_42 : decode b_Mod_goes 42 = .ok (.getfield 48, 3) := kq_180 byq_r (a := 0) (b := 48) (by decide +kernel)
theorem d_Mod_goes_45 : decode b_Mod_goes 45 = .ok (.aload_n 0, 1) := kq_42 byq_r (by decide +kernel)
theorem d_Mod_goes_46 : decode b_Mod_goes 46 = .ok (.getfield 249, 3) := kq_180 byq_r (a := 0) (b := 249) (by decide +kernel)
theorem d_Mod_goes_49 : decode b_Mod_goes 49 = .ok (.bipush 40, 2) := kq_16 byq_r (b := 40) (by decide +kernel)
theorem d_Mod_goes_51 : decode b_Mod_goes 51 = .ok (.invokevirtual 194, 3) := kq_182 byq_r (a := 0) (b := 194) (by decide +kernel)
theorem d_Mod_goes_54 : decode b_Mod_goes 54 = .ok (.aload_n 0, 1) := kq_42 byq_r (by decide +kernel)
theorem d_Mod_goes_55 : decode b_Mod_goes 55 = .ok (.aload_n 1, 1) := kq_43 byq_r (by decide +kernel)
theorem d_Mod_goes_56 : decode b_Mod_goes 56 = .ok (.putfield 239, 3) := kq_181 byq_r (a := 0) (b := 239) (by decide +kernel)
theorem d_Mod_goes_59 : decode b_Mod_goes 59 = .ok (.aload_n 0, 1) := kq_42 byq_r (by decide +kernel)
theorem d_Mod_goes_60 : decode b_Mod_goes 60 = .ok (.iload_n 2, 1) := kq_28 byq_r (by decide +kernel)
theorem d_Mod_goes_61 : decode b_Mod_goes 61 = .ok (.putfield 242, 3) := kq_181 byq_r (a := 0) (b := 242) (by decide +kernel)
theorem d_Mod_goes_64 : decode b_Mod_goes 64 = .ok (.aload_n 0, 1) := kq_42 byq_r (by decide +kernel)
theorem d_Mod_goes_65 : decode b_Mod_goes 65 = .ok (.iconst 0, 1) := kq_3 byq_r (by decide +kernel)
theorem d_Mod_goes_66 : decode b_Mod_goes 66 = .ok (.invokevirtual 236, 3) := kq_182 byq_r (a := 0) (b := 236) (by decide +kernel)
theorem d_Mod_goes_69 : decode b_Mod_goes 69 = .ok (.ifCond .eq 7, 3) := kq_153 byq_r (a := 0) (b := 7) (by decide +kernel)
theorem d_Mod_goes_72 : decode b_Mod_goes 72 = .ok (.iconst 1, 1) := kq_4 byq_r (by decide +kernel)
theorem d_Mod_goes_73 : decode b_Mod_goes 73 = .ok (.goto 4, 3) := kq_167 byq_r (a := 0) (b := 4) (by decide +kernel)
theorem d_Mod_goes_76 : decode b_Mod_goes 76 = .ok (.iconst 0, 1) := kq_3 byq_r (by decide +kernel)
theorem d_Mod_goes_77 : decode b_Mod_goes 77 = .ok (.ireturn, 1) := kq_172 byq_r (by decide +kernel)
theorem d_Mod_onPlace_0 : decode b_Mod_onPlace 0 = .ok (.iconst 0, 1) := kq_3 byq_r (by decide +kernel)
theorem d_Mod_onPlace_1 : decode b_Mod_onPlace 1 = .ok (.istore_n 3, 1) := kq_62 byq_r (by decide +kernel)
theorem d_Mod_onPlace_2 : decode b_Mod_onPlace 2 = .ok (.iconst 0, 1) := kq_3 byq_r (by decide +kernel)
theorem d_Mod_onPlace_3 : decode b_Mod_onPlace 3 = .ok (.istore 4, 2) := kq_54 byq_r (by decide +kernel)
theorem d_Mod_onPlace_5 : decode b_Mod_onPlace 5 = .ok (.iload 4, 2) := kq_21 byq_r (by decide +kernel)
theorem d_Mod_onPlace_7 : decode b_Mod_onPlace 7 = .ok (.aload_n 0, 1) := kq_42 byq_r (by decide +kernel)
theorem d_Mod_onPlace_8 : decode b_Mod_onPlace 8 = .ok (.getfield 123, 3) := kq_180 byq_r (a := 0) (b := 123) (by decide +kernel)
theorem d_Mod_onPlace_11 : decode b_Mod_onPlace 11 = .ok (.if_icmp .ge 28, 3) := kq_162 byq_r (a := 0) (b := 28) (by decide +kernel)
theorem d_Mod_onPlace_14 : decode b_Mod_onPlace 14 = .ok (.iload_n 3, 1) := kq_29 byq_r (by decide +kernel)
theorem d_Mod_onPlace_15 : decode b_Mod_onPlace 15 = .ok (.aload_n 1, 1) := kq_43 byq_r (by decide +kernel)
theorem d_Mod_onPlace_16 : decode b_Mod_onPlace 16 = .ok (.iload 4, 2) := kq_21 byq_r (by decide +kernel)
theorem d_Mod_onPlace_18 : decode b_Mod_onPlace 18 = .ok (.iaload, 1) := kq_46 byq_r (by decide +kernel)
theorem d_Mod_onPlace_19 : decode b_Mod_onPlace 19 = .ok (.iload_n 2, 1) := kq_28 byq_r (by decide +kernel)
theorem d_Mod_onPlace_20 : decode b_Mod_onPlace 20 = .ok (.if_icmp .ne 10, 3) := kq_160 byq_r (a := 0) (b := 10) (by decide +kernel)
theorem d_Mod_onPlace_23 : decode b_Mod_onPlace 23 = .ok (.iconst 1, 1) := kq_4 byq_r (by decide +kernel)
theorem d_Mod_onPlace_24 : decode b_Mod_onPlace 24 = .ok (.iload 4, 2) := kq_21 byq_r (by decide +kernel)
theorem d_Mod_onPlace_26 : decode b_Mod_onPlace 26 = .ok (.ishl, 1) := kq_120 byq_r (by decide +kernel)
theorem d_Mod_onPlace_27 : decode b_Mod_onPlace 27 = .ok (.goto 4, 3) := kq_167 byq_r (a := 0) (b := 4) (by decide +kernel)
theorem d_Mod_onPlace_30 : decode b_Mod_onPlace 30 = .ok (.iconst 0, 1) := kq_3 byq_r (by decide +kernel)
theorem d_Mod_onPlace_31 : decode b_Mod_onPlace 31 = .ok (.ior, 1) := kq_128 byq_r (by decide +kernel)
theorem d_Mod_onPlace_32 : decode b_Mod_onPlace 32 = .ok (.istore_n 3, 1) := kq_62 byq_r (by decide +kernel)
theorem d_Mod_onPlace_33 : decode b_Mod_onPlace 33 = .ok (.iinc 4 1, 3) := kq_132 byq_r (b := 1) (by decide +kernel)
theorem d_Mod_onPlace_36 : decode b_Mod_onPlace 36 = .ok (.goto (-31), 3) := kq_167 byq_r (a := 255) (b := 225) (by decide +kernel)
theorem d_Mod_onPlace_39 : decode b_Mod_onPlace 39 = .ok (.iload_n 3, 1) := kq_29 byq_r (by decide +kernel)
theorem d_Mod_onPlace_40 : decode b_Mod_onPlace 40 = .ok (.ireturn, 1) := kq_172 byq_r (by decide +kernel)
theorem d_Mod_ways_0 : decode b_Mod_ways 0 = .ok (.aload_n 0, 1) := kq_42 byq_r (by decide +kernel)
theorem d_Mod_ways_1 : decode b_Mod_ways 1 = .ok (.iload_n 1, 1) := kq_27 byq_r (by decide +kernel)
theorem d_Mod_ways_2 : decode b_Mod_ways 2 = .ok (.iload_n 2, 1) := kq_28 byq_r (by decide +kernel)
theorem d_Mod_ways_3 : decode b_Mod_ways 3 = .ok (.invokevirtual 140, 3) := kq_182 byq_r (a := 0) (b := 140) (by decide +kernel)
theorem d_Mod_ways_6 : decode b_Mod_ways 6 = .ok (.ifCond .ne 5, 3) := kq_154 byq_r (a := 0) (b := 5) (by decide +kernel)
theorem d_Mod_ways_9 : decode b_Mod_ways 9 = .ok (.iconst 0, 1) := kq_3 byq_r (by decide +kernel)
theorem d_Mod_ways_10 : decode b_Mod_ways 10 = .ok (.ireturn, 1) := kq_172 byq_r (by decide +kernel)
theorem d_Mod_ways_11 : decode b_Mod_ways 11 = .ok (.iconst 0, 1) := kq_3 byq_r (by decide +kernel)
theorem d_Mod_ways_12 : decode b_Mod_ways 12 = .ok (.istore_n 3, 1) := kq_62 byq_r (by decide +kernel)
theorem d_Mod_ways_13 : decode b_Mod_ways 13 = .ok (.iconst 0, 1) := kq_3 byq_r (by decide +kernel)
theorem d_Mod_ways_14 : decode b_Mod_ways 14 = .ok (.istore 4, 2) := kq_54 byq_r (by decide +kernel)
theorem d_Mod_ways_16 : decode b_Mod_ways 16 = .ok (.iload 4, 2) := kq_21 byq_r (by decide +kernel)
theorem d_Mod_ways_18 : decode b_Mod_ways 18 = .ok (.iconst 4, 1) := kq_7 byq_r (by decide +kernel)
theorem d_Mod_ways_19 : decode b_Mod_ways 19 = .ok (.if_icmp .ge 36, 3) := kq_162 byq_r (a := 0) (b := 36) (by decide +kernel)
theorem d_Mod_ways_22 : decode b_Mod_ways 22 = .ok (.iload_n 3, 1) := kq_29 byq_r (by decide +kernel)
theorem d_Mod_ways_23 : decode b_Mod_ways 23 = .ok (.aload_n 0, 1) := kq_42 byq_r (by decide +kernel)
theorem d_Mod_ways_24 : decode b_Mod_ways 24 = .ok (.aload_n 0, 1) := kq_42 byq_r (by decide +kernel)
theorem d_Mod_ways_25 : decode b_Mod_ways 25 = .ok (.getfield 9, 3) := kq_180 byq_r (a := 0) (b := 9) (by decide +kernel)
theorem d_Mod_ways_28 : decode b_Mod_ways 28 = .ok (.iload_n 1, 1) := kq_27 byq_r (by decide +kernel)
theorem d_Mod_ways_29 : decode b_Mod_ways 29 = .ok (.iload_n 2, 1) := kq_28 byq_r (by decide +kernel)
theorem d_Mod_ways_30 : decode b_Mod_ways 30 = .ok (.invokestatic 154, 3) := kq_184 byq_r (a := 0) (b := 154) (by decide +kernel)
theorem d_Mod_ways_33 : decode b_Mod_ways 33 = .ok (.iload 4, 2) := kq_21 byq_r (by decide +kernel)
theorem d_Mod_ways_35 : decode b_Mod_ways 35 = .ok (.invokevirtual 252, 3) := kq_182 byq_r (a := 0) (b := 252) (by decide +kernel)
theorem d_Mod_ways_38 : decode b_Mod_ways 38 = .ok (.iconst (-1), 1) := kq_2 byq_r (by decide +kernel)
theorem d_Mod_ways_39 : decode b_Mod_ways 39 = .ok (.if_icmp .ne 7, 3) := kq_160 byq_r (a := 0) (b := 7) (by decide +kernel)
theorem d_Mod_ways_42 : decode b_Mod_ways 42 = .ok (.iconst 0, 1) := kq_3 byq_r (by decide +kernel)
theorem d_Mod_ways_43 : decode b_Mod_ways 43 = .ok (.goto 4, 3) := kq_167 byq_r (a := 0) (b := 4) (by decide +kernel)
theorem d_Mod_ways_46 : decode b_Mod_ways 46 = .ok (.iconst 1, 1) := kq_4 byq_r (by decide +kernel)
theorem d_Mod_ways_47 : decode b_Mod_ways 47 = .ok (.iadd, 1) := kq_96 byq_r (by decide +kernel)
theorem d_Mod_ways_48 : decode b_Mod_ways 48 = .ok (.istore_n 3, 1) := kq_62 byq_r (by decide +kernel)
theorem d_Mod_ways_49 : decode b_Mod_ways 49 = .ok (.iinc 4 1, 3) := kq_132 byq_r (b := 1) (by decide +kernel)
theorem d_Mod_ways_52 : decode b_Mod_ways 52 = .ok (.goto (-36), 3) := kq_167 byq_r (a := 255) (b := 220) (by decide +kernel)
theorem d_Mod_ways_55 : decode b_Mod_ways 55 = .ok (.iload_n 3, 1) := kq_29 byq_r (by decide +kernel)
theorem d_Mod_ways_56 : decode b_Mod_ways 56 = .ok (.ireturn, 1) := kq_172 byq_r (by decide +kernel)
theorem d_Mod_cell_0 : decode b_Mod_cell 0 = .ok (.aload_n 0, 1) := kq_42 byq_r (by decide +kernel)
theorem d_Mod_cell_1 : decode b_Mod_cell 1 = .ok (.iconst 0, 1) := kq_3 byq_r (by decide +kernel)
theorem d_Mod_cell_2 : decode b_Mod_cell 2 = .ok (.putfield 109, 3) := kq_181 byq_r (a := 0) (b := 109) (by decide +kernel)
theorem d_Mod_cell_5 : decode b_Mod_cell 5 = .ok (.aload_n 0, 1) := kq_42 byq_r (by decide +kernel)
theorem d_Mod_cell_6 : decode b_Mod_cell 6 = .ok (.iload_n 1, 1) := kq_27 byq_r (by decide +kernel)
theorem d_Mod_cell_7 : decode b_Mod_cell 7 = .ok (.invokevirtual 137, 3) := kq_182 byq_r (a := 0) (b := 137) (by decide +kernel)
theorem d_Mod_cell_10 : decode b_Mod_cell 10 = .ok (.ifCond .eq 12, 3) := kq_153 byq_r (a := 0) (b := 12) (by decide +kernel)
theorem d_Mod_cell_13 : decode b_Mod_cell 13 = .ok (.iload_n 2, 1) := kq_28 byq_r (by decide +kernel)
theorem d_Mod_cell_14 : decode b_Mod_cell 14 = .ok (.iconst 0, 1) := kq_3 byq_r (by decide +kernel)
theorem d_Mod_cell_15 : decode b_Mod_cell 15 = .ok (.iconst 5, 1) := kq_8 byq_r (by decide +kernel)
theorem d_Mod_cell_16 : decode b_Mod_cell 16 = .ok (.invokestatic 119, 3) := kq_184 byq_r (a := 0) (b := 119) (by decide +kernel)
theorem d_Mod_cell_19 : decode b_Mod_cell 19 = .ok (.ifCond .ne 8, 3) := kq_154 byq_r (a := 0) (b := 8) (by decide +kernel)
theorem d_Mod_cell_22 : decode b_Mod_cell 22 = .ok (.aload_n 0, 1) := kq_42 byq_r (by decide +kernel)
theorem d_Mod_cell_23 : decode b_Mod_cell 23 = .ok (.invokevirtual 256, 3) := kq_182 byq_r (a := 1) (b := 0) (by decide +kernel)
theorem d_Mod_cell_26 : decode b_Mod_cell 26 = .ok (.ireturn, 1) := kq_172 byq_r (by decide +kernel)
theorem d_Mod_cell_27 : decode b_Mod_cell 27 = .ok (.iload_n 2, 1) := kq_28 byq_r (by decide +kernel)
theorem d_Mod_cell_28 : decode b_Mod_cell 28 = .ok (.tableswitch 125 0 3 #[32, 39, 39, 55], 32) := by decide +kernel
theorem d_Mod_cell_60 : decode b_Mod_cell 60 = .ok (.aload_n 0, 1) := kq_42 byq_r (by decide +kernel)
theorem d_Mod_cell_61 : decode b_Mod_cell 61 = .ok (.getfield 13, 3) := kq_180 byq_r (a := 0) (b := 13) (by decide +kernel)
theorem d_Mod_cell_64 : decode b_Mod_cell 64 = .ok (.iload_n 1, 1) := kq_27 byq_r (by decide +kernel)
theorem d_Mod_cell_65 : decode b_Mod_cell 65 = .ok (.iaload, 1) := kq_46 byq_r (by decide +kernel)
theorem d_Mod_cell_66 : decode b_Mod_cell 66 = .ok (.ireturn, 1) := kq_172 byq_r (by decide +kernel)
theorem d_Mod_cell_67 : decode b_Mod_cell 67 = .ok (.aload_n 0, 1) := kq_42 byq_r (by decide +kernel)
theorem d_Mod_cell_68 : decode b_Mod_cell 68 = .ok (.aload_n 0, 1) := kq_42 byq_r (by decide +kernel)
theorem d_Mod_cell_69 : decode b_Mod_cell 69 = .ok (.getfield 9, 3) := kq_180 byq_r (a := 0) (b := 9) (by decide +kernel)
theorem d_Mod_cell_72 : decode b_Mod_cell 72 = .ok (.iload_n 2, 1) := kq_28 byq_r (by decide +kernel)
theorem d_Mod_cell_73 : decode b_Mod_cell 73 = .ok (.iconst 1, 1) := kq_4 byq_r (by decide +kernel)
theorem d_Mod_cell_74 : decode b_Mod_cell 74 = .ok (.isub, 1) := kq_100 byq_r (by decide +kernel)
theorem d_Mod_cell_75 : decode b_Mod_cell 75 = .ok (.iload_n 1, 1) := kq_27 byq_r (by decide +kernel)
theorem d_Mod_cell_76 : decode b_Mod_cell 76 = .ok (.invokestatic 154, 3) := kq_184 byq_r (a := 0) (b := 154) (by decide +kernel)
theorem d_Mod_cell_79 : decode b_Mod_cell 79 = .ok (.invokevirtual 259, 3) := kq_182 byq_r (a := 1) (b := 3) (by decide +kernel)
theorem d_Mod_cell_82 : decode b_Mod_cell 82 = .ok (.ireturn, 1) := kq_172 byq_r (by decide +kernel)
theorem d_Mod_cell_83 : decode b_Mod_cell 83 = .ok (.iconst 0, 1) := kq_3 byq_r (by decide +kernel)
theorem d_Mod_cell_84 : decode b_Mod_cell 84 = .ok (.istore_n 3, 1) := kq_62 byq_r (by decide +kernel)
theorem d_Mod_cell_85 : decode b_Mod_cell 85 = .ok (.iconst 0, 1) := kq_3 byq_r (by decide +kernel)
theorem d_Mod_cell_86 : decode b_Mod_cell 86 = .ok (.istore 4, 2) := kq_54 byq_r (by decide +kernel)
theorem d_Mod_cell_88 : decode b_Mod_cell 88 = .ok (.iload 4, 2) := kq_21 byq_r (by decide +kernel)
theorem d_Mod_cell_90 : decode b_Mod_cell 90 = .ok (.aload_n 0, 1) := kq_42 byq_r (by decide +kernel)
theorem d_Mod_cell_91 : decode b_Mod_cell 91 = .ok (.getfield 9, 3) := kq_180 byq_r (a := 0) (b := 9) (by decide +kernel)
theorem d_Mod_cell_94 : decode b_Mod_cell 94 = .ok (.bipush 92, 2) := kq_16 byq_r (b := 92) (by decide +kernel)
theorem d_Mod_cell_96 : decode b_Mod_cell 96 = .ok (.iaload, 1) := kq_46 byq_r (by decide +kernel)
theorem d_Mod_cell_97 : decode b_Mod_cell 97 = .ok (.if_icmp .ge 54, 3) := kq_162 byq_r (a := 0) (b := 54) (by decide +kernel)
theorem d_Mod_cell_100 : decode b_Mod_cell 100 = .ok (.iload_n 3, 1) := kq_29 byq_r (by decide +kernel)
theorem d_Mod_cell_101 : decode b_Mod_cell 101 = .ok (.aload_n 0, 1) := kq_42 byq_r (by decide +kernel)
theorem d_Mod_cell_102 : decode b_Mod_cell 102 = .ok (.getfield 9, 3) := kq_180 byq_r (a := 0) (b := 9) (by decide +kernel)
theorem d_Mod_cell_105 : decode b_Mod_cell 105 = .ok (.bipush 80, 2) := kq_16 byq_r (b := 80) (by decide +kernel)
theorem d_Mod_cell_107 : decode b_Mod_cell 107 = .ok (.iconst 2, 1) := kq_5 byq_r (by decide +kernel)
theorem d_Mod_cell_108 : decode b_Mod_cell 108 = .ok (.iload 4, 2) := kq_21 byq_r (by decide +kernel)
theorem d_Mod_cell_110 : decode b_Mod_cell 110 = .ok (.imul, 1) := kq_104 byq_r (by decide +kernel)
theorem d_Mod_cell_111 : decode b_Mod_cell 111 = .ok (.iadd, 1) := kq_96 byq_r (by decide +kernel)
theorem d_Mod_cell_112 : decode b_Mod_cell 112 = .ok (.iaload, 1) := kq_46 byq_r (by decide +kernel)
theorem d_Mod_cell_113 : decode b_Mod_cell 113 = .ok (.iload_n 1, 1) := kq_27 byq_r (by decide +kernel)
theorem d_Mod_cell_114 : decode b_Mod_cell 114 = .ok (.if_icmp .eq 21, 3) := kq_159 byq_r (a := 0) (b := 21) (by decide +kernel)
theorem d_Mod_cell_117 : decode b_Mod_cell 117 = .ok (.aload_n 0, 1) := kq_42 byq_r (by decide +kernel)
theorem d_Mod_cell_118 : decode b_Mod_cell 118 = .ok (.getfield 9, 3) := kq_180 byq_r (a := 0) (b := 9) (by decide +kernel)
theorem d_Mod_cell_121 : decode b_Mod_cell 121 = .ok (.bipush 80, 2) := kq_16 byq_r (b := 80) (by decide +kernel)
theorem d_Mod_cell_123 : decode b_Mod_cell 123 = .ok (.iconst 2, 1) := kq_5 byq_r (by decide +kernel)
theorem d_Mod_cell_124 : decode b_Mod_cell 124 = .ok (.iload 4, 2) := kq_21 byq_r (by decide +kernel)
theorem d_Mod_cell_126 : decode b_Mod_cell 126 = .ok (.imul, 1) := kq_104 byq_r (by decide +kernel)
theorem d_Mod_cell_127 : decode b_Mod_cell 127 = .ok (.iadd, 1) := kq_96 byq_r (by decide +kernel)
theorem d_Mod_cell_128 : decode b_Mod_cell 128 = .ok (.iconst 1, 1) := kq_4 byq_r (by decide +kernel)
theorem d_Mod_cell_129 : decode b_Mod_cell 129 = .ok (.iadd, 1) := kq_96 byq_r (by decide +kernel)
theorem d_Mod_cell_130 : decode b_Mod_cell 130 = .ok (.iaload, 1) := kq_46 byq_r (by decide +kernel)
theorem d_Mod_cell_131 : decode b_Mod_cell 131 = .ok (.iload_n 1, 1) := kq_27 byq_r (by decide +kernel)
theorem d_Mod_cell_132 : decode b_Mod_cell 132 = .ok (.if_icmp .ne 10, 3) := kq_160 byq_r (a := 0) (b := 10) (by decide +kernel)
theorem d_Mod_cell_135 : decode b_Mod_cell 135 = .ok (.iconst 1, 1) := kq_4 byq_r (by decide +kernel)
theorem d_Mod_cell_136 : decode b_Mod_cell 136 = .ok (.iload 4, 2) := kq_21 byq_r (by decide +kernel)
theorem d_Mod_cell_138 : decode b_Mod_cell 138 = .ok (.ishl, 1) := kq_120 byq_r (by decide +kernel)
theorem d_Mod_cell_139 : decode b_Mod_cell 139 = .ok (.goto 4, 3) := kq_167 byq_r (a := 0) (b := 4) (by decide +kernel)
theorem d_Mod_cell_142 : decode b_Mod_cell 142 = .ok (.iconst 0, 1) := kq_3 byq_r (by decide +kernel)
theorem d_Mod_cell_143 : decode b_Mod_cell 143 = .ok (.ior, 1) := kq_128 byq_r (by decide +kernel)
theorem d_Mod_cell_144 : decode b_Mod_cell 144 = .ok (.istore_n 3, 1) := kq_62 byq_r (by decide +kernel)
theorem d_Mod_cell_145 : decode b_Mod_cell 145 = .ok (.iinc 4 1, 3) := kq_132 byq_r (b := 1) (by decide +kernel)
theorem d_Mod_cell_148 : decode b_Mod_cell 148 = .ok (.goto (-60), 3) := kq_167 byq_r (a := 255) (b := 196) (by decide +kernel)
theorem d_Mod_cell_151 : decode b_Mod_cell 151 = .ok (.iload_n 3, 1) := kq_29 byq_r (by decide +kernel)
theorem d_Mod_cell_152 : decode b_Mod_cell 152 = .ok (.ireturn, 1) := kq_172 byq_r (by decide +kernel)
theorem d_Mod_cell_153 : decode b_Mod_cell 153 = .ok (.aload_n 0, 1) := kq_42 byq_r (by decide +kernel)
theorem d_Mod_cell_154 : decode b_Mod_cell 154 = .ok (.iload_n 2, 1) := kq_28 byq_r (by decide +kernel)
theorem d_Mod_cell_155 : decode b_Mod_cell 155 = .ok (.iconst 4, 1) := kq_7 byq_r (by decide +kernel)
theorem d_Mod_cell_156 : decode b_Mod_cell 156 = .ok (.isub, 1) := kq_100 byq_r (by decide +kernel)
theorem d_Mod_cell_157 : decode b_Mod_cell 157 = .ok (.iload_n 1, 1) := kq_27 byq_r (by decide +kernel)
theorem d_Mod_cell_158 : decode b_Mod_cell 158 = .ok (.invokevirtual 262, 3) := kq_182 byq_r (a := 1) (b := 6) (by decide +kernel)
theorem d_Mod_cell_161 : decode b_Mod_cell 161 = .ok (.ireturn, 1) := kq_172 byq_r (by decide +kernel)
theorem d_Mod_meetingsOf_0 : decode b_Mod_meetingsOf 0 = .ok (.iconst 0, 1) := kq_3 byq_r (by decide +kernel)
theorem d_Mod_meetingsOf_1 : decode b_Mod_meetingsOf 1 = .ok (.istore_n 2, 1) := kq_61 byq_r (by decide +kernel)
theorem d_Mod_meetingsOf_2 : decode b_Mod_meetingsOf 2 = .ok (.iconst 0, 1) := kq_3 byq_r (by decide +kernel)
theorem d_Mod_meetingsOf_3 : decode b_Mod_meetingsOf 3 = .ok (.istore_n 3, 1) := kq_62 byq_r (by decide +kernel)
theorem d_Mod_meetingsOf_4 : decode b_Mod_meetingsOf 4 = .ok (.iload_n 3, 1) := kq_29 byq_r (by decide +kernel)
theorem d_Mod_meetingsOf_5 : decode b_Mod_meetingsOf 5 = .ok (.aload_n 0, 1) := kq_42 byq_r (by decide +kernel)
theorem d_Mod_meetingsOf_6 : decode b_Mod_meetingsOf 6 = .ok (.getfield 123, 3) := kq_180 byq_r (a := 0) (b := 123) (by decide +kernel)
theorem d_Mod_meetingsOf_9 : decode b_Mod_meetingsOf 9 = .ok (.if_icmp .ge 26, 3) := kq_162 byq_r (a := 0) (b := 26) (by decide +kernel)
theorem d_Mod_meetingsOf_12 : decode b_Mod_meetingsOf 12 = .ok (.iload_n 2, 1) := kq_28 byq_r (by decide +kernel)
theorem d_Mod_meetingsOf_13 : decode b_Mod_meetingsOf 13 = .ok (.aload_n 0, 1) := kq_42 byq_r (by decide +kernel)
theorem d_Mod_meetingsOf_14 : decode b_Mod_meetingsOf 14 = .ok (.getfield 9, 3) := kq_180 byq_r (a := 0) (b := 9) (by decide +kernel)
theorem d_Mod_meetingsOf_17 : decode b_Mod_meetingsOf 17 = .ok (.bipush 16, 2) := kq_16 byq_r (b := 16) (by decide +kernel)
theorem d_Mod_meetingsOf_19 : decode b_Mod_meetingsOf 19 = .ok (.bipush 8, 2) := kq_16 byq_r (b := 8) (by decide +kernel)
theorem d_Mod_meetingsOf_21 : decode b_Mod_meetingsOf 21 = .ok (.iload_n 1, 1) := kq_27 byq_r (by decide +kernel)
theorem d_Mod_meetingsOf_22 : decode b_Mod_meetingsOf 22 = .ok (.imul, 1) := kq_104 byq_r (by decide +kernel)
theorem d_Mod_meetingsOf_23 : decode b_Mod_meetingsOf 23 = .ok (.iadd, 1) := kq_96 byq_r (by decide +kernel)
theorem d_Mod_meetingsOf_24 : decode b_Mod_meetingsOf 24 = .ok (.iload_n 3, 1) := kq_29 byq_r (by decide +kernel)
theorem d_Mod_meetingsOf_25 : decode b_Mod_meetingsOf 25 = .ok (.iadd, 1) := kq_96 byq_r (by decide +kernel)
theorem d_Mod_meetingsOf_26 : decode b_Mod_meetingsOf 26 = .ok (.iaload, 1) := kq_46 byq_r (by decide +kernel)
theorem d_Mod_meetingsOf_27 : decode b_Mod_meetingsOf 27 = .ok (.iadd, 1) := kq_96 byq_r (by decide +kernel)
theorem d_Mod_meetingsOf_28 : decode b_Mod_meetingsOf 28 = .ok (.istore_n 2, 1) := kq_61 byq_r (by decide +kernel)
theorem d_Mod_meetingsOf_29 : decode b_Mod_meetingsOf 29 = .ok (.iinc 3 1, 3) := kq_132 byq_r (b := 1) (by decide +kernel)
theorem d_Mod_meetingsOf_32 : decode b_Mod_meetingsOf 32 = .ok (.goto (-28), 3) := kq_167 byq_r (a := 255) (b := 228) (by decide +kernel)
theorem d_Mod_meetingsOf_35 : decode b_Mod_meetingsOf 35 = .ok (.iload_n 2, 1) := kq_28 byq_r (by decide +kernel)
theorem d_Mod_meetingsOf_36 : decode b_Mod_meetingsOf 36 = .ok (.ireturn, 1) := kq_172 byq_r (by decide +kernel)
theorem d_Mod_person_0 : decode b_Mod_person 0 = .ok (.aload_n 0, 1) := kq_42 byq_r (by decide +kernel)
theorem d_Mod_person_1 : decode b_Mod_person 1 = .ok (.iconst 0, 1) := kq_3 byq_r (by decide +kernel)
theorem d_Mod_person_2 : decode b_Mod_person 2 = .ok (.putfield 109, 3) := kq_181 byq_r (a := 0) (b := 109) (by decide +kernel)
theorem d_Mod_person_5 : decode b_Mod_person 5 = .ok (.aload_n 0, 1) := kq_42 byq_r (by decide +kernel)
theorem d_Mod_person_6 : decode b_Mod_person 6 = .ok (.iload_n 1, 1) := kq_27 byq_r (by decide +kernel)
theorem d_Mod_person_7 : decode b_Mod_person 7 = .ok (.invokevirtual 126, 3) := kq_182 byq_r (a := 0) (b := 126) (by decide +kernel)
theorem d_Mod_person_10 : decode b_Mod_person 10 = .ok (.ifCond .eq 13, 3) := kq_153 byq_r (a := 0) (b := 13) (by decide +kernel)
theorem d_Mod_person_13 : decode b_Mod_person 13 = .ok (.iload_n 2, 1) := kq_28 byq_r (by decide +kernel)
theorem d_Mod_person_14 : decode b_Mod_person 14 = .ok (.iconst 0, 1) := kq_3 byq_r (by decide +kernel)
theorem d_Mod_person_15 : decode b_Mod_person 15 = .ok (.bipush 7, 2) := kq_16 byq_r (b := 7) (by decide +kernel)
theorem d_Mod_person_17 : decode b_Mod_person 17 = .ok (.invokestatic 119, 3) := kq_184 byq_r (a := 0) (b := 119) (by decide +kernel)
theorem d_Mod_person_20 : decode b_Mod_person 20 = .ok (.ifCond .ne 8, 3) := kq_154 byq_r (a := 0) (b := 8) (by decide +kernel)
theorem d_Mod_person_23 : decode b_Mod_person 23 = .ok (.aload_n 0, 1) := kq_42 byq_r (by decide +kernel)
theorem d_Mod_person_24 : decode b_Mod_person 24 = .ok (.invokevirtual 256, 3) := kq_182 byq_r (a := 1) (b := 0) (by decide +kernel)
theorem d_Mod_person_27 : decode b_Mod_person 27 = .ok (.ireturn, 1) := kq_172 byq_r (by decide +kernel)
theorem d_Mod_person_28 : decode b_Mod_person 28 = .ok (.iload_n 2, 1) := kq_28 byq_r (by decide +kernel)
theorem d_Mod_person_29 : decode b_Mod_person 29 = .ok (.tableswitch 107 0 6 #[43, 52, 62, 72, 82, 89, 101], 43) := by decide +kernel
theorem d_Mod_person_72 : decode b_Mod_person 72 = .ok (.aload_n 0, 1) := kq_42 byq_r (by decide +kernel)
theorem d_Mod_person_73 : decode b_Mod_person 73 = .ok (.getfield 130, 3) := kq_180 byq_r (a := 0) (b := 130) (by decide +kernel)
theorem d_Mod_person_76 : decode b_Mod_person 76 = .ok (.iload_n 1, 1) := kq_27 byq_r (by decide +kernel)
theorem d_Mod_person_77 : decode b_Mod_person 77 = .ok (.ishr, 1) := kq_122 byq_r (by decide +kernel)
theorem d_Mod_person_78 : decode b_Mod_person 78 = .ok (.iconst 1, 1) := kq_4 byq_r (by decide +kernel)
theorem d_Mod_person_79 : decode b_Mod_person 79 = .ok (.iand, 1) := kq_126 byq_r (by decide +kernel)
theorem d_Mod_person_80 : decode b_Mod_person 80 = .ok (.ireturn, 1) := kq_172 byq_r (by decide +kernel)
theorem d_Mod_person_81 : decode b_Mod_person 81 = .ok (.aload_n 0, 1) := kq_42 byq_r (by decide +kernel)
theorem d_Mod_person_82 : decode b_Mod_person 82 = .ok (.getfield 9, 3) := kq_180 byq_r (a := 0) (b := 9) (by decide +kernel)
theorem d_Mod_person_85 : decode b_Mod_person 85 = .ok (.iload_n 1, 1) := kq_27 byq_r (by decide +kernel)
theorem d_Mod_person_86 : decode b_Mod_person 86 = .ok (.iaload, 1) := kq_46 byq_r (by decide +kernel)
theorem d_Mod_person_87 : decode b_Mod_person 87 = .ok (.invokestatic 147, 3) := kq_184 byq_r (a := 0) (b := 147) (by decide +kernel)
theorem d_Mod_person_90 : decode b_Mod_person 90 = .ok (.ireturn, 1) := kq_172 byq_r (by decide +kernel)
theorem d_Mod_person_91 : decode b_Mod_person 91 = .ok (.aload_n 0, 1) := kq_42 byq_r (by decide +kernel)
theorem d_Mod_person_92 : decode b_Mod_person 92 = .ok (.getfield 9, 3) := kq_180 byq_r (a := 0) (b := 9) (by decide +kernel)
theorem d_Mod_person_95 : decode b_Mod_person 95 = .ok (.iload_n 1, 1) := kq_27 byq_r (by decide +kernel)
theorem d_Mod_person_96 : decode b_Mod_person 96 = .ok (.iaload, 1) := kq_46 byq_r (by decide +kernel)
theorem d_Mod_person_97 : decode b_Mod_person 97 = .ok (.invokestatic 143, 3) := kq_184 byq_r (a := 0) (b := 143) (by decide +kernel)
theorem d_Mod_person_100 : decode b_Mod_person 100 = .ok (.ireturn, 1) := kq_172 byq_r (by decide +kernel)
theorem d_Mod_person_101 : decode b_Mod_person 101 = .ok (.aload_n 0, 1) := kq_42 byq_r (by decide +kernel)
theorem d_Mod_person_102 : decode b_Mod_person 102 = .ok (.getfield 9, 3) := kq_180 byq_r (a := 0) (b := 9) (by decide +kernel)
theorem d_Mod_person_105 : decode b_Mod_person 105 = .ok (.bipush 8, 2) := kq_16 byq_r (b := 8) (by decide +kernel)
theorem d_Mod_person_107 : decode b_Mod_person 107 = .ok (.iload_n 1, 1) := kq_27 byq_r (by decide +kernel)
theorem d_Mod_person_108 : decode b_Mod_person 108 = .ok (.iadd, 1) := kq_96 byq_r (by decide +kernel)
theorem d_Mod_person_109 : decode b_Mod_person 109 = .ok (.iaload, 1) := kq_46 byq_r (by decide +kernel)
theorem d_Mod_person_110 : decode b_Mod_person 110 = .ok (.ireturn, 1) := kq_172 byq_r (by decide +kernel)
theorem d_Mod_person_111 : decode b_Mod_person 111 = .ok (.aload_n 0, 1) := kq_42 byq_r (by decide +kernel)
theorem d_Mod_person_112 : decode b_Mod_person 112 = .ok (.getfield 26, 3) := kq_180 byq_r (a := 0) (b := 26) (by decide +kernel)
theorem d_Mod_person_115 : decode b_Mod_person 115 = .ok (.iload_n 1, 1) := kq_27 byq_r (by decide +kernel)
theorem d_Mod_person_116 : decode b_Mod_person 116 = .ok (.iaload, 1) := kq_46 byq_r (by decide +kernel)
theorem d_Mod_person_117 : decode b_Mod_person 117 = .ok (.ireturn, 1) := kq_172 byq_r (by decide +kernel)
theorem d_Mod_person_118 : decode b_Mod_person 118 = .ok (.aload_n 0, 1) := kq_42 byq_r (by decide +kernel)
theorem d_Mod_person_119 : decode b_Mod_person 119 = .ok (.getfield 9, 3) := kq_180 byq_r (a := 0) (b := 9) (by decide +kernel)
theorem d_Mod_person_122 : decode b_Mod_person 122 = .ok (.bipush 93, 2) := kq_16 byq_r (b := 93) (by decide +kernel)
theorem d_Mod_person_124 : decode b_Mod_person 124 = .ok (.iaload, 1) := kq_46 byq_r (by decide +kernel)
theorem d_Mod_person_125 : decode b_Mod_person 125 = .ok (.iload_n 1, 1) := kq_27 byq_r (by decide +kernel)
theorem d_Mod_person_126 : decode b_Mod_person 126 = .ok (.ishr, 1) := kq_122 byq_r (by decide +kernel)
theorem d_Mod_person_127 : decode b_Mod_person 127 = .ok (.iconst 1, 1) := kq_4 byq_r (by decide +kernel)
theorem d_Mod_person_128 : decode b_Mod_person 128 = .ok (.iand, 1) := kq_126 byq_r (by decide +kernel)
theorem d_Mod_person_129 : decode b_Mod_person 129 = .ok (.ireturn, 1) := kq_172 byq_r (by decide +kernel)
theorem d_Mod_person_130 : decode b_Mod_person 130 = .ok (.aload_n 0, 1) := kq_42 byq_r (by decide +kernel)
theorem d_Mod_person_131 : decode b_Mod_person 131 = .ok (.iload_n 1, 1) := kq_27 byq_r (by decide +kernel)
theorem d_Mod_person_132 : decode b_Mod_person 132 = .ok (.invokevirtual 265, 3) := kq_182 byq_r (a := 1) (b := 9) (by decide +kernel)
theorem d_Mod_person_135 : decode b_Mod_person 135 = .ok (.ireturn, 1) := kq_172 byq_r (by decide +kernel)
theorem d_Mod_person_136 : decode b_Mod_person 136 = .ok (.aload_n 0, 1) := kq_42 byq_r (by decide +kernel)
theorem d_Mod_person_137 : decode b_Mod_person 137 = .ok (.aload_n 0, 1) := kq_42 byq_r (by decide +kernel)
theorem d_Mod_person_138 : decode b_Mod_person 138 = .ok (.getfield 9, 3) := kq_180 byq_r (a := 0) (b := 9) (by decide +kernel)
theorem d_Mod_person_141 : decode b_Mod_person 141 = .ok (.iload_n 1, 1) := kq_27 byq_r (by decide +kernel)
theorem d_Mod_person_142 : decode b_Mod_person 142 = .ok (.invokevirtual 268, 3) := kq_182 byq_r (a := 1) (b := 12) (by decide +kernel)
theorem d_Mod_person_145 : decode b_Mod_person 145 = .ok (.ifCond .eq 7, 3) := kq_153 byq_r (a := 0) (b := 7) (by decide +kernel)
theorem d_Mod_person_148 : decode b_Mod_person 148 = .ok (.iconst 1, 1) := kq_4 byq_r (by decide +kernel)
theorem d_Mod_person_149 : decode b_Mod_person 149 = .ok (.goto 4, 3) := kq_167 byq_r (a := 0) (b := 4) (by decide +kernel)
theorem d_Mod_person_152 : decode b_Mod_person 152 = .ok (.iconst 0, 1) := kq_3 byq_r (by decide +kernel)
theorem d_Mod_person_153 : decode b_Mod_person 153 = .ok (.ireturn, 1) := kq_172 byq_r (by decide +kernel)
theorem d_Mod_isUnder_0 : decode b_Mod_isUnder 0 = .ok (.iconst 0, 1) := kq_3 byq_r (by decide +kernel)
theorem d_Mod_isUnder_1 : decode b_Mod_isUnder 1 = .ok (.istore_n 2, 1) := kq_61 byq_r (by decide +kernel)
theorem d_Mod_isUnder_2 : decode b_Mod_isUnder 2 = .ok (.iload_n 2, 1) := kq_28 byq_r (by decide +kernel)
theorem d_Mod_isUnder_3 : decode b_Mod_isUnder 3 = .ok (.aload_n 0, 1) := kq_42 byq_r (by decide +kernel)
theorem d_Mod_isUnder_4 : decode b_Mod_isUnder 4 = .ok (.getfield 9, 3) := kq_180 byq_r (a := 0) (b := 9) (by decide +kernel)
theorem d_Mod_isUnder_7 : decode b_Mod_isUnder 7 = .ok (.bipush 92, 2) := kq_16 byq_r (b := 92) (by decide +kernel)
theorem d_Mod_isUnder_9 : decode b_Mod_isUnder 9 = .ok (.iaload, 1) := kq_46 byq_r (by decide +kernel)
theorem d_Mod_isUnder_10 : decode b_Mod_isUnder 10 = .ok (.if_icmp .ge 42, 3) := kq_162 byq_r (a := 0) (b := 42) (by decide +kernel)
theorem d_Mod_isUnder_13 : decode b_Mod_isUnder 13 = .ok (.aload_n 0, 1) := kq_42 byq_r (by decide +kernel)
theorem d_Mod_isUnder_14 : decode b_Mod_isUnder 14 = .ok (.getfield 9, 3) := kq_180 byq_r (a := 0) (b := 9) (by decide +kernel)
theorem d_Mod_isUnder_17 : decode b_Mod_isUnder 17 = .ok (.bipush 80, 2) := kq_16 byq_r (b := 80) (by decide +kernel)
theorem d_Mod_isUnder_19 : decode b_Mod_isUnder 19 = .ok (.iconst 2, 1) := kq_5 byq_r (by decide +kernel)
theorem d_Mod_isUnder_20 : decode b_Mod_isUnder 20 = .ok (.iload_n 2, 1) := kq_28 byq_r (by decide +kernel)
theorem d_Mod_isUnder_21 : decode b_Mod_isUnder 21 = .ok (.imul, 1) := kq_104 byq_r (by decide +kernel)
theorem d_Mod_isUnder_22 : decode b_Mod_isUnder 22 = .ok (.iadd, 1) := kq_96 byq_r (by decide +kernel)
theorem d_Mod_isUnder_23 : decode b_Mod_isUnder 23 = .ok (.iaload, 1) := kq_46 byq_r (by decide +kernel)
theorem d_Mod_isUnder_24 : decode b_Mod_isUnder 24 = .ok (.aload_n 0, 1) := kq_42 byq_r (by decide +kernel)
theorem d_Mod_isUnder_25 : decode b_Mod_isUnder 25 = .ok (.getfield 9, 3) := kq_180 byq_r (a := 0) (b := 9) (by decide +kernel)
theorem d_Mod_isUnder_28 : decode b_Mod_isUnder 28 = .ok (.bipush 80, 2) := kq_16 byq_r (b := 80) (by decide +kernel)
theorem d_Mod_isUnder_30 : decode b_Mod_isUnder 30 = .ok (.iconst 2, 1) := kq_5 byq_r (by decide +kernel)
theorem d_Mod_isUnder_31 : decode b_Mod_isUnder 31 = .ok (.iload_n 2, 1) := kq_28 byq_r (by decide +kernel)
theorem d_Mod_isUnder_32 : decode b_Mod_isUnder 32 = .ok (.imul, 1) := kq_104 byq_r (by decide +kernel)
theorem d_Mod_isUnder_33 : decode b_Mod_isUnder 33 = .ok (.iadd, 1) := kq_96 byq_r (by decide +kernel)
theorem d_Mod_isUnder_34 : decode b_Mod_isUnder 34 = .ok (.iconst 1, 1) := kq_4 byq_r (by decide +kernel)
theorem d_Mod_isUnder_35 : decode b_Mod_isUnder 35 = .ok (.iadd, 1) := kq_96 byq_r (by decide +kernel)
theorem d_Mod_isUnder_36 : decode b_Mod_isUnder 36 = .ok (.iaload, 1) := kq_46 byq_r (by decide +kernel)
theorem d_Mod_isUnder_37 : decode b_Mod_isUnder 37 = .ok (.iadd, 1) := kq_96 byq_r (by decide +kernel)
theorem d_Mod_isUnder_38 : decode b_Mod_isUnder 38 = .ok (.iconst 2, 1) := kq_5 byq_r (by decide +kernel)
theorem d_Mod_isUnder_39 : decode b_Mod_isUnder 39 = .ok (.iload_n 1, 1) := kq_27 byq_r (by decide +kernel)
theorem d_Mod_isUnder_40 : decode b_Mod_isUnder 40 = .ok (.imul, 1) := kq_104 byq_r (by decide +kernel)
theorem d_Mod_isUnder_41 : decode b_Mod_isUnder 41 = .ok (.if_icmp .ne 5, 3) := kq_160 byq_r (a := 0) (b := 5) (by decide +kernel)
theorem d_Mod_isUnder_44 : decode b_Mod_isUnder 44 = .ok (.iconst 1, 1) := kq_4 byq_r (by decide +kernel)
theorem d_Mod_isUnder_45 : decode b_Mod_isUnder 45 = .ok (.ireturn, 1) := kq_172 byq_r (by decide +kernel)
theorem d_Mod_isUnder_46 : decode b_Mod_isUnder 46 = .ok (.iinc 2 1, 3) := kq_132 byq_r (b := 1) (by decide +kernel)
theorem d_Mod_isUnder_49 : decode b_Mod_isUnder 49 = .ok (.goto (-47), 3) := kq_167 byq_r (a := 255) (b := 209) (by decide +kernel)
theorem d_Mod_isUnder_52 : decode b_Mod_isUnder 52 = .ok (.iconst 0, 1) := kq_3 byq_r (by decide +kernel)
theorem d_Mod_isUnder_53 : decode b_Mod_isUnder 53 = .ok (.ireturn, 1) := kq_172 byq_r (by decide +kernel)
theorem d_Mod_build_0 : decode b_Mod_build 0 = .ok (.aload_n 0, 1) := kq_42 byq_r (by decide +kernel)
theorem d_Mod_build_1 : decode b_Mod_build 1 = .ok (.iconst 0, 1) := kq_3 byq_r (by decide +kernel)
theorem d_Mod_build_2 : decode b_Mod_build 2 = .ok (.putfield 109, 3) := kq_181 byq_r (a := 0) (b := 109) (by decide +kernel)
theorem d_Mod_build_5 : decode b_Mod_build 5 = .ok (.aload_n 0, 1) := kq_42 byq_r (by decide +kernel)
theorem d_Mod_build_6 : decode b_Mod_build 6 = .ok (.iload_n 1, 1) := kq_27 byq_r (by decide +kernel)
theorem d_Mod_build_7 : decode b_Mod_build 7 = .ok (.invokevirtual 137, 3) := kq_182 byq_r (a := 0) (b := 137) (by decide +kernel)
theorem d_Mod_build_10 : decode b_Mod_build 10 = .ok (.ifCond .eq 12, 3) := kq_153 byq_r (a := 0) (b := 12) (by decide +kernel)
theorem d_Mod_build_13 : decode b_Mod_build 13 = .ok (.iload_n 2, 1) := kq_28 byq_r (by decide +kernel)
theorem d_Mod_build_14 : decode b_Mod_build 14 = .ok (.iconst 0, 1) := kq_3 byq_r (by decide +kernel)
theorem d_Mod_build_15 : decode b_Mod_build 15 = .ok (.iconst 3, 1) := kq_6 byq_r (by decide +kernel)
theorem d_Mod_build_16 : decode b_Mod_build 16 = .ok (.invokestatic 119, 3) := kq_184 byq_r (a := 0) (b := 119) (by decide +kernel)
theorem d_Mod_build_19 : decode b_Mod_build 19 = .ok (.ifCond .ne 5, 3) := kq_154 byq_r (a := 0) (b := 5) (by decide +kernel)
theorem d_Mod_build_22 : decode b_Mod_build 22 = .ok (.iconst (-1), 1) := kq_2 byq_r (by decide +kernel)
theorem d_Mod_build_23 : decode b_Mod_build 23 = .ok (.ireturn, 1) := kq_172 byq_r (by decide +kernel)
theorem d_Mod_build_24 : decode b_Mod_build 24 = .ok (.iload_n 2, 1) := kq_28 byq_r (by decide +kernel)
theorem d_Mod_build_25 : decode b_Mod_build 25 = .ok (.iconst 2, 1) := kq_5 byq_r (by decide +kernel)
theorem d_Mod_build_26 : decode b_Mod_build 26 = .ok (.if_icmp .eq 8, 3) := kq_159 byq_r (a := 0) (b := 8) (by decide +kernel)
theorem d_Mod_build_29 : decode b_Mod_build 29 = .ok (.iload_n 2, 1) := kq_28 byq_r (by decide +kernel)
theorem d_Mod_build_30 : decode b_Mod_build 30 = .ok (.iconst 3, 1) := kq_6 byq_r (by decide +kernel)
theorem d_Mod_build_31 : decode b_Mod_build 31 = .ok (.if_icmp .ne 7, 3) := kq_160 byq_r (a := 0) (b := 7) (by decide +kernel)
theorem d_Mod_build_34 : decode b_Mod_build 34 = .ok (.iconst 1, 1) := kq_4 byq_r (by decide +kernel)
theorem d_Mod_build_35 : decode b_Mod_build 35 = .ok (.goto 4, 3) := kq_167 byq_r (a := 0) (b := 4) (by decide +kernel)
theorem d_Mod_build_38 : decode b_Mod_build 38 = .ok (.iconst 0, 1) := kq_3 byq_r (by decide +kernel)
theorem d_Mod_build_39 : decode b_Mod_build 39 = .ok (.istore_n 3, 1) := kq_62 byq_r (by decide +kernel)
theorem d_Mod_build_40 : decode b_Mod_build 40 = .ok (.aload_n 0, 1) := kq_42 byq_r (by decide +kernel)
theorem d_Mod_build_41 : decode b_Mod_build 41 = .ok (.aload_n 0, 1) := kq_42 byq_r (by decide +kernel)
theorem d_Mod_build_42 : decode b_Mod_build 42 = .ok (.getfield 9, 3) := kq_180 byq_r (a := 0) (b := 9) (by decide +kernel)
theorem d_Mod_build_45 : decode b_Mod_build 45 = .ok (.iload_n 1, 1) := kq_27 byq_r (by decide +kernel)
theorem d_Mod_build_46 : decode b_Mod_build 46 = .ok (.invokevirtual 259, 3) := kq_182 byq_r (a := 1) (b := 3) (by decide +kernel)
theorem d_Mod_build_49 : decode b_Mod_build 49 = .ok (.ifCond .eq 13, 3) := kq_153 byq_r (a := 0) (b := 13) (by decide +kernel)
theorem d_Mod_build_52 : decode b_Mod_build 52 = .ok (.iload_n 2, 1) := kq_28 byq_r (by decide +kernel)
theorem d_Mod_build_53 : decode b_Mod_build 53 = .ok (.iconst 1, 1) := kq_4 byq_r (by decide +kernel)
theorem d_Mod_build_54 : decode b_Mod_build 54 = .ok (.if_icmp .eq 8, 3) := kq_159 byq_r (a := 0) (b := 8) (by decide +kernel)
theorem d_Mod_build_57 : decode b_Mod_build 57 = .ok (.iload_n 2, 1) := kq_28 byq_r (by decide +kernel)
theorem d_Mod_build_58 : decode b_Mod_build 58 = .ok (.iconst 3, 1) := kq_6 byq_r (by decide +kernel)
theorem d_Mod_build_59 : decode b_Mod_build 59 = .ok (.if_icmp .ne 23, 3) := kq_160 byq_r (a := 0) (b := 23) (by decide +kernel)
theorem d_Mod_build_62 : decode b_Mod_build 62 = .ok (.aload_n 0, 1) := kq_42 byq_r (by decide +kernel)
theorem d_Mod_build_63 : decode b_Mod_build 63 = .ok (.aload_n 0, 1) := kq_42 byq_r (by decide +kernel)
theorem d_Mod_build_64 : decode b_Mod_build 64 = .ok (.getfield 9, 3) := kq_180 byq_r (a := 0) (b := 9) (by decide +kernel)
theorem d_Mod_build_67 : decode b_Mod_build 67 = .ok (.iconst 1, 1) := kq_4 byq_r (by decide +kernel)
theorem d_Mod_build_68 : decode b_Mod_build 68 = .ok (.iload_n 1, 1) := kq_27 byq_r (by decide +kernel)
theorem d_Mod_build_69 : decode b_Mod_build 69 = .ok (.invokestatic 154, 3) := kq_184 byq_r (a := 0) (b := 154) (by decide +kernel)
theorem d_Mod_build_72 : decode b_Mod_build 72 = .ok (.invokevirtual 259, 3) := kq_182 byq_r (a := 1) (b := 3) (by decide +kernel)
theorem d_Mod_build_75 : decode b_Mod_build 75 = .ok (.ifCond .eq 9, 3) := kq_153 byq_r (a := 0) (b := 9) (by decide +kernel)
theorem d_Mod_build_78 : decode b_Mod_build 78 = .ok (.iload_n 3, 1) := kq_29 byq_r (by decide +kernel)
theorem d_Mod_build_79 : decode b_Mod_build 79 = .ok (.ifCond .ne 5, 3) := kq_154 byq_r (a := 0) (b := 5) (by decide +kernel)
theorem d_Mod_build_82 : decode b_Mod_build 82 = .ok (.iconst (-1), 1) := kq_2 byq_r (by decide +kernel)
theorem d_Mod_build_83 : decode b_Mod_build 83 = .ok (.ireturn, 1) := kq_172 byq_r (by decide +kernel)
theorem d_Mod_build_84 : decode b_Mod_build 84 = .ok (.iconst 0, 1) := kq_3 byq_r (by decide +kernel)
theorem d_Mod_build_85 : decode b_Mod_build 85 = .ok (.istore 4, 2) := kq_54 byq_r (by decide +kernel)
theorem d_Mod_build_87 : decode b_Mod_build 87 = .ok (.iload 4, 2) := kq_21 byq_r (by decide +kernel)
theorem d_Mod_build_89 : decode b_Mod_build 89 = .ok (.iconst 2, 1) := kq_5 byq_r (by decide +kernel)
theorem d_Mod_build_90 : decode b_Mod_build 90 = .ok (.aload_n 0, 1) := kq_42 byq_r (by decide +kernel)
theorem d_Mod_build_91 : decode b_Mod_build 91 = .ok (.getfield 9, 3) := kq_180 byq_r (a := 0) (b := 9) (by decide +kernel)
theorem d_Mod_build_94 : decode b_Mod_build 94 = .ok (.bipush 92, 2) := kq_16 byq_r (b := 92) (by decide +kernel)
theorem d_Mod_build_96 : decode b_Mod_build 96 = .ok (.iaload, 1) := kq_46 byq_r (by decide +kernel)
theorem d_Mod_build_97 : decode b_Mod_build 97 = .ok (.imul, 1) := kq_104 byq_r (by decide +kernel)
theorem d_Mod_build_98 : decode b_Mod_build 98 = .ok (.if_icmp .ge 29, 3) := kq_162 byq_r (a := 0) (b := 29) (by decide +kernel)
theorem d_Mod_build_101 : decode b_Mod_build 101 = .ok (.aload_n 0, 1) := kq_42 byq_r (by decide +kernel)
theorem d_Mod_build_102 : decode b_Mod_build 102 = .ok (.getfield 9, 3) := kq_180 byq_r (a := 0) (b := 9) (by decide +kernel)
theorem d_Mod_build_105 : decode b_Mod_build 105 = .ok (.bipush 80, 2) := kq_16 byq_r (b := 80) (by decide +kernel)
theorem d_Mod_build_107 : decode b_Mod_build 107 = .ok (.iload 4, 2) := kq_21 byq_r (by decide +kernel)
theorem d_Mod_build_109 : decode b_Mod_build 109 = .ok (.iadd, 1) := kq_96 byq_r (by decide +kernel)
theorem d_Mod_build_110 : decode b_Mod_build 110 = .ok (.iaload, 1) := kq_46 byq_r (by decide +kernel)
theorem d_Mod_build_111 : decode b_Mod_build 111 = .ok (.iload_n 1, 1) := kq_27 byq_r (by decide +kernel)
theorem d_Mod_build_112 : decode b_Mod_build 112 = .ok (.if_icmp .ne 9, 3) := kq_160 byq_r (a := 0) (b := 9) (by decide +kernel)
theorem d_Mod_build_115 : decode b_Mod_build 115 = .ok (.iload_n 3, 1) := kq_29 byq_r (by decide +kernel)
theorem d_Mod_build_116 : decode b_Mod_build 116 = .ok (.ifCond .ne 5, 3) := kq_154 byq_r (a := 0) (b := 5) (by decide +kernel)
theorem d_Mod_build_119 : decode b_Mod_build 119 = .ok (.iconst (-1), 1) := kq_2 byq_r (by decide +kernel)
theorem d_Mod_build_120 : decode b_Mod_build 120 = .ok (.ireturn, 1) := kq_172 byq_r (by decide +kernel)
theorem d_Mod_build_121 : decode b_Mod_build 121 = .ok (.iinc 4 1, 3) := kq_132 byq_r (b := 1) (by decide +kernel)
theorem d_Mod_build_124 : decode b_Mod_build 124 = .ok (.goto (-37), 3) := kq_167 byq_r (a := 255) (b := 219) (by decide +kernel)
theorem d_Mod_build_127 : decode b_Mod_build 127 = .ok (.iload_n 3, 1) := kq_29 byq_r (by decide +kernel)
theorem d_Mod_build_128 : decode b_Mod_build 128 = .ok (.ifCond .eq 13, 3) := kq_153 byq_r (a := 0) (b := 13) (by decide +kernel)
theorem d_Mod_build_131 : decode b_Mod_build 131 = .ok (.aload_n 0, 1) := kq_42 byq_r (by decide +kernel)
theorem d_Mod_build_132 : decode b_Mod_build 132 = .ok (.iload_n 1, 1) := kq_27 byq_r (by decide +kernel)
theorem d_Mod_build_133 : decode b_Mod_build 133 = .ok (.invokevirtual 272, 3) := kq_182 byq_r (a := 1) (b := 16) (by decide +kernel)
theorem d_Mod_build_136 : decode b_Mod_build 136 = .ok (.ifCond .eq 5, 3) := kq_153 byq_r (a := 0) (b := 5) (by decide +kernel)
theorem d_Mod_build_139 : decode b_Mod_build 139 = .ok (.iconst (-1), 1) := kq_2 byq_r (by decide +kernel)
theorem d_Mod_build_140 : decode b_Mod_build 140 = .ok (.ireturn, 1) := kq_172 byq_r (by decide +kernel)
theorem d_Mod_build_141 : decode b_Mod_build 141 = .ok (.aload_n 0, 1) := kq_42 byq_r (by decide +kernel)
theorem d_Mod_build_142 : decode b_Mod_build 142 = .ok (.getfield 13, 3) := kq_180 byq_r (a := 0) (b := 13) (by decide +kernel)
theorem d_Mod_build_145 : decode b_Mod_build 145 = .ok (.iload_n 1, 1) := kq_27 byq_r (by decide +kernel)
theorem d_Mod_build_146 : decode b_Mod_build 146 = .ok (.iaload, 1) := kq_46 byq_r (by decide +kernel)
theorem d_Mod_build_147 : decode b_Mod_build 147 = .ok (.istore 4, 2) := kq_54 byq_r (by decide +kernel)
theorem d_Mod_build_149 : decode b_Mod_build 149 = .ok (.aload_n 0, 1) := kq_42 byq_r (by decide +kernel)
theorem d_Mod_build_150 : decode b_Mod_build 150 = .ok (.getfield 13, 3) := kq_180 byq_r (a := 0) (b := 13) (by decide +kernel)
theorem d_Mod_build_153 : decode b_Mod_build 153 = .ok (.iload_n 1, 1) := kq_27 byq_r (by decide +kernel)
theorem d_Mod_build_154 : decode b_Mod_build 154 = .ok (.iload_n 2, 1) := kq_28 byq_r (by decide +kernel)
theorem d_Mod_build_155 : decode b_Mod_build 155 = .ok (.iastore, 1) := kq_79 byq_r (by decide +kernel)
theorem d_Mod_build_156 : decode b_Mod_build 156 = .ok (.aload_n 0, 1) := kq_42 byq_r (by decide +kernel)
theorem d_Mod_build_157 : decode b_Mod_build 157 = .ok (.iconst 0, 1) := kq_3 byq_r (by decide +kernel)
theorem d_Mod_build_158 : decode b_Mod_build 158 = .ok (.putfield 201, 3) := kq_181 byq_r (a := 0) (b := 201) (by decide +kernel)
theorem d_Mod_build_161 : decode b_Mod_build 161 = .ok (.aload_n 0, 1) := kq_42 byq_r (by decide +kernel)
theorem d_Mod_build_162 : decode b_Mod_build 162 = .ok (.dup, 1) := kq_89 byq_r (by decide +kernel)
theorem d_Mod_build_163 : decode b_Mod_build 163 = .ok (.getfield 210, 3) := kq_180 byq_r (a := 0) (b := 210) (by decide +kernel)
theorem d_Mod_build_166 : decode b_Mod_build 166 = .ok (.iconst 1, 1) := kq_4 byq_r (by decide +kernel)
theorem d_Mod_build_167 : decode b_Mod_build 167 = .ok (.iadd, 1) := kq_96 byq_r (by decide +kernel)
theorem d_Mod_build_168 : decode b_Mod_build 168 = .ok (.putfield 210, 3) := kq_181 byq_r (a := 0) (b := 210) (by decide +kernel)
theorem d_Mod_build_171 : decode b_Mod_build 171 = .ok (.iload 4, 2) := kq_21 byq_r (by decide +kernel)
theorem d_Mod_build_173 : decode b_Mod_build 173 = .ok (.ireturn, 1) := kq_172 byq_r (by decide +kernel)
theorem d_Mod_between_0 : decode b_Mod_between 0 = .ok (.iload_n 1, 1) := kq_27 byq_r (by decide +kernel)
theorem d_Mod_between_1 : decode b_Mod_between 1 = .ok (.aload_n 0, 1) := kq_42 byq_r (by decide +kernel)
theorem d_Mod_between_2 : decode b_Mod_between 2 = .ok (.getfield 16, 3) := kq_180 byq_r (a := 0) (b := 16) (by decide +kernel)
theorem d_Mod_between_5 : decode b_Mod_between 5 = .ok (.irem, 1) := kq_112 byq_r (by decide +kernel)
theorem d_Mod_between_6 : decode b_Mod_between 6 = .ok (.iload_n 2, 1) := kq_28 byq_r (by decide +kernel)
theorem d_Mod_between_7 : decode b_Mod_between 7 = .ok (.aload_n 0, 1) := kq_42 byq_r (by decide +kernel)
theorem d_Mod_between_8 : decode b_Mod_between 8 = .ok (.getfield 16, 3) := kq_180 byq_r (a := 0) (b := 16) (by decide +kernel)
theorem d_Mod_between_11 : decode b_Mod_between 11 = .ok (.irem, 1) := kq_112 byq_r (by decide +kernel)
theorem d_Mod_between_12 : decode b_Mod_between 12 = .ok (.isub, 1) := kq_100 byq_r (by decide +kernel)
theorem d_Mod_between_13 : decode b_Mod_between 13 = .ok (.invokestatic 275, 3) := kq_184 byq_r (a := 1) (b := 19) (by decide +kernel)
theorem d_Mod_between_16 : decode b_Mod_between 16 = .ok (.istore_n 3, 1) := kq_62 byq_r (by decide +kernel)
theorem d_Mod_between_17 : decode b_Mod_between 17 = .ok (.iload_n 1, 1) := kq_27 byq_r (by decide +kernel)
theorem d_Mod_between_18 : decode b_Mod_between 18 = .ok (.aload_n 0, 1) := kq_42 byq_r (by decide +kernel)
theorem d_Mod_between_19 : decode b_Mod_between 19 = .ok (.getfield 16, 3) := kq_180 byq_r (a := 0) (b := 16) (by decide +kernel)
theorem d_Mod_between_22 : decode b_Mod_between 22 = .ok (.idiv, 1) := kq_108 byq_r (by decide +kernel)
theorem d_Mod_between_23 : decode b_Mod_between 23 = .ok (.iload_n 2, 1) := kq_28 byq_r (by decide +kernel)
theorem d_Mod_between_24 : decode b_Mod_between 24 = .ok (.aload_n 0, 1) := kq_42 byq_r (by decide +kernel)
theorem d_Mod_between_25 : decode b_Mod_between 25 = .ok (.getfield 16, 3) := kq_180 byq_r (a := 0) (b := 16) (by decide +kernel)
theorem d_Mod_between_28 : decode b_Mod_between 28 = .ok (.idiv, 1) := kq_108 byq_r (by decide +kernel)
theorem d_Mod_between_29 : decode b_Mod_between 29 = .ok (.isub, 1) := kq_100 byq_r (by decide +kernel)
theorem d_Mod_between_30 : decode b_Mod_between 30 = .ok (.invokestatic 275, 3) := kq_184 byq_r (a := 1) (b := 19) (by decide +kernel)
theorem d_Mod_between_33 : decode b_Mod_between 33 = .ok (.istore 4, 2) := kq_54 byq_r (by decide +kernel)
theorem d_Mod_between_35 : decode b_Mod_between 35 = .ok (.iload_n 3, 1) := kq_29 byq_r (by decide +kernel)
theorem d_Mod_between_36 : decode b_Mod_between 36 = .ok (.iconst 2, 1) := kq_5 byq_r (by decide +kernel)
theorem d_Mod_between_37 : decode b_Mod_between 37 = .ok (.if_icmp .ne 8, 3) := kq_160 byq_r (a := 0) (b := 8) (by decide +kernel)
theorem d_Mod_between_40 : decode b_Mod_between 40 = .ok (.iload 4, 2) := kq_21 byq_r (by decide +kernel)
theorem d_Mod_between_42 : decode b_Mod_between 42 = .ok (.ifCond .eq 13, 3) := kq_153 byq_r (a := 0) (b := 13) (by decide +kernel)
theorem d_Mod_between_45 : decode b_Mod_between 45 = .ok (.iload_n 3, 1) := kq_29 byq_r (by decide +kernel)
theorem d_Mod_between_46 : decode b_Mod_between 46 = .ok (.ifCond .ne 17, 3) := kq_154 byq_r (a := 0) (b := 17) (by decide +kernel)
theorem d_Mod_between_49 : decode b_Mod_between 49 = .ok (.iload 4, 2) := kq_21 byq_r (by decide +kernel)
theorem d_Mod_between_51 : decode b_Mod_between 51 = .ok (.iconst 2, 1) := kq_5 byq_r (by decide +kernel)
theorem d_Mod_between_52 : decode b_Mod_between 52 = .ok (.if_icmp .ne 11, 3) := kq_160 byq_r (a := 0) (b := 11) (by decide +kernel)
theorem d_Mod_between_55 : decode b_Mod_between 55 = .ok (.iload_n 1, 1) := kq_27 byq_r (by decide +kernel)
theorem d_Mod_between_56 : decode b_Mod_between 56 = .ok (.iload_n 2, 1) := kq_28 byq_r (by decide +kernel)
theorem d_Mod_between_57 : decode b_Mod_between 57 = .ok (.iadd, 1) := kq_96 byq_r (by decide +kernel)
theorem d_Mod_between_58 : decode b_Mod_between 58 = .ok (.iconst 2, 1) := kq_5 byq_r (by decide +kernel)
theorem d_Mod_between_59 : decode b_Mod_between 59 = .ok (.idiv, 1) := kq_108 byq_r (by decide +kernel)
theorem d_Mod_between_60 : decode b_Mod_between 60 = .ok (.goto 4, 3) := kq_167 byq_r (a := 0) (b := 4) (by decide +kernel)
theorem d_Mod_between_63 : decode b_Mod_between 63 = .ok (.iconst (-1), 1) := kq_2 byq_r (by decide +kernel)
theorem d_Mod_between_64 : decode b_Mod_between 64 = .ok (.ireturn, 1) := kq_172 byq_r (by decide +kernel)
theorem d_Mod_canBridge_0 : decode b_Mod_canBridge 0 = .ok (.aload_n 0, 1) := kq_42 byq_r (by decide +kernel)
theorem d_Mod_canBridge_1 : decode b_Mod_canBridge 1 = .ok (.iload_n 1, 1) := kq_27 byq_r (by decide +kernel)
theorem d_Mod_canBridge_2 : decode b_Mod_canBridge 2 = .ok (.iload_n 2, 1) := kq_28 byq_r (by decide +kernel)
theorem d_Mod_canBridge_3 : decode b_Mod_canBridge 3 = .ok (.invokevirtual 280, 3) := kq_182 byq_r (a := 1) (b := 24) (by decide +kernel)
theorem d_Mod_canBridge_6 : decode b_Mod_canBridge 6 = .ok (.istore_n 3, 1) := kq_62 byq_r (by decide +kernel)
theorem d_Mod_canBridge_7 : decode b_Mod_canBridge 7 = .ok (.iload_n 3, 1) := kq_29 byq_r (by decide +kernel)
theorem d_Mod_canBridge_8 : decode b_Mod_canBridge 8 = .ok (.iconst (-1), 1) := kq_2 byq_r (by decide +kernel)
theorem d_Mod_canBridge_9 : decode b_Mod_canBridge 9 = .ok (.if_icmp .eq 34, 3) := kq_159 byq_r (a := 0) (b := 34) (by decide +kernel)
theorem d_Mod_canBridge_12 : decode b_Mod_canBridge 12 = .ok (.aload_n 0, 1) := kq_42 byq_r (by decide +kernel)
theorem d_Mod_canBridge_13 : decode b_Mod_canBridge 13 = .ok (.iconst 1, 1) := kq_4 byq_r (by decide +kernel)
theorem d_Mod_canBridge_14 : decode b_Mod_canBridge 14 = .ok (.iload_n 1, 1) := kq_27 byq_r (by decide +kernel)
theorem d_Mod_canBridge_15 : decode b_Mod_canBridge 15 = .ok (.invokevirtual 140, 3) := kq_182 byq_r (a := 0) (b := 140) (by decide +kernel)
theorem d_Mod_canBridge_18 : decode b_Mod_canBridge 18 = .ok (.ifCond .eq 25, 3) := kq_153 byq_r (a := 0) (b := 25) (by decide +kernel)
theorem d_Mod_canBridge_21 : decode b_Mod_canBridge 21 = .ok (.aload_n 0, 1) := kq_42 byq_r (by decide +kernel)
theorem d_Mod_canBridge_22 : decode b_Mod_canBridge 22 = .ok (.iconst 1, 1) := kq_4 byq_r (by decide +kernel)
theorem d_Mod_canBridge_23 : decode b_Mod_canBridge 23 = .ok (.iload_n 2, 1) := kq_28 byq_r (by decide +kernel)
theorem d_Mod_canBridge_24 : decode b_Mod_canBridge 24 = .ok (.invokevirtual 140, 3) := kq_182 byq_r (a := 0) (b := 140) (by decide +kernel)
theorem d_Mod_canBridge_27 : decode b_Mod_canBridge 27 = .ok (.ifCond .eq 16, 3) := kq_153 byq_r (a := 0) (b := 16) (by decide +kernel)
theorem d_Mod_canBridge_30 : decode b_Mod_canBridge 30 = .ok (.aload_n 0, 1) := kq_42 byq_r (by decide +kernel)
theorem d_Mod_canBridge_31 : decode b_Mod_canBridge 31 = .ok (.iconst 1, 1) := kq_4 byq_r (by decide +kernel)
theorem d_Mod_canBridge_32 : decode b_Mod_canBridge 32 = .ok (.iload_n 3, 1) := kq_29 byq_r (by decide +kernel)
theorem d_Mod_canBridge_33 : decode b_Mod_canBridge 33 = .ok (.invokevirtual 140, 3) := kq_182 byq_r (a := 0) (b := 140) (by decide +kernel)
theorem d_Mod_canBridge_36 : decode b_Mod_canBridge 36 = .ok (.ifCond .ne 7, 3) := kq_154 byq_r (a := 0) (b := 7) (by decide +kernel)
theorem d_Mod_canBridge_39 : decode b_Mod_canBridge 39 = .ok (.iconst 1, 1) := kq_4 byq_r (by decide +kernel)
theorem d_Mod_canBridge_40 : decode b_Mod_canBridge 40 = .ok (.goto 4, 3) := kq_167 byq_r (a := 0) (b := 4) (by decide +kernel)
theorem d_Mod_canBridge_43 : decode b_Mod_canBridge 43 = .ok (.iconst 0, 1) := kq_3 byq_r (by decide +kernel)
theorem d_Mod_canBridge_44 : decode b_Mod_canBridge 44 = .ok (.ireturn, 1) := kq_172 byq_r (by decide +kernel)
theorem d_Mod_plankRefusal_0 : decode b_Mod_plankRefusal 0 = .ok (.aload_n 0, 1) := kq_42 byq_r (by decide +kernel)
theorem d_Mod_plankRefusal_1 : decode b_Mod_plankRefusal 1 = .ok (.iload_n 1, 1) := kq_27 byq_r (by decide +kernel)
theorem d_Mod_plankRefusal_2 : decode b_Mod_plankRefusal 2 = .ok (.invokevirtual 137, 3) := kq_182 byq_r (a := 0) (b := 137) (by decide +kernel)
theorem d_Mod_plankRefusal_5 : decode b_Mod_plankRefusal 5 = .ok (.ifCond .eq 11, 3) := kq_153 byq_r (a := 0) (b := 11) (by decide +kernel)
theorem d_Mod_plankRefusal_8 : decode b_Mod_plankRefusal 8 = .ok (.aload_n 0, 1) := kq_42 byq_r (by decide +kernel)
theorem d_Mod_plankRefusal_9 : decode b_Mod_plankRefusal 9 = .ok (.iload_n 2, 1) := kq_28 byq_r (by decide +kernel)
theorem d_Mod_plankRefusal_10 : decode b_Mod_plankRefusal 10 = .ok (.invokevirtual 137, 3) := kq_182 byq_r (a := 0) (b := 137) (by decide +kernel)
theorem d_Mod_plankRefusal_13 : decode b_Mod_plankRefusal 13 = .ok (.ifCond .ne 5, 3) := kq_154 byq_r (a := 0) (b := 5) (by decide +kernel)
theorem d_Mod_plankRefusal_16 : decode b_Mod_plankRefusal 16 = .ok (.iconst (-1), 1) := kq_2 byq_r (by decide +kernel)
theorem d_Mod_plankRefusal_17 : decode b_Mod_plankRefusal 17 = .ok (.ireturn, 1) := kq_172 byq_r (by decide +kernel)
theorem d_Mod_plankRefusal_18 : decode b_Mod_plankRefusal 18 = .ok (.aload_n 0, 1) := kq_42 byq_r (by decide +kernel)
theorem d_Mod_plankRefusal_19 : decode b_Mod_plankRefusal 19 = .ok (.iload_n 1, 1) := kq_27 byq_r (by decide +kernel)
theorem d_Mod_plankRefusal_20 : decode b_Mod_plankRefusal 20 = .ok (.iload_n 2, 1) := kq_28 byq_r (by decide +kernel)
theorem d_Mod_plankRefusal_21 : decode b_Mod_plankRefusal 21 = .ok (.invokevirtual 283, 3) := kq_182 byq_r (a := 1) (b := 27) (by decide +kernel)
theorem d_Mod_plankRefusal_24 : decode b_Mod_plankRefusal 24 = .ok (.ifCond .ne 6, 3) := kq_154 byq_r (a := 0) (b := 6) (by decide +kernel)
theorem d_Mod_plankRefusal_27 : decode b_Mod_plankRefusal 27 = .ok (.bipush (-2), 2) := kq_16 byq_r (b := 254) (by decide +kernel)
theorem d_Mod_plankRefusal_29 : decode b_Mod_plankRefusal 29 = .ok (.ireturn, 1) := kq_172 byq_r (by decide +kernel)
theorem d_Mod_plankRefusal_30 : decode b_Mod_plankRefusal 30 = .ok (.aload_n 0, 1) := kq_42 byq_r (by decide +kernel)
theorem d_Mod_plankRefusal_31 : decode b_Mod_plankRefusal 31 = .ok (.getfield 9, 3) := kq_180 byq_r (a := 0) (b := 9) (by decide +kernel)
theorem d_Mod_plankRefusal_34 : decode b_Mod_plankRefusal 34 = .ok (.iload_n 1, 1) := kq_27 byq_r (by decide +kernel)
theorem d_Mod_plankRefusal_35 : decode b_Mod_plankRefusal 35 = .ok (.iload_n 2, 1) := kq_28 byq_r (by decide +kernel)
theorem d_Mod_plankRefusal_36 : decode b_Mod_plankRefusal 36 = .ok (.invokestatic 157, 3) := kq_184 byq_r (a := 0) (b := 157) (by decide +kernel)
theorem d_Mod_plankRefusal_39 : decode b_Mod_plankRefusal 39 = .ok (.ifCond .eq 6, 3) := kq_153 byq_r (a := 0) (b := 6) (by decide +kernel)
theorem d_Mod_plankRefusal_42 : decode b_Mod_plankRefusal 42 = .ok (.bipush (-3), 2) := kq_16 byq_r (b := 253) (by decide +kernel)
theorem d_Mod_plankRefusal_44 : decode b_Mod_plankRefusal 44 = .ok (.ireturn, 1) := kq_172 byq_r (by decide +kernel)
theorem d_Mod_plankRefusal_45 : decode b_Mod_plankRefusal 45 = .ok (.aload_n 0, 1) := kq_42 byq_r (by decide +kernel)
theorem d_Mod_plankRefusal_46 : decode b_Mod_plankRefusal 46 = .ok (.getfield 9, 3) := kq_180 byq_r (a := 0) (b := 9) (by decide +kernel)
theorem d_Mod_plankRefusal_49 : decode b_Mod_plankRefusal 49 = .ok (.bipush 92, 2) := kq_16 byq_r (b := 92) (by decide +kernel)
theorem d_Mod_plankRefusal_51 : decode b_Mod_plankRefusal 51 = .ok (.iaload, 1) := kq_46 byq_r (by decide +kernel)
theorem d_Mod_plankRefusal_52 : decode b_Mod_plankRefusal 52 = .ok (.bipush 6, 2) := kq_16 byq_r (b := 6) (by decide +kernel)
theorem d_Mod_plankRefusal_54 : decode b_Mod_plankRefusal 54 = .ok (.if_icmp .ne 8, 3) := kq_160 byq_r (a := 0) (b := 8) (by decide +kernel)
theorem d_Mod_plankRefusal_57 : decode b_Mod_plankRefusal 57 = .ok (.bipush (-4), 2) := kq_16 byq_r (b := 252) (by decide +kernel)
theorem d_Mod_plankRefusal_59 : decode b_Mod_plankRefusal 59 = .ok (.goto 4, 3) := kq_167 byq_r (a := 0) (b := 4) (by decide +kernel)
theorem d_Mod_plankRefusal_62 : decode b_Mod_plankRefusal 62 = .ok (.iconst 0, 1) := kq_3 byq_r (by decide +kernel)
theorem d_Mod_plankRefusal_63 : decode b_Mod_plankRefusal 63 = .ok (.ireturn, 1) := kq_172 byq_r (by decide +kernel)
theorem d_Mod_layPlank_0 : decode b_Mod_layPlank 0 = .ok (.bipush 80, 2) := kq_16 byq_r (b := 80) (by decide +kernel)
theorem d_Mod_layPlank_2 : decode b_Mod_layPlank 2 = .ok (.iconst 2, 1) := kq_5 byq_r (by decide +kernel)
theorem d_Mod_layPlank_3 : decode b_Mod_layPlank 3 = .ok (.aload_n 0, 1) := kq_42 byq_r (by decide +kernel)
theorem d_Mod_layPlank_4 : decode b_Mod_layPlank 4 = .ok (.getfield 9, 3) := kq_180 byq_r (a := 0) (b := 9) (by decide +kernel)
theorem d_Mod_layPlank_7 : decode b_Mod_layPlank 7 = .ok (.bipush 92, 2) := kq_16 byq_r (b := 92) (by decide +kernel)
theorem d_Mod_layPlank_9 : decode b_Mod_layPlank 9 = .ok (.iaload, 1) := kq_46 byq_r (by decide +kernel)
theorem d_Mod_layPlank_10 : decode b_Mod_layPlank 10 = .ok (.imul, 1) := kq_104 byq_r (by decide +kernel)
theorem d_Mod_layPlank_11 : decode b_Mod_layPlank 11 = .ok (.iadd, 1) := kq_96 byq_r (by decide +kernel)
theorem d_Mod_layPlank_12 : decode b_Mod_layPlank 12 = .ok (.istore_n 3, 1) := kq_62 byq_r (by decide +kernel)
theorem d_Mod_layPlank_13 : decode b_Mod_layPlank 13 = .ok (.aload_n 0, 1) := kq_42 byq_r (by decide +kernel)
theorem d_Mod_layPlank_14 : decode b_Mod_layPlank 14 = .ok (.getfield 9, 3) := kq_180 byq_r (a := 0) (b := 9) (by decide +kernel)
theorem d_Mod_layPlank_17 : decode b_Mod_layPlank 17 = .ok (.iload_n 3, 1) := kq_29 byq_r (by decide +kernel)
theorem d_Mod_layPlank_18 : decode b_Mod_layPlank 18 = .ok (.iload_n 1, 1) := kq_27 byq_r (by decide +kernel)
theorem d_Mod_layPlank_19 : decode b_Mod_layPlank 19 = .ok (.iastore, 1) := kq_79 byq_r (by decide +kernel)
theorem d_Mod_layPlank_20 : decode b_Mod_layPlank 20 = .ok (.aload_n 0, 1) := kq_42 byq_r (by decide +kernel)
theorem d_Mod_layPlank_21 : decode b_Mod_layPlank 21 = .ok (.getfield 9, 3) := kq_180 byq_r (a := 0) (b := 9) (by decide +kernel)
theorem d_Mod_layPlank_24 : decode b_Mod_layPlank 24 = .ok (.iload_n 3, 1) := kq_29 byq_r (by decide +kernel)
theorem d_Mod_layPlank_25 : decode b_Mod_layPlank 25 = .ok (.iconst 1, 1) := kq_4 byq_r (by decide +kernel)
theorem d_Mod_layPlank_26 : decode b_Mod_layPlank 26 = .ok (.iadd, 1) := kq_96 byq_r (by decide +kernel)
theorem d_Mod_layPlank_27 : decode b_Mod_layPlank 27 = .ok (.iload_n 2, 1) := kq_28 byq_r (by decide +kernel)
theorem d_Mod_layPlank_28 : decode b_Mod_layPlank 28 = .ok (.iastore, 1) := kq_79 byq_r (by decide +kernel)
theorem d_Mod_layPlank_29 : decode b_Mod_layPlank 29 = .ok (.aload_n 0, 1) := kq_42 byq_r (by decide +kernel)
theorem d_Mod_layPlank_30 : decode b_Mod_layPlank 30 = .ok (.getfield 9, 3) := kq_180 byq_r (a := 0) (b := 9) (by decide +kernel)
theorem d_Mod_layPlank_33 : decode b_Mod_layPlank 33 = .ok (.bipush 92, 2) := kq_16 byq_r (b := 92) (by decide +kernel)
theorem d_Mod_layPlank_35 : decode b_Mod_layPlank 35 = .ok (.dup2, 1) := kq_92 byq_r (by decide +kernel)
theorem d_Mod_layPlank_36 : decode b_Mod_layPlank 36 = .ok (.iaload, 1) := kq_46 byq_r (by decide +kernel)
theorem d_Mod_layPlank_37 : decode b_Mod_layPlank 37 = .ok (.iconst 1, 1) := kq_4 byq_r (by decide +kernel)
theorem d_Mod_layPlank_38 : decode b_Mod_layPlank 38 = .ok (.iadd, 1) := kq_96 byq_r (by decide +kernel)
theorem d_Mod_layPlank_39 : decode b_Mod_layPlank 39 = .ok (.iastore, 1) := kq_79 byq_r (by decide +kernel)
theorem d_Mod_layPlank_40 : decode b_Mod_layPlank 40 = .ok (.return_, 1) := kq_177 byq_r (by decide +kernel)
theorem d_Mod_lay_0 : decode b_Mod_lay 0 = .ok (.iconst 0, 1) := kq_3 byq_r (by decide +kernel)
theorem d_Mod_lay_1 : decode b_Mod_lay 1 = .ok (.istore_n 3, 1) := kq_62 byq_r (by decide +kernel)
theorem d_Mod_lay_2 : decode b_Mod_lay 2 = .ok (.iload_n 3, 1) := kq_29 byq_r (by decide +kernel)
theorem d_Mod_lay_3 : decode b_Mod_lay 3 = .ok (.bipush 96, 2) := kq_16 byq_r (b := 96) (by decide +kernel)
theorem d_Mod_lay_5 : decode b_Mod_lay 5 = .ok (.if_icmp .ge 17, 3) := kq_162 byq_r (a := 0) (b := 17) (by decide +kernel)
theorem d_Mod_lay_8 : decode b_Mod_lay 8 = .ok (.aload_n 1, 1) := kq_43 byq_r (by decide +kernel)
theorem d_Mod_lay_9 : decode b_Mod_lay 9 = .ok (.iload_n 2, 1) := kq_28 byq_r (by decide +kernel)
theorem d_Mod_lay_10 : decode b_Mod_lay 10 = .ok (.iload_n 3, 1) := kq_29 byq_r (by decide +kernel)
theorem d_Mod_lay_11 : decode b_Mod_lay 11 = .ok (.iadd, 1) := kq_96 byq_r (by decide +kernel)
theorem d_Mod_lay_12 : decode b_Mod_lay 12 = .ok (.aload_n 0, 1) := kq_42 byq_r (by decide +kernel)
theorem d_Mod_lay_13 : decode b_Mod_lay 13 = .ok (.iload_n 3, 1) := kq_29 byq_r (by decide +kernel)
theorem d_Mod_lay_14 : decode b_Mod_lay 14 = .ok (.iaload, 1) := kq_46 byq_r (by decide +kernel)
theorem d_Mod_lay_15 : decode b_Mod_lay 15 = .ok (.iastore, 1) := kq_79 byq_r (by decide +kernel)
theorem d_Mod_lay_16 : decode b_Mod_lay 16 = .ok (.iinc 3 1, 3) := kq_132 byq_r (b := 1) (by decide +kernel)
theorem d_Mod_lay_19 : decode b_Mod_lay 19 = .ok (.goto (-17), 3) := kq_167 byq_r (a := 255) (b := 239) (by decide +kernel)
theorem d_Mod_lay_22 : decode b_Mod_lay 22 = .ok (.return_, 1) := kq_177 byq_r (by decide +kernel)
theorem d_Mod_remember_0 : decode b_Mod_remember 0 = .ok (.aload_n 0, 1) := kq_42 byq_r (by decide +kernel)
theorem d_Mod_remember_1 : decode b_Mod_remember 1 = .ok (.getfield 201, 3) := kq_180 byq_r (a := 0) (b := 201) (by decide +kernel)
theorem d_Mod_remember_4 : decode b_Mod_remember 4 = .ok (.bipush 12, 2) := kq_16 byq_r (b := 12) (by decide +kernel)
theorem d_Mod_remember_6 : decode b_Mod_remember 6 = .ok (.if_icmp .ne 43, 3) := kq_160 byq_r (a := 0) (b := 43) (by decide +kernel)
theorem d_Mod_remember_9 : decode b_Mod_remember 9 = .ok (.iconst 0, 1) := kq_3 byq_r (by decide +kernel)
theorem d_Mod_remember_10 : decode b_Mod_remember 10 = .ok (.istore_n 2, 1) := kq_61 byq_r (by decide +kernel)
theorem d_Mod_remember_11 : decode b_Mod_remember 11 = .ok (.iload_n 2, 1) := kq_28 byq_r (by decide +kernel)
theorem d_Mod_remember_12 : decode b_Mod_remember 12 = .ok (.sipush 1056, 3) := kq_17 byq_r (a := 4) (b := 32) (by decide +kernel)
theorem d_Mod_remember_15 : decode b_Mod_remember 15 = .ok (.if_icmp .ge 24, 3) := kq_162 byq_r (a := 0) (b := 24) (by decide +kernel)
theorem d_Mod_remember_18 : decode b_Mod_remember 18 = .ok (.aload_n 0, 1) := kq_42 byq_r (by decide +kernel)
theorem d_Mod_remember_19 : decode b_Mod_remember 19 = .ok (.getfield 51, 3) := kq_180 byq_r (a := 0) (b := 51) (by decide +kernel)
theorem d_Mod_remember_22 : decode b_Mod_remember 22 = .ok (.iload_n 2, 1) := kq_28 byq_r (by decide +kernel)
theorem d_Mod_remember_23 : decode b_Mod_remember 23 = .ok (.aload_n 0, 1) := kq_42 byq_r (by decide +kernel)
theorem d_Mod_remember_24 : decode b_Mod_remember 24 = .ok (.getfield 51, 3) := kq_180 byq_r (a := 0) (b := 51) (by decide +kernel)
theorem d_Mod_remember_27 : decode b_Mod_remember 27 = .ok (.iload_n 2, 1) := kq_28 byq_r (by decide +kernel)
theorem d_Mod_remember_28 : decode b_Mod_remember 28 = .ok (.bipush 96, 2) := kq_16 byq_r (b := 96) (by decide +kernel)
theorem d_Mod_remember_30 : decode b_Mod_remember 30 = .ok (.iadd, 1) := kq_96 byq_r (by decide +kernel)
theorem d_Mod_remember_31 : decode b_Mod_remember 31 = .ok (.iaload, 1) := kq_46 byq_r (by decide +kernel)
theorem d_Mod_remember_32 : decode b_Mod_remember 32 = .ok (.iastore, 1) := kq_79 byq_r (by decide +kernel)
theorem d_Mod_remember_33 : decode b_Mod_remember 33 = .ok (.iinc 2 1, 3) := kq_132 byq_r (b := 1) (by decide +kernel)
theorem d_Mod_remember_36 : decode b_Mod_remember 36 = .ok (.goto (-25), 3) := kq_167 byq_r (a := 255) (b := 231) (by decide +kernel)
theorem d_Mod_remember_39 : decode b_Mod_remember 39 = .ok (.aload_n 0, 1) := kq_42 byq_r (by decide +kernel)
theorem d_Mod_remember_40 : decode b_Mod_remember 40 = .ok (.dup, 1) := kq_89 byq_r (by decide +kernel)
theorem d_Mod_remember_41 : decode b_Mod_remember 41 = .ok (.getfield 201, 3) := kq_180 byq_r (a := 0) (b := 201) (by decide +kernel)
theorem d_Mod_remember_44 : decode b_Mod_remember 44 = .ok (.iconst 1, 1) := kq_4 byq_r (by decide +kernel)
theorem d_Mod_remember_45 : decode b_Mod_remember 45 = .ok (.isub, 1) := kq_100 byq_r (by decide +kernel)
theorem d_Mod_remember_46 : decode b_Mod_remember 46 = .ok (.putfield 201, 3) := kq_181 byq_r (a := 0) (b := 201) (by decide +kernel)
theorem d_Mod_remember_49 : decode b_Mod_remember 49 = .ok (.aload_n 1, 1) := kq_43 byq_r (by decide +kernel)
theorem d_Mod_remember_50 : decode b_Mod_remember 50 = .ok (.aload_n 0, 1) := kq_42 byq_r (by decide +kernel)
theorem d_Mod_remember_51 : decode b_Mod_remember 51 = .ok (.getfield 51, 3) := kq_180 byq_r (a := 0) (b := 51) (by decide +kernel)
theorem d_Mod_remember_54 : decode b_Mod_remember 54 = .ok (.bipush 96, 2) := kq_16 byq_r (b := 96) (by decide +kernel)
theorem d_Mod_remember_56 : decode b_Mod_remember 56 = .ok (.aload_n 0, 1) := kq_42 byq_r (by decide +kernel)
theorem d_Mod_remember_57 : decode b_Mod_remember 57 = .ok (.getfield 201, 3) := kq_180 byq_r (a := 0) (b := 201) (by decide +kernel)
theorem d_Mod_remember_60 : decode b_Mod_remember 60 = .ok (.imul, 1) := kq_104 byq_r (by decide +kernel)
theorem d_Mod_remember_61 : decode b_Mod_remember 61 = .ok (.invokestatic 286, 3) := kq_184 byq_r (a := 1) (b := 30) (by decide +kernel)
theorem d_Mod_remember_64 : decode b_Mod_remember 64 = .ok (.aload_n 0, 1) := kq_42 byq_r (by decide +kernel)
theorem d_Mod_remember_65 : decode b_Mod_remember 65 = .ok (.dup, 1) := kq_89 byq_r (by decide +kernel)
theorem d_Mod_remember_66 : decode b_Mod_remember 66 = .ok (.getfield 201, 3) := kq_180 byq_r (a := 0) (b := 201) (by decide +kernel)
theorem d_Mod_remember_69 : decode b_Mod_remember 69 = .ok (.iconst 1, 1) := kq_4 byq_r (by decide +kernel)
theorem d_Mod_remember_70 : decode b_Mod_remember 70 = .ok (.iadd, 1) := kq_96 byq_r (by decide +kernel)
theorem d_Mod_remember_71 : decode b_Mod_remember 71 = .ok (.putfield 201, 3) := kq_181 byq_r (a := 0) (b := 201) (by decide +kernel)
theorem d_Mod_remember_74 : decode b_Mod_remember 74 = .ok (.return_, 1) := kq_177 byq_r (by decide +kernel)
theorem d_Mod_plank_0 : decode b_Mod_plank 0 = .ok (.aload_n 0, 1) := kq_42 byq_r (by decide +kernel)
theorem d_Mod_plank_1 : decode b_Mod_plank 1 = .ok (.iconst 0, 1) := kq_3 byq_r (by decide +kernel)
theorem d_Mod_plank_2 : decode b_Mod_plank 2 = .ok (.putfield 109, 3) := kq_181 byq_r (a := 0) (b := 109) (by decide +kernel)
theorem d_Mod_plank_5 : decode b_Mod_plank 5 = .ok (.aload_n 0, 1) := kq_42 byq_r (by decide +kernel)
theorem d_Mod_plank_6 : decode b_Mod_plank 6 = .ok (.iload_n 1, 1) := kq_27 byq_r (by decide +kernel)
theorem d_Mod_plank_7 : decode b_Mod_plank 7 = .ok (.iload_n 2, 1) := kq_28 byq_r (by decide +kernel)
theorem d_Mod_plank_8 : decode b_Mod_plank 8 = .ok (.invokevirtual 290, 3) := kq_182 byq_r (a := 1) (b := 34) (by decide +kernel)
theorem d_Mod_plank_11 : decode b_Mod_plank 11 = .ok (.istore_n 3, 1) := kq_62 byq_r (by decide +kernel)
theorem d_Mod_plank_12 : decode b_Mod_plank 12 = .ok (.iload_n 3, 1) := kq_29 byq_r (by decide +kernel)
theorem d_Mod_plank_13 : decode b_Mod_plank 13 = .ok (.ifCond .ge 5, 3) := kq_156 byq_r (a := 0) (b := 5) (by decide +kernel)
theorem d_Mod_plank_16 : decode b_Mod_plank 16 = .ok (.iload_n 3, 1) := kq_29 byq_r (by decide +kernel)
theorem d_Mod_plank_17 : decode b_Mod_plank 17 = .ok (.ireturn, 1) := kq_172 byq_r (by decide +kernel)
theorem d_Mod_plank_18 : decode b_Mod_plank 18 = .ok (.aload_n 0, 1) := kq_42 byq_r (by decide +kernel)
theorem d_Mod_plank_19 : decode b_Mod_plank 19 = .ok (.aload_n 0, 1) := kq_42 byq_r (by decide +kernel)
theorem d_Mod_plank_20 : decode b_Mod_plank 20 = .ok (.getfield 9, 3) := kq_180 byq_r (a := 0) (b := 9) (by decide +kernel)
theorem d_Mod_plank_23 : decode b_Mod_plank 23 = .ok (.invokevirtual 293, 3) := kq_182 byq_r (a := 1) (b := 37) (by decide +kernel)
theorem d_Mod_plank_26 : decode b_Mod_plank 26 = .ok (.aload_n 0, 1) := kq_42 byq_r (by decide +kernel)
theorem d_Mod_plank_27 : decode b_Mod_plank 27 = .ok (.iload_n 1, 1) := kq_27 byq_r (by decide +kernel)
theorem d_Mod_plank_28 : decode b_Mod_plank 28 = .ok (.iload_n 2, 1) := kq_28 byq_r (by decide +kernel)
theorem d_Mod_plank_29 : decode b_Mod_plank 29 = .ok (.invokevirtual 297, 3) := kq_182 byq_r (a := 1) (b := 41) (by decide +kernel)
theorem d_Mod_plank_32 : decode b_Mod_plank 32 = .ok (.aload_n 0, 1) := kq_42 byq_r (by decide +kernel)
theorem d_Mod_plank_33 : decode b_Mod_plank 33 = .ok (.getfield 9, 3) := kq_180 byq_r (a := 0) (b := 9) (by decide +kernel)
theorem d_Mod_plank_36 : decode b_Mod_plank 36 = .ok (.bipush 92, 2) := kq_16 byq_r (b := 92) (by decide +kernel)
theorem d_Mod_plank_38 : decode b_Mod_plank 38 = .ok (.iaload, 1) := kq_46 byq_r (by decide +kernel)
theorem d_Mod_plank_39 : decode b_Mod_plank 39 = .ok (.iconst 1, 1) := kq_4 byq_r (by decide +kernel)
theorem d_Mod_plank_40 : decode b_Mod_plank 40 = .ok (.isub, 1) := kq_100 byq_r (by decide +kernel)
theorem d_Mod_plank_41 : decode b_Mod_plank 41 = .ok (.ireturn, 1) := kq_172 byq_r (by decide +kernel)
theorem d_Mod_take_0 : decode b_Mod_take 0 = .ok (.aload_n 0, 1) := kq_42 byq_r (by decide +kernel)
theorem d_Mod_take_1 : decode b_Mod_take 1 = .ok (.iconst 0, 1) := kq_3 byq_r (by decide +kernel)
theorem d_Mod_take_2 : decode b_Mod_take 2 = .ok (.putfield 109, 3) := kq_181 byq_r (a := 0) (b := 109) (by decide +kernel)
theorem d_Mod_take_5 : decode b_Mod_take 5 = .ok (.aload_n 0, 1) := kq_42 byq_r (by decide +kernel)
theorem d_Mod_take_6 : decode b_Mod_take 6 = .ok (.getfield 9, 3) := kq_180 byq_r (a := 0) (b := 9) (by decide +kernel)
theorem d_Mod_take_9 : decode b_Mod_take 9 = .ok (.bipush 92, 2) := kq_16 byq_r (b := 92) (by decide +kernel)
theorem d_Mod_take_11 : decode b_Mod_take 11 = .ok (.iaload, 1) := kq_46 byq_r (by decide +kernel)
theorem d_Mod_take_12 : decode b_Mod_take 12 = .ok (.ifCond .ne 5, 3) := kq_154 byq_r (a := 0) (b := 5) (by decide +kernel)
theorem d_Mod_take_15 : decode b_Mod_take 15 = .ok (.iconst (-1), 1) := kq_2 byq_r (by decide +kernel)
theorem d_Mod_take_16 : decode b_Mod_take 16 = .ok (.ireturn, 1) := kq_172 byq_r (by decide +kernel)
theorem d_Mod_take_17 : decode b_Mod_take 17 = .ok (.aload_n 0, 1) := kq_42 byq_r (by decide +kernel)
theorem d_Mod_take_18 : decode b_Mod_take 18 = .ok (.aload_n 0, 1) := kq_42 byq_r (by decide +kernel)
theorem d_Mod_take_19 : decode b_Mod_take 19 = .ok (.getfield 9, 3) := kq_180 byq_r (a := 0) (b := 9) (by decide +kernel)
theorem d_Mod_take_22 : decode b_Mod_take 22 = .ok (.invokevirtual 293, 3) := kq_182 byq_r (a := 1) (b := 37) (by decide +kernel)
theorem d_Mod_take_25 : decode b_Mod_take 25 = .ok (.aload_n 0, 1) := kq_42 byq_r (by decide +kernel)
theorem d_Mod_take_26 : decode b_Mod_take 26 = .ok (.getfield 9, 3) := kq_180 byq_r (a := 0) (b := 9) (by decide +kernel)
theorem d_Mod_take_29 : decode b_Mod_take 29 = .ok (.bipush 92, 2) := kq_16 byq_r (b := 92) (by decide +kernel)
theorem d_Mod_take_31 : decode b_Mod_take 31 = .ok (.dup2, 1) := kq_92 byq_r (by decide +kernel)
theorem d_Mod_take_32 : decode b_Mod_take 32 = .ok (.iaload, 1) := kq_46 byq_r (by decide +kernel)
theorem d_Mod_take_33 : decode b_Mod_take 33 = .ok (.iconst 1, 1) := kq_4 byq_r (by decide +kernel)
theorem d_Mod_take_34 : decode b_Mod_take 34 = .ok (.isub, 1) := kq_100 byq_r (by decide +kernel)
theorem d_Mod_take_35 : decode b_Mod_take 35 = .ok (.iastore, 1) := kq_79 byq_r (by decide +kernel)
theorem d_Mod_take_36 : decode b_Mod_take 36 = .ok (.aload_n 0, 1) := kq_42 byq_r (by decide +kernel)
theorem d_Mod_take_37 : decode b_Mod_take 37 = .ok (.getfield 9, 3) := kq_180 byq_r (a := 0) (b := 9) (by decide +kernel)
theorem d_Mod_take_40 : decode b_Mod_take 40 = .ok (.bipush 92, 2) := kq_16 byq_r (b := 92) (by decide +kernel)
theorem d_Mod_take_42 : decode b_Mod_take 42 = .ok (.iaload, 1) := kq_46 byq_r (by decide +kernel)
theorem d_Mod_take_43 : decode b_Mod_take 43 = .ok (.ireturn, 1) := kq_172 byq_r (by decide +kernel)
def lb_Mod_rule_73 (v1 : Int32) (s : Int32 × Mem) : Option ((Int32 × Mem) ⊕ ((Mem))) :=
  if v1 ≤ s.1 then
  some (.inr s.2)
  else
  if inb s.1 80 = true then
  if inb s.1 40 = true then
  mem_ (s_i s.2 172 s.1.toNatClampNeg (vp_nar .byte (s.2.1 167 s.1.toNatClampNeg))) fun M5 =>
  some (.inl ((s.1 + (1 : Int32)), M5))
  else none
  else none
theorem lb_Mod_rule_73_ok {E : Ev} {G : Gw} {d : Nat} {post : Int32 → Mem → Prop} (X : Cx E G b_Mod_rule "WomenByTheRoofsModel" 3 d (some .int)) (hD : 401 ≤ d)  (v1 : Int32)   (s : Int32 × Mem) (o : (Int32 × Mem) ⊕ ((Mem))) (h : lb_Mod_rule_73 v1 s = some o) (kc : ∀ s9 : Int32 × Mem, o = .inl s9 → V E (0, 0) G 3 (QI E G post) s9.2 73 [(0, .ref (G.2.2 + 162)), (1, .int v1), (2, .int s9.1)] []) (kx0 : ∀ x9 : Mem, o = .inr x9 → V E (0, 0) G 3 (QI E G post) x9 96 [(0, .ref (G.2.2 + 162)), (1, .int v1)] []) : V E (0, 0) G 3 (QI E G post) s.2 73 [(0, .ref (G.2.2 + 162)), (1, .int v1), (2, .int s.1)] [] := by
  unfold lb_Mod_rule_73 at h
  refine V_iload_n (n := 2) X d_Mod_rule_73 rfl rfl rfl ?_
  refine V_iload_n (n := 1) X d_Mod_rule_74 rfl rfl rfl ?_
  refine V_icmp_ge (tgt := 96) X d_Mod_rule_75 (by decide) rfl (fun c6 => ?_) (fun c6 => ?_)
  · rw [if_pos c6] at h
    refine V_sub (lv' := [(0, .ref (G.2.2 + 162)), (1, .int v1)]) [0, 1] rfl ?_
    exact kx0 s.2 (Option.some.inj h).symm
  · rw [if_neg c6] at h
    refine V_aload_n (n := 0) X d_Mod_rule_78 rfl rfl rfl ?_
    refine V_getr (k2 := 172) X fo_Mod_48 kd_162 rfl rf_162_22 d_Mod_rule_79 rfl ?_
    refine V_iload_n (n := 2) X d_Mod_rule_82 rfl rfl rfl ?_
    refine V_aload_n (n := 0) X d_Mod_rule_83 rfl rfl rfl ?_
    refine V_getr (k2 := 167) X fo_Mod_32 kd_162 rfl rf_162_9 d_Mod_rule_84 rfl ?_
    refine V_iload_n (n := 2) X d_Mod_rule_87 rfl rfl rfl ?_
    obtain ⟨hb, h⟩ := ifn h
    refine V_bald X kd_167 (inb_in ln_167 hb) d_Mod_rule_88 rfl ?_
    obtain ⟨hb, h⟩ := ifn h
    obtain ⟨M5, eM5, h⟩ := memS h
    refine V_bast X kd_172 (inb_in ln_172 hb) d_Mod_rule_89 rfl ?_
    rw [← eM5]
    refine V_iinc (n := 2) (v := (s.1 + (1 : Int32))) (lv' := [(2, .int (s.1 + (1 : Int32))), (0, .ref (G.2.2 + 162)), (1, .int v1)]) X d_Mod_rule_90 rfl rfl (by decide) rfl rfl ?_
    refine V_goto (pc' := 73) X d_Mod_rule_93 (by decide) ?_
    refine V_sub (lv' := [(0, .ref (G.2.2 + 162)), (1, .int v1), (2, .int (s.1 + (1 : Int32)))]) [1, 2, 0] rfl ?_
    exact kc ((s.1 + (1 : Int32)), M5) (Option.some.inj h).symm
theorem lp_Mod_rule_73_ok {E : Ev} {G : Gw} {d : Nat} {post : Int32 → Mem → Prop} (X : Cx E G b_Mod_rule "WomenByTheRoofsModel" 3 d (some .int)) (hD : 401 ≤ d)  (v1 : Int32)   (n9 : Nat) (s : Int32 × Mem) (x : (Mem)) (h : iter (lb_Mod_rule_73 v1) n9 s = some x) (kx0 : ∀ x9 : Mem, x = x9 → V E (0, 0) G 3 (QI E G post) x9 96 [(0, .ref (G.2.2 + 162)), (1, .int v1)] []) : V E (0, 0) G 3 (QI E G post) s.2 73 [(0, .ref (G.2.2 + 162)), (1, .int v1), (2, .int s.1)] [] :=
  iter_P (P := fun s : Int32 × Mem => V E (0, 0) G 3 (QI E G post) s.2 73 [(0, .ref (G.2.2 + 162)), (1, .int v1), (2, .int s.1)] []) (fun s o hb kc ky => lb_Mod_rule_73_ok X hD v1 s o hb kc (fun x9 e9 => kx0 x9 (ky _ e9).symm)) n9 s h
def j_Mod_rule_57 (v1 : Int32) (M : Mem) : Option (Int32 × Mem) :=
  Option.bind (f_Mod_fine M) fun x10 =>
  if x10 = 0 then
  some (((-1 : Int32) - (M.1 162 18)), M)
  else
  Option.bind (iter (lb_Mod_rule_73 v1) FU ((0 : Int32), M)) fun x11 =>
  mem_ (s_i x11 162 23 v1) fun M12 =>
  some ((0 : Int32), M12)
theorem j_Mod_rule_57_ok {E : Ev} {G : Gw} {d : Nat} {post : Int32 → Mem → Prop} (X : Cx E G b_Mod_rule "WomenByTheRoofsModel" 3 d (some .int)) (hD : 401 ≤ d)  (v1 : Int32)  (M : Mem)  (o : Int32 × Mem) (h : j_Mod_rule_57 v1 M = some o) (kr : ∀ x9 : Int32 × Mem, o = x9 → post x9.1 x9.2) : V E (0, 0) G 3 (QI E G post) M 57 [(0, .ref (G.2.2 + 162)), (1, .int v1)] [] := by
  unfold j_Mod_rule_57 at h
  refine V_aload_n (n := 0) X d_Mod_rule_57 rfl rfl rfl ?_
  obtain ⟨x10, hx10, h⟩ := ob_s h
  refine V_ci (As := []) X (Z0 E) ml_Mod_179 yq_Mod_fine (c_Mod_fine E.2.1 G  M x10 hx10 _ (Nat.le_refl _)) kd_162 rfl rfl (by omega) rfl (Nat.le_of_ble_eq_true rfl) d_Mod_rule_58 rfl (fun r9 M9 hq => ?_)
  rw [hq.1, hq.2]
  refine V_if_ne (tgt := 71) X d_Mod_rule_61 (by decide) rfl (fun c13 => ?_) (fun c13 => ?_)
  · rw [if_neg c13] at h
    refine V_iconst (v := 0) X d_Mod_rule_71 (by decide) rfl ?_
    refine V_istore_n (lv' := [(2, .int (0 : Int32)), (0, .ref (G.2.2 + 162)), (1, .int v1)]) X d_Mod_rule_72 rfl (by decide) rfl rfl ?_
    refine V_sub (lv' := [(0, .ref (G.2.2 + 162)), (1, .int v1), (2, .int (0 : Int32))]) [1, 2, 0] rfl ?_
    obtain ⟨x11, hx11, h⟩ := ob_s h
    refine (lp_Mod_rule_73_ok X hD v1 _ _ _ hx11 (fun x9 e9 => ?_) :)
    subst e9
    refine V_aload_n (n := 0) X d_Mod_rule_96 rfl rfl rfl ?_
    refine V_iload_n (n := 1) X d_Mod_rule_97 rfl rfl rfl ?_
    obtain ⟨M12, eM12, h⟩ := memS h
    refine V_putI X fp_Mod_249 kd_162 rfl d_Mod_rule_98 rfl ?_
    rw [← eM12]
    refine V_iconst (v := 0) X d_Mod_rule_101 (by decide) rfl ?_
    exact V_iret X (kr ((0 : Int32), M12) (Option.some.inj h).symm) d_Mod_rule_102
  · rw [if_pos c13] at h
    refine V_iconst (v := -1) X d_Mod_rule_64 (by decide) rfl ?_
    refine V_aload_n (n := 0) X d_Mod_rule_65 rfl rfl rfl ?_
    refine V_geti X fo_Mod_176 kd_162 rfl d_Mod_rule_66 rfl ?_
    refine V_isub X d_Mod_rule_69 rfl ?_
    exact V_iret X (kr (((-1 : Int32) - (M.1 162 18)), M) (Option.some.inj h).symm) d_Mod_rule_70
def f_Mod_rule (M : Mem) : Option (Int32 × Mem) :=
  mem_ (s_i M 162 13 (0 : Int32)) fun M1 =>
  Option.bind (f_Mod_begin 167 (M1.1 162 10) (40 : Int32) M1) fun x2 =>
  mem_ (s_i x2 162 10 (0 : Int32)) fun M3 =>
  mem_ (s_q M3 162 24 none) fun M4 =>
  if (M1.1 162 10) ≤ 0 then
  Option.bind (iter (lb_Mod_rule_73 (M1.1 162 10)) FU ((0 : Int32), M4)) fun x7 =>
  mem_ (s_i x7 162 23 (M1.1 162 10)) fun M8 =>
  some ((0 : Int32), M8)
  else
  Option.bind (f_Mod_held (0 : Int32) M4) fun x9 =>
  if (M1.1 162 10) ≤ (x9.2.1 162 17) then
  j_Mod_rule_57 (M1.1 162 10) x9.2
  else
  Option.bind (f_Mod_fault (x9.2.1 162 17) x9.2) fun x14 =>
  j_Mod_rule_57 (M1.1 162 10) x14
theorem c_Mod_rule (l : Launch) (G : Gw)   (M : Mem) (x : Int32 × Mem) (h : f_Mod_rule M = some x) (d : Nat) (hD : 401 ≤ d) : Ci l G y_Mod_rule b_Mod_rule 3 (some .int) d [.ref (G.2.2 + 162)] M (fun r9 M9 => r9 = x.1 ∧ M9 = x.2) := by
  refine Ci_of (by decide) (Nat.le_of_ble_eq_true rfl) (fun E hE X => ?_)
  subst hE
  have kr : ∀ x9 : Int32 × Mem, x = x9 → (fun r9 M9 => r9 = x.1 ∧ M9 = x.2) x9.1 x9.2 := fun x9 e9 => by subst e9; exact ⟨rfl, rfl⟩
  unfold f_Mod_rule at h
  refine V_aload_n (n := 0) X d_Mod_rule_0 rfl rfl rfl ?_
  refine V_iconst (v := 0) X d_Mod_rule_1 (by decide) rfl ?_
  obtain ⟨M1, eM1, h⟩ := memS h
  refine V_putI X fp_Mod_109 kd_162 rfl d_Mod_rule_2 rfl ?_
  rw [← eM1]
  refine V_aload_n (n := 0) X d_Mod_rule_5 rfl rfl rfl ?_
  refine V_geti X fo_Mod_161 kd_162 rfl d_Mod_rule_6 rfl ?_
  refine V_istore_n (lv' := [(1, .int (M1.1 162 10)), (0, .ref (G.2.2 + 162))]) X d_Mod_rule_9 rfl (by decide) rfl rfl ?_
  refine V_aload_n (n := 1) X d_Mod_rule_10 rfl rfl rfl ?_
  refine V_aload_n (n := 1) X d_Mod_rule_11 rfl rfl rfl ?_
  refine V_getr (k2 := 167) X fo_Mod_32 kd_162 rfl rf_162_9 d_Mod_rule_12 rfl ?_
  refine V_iload_n (n := 0) X d_Mod_rule_15 rfl rfl rfl ?_
  refine V_bipush (v := 40) X d_Mod_rule_16 (by decide) rfl ?_
  obtain ⟨x2, hx2, h⟩ := ob_s h
  refine V_cv (As := [.ref (G.2.2 + 167), .int (M1.1 162 10), .int (40 : Int32)]) X (Z0 E) ml_Mod_194 yq_Mod_begin (c_Mod_begin E.2.1 G 167 (M1.1 162 10) (40 : Int32) M1 x2 hx2 _ (Nat.le_refl _)) kd_162 rfl rfl (by omega) rfl (Nat.le_of_ble_eq_true rfl) d_Mod_rule_18 rfl (fun M9 hq => ?_)
  rw [hq]
  refine V_aload_n (n := 1) X d_Mod_rule_21 rfl rfl rfl ?_
  refine V_iconst (v := 0) X d_Mod_rule_22 (by decide) rfl ?_
  obtain ⟨M3, eM3, h⟩ := memS h
  refine V_putI X fp_Mod_161 kd_162 rfl d_Mod_rule_23 rfl ?_
  rw [← eM3]
  refine V_aload_n (n := 1) X d_Mod_rule_26 rfl rfl rfl ?_
  refine V_null X d_Mod_rule_27 rfl ?_
  obtain ⟨M4, eM4, h⟩ := memS h
  refine V_putn X fp_Mod_239 kd_162 rfl d_Mod_rule_28 rfl ?_
  rw [← eM4]
  refine V_iload_n (n := 0) X d_Mod_rule_31 rfl rfl rfl ?_
  refine V_if_le (tgt := 71) X d_Mod_rule_32 (by decide) rfl (fun c16 => ?_) (fun c16 => ?_)
  · rw [if_pos c16] at h
    refine V_iconst (v := 0) X d_Mod_rule_71 (by decide) rfl ?_
    refine V_istore_n (lv' := [(2, .int (0 : Int32)), (1, .int (M1.1 162 10)), (0, .ref (G.2.2 + 162))]) X d_Mod_rule_72 rfl (by decide) rfl rfl ?_
    refine V_sub (lv' := [(0, .ref (G.2.2 + 162)), (1, .int (M1.1 162 10)), (2, .int (0 : Int32))]) [2, 1, 0] rfl ?_
    obtain ⟨x7, hx7, h⟩ := ob_s h
    refine (lp_Mod_rule_73_ok X hD (M1.1 162 10) _ _ _ hx7 (fun x9 e9 => ?_) :)
    subst e9
    refine V_aload_n (n := 0) X d_Mod_rule_96 rfl rfl rfl ?_
    refine V_iload_n (n := 1) X d_Mod_rule_97 rfl rfl rfl ?_
    obtain ⟨M8, eM8, h⟩ := memS h
    refine V_putI X fp_Mod_249 kd_162 rfl d_Mod_rule_98 rfl ?_
    rw [← eM8]
    refine V_iconst (v := 0) X d_Mod_rule_101 (by decide) rfl ?_
    exact V_iret X (kr ((0 : Int32), M8) (Option.some.inj h).symm) d_Mod_rule_102
  · rw [if_neg c16] at h
    refine V_aload_n (n := 1) X d_Mod_rule_35 rfl rfl rfl ?_
    refine V_iconst (v := 0) X d_Mod_rule_36 (by decide) rfl ?_
    obtain ⟨x9, hx9, h⟩ := ob_s h
    refine V_ci (As := [.int (0 : Int32)]) X (Z0 E) ml_Mod_236 yq_Mod_held (c_Mod_held E.2.1 G (0 : Int32) M4 x9 hx9 _ (Nat.le_refl _)) kd_162 rfl rfl (by omega) rfl (Nat.le_of_ble_eq_true rfl) d_Mod_rule_37 rfl (fun r9 M9 hq => ?_)
    rw [hq.1, hq.2]
    refine V_pop X d_Mod_rule_40 rfl rfl ?_
    refine V_aload_n (n := 1) X d_Mod_rule_41 rfl rfl rfl ?_
    refine V_geti X fo_Mod_173 kd_162 rfl d_Mod_rule_42 rfl ?_
    refine V_iload_n (n := 0) X d_Mod_rule_45 rfl rfl rfl ?_
    refine V_icmp_ge (tgt := 57) X d_Mod_rule_46 (by decide) rfl (fun c15 => ?_) (fun c15 => ?_)
    · rw [if_pos c15] at h
      refine V_sub (lv' := [(0, .ref (G.2.2 + 162)), (1, .int (M1.1 162 10))]) [1, 0] rfl ?_
      exact j_Mod_rule_57_ok X hD (M1.1 162 10) x9.2 _ h kr
    · rw [if_neg c15] at h
      refine V_aload_n (n := 1) X d_Mod_rule_49 rfl rfl rfl ?_
      refine V_aload_n (n := 1) X d_Mod_rule_50 rfl rfl rfl ?_
      refine V_geti X fo_Mod_173 kd_162 rfl d_Mod_rule_51 rfl ?_
      obtain ⟨x14, hx14, h⟩ := ob_s h
      refine V_cv (As := [.int (x9.2.1 162 17)]) X (Z0 E) ml_Mod_190 yq_Mod_fault (c_Mod_fault E.2.1 G (x9.2.1 162 17) x9.2 x14 hx14 _ (Nat.le_refl _)) kd_162 rfl rfl (by omega) rfl (Nat.le_of_ble_eq_true rfl) d_Mod_rule_54 rfl (fun M9 hq => ?_)
      rw [hq]
      refine V_sub (lv' := [(0, .ref (G.2.2 + 162)), (1, .int (M1.1 162 10))]) [1, 0] rfl ?_
      exact j_Mod_rule_57_ok X hD (M1.1 162 10) x14 _ h kr
def j_Mod_goes_31 (v1 : Nat) (v2 : Int32) (M : Mem) : Option (Int32 × Mem) :=
  if (M.1 162 23) = 0 then
  some ((1 : Int32), M)
  else
  Option.bind (f_Mod_begin 172 (M.1 162 23) (40 : Int32) M) fun x1 =>
  mem_ (s_q x1 162 24 (some v1)) fun M2 =>
  mem_ (s_i M2 162 25 v2) fun M3 =>
  Option.bind (f_Mod_held (0 : Int32) M3) fun x4 =>
  if x4.1 = 0 then
  some ((0 : Int32), x4.2)
  else
  some ((1 : Int32), x4.2)
theorem j_Mod_goes_31_ok {E : Ev} {G : Gw} {d : Nat} {post : Int32 → Mem → Prop} (X : Cx E G b_Mod_goes "WomenByTheRoofsModel" 3 d (some .boolean)) (hD : 401 ≤ d)  (v1 : Nat) (v2 : Int32) (hk_v1 : kd v1 = 1)  (M : Mem)  (o : Int32 × Mem) (h : j_Mod_goes_31 v1 v2 M = some o) (kr : ∀ x9 : Int32 × Mem, o = x9 → post x9.1 x9.2) : V E (0, 0) G 3 (QI E G post) M 31 [(0, .ref (G.2.2 + 162)), (1, .ref (G.2.2 + v1)), (2, .int v2)] [] := by
  unfold j_Mod_goes_31 at h
  refine V_aload_n (n := 0) X d_Mod_goes_31 rfl rfl rfl ?_
  refine V_geti X fo_Mod_249 kd_162 rfl d_Mod_goes_32 rfl ?_
  refine V_if_ne (tgt := 40) X d_Mod_goes_35 (by decide) rfl (fun c6 => ?_) (fun c6 => ?_)
  · rw [if_neg c6] at h
    refine V_aload_n (n := 0) X d_Mod_goes_40 rfl rfl rfl ?_
    refine V_aload_n (n := 0) X d_Mod_goes_41 rfl rfl rfl ?_
    refine V_getr (k2 := 172) X fo_Mod_48 kd_162 rfl rf_162_22 d_Mod_goes_42 rfl ?_
    refine V_aload_n (n := 0) X d_Mod_goes_45 rfl rfl rfl ?_
    refine V_geti X fo_Mod_249 kd_162 rfl d_Mod_goes_46 rfl ?_
    refine V_bipush (v := 40) X d_Mod_goes_49 (by decide) rfl ?_
    obtain ⟨x1, hx1, h⟩ := ob_s h
    refine V_cv (As := [.ref (G.2.2 + 172), .int (M.1 162 23), .int (40 : Int32)]) X (Z0 E) ml_Mod_194 yq_Mod_begin (c_Mod_begin E.2.1 G 172 (M.1 162 23) (40 : Int32) M x1 hx1 _ (Nat.le_refl _)) kd_162 rfl rfl (by omega) rfl (Nat.le_of_ble_eq_true rfl) d_Mod_goes_51 rfl (fun M9 hq => ?_)
    rw [hq]
    refine V_aload_n (n := 0) X d_Mod_goes_54 rfl rfl rfl ?_
    refine V_aload_n (n := 1) X d_Mod_goes_55 rfl rfl rfl ?_
    obtain ⟨M2, eM2, h⟩ := memS h
    refine V_putr X fp_Mod_239 kd_162 rfl d_Mod_goes_56 rfl ?_
    rw [← eM2]
    refine V_aload_n (n := 0) X d_Mod_goes_59 rfl rfl rfl ?_
    refine V_iload_n (n := 2) X d_Mod_goes_60 rfl rfl rfl ?_
    obtain ⟨M3, eM3, h⟩ := memS h
    refine V_putI X fp_Mod_242 kd_162 rfl d_Mod_goes_61 rfl ?_
    rw [← eM3]
    refine V_aload_n (n := 0) X d_Mod_goes_64 rfl rfl rfl ?_
    refine V_iconst (v := 0) X d_Mod_goes_65 (by decide) rfl ?_
    obtain ⟨x4, hx4, h⟩ := ob_s h
    refine V_ci (As := [.int (0 : Int32)]) X (Z0 E) ml_Mod_236 yq_Mod_held (c_Mod_held E.2.1 G (0 : Int32) M3 x4 hx4 _ (Nat.le_refl _)) kd_162 rfl rfl (by omega) rfl (Nat.le_of_ble_eq_true rfl) d_Mod_goes_66 rfl (fun r9 M9 hq => ?_)
    rw [hq.1, hq.2]
    refine V_if_eq (tgt := 76) X d_Mod_goes_69 (by decide) rfl (fun c5 => ?_) (fun c5 => ?_)
    · rw [if_pos c5] at h
      refine V_iconst (v := 0) X d_Mod_goes_76 (by decide) rfl ?_
      exact V_zret X (kr ((0 : Int32), x4.2) (Option.some.inj h).symm) (by decide) d_Mod_goes_77
    · rw [if_neg c5] at h
      refine V_iconst (v := 1) X d_Mod_goes_72 (by decide) rfl ?_
      refine V_goto (pc' := 77) X d_Mod_goes_73 (by decide) ?_
      exact V_zret X (kr ((1 : Int32), x4.2) (Option.some.inj h).symm) (by decide) d_Mod_goes_77
  · rw [if_pos c6] at h
    refine V_iconst (v := 1) X d_Mod_goes_38 (by decide) rfl ?_
    exact V_zret X (kr ((1 : Int32), M) (Option.some.inj h).symm) (by decide) d_Mod_goes_39
def f_Mod_goes (v1 : Nat) (v2 : Int32) (M : Mem) : Option (Int32 × Mem) :=
  if kd v1 = 1 then
  if inb (94 : Int32) (ln v1) = true then
  if (M.1 v1 (94 : Int32).toNatClampNeg) = (1 : Int32) then
  Option.bind (f_Mod_has (M.1 162 5) v2) fun x7 =>
  if x7 = 0 then
  j_Mod_goes_31 v1 v2 M
  else
  if inb v2 (ln v1) = true then
  Option.bind (f_Mod_levelOf (M.1 v1 v2.toNatClampNeg)) fun x8 =>
  if x8 = (1 : Int32) then
  some ((0 : Int32), M)
  else
  j_Mod_goes_31 v1 v2 M
  else none
  else
  j_Mod_goes_31 v1 v2 M
  else none
  else none
theorem c_Mod_goes (l : Launch) (G : Gw)  (v1 : Nat) (v2 : Int32) (M : Mem) (x : Int32 × Mem) (h : f_Mod_goes v1 v2 M = some x) (d : Nat) (hD : 401 ≤ d) : Ci l G y_Mod_goes b_Mod_goes 3 (some .boolean) d [.ref (G.2.2 + 162), .ref (G.2.2 + v1), .int v2] M (fun r9 M9 => r9 = x.1 ∧ M9 = x.2) := by
  refine Ci_of (by decide) (Nat.le_of_ble_eq_true rfl) (fun E hE X => ?_)
  subst hE
  have kr : ∀ x9 : Int32 × Mem, x = x9 → (fun r9 M9 => r9 = x.1 ∧ M9 = x.2) x9.1 x9.2 := fun x9 e9 => by subst e9; exact ⟨rfl, rfl⟩
  unfold f_Mod_goes at h
  obtain ⟨hk_v1, h⟩ := ifn h
  refine V_aload_n (n := 1) X d_Mod_goes_0 rfl rfl rfl ?_
  refine V_bipush (v := 94) X d_Mod_goes_1 (by decide) rfl ?_
  obtain ⟨hb, h⟩ := ifn h
  refine V_iald X hk_v1 (inb_in rfl hb) d_Mod_goes_3 rfl ?_
  refine V_iconst (v := 1) X d_Mod_goes_4 (by decide) rfl ?_
  refine V_icmp_ne (tgt := 31) X d_Mod_goes_5 (by decide) rfl (fun c11 => ?_) (fun c11 => ?_)
  · rw [if_neg c11] at h
    exact j_Mod_goes_31_ok X hD v1 v2 hk_v1 M _ h kr
  · rw [if_pos c11] at h
    refine V_aload_n (n := 0) X d_Mod_goes_8 rfl rfl rfl ?_
    refine V_geti X fo_Mod_130 kd_162 rfl d_Mod_goes_9 rfl ?_
    refine V_iload_n (n := 2) X d_Mod_goes_12 rfl rfl rfl ?_
    obtain ⟨x7, hx7, h⟩ := ob_s h
    refine V_si (As := [.int (M.1 162 5), .int v2]) X (Z0 E) ml_Mod_133 yq_Mod_has (c_Mod_has E.2.1 G (M.1 162 5) v2 M x7 hx7 _ (Nat.le_refl _)) rfl (by omega) rfl (Nat.le_of_ble_eq_true rfl) d_Mod_goes_13 rfl (fun r9 M9 hq => ?_)
    rw [hq.1, hq.2]
    refine V_if_eq (tgt := 31) X d_Mod_goes_16 (by decide) rfl (fun c10 => ?_) (fun c10 => ?_)
    · rw [if_pos c10] at h
      exact j_Mod_goes_31_ok X hD v1 v2 hk_v1 M _ h kr
    · rw [if_neg c10] at h
      refine V_aload_n (n := 1) X d_Mod_goes_19 rfl rfl rfl ?_
      refine V_iload_n (n := 2) X d_Mod_goes_20 rfl rfl rfl ?_
      obtain ⟨hb, h⟩ := ifn h
      refine V_iald X hk_v1 (inb_in rfl hb) d_Mod_goes_21 rfl ?_
      obtain ⟨x8, hx8, h⟩ := ob_s h
      refine V_si (As := [.int (M.1 v1 v2.toNatClampNeg)]) X (Z0 E) ml_Mod_143 yq_Mod_levelOf (c_Mod_levelOf E.2.1 G (M.1 v1 v2.toNatClampNeg) M x8 hx8 _ (Nat.le_refl _)) rfl (by omega) rfl (Nat.le_of_ble_eq_true rfl) d_Mod_goes_22 rfl (fun r9 M9 hq => ?_)
      rw [hq.1, hq.2]
      refine V_iconst (v := 1) X d_Mod_goes_25 (by decide) rfl ?_
      refine V_icmp_ne (tgt := 31) X d_Mod_goes_26 (by decide) rfl (fun c9 => ?_) (fun c9 => ?_)
      · rw [if_neg c9] at h
        exact j_Mod_goes_31_ok X hD v1 v2 hk_v1 M _ h kr
      · rw [if_pos c9] at h
        refine V_iconst (v := 0) X d_Mod_goes_29 (by decide) rfl ?_
        exact V_zret X (kr ((0 : Int32), M) (Option.some.inj h).symm) (by decide) d_Mod_goes_30
def lb_Mod_onPlace_5 (v1 : Nat) (v2 : Int32) (M : Mem) (s : Int32 × Int32) : Option ((Int32 × Int32) ⊕ ((Int32))) :=
  if (M.1 162 4) ≤ s.2 then
  some (.inr s.1)
  else
  if inb s.2 (ln v1) = true then
  if (M.1 v1 s.2.toNatClampNeg) = v2 then
  some (.inl ((s.1 ||| ((1 : Int32) <<< (s.2 &&& 31))), (s.2 + (1 : Int32))))
  else
  some (.inl ((s.1 ||| (0 : Int32)), (s.2 + (1 : Int32))))
  else none
theorem lb_Mod_onPlace_5_ok {E : Ev} {G : Gw} {d : Nat} {post : Int32 → Mem → Prop} (X : Cx E G b_Mod_onPlace "WomenByTheRoofsModel" 5 d (some .int)) (hD : 1 ≤ d)  (v1 : Nat) (v2 : Int32) (hk_v1 : kd v1 = 1) (M : Mem) (s : Int32 × Int32) (o : (Int32 × Int32) ⊕ ((Int32))) (h : lb_Mod_onPlace_5 v1 v2 M s = some o) (kc : ∀ s9 : Int32 × Int32, o = .inl s9 → V E (0, 0) G 5 (QI E G post) M 5 [(0, .ref (G.2.2 + 162)), (1, .ref (G.2.2 + v1)), (2, .int v2), (3, .int s9.1), (4, .int s9.2)] []) (kx0 : ∀ x9 : Int32, o = .inr x9 → V E (0, 0) G 5 (QI E G post) M 39 [(3, .int x9)] []) : V E (0, 0) G 5 (QI E G post) M 5 [(0, .ref (G.2.2 + 162)), (1, .ref (G.2.2 + v1)), (2, .int v2), (3, .int s.1), (4, .int s.2)] [] := by
  unfold lb_Mod_onPlace_5 at h
  refine V_iload (n := 4) X d_Mod_onPlace_5 rfl rfl ?_
  refine V_aload_n (n := 0) X d_Mod_onPlace_7 rfl rfl rfl ?_
  refine V_geti X fo_Mod_123 kd_162 rfl d_Mod_onPlace_8 rfl ?_
  refine V_icmp_ge (tgt := 39) X d_Mod_onPlace_11 (by decide) rfl (fun c2 => ?_) (fun c2 => ?_)
  · rw [if_pos c2] at h
    refine V_sub (lv' := [(3, .int s.1)]) [3] rfl ?_
    exact kx0 s.1 (Option.some.inj h).symm
  · rw [if_neg c2] at h
    refine V_iload_n (n := 3) X d_Mod_onPlace_14 rfl rfl rfl ?_
    refine V_aload_n (n := 1) X d_Mod_onPlace_15 rfl rfl rfl ?_
    refine V_iload (n := 4) X d_Mod_onPlace_16 rfl rfl ?_
    obtain ⟨hb, h⟩ := ifn h
    refine V_iald X hk_v1 (inb_in rfl hb) d_Mod_onPlace_18 rfl ?_
    refine V_iload_n (n := 2) X d_Mod_onPlace_19 rfl rfl rfl ?_
    refine V_icmp_ne (tgt := 30) X d_Mod_onPlace_20 (by decide) rfl (fun c1 => ?_) (fun c1 => ?_)
    · rw [if_neg c1] at h
      refine V_iconst (v := 0) X d_Mod_onPlace_30 (by decide) rfl ?_
      refine V_ior X d_Mod_onPlace_31 rfl ?_
      refine V_istore_n (lv' := [(3, .int (s.1 ||| (0 : Int32))), (0, .ref (G.2.2 + 162)), (1, .ref (G.2.2 + v1)), (2, .int v2), (4, .int s.2)]) X d_Mod_onPlace_32 rfl (by decide) rfl rfl ?_
      refine V_iinc (n := 4) (v := (s.2 + (1 : Int32))) (lv' := [(4, .int (s.2 + (1 : Int32))), (3, .int (s.1 ||| (0 : Int32))), (0, .ref (G.2.2 + 162)), (1, .ref (G.2.2 + v1)), (2, .int v2)]) X d_Mod_onPlace_33 rfl rfl (by decide) rfl rfl ?_
      refine V_goto (pc' := 5) X d_Mod_onPlace_36 (by decide) ?_
      refine V_sub (lv' := [(0, .ref (G.2.2 + 162)), (1, .ref (G.2.2 + v1)), (2, .int v2), (3, .int (s.1 ||| (0 : Int32))), (4, .int (s.2 + (1 : Int32)))]) [2, 3, 4, 1, 0] rfl ?_
      exact kc ((s.1 ||| (0 : Int32)), (s.2 + (1 : Int32))) (Option.some.inj h).symm
    · rw [if_pos c1] at h
      refine V_iconst (v := 1) X d_Mod_onPlace_23 (by decide) rfl ?_
      refine V_iload (n := 4) X d_Mod_onPlace_24 rfl rfl ?_
      refine V_ishl X d_Mod_onPlace_26 rfl ?_
      refine V_goto (pc' := 31) X d_Mod_onPlace_27 (by decide) ?_
      refine V_ior X d_Mod_onPlace_31 rfl ?_
      refine V_istore_n (lv' := [(3, .int (s.1 ||| ((1 : Int32) <<< (s.2 &&& 31)))), (0, .ref (G.2.2 + 162)), (1, .ref (G.2.2 + v1)), (2, .int v2), (4, .int s.2)]) X d_Mod_onPlace_32 rfl (by decide) rfl rfl ?_
      refine V_iinc (n := 4) (v := (s.2 + (1 : Int32))) (lv' := [(4, .int (s.2 + (1 : Int32))), (3, .int (s.1 ||| ((1 : Int32) <<< (s.2 &&& 31)))), (0, .ref (G.2.2 + 162)), (1, .ref (G.2.2 + v1)), (2, .int v2)]) X d_Mod_onPlace_33 rfl rfl (by decide) rfl rfl ?_
      refine V_goto (pc' := 5) X d_Mod_onPlace_36 (by decide) ?_
      refine V_sub (lv' := [(0, .ref (G.2.2 + 162)), (1, .ref (G.2.2 + v1)), (2, .int v2), (3, .int (s.1 ||| ((1 : Int32) <<< (s.2 &&& 31)))), (4, .int (s.2 + (1 : Int32)))]) [2, 3, 4, 1, 0] rfl ?_
      exact kc ((s.1 ||| ((1 : Int32) <<< (s.2 &&& 31))), (s.2 + (1 : Int32))) (Option.some.inj h).symm
theorem lp_Mod_onPlace_5_ok {E : Ev} {G : Gw} {d : Nat} {post : Int32 → Mem → Prop} (X : Cx E G b_Mod_onPlace "WomenByTheRoofsModel" 5 d (some .int)) (hD : 1 ≤ d)  (v1 : Nat) (v2 : Int32) (hk_v1 : kd v1 = 1) (M : Mem) (n9 : Nat) (s : Int32 × Int32) (x : (Int32)) (h : iter (lb_Mod_onPlace_5 v1 v2 M) n9 s = some x) (kx0 : ∀ x9 : Int32, x = x9 → V E (0, 0) G 5 (QI E G post) M 39 [(3, .int x9)] []) : V E (0, 0) G 5 (QI E G post) M 5 [(0, .ref (G.2.2 + 162)), (1, .ref (G.2.2 + v1)), (2, .int v2), (3, .int s.1), (4, .int s.2)] [] :=
  iter_P (P := fun s : Int32 × Int32 => V E (0, 0) G 5 (QI E G post) M 5 [(0, .ref (G.2.2 + 162)), (1, .ref (G.2.2 + v1)), (2, .int v2), (3, .int s.1), (4, .int s.2)] []) (fun s o hb kc ky => lb_Mod_onPlace_5_ok X hD v1 v2 hk_v1 M s o hb kc (fun x9 e9 => kx0 x9 (ky _ e9).symm)) n9 s h
def f_Mod_onPlace (v1 : Nat) (v2 : Int32) (M : Mem) : Option (Int32) :=
  if kd v1 = 1 then
  Option.bind (iter (lb_Mod_onPlace_5 v1 v2 M) FU ((0 : Int32), (0 : Int32))) fun x3 =>
  some x3
  else none
theorem c_Mod_onPlace (l : Launch) (G : Gw)  (v1 : Nat) (v2 : Int32) (M : Mem) (x : Int32) (h : f_Mod_onPlace v1 v2 M = some x) (d : Nat) (hD : 1 ≤ d) : Ci l G y_Mod_onPlace b_Mod_onPlace 5 (some .int) d [.ref (G.2.2 + 162), .ref (G.2.2 + v1), .int v2] M (fun r9 M9 => r9 = x ∧ M9 = M) := by
  refine Ci_of (by decide) (Nat.le_of_ble_eq_true rfl) (fun E hE X => ?_)
  subst hE
  have kr : ∀ x9 : Int32, x = x9 → (fun r9 M9 => r9 = x ∧ M9 = M) x9 M := fun x9 e9 => by subst e9; exact ⟨rfl, rfl⟩
  unfold f_Mod_onPlace at h
  obtain ⟨hk_v1, h⟩ := ifn h
  refine V_iconst (v := 0) X d_Mod_onPlace_0 (by decide) rfl ?_
  refine V_istore_n (lv' := [(3, .int (0 : Int32)), (0, .ref (G.2.2 + 162)), (1, .ref (G.2.2 + v1)), (2, .int v2)]) X d_Mod_onPlace_1 rfl (by decide) rfl rfl ?_
  refine V_iconst (v := 0) X d_Mod_onPlace_2 (by decide) rfl ?_
  refine V_istore (lv' := [(4, .int (0 : Int32)), (3, .int (0 : Int32)), (0, .ref (G.2.2 + 162)), (1, .ref (G.2.2 + v1)), (2, .int v2)]) X d_Mod_onPlace_3 (by decide) rfl rfl ?_
  refine V_sub (lv' := [(0, .ref (G.2.2 + 162)), (1, .ref (G.2.2 + v1)), (2, .int v2), (3, .int (0 : Int32)), (4, .int (0 : Int32))]) [2, 3, 4, 1, 0] rfl ?_
  obtain ⟨x3, hx3, h⟩ := ob_s h
  refine (lp_Mod_onPlace_5_ok X hD v1 v2 hk_v1 M _ _ _ hx3 (fun x9 e9 => ?_) :)
  subst e9
  refine V_iload_n (n := 0) X d_Mod_onPlace_39 rfl rfl rfl ?_
  exact V_iret X (kr x3 (Option.some.inj h).symm) d_Mod_onPlace_40
def lb_Mod_ways_16 (v1 : Int32) (v2 : Int32) (M : Mem) (s : Int32 × Int32) : Option ((Int32 × Int32) ⊕ ((Int32))) :=
  if (4 : Int32) ≤ s.2 then
  some (.inr s.1)
  else
  Option.bind (f_Mod_placeOf v1 v2) fun x2 =>
  Option.bind (f_Mod_go 163 x2 s.2 M) fun x3 =>
  if x3 = (-1 : Int32) then
  some (.inl ((s.1 + (0 : Int32)), (s.2 + (1 : Int32))))
  else
  some (.inl ((s.1 + (1 : Int32)), (s.2 + (1 : Int32))))
theorem lb_Mod_ways_16_ok {E : Ev} {G : Gw} {d : Nat} {post : Int32 → Mem → Prop} (X : Cx E G b_Mod_ways "WomenByTheRoofsModel" 5 d (some .int)) (hD : 5 ≤ d)  (v1 : Int32) (v2 : Int32)  (M : Mem) (s : Int32 × Int32) (o : (Int32 × Int32) ⊕ ((Int32))) (h : lb_Mod_ways_16 v1 v2 M s = some o) (kc : ∀ s9 : Int32 × Int32, o = .inl s9 → V E (0, 0) G 5 (QI E G post) M 16 [(0, .ref (G.2.2 + 162)), (1, .int v1), (2, .int v2), (3, .int s9.1), (4, .int s9.2)] []) (kx0 : ∀ x9 : Int32, o = .inr x9 → V E (0, 0) G 5 (QI E G post) M 55 [(3, .int x9)] []) : V E (0, 0) G 5 (QI E G post) M 16 [(0, .ref (G.2.2 + 162)), (1, .int v1), (2, .int v2), (3, .int s.1), (4, .int s.2)] [] := by
  unfold lb_Mod_ways_16 at h
  refine V_iload (n := 4) X d_Mod_ways_16 rfl rfl ?_
  refine V_iconst (v := 4) X d_Mod_ways_18 (by decide) rfl ?_
  refine V_icmp_ge (tgt := 55) X d_Mod_ways_19 (by decide) rfl (fun c5 => ?_) (fun c5 => ?_)
  · rw [if_pos c5] at h
    refine V_sub (lv' := [(3, .int s.1)]) [3] rfl ?_
    exact kx0 s.1 (Option.some.inj h).symm
  · rw [if_neg c5] at h
    refine V_iload_n (n := 3) X d_Mod_ways_22 rfl rfl rfl ?_
    refine V_aload_n (n := 0) X d_Mod_ways_23 rfl rfl rfl ?_
    refine V_aload_n (n := 0) X d_Mod_ways_24 rfl rfl rfl ?_
    refine V_getr (k2 := 163) X fo_Mod_9 kd_162 rfl rf_162_0 d_Mod_ways_25 rfl ?_
    refine V_iload_n (n := 1) X d_Mod_ways_28 rfl rfl rfl ?_
    refine V_iload_n (n := 2) X d_Mod_ways_29 rfl rfl rfl ?_
    obtain ⟨x2, hx2, h⟩ := ob_s h
    refine V_si (As := [.int v1, .int v2]) X (Z0 E) ml_Mod_154 yq_Mod_placeOf (c_Mod_placeOf E.2.1 G v1 v2 M x2 hx2 _ (Nat.le_refl _)) rfl (by omega) rfl (Nat.le_of_ble_eq_true rfl) d_Mod_ways_30 rfl (fun r9 M9 hq => ?_)
    rw [hq.1, hq.2]
    refine V_iload (n := 4) X d_Mod_ways_33 rfl rfl ?_
    obtain ⟨x3, hx3, h⟩ := ob_s h
    refine V_ci (As := [.ref (G.2.2 + 163), .int x2, .int s.2]) X (Z0 E) ml_Mod_252 yq_Mod_go (c_Mod_go E.2.1 G 163 x2 s.2 M x3 hx3 _ (Nat.le_refl _)) kd_162 rfl rfl (by omega) rfl (Nat.le_of_ble_eq_true rfl) d_Mod_ways_35 rfl (fun r9 M9 hq => ?_)
    rw [hq.1, hq.2]
    refine V_iconst (v := -1) X d_Mod_ways_38 (by decide) rfl ?_
    refine V_icmp_ne (tgt := 46) X d_Mod_ways_39 (by decide) rfl (fun c4 => ?_) (fun c4 => ?_)
    · rw [if_neg c4] at h
      refine V_iconst (v := 1) X d_Mod_ways_46 (by decide) rfl ?_
      refine V_iadd X d_Mod_ways_47 rfl ?_
      refine V_istore_n (lv' := [(3, .int (s.1 + (1 : Int32))), (0, .ref (G.2.2 + 162)), (1, .int v1), (2, .int v2), (4, .int s.2)]) X d_Mod_ways_48 rfl (by decide) rfl rfl ?_
      refine V_iinc (n := 4) (v := (s.2 + (1 : Int32))) (lv' := [(4, .int (s.2 + (1 : Int32))), (3, .int (s.1 + (1 : Int32))), (0, .ref (G.2.2 + 162)), (1, .int v1), (2, .int v2)]) X d_Mod_ways_49 rfl rfl (by decide) rfl rfl ?_
      refine V_goto (pc' := 16) X d_Mod_ways_52 (by decide) ?_
      refine V_sub (lv' := [(0, .ref (G.2.2 + 162)), (1, .int v1), (2, .int v2), (3, .int (s.1 + (1 : Int32))), (4, .int (s.2 + (1 : Int32)))]) [2, 3, 4, 1, 0] rfl ?_
      exact kc ((s.1 + (1 : Int32)), (s.2 + (1 : Int32))) (Option.some.inj h).symm
    · rw [if_pos c4] at h
      refine V_iconst (v := 0) X d_Mod_ways_42 (by decide) rfl ?_
      refine V_goto (pc' := 47) X d_Mod_ways_43 (by decide) ?_
      refine V_iadd X d_Mod_ways_47 rfl ?_
      refine V_istore_n (lv' := [(3, .int (s.1 + (0 : Int32))), (0, .ref (G.2.2 + 162)), (1, .int v1), (2, .int v2), (4, .int s.2)]) X d_Mod_ways_48 rfl (by decide) rfl rfl ?_
      refine V_iinc (n := 4) (v := (s.2 + (1 : Int32))) (lv' := [(4, .int (s.2 + (1 : Int32))), (3, .int (s.1 + (0 : Int32))), (0, .ref (G.2.2 + 162)), (1, .int v1), (2, .int v2)]) X d_Mod_ways_49 rfl rfl (by decide) rfl rfl ?_
      refine V_goto (pc' := 16) X d_Mod_ways_52 (by decide) ?_
      refine V_sub (lv' := [(0, .ref (G.2.2 + 162)), (1, .int v1), (2, .int v2), (3, .int (s.1 + (0 : Int32))), (4, .int (s.2 + (1 : Int32)))]) [2, 3, 4, 1, 0] rfl ?_
      exact kc ((s.1 + (0 : Int32)), (s.2 + (1 : Int32))) (Option.some.inj h).symm
theorem lp_Mod_ways_16_ok {E : Ev} {G : Gw} {d : Nat} {post : Int32 → Mem → Prop} (X : Cx E G b_Mod_ways "WomenByTheRoofsModel" 5 d (some .int)) (hD : 5 ≤ d)  (v1 : Int32) (v2 : Int32)  (M : Mem) (n9 : Nat) (s : Int32 × Int32) (x : (Int32)) (h : iter (lb_Mod_ways_16 v1 v2 M) n9 s = some x) (kx0 : ∀ x9 : Int32, x = x9 → V E (0, 0) G 5 (QI E G post) M 55 [(3, .int x9)] []) : V E (0, 0) G 5 (QI E G post) M 16 [(0, .ref (G.2.2 + 162)), (1, .int v1), (2, .int v2), (3, .int s.1), (4, .int s.2)] [] :=
  iter_P (P := fun s : Int32 × Int32 => V E (0, 0) G 5 (QI E G post) M 16 [(0, .ref (G.2.2 + 162)), (1, .int v1), (2, .int v2), (3, .int s.1), (4, .int s.2)] []) (fun s o hb kc ky => lb_Mod_ways_16_ok X hD v1 v2 M s o hb kc (fun x9 e9 => kx0 x9 (ky _ e9).symm)) n9 s h
def f_Mod_ways (v1 : Int32) (v2 : Int32) (M : Mem) : Option (Int32) :=
  Option.bind (f_Mod_isOf v1 v2 M) fun x1 =>
  if x1 = 0 then
  some (0 : Int32)
  else
  Option.bind (iter (lb_Mod_ways_16 v1 v2 M) FU ((0 : Int32), (0 : Int32))) fun x6 =>
  some x6
theorem c_Mod_ways (l : Launch) (G : Gw)  (v1 : Int32) (v2 : Int32) (M : Mem) (x : Int32) (h : f_Mod_ways v1 v2 M = some x) (d : Nat) (hD : 5 ≤ d) : Ci l G y_Mod_ways b_Mod_ways 5 (some .int) d [.ref (G.2.2 + 162), .int v1, .int v2] M (fun r9 M9 => r9 = x ∧ M9 = M) := by
  refine Ci_of (by decide) (Nat.le_of_ble_eq_true rfl) (fun E hE X => ?_)
  subst hE
  have kr : ∀ x9 : Int32, x = x9 → (fun r9 M9 => r9 = x ∧ M9 = M) x9 M := fun x9 e9 => by subst e9; exact ⟨rfl, rfl⟩
  unfold f_Mod_ways at h
  refine V_aload_n (n := 0) X d_Mod_ways_0 rfl rfl rfl ?_
  refine V_iload_n (n := 1) X d_Mod_ways_1 rfl rfl rfl ?_
  refine V_iload_n (n := 2) X d_Mod_ways_2 rfl rfl rfl ?_
  obtain ⟨x1, hx1, h⟩ := ob_s h
  refine V_ci (As := [.int v1, .int v2]) X (Z0 E) ml_Mod_140 yq_Mod_isOf (c_Mod_isOf E.2.1 G v1 v2 M x1 hx1 _ (Nat.le_refl _)) kd_162 rfl rfl (by omega) rfl (Nat.le_of_ble_eq_true rfl) d_Mod_ways_3 rfl (fun r9 M9 hq => ?_)
  rw [hq.1, hq.2]
  refine V_if_ne (tgt := 11) X d_Mod_ways_6 (by decide) rfl (fun c7 => ?_) (fun c7 => ?_)
  · rw [if_neg c7] at h
    refine V_iconst (v := 0) X d_Mod_ways_11 (by decide) rfl ?_
    refine V_istore_n (lv' := [(3, .int (0 : Int32)), (0, .ref (G.2.2 + 162)), (1, .int v1), (2, .int v2)]) X d_Mod_ways_12 rfl (by decide) rfl rfl ?_
    refine V_iconst (v := 0) X d_Mod_ways_13 (by decide) rfl ?_
    refine V_istore (lv' := [(4, .int (0 : Int32)), (3, .int (0 : Int32)), (0, .ref (G.2.2 + 162)), (1, .int v1), (2, .int v2)]) X d_Mod_ways_14 (by decide) rfl rfl ?_
    refine V_sub (lv' := [(0, .ref (G.2.2 + 162)), (1, .int v1), (2, .int v2), (3, .int (0 : Int32)), (4, .int (0 : Int32))]) [2, 3, 4, 1, 0] rfl ?_
    obtain ⟨x6, hx6, h⟩ := ob_s h
    refine (lp_Mod_ways_16_ok X hD v1 v2 M _ _ _ hx6 (fun x9 e9 => ?_) :)
    subst e9
    refine V_iload_n (n := 0) X d_Mod_ways_55 rfl rfl rfl ?_
    exact V_iret X (kr x6 (Option.some.inj h).symm) d_Mod_ways_56
  · rw [if_pos c7] at h
    refine V_iconst (v := 0) X d_Mod_ways_9 (by decide) rfl ?_
    exact V_iret X (kr (0 : Int32) (Option.some.inj h).symm) d_Mod_ways_10
def j_Mod_cell_22 (M : Mem) : Option (Int32 × Mem) :=
  Option.bind (f_Mod_lost M) fun x3 =>
  some (x3.1, x3.2)
theorem j_Mod_cell_22_ok {E : Ev} {G : Gw} {d : Nat} {post : Int32 → Mem → Prop} (X : Cx E G b_Mod_cell "WomenByTheRoofsModel" 5 d (some .int)) (hD : 6 ≤ d)    (M : Mem)  (o : Int32 × Mem) (h : j_Mod_cell_22 M = some o) (kr : ∀ x9 : Int32 × Mem, o = x9 → post x9.1 x9.2) : V E (0, 0) G 5 (QI E G post) M 22 [(0, .ref (G.2.2 + 162))] [] := by
  unfold j_Mod_cell_22 at h
  refine V_aload_n (n := 0) X d_Mod_cell_22 rfl rfl rfl ?_
  obtain ⟨x3, hx3, h⟩ := ob_s h
  refine V_ci (As := []) X (Z0 E) ml_Mod_256 yq_Mod_lost (c_Mod_lost E.2.1 G  M x3 hx3 _ (Nat.le_refl _)) kd_162 rfl rfl (by omega) rfl (Nat.le_of_ble_eq_true rfl) d_Mod_cell_23 rfl (fun r9 M9 hq => ?_)
  rw [hq.1, hq.2]
  exact V_iret X (kr (x3.1, x3.2) (Option.some.inj h).symm) d_Mod_cell_26
def lb_Mod_cell_88 (v1 : Int32) (M : Mem) (s : Int32 × Int32) : Option ((Int32 × Int32) ⊕ ((Int32))) :=
  if (M.1 163 (92 : Int32).toNatClampNeg) ≤ s.2 then
  some (.inr s.1)
  else
  if inb ((80 : Int32) + ((2 : Int32) * s.2)) 96 = true then
  if (M.1 163 ((80 : Int32) + ((2 : Int32) * s.2)).toNatClampNeg) = v1 then
  some (.inl ((s.1 ||| ((1 : Int32) <<< (s.2 &&& 31))), (s.2 + (1 : Int32))))
  else
  if inb (((80 : Int32) + ((2 : Int32) * s.2)) + (1 : Int32)) 96 = true then
  if (M.1 163 (((80 : Int32) + ((2 : Int32) * s.2)) + (1 : Int32)).toNatClampNeg) = v1 then
  some (.inl ((s.1 ||| ((1 : Int32) <<< (s.2 &&& 31))), (s.2 + (1 : Int32))))
  else
  some (.inl ((s.1 ||| (0 : Int32)), (s.2 + (1 : Int32))))
  else none
  else none
theorem lb_Mod_cell_88_ok {E : Ev} {G : Gw} {d : Nat} {post : Int32 → Mem → Prop} (X : Cx E G b_Mod_cell "WomenByTheRoofsModel" 5 d (some .int)) (hD : 6 ≤ d)  (v1 : Int32)  (M : Mem) (s : Int32 × Int32) (o : (Int32 × Int32) ⊕ ((Int32))) (h : lb_Mod_cell_88 v1 M s = some o) (kc : ∀ s9 : Int32 × Int32, o = .inl s9 → V E (0, 0) G 5 (QI E G post) M 88 [(0, .ref (G.2.2 + 162)), (1, .int v1), (3, .int s9.1), (4, .int s9.2)] []) (kx0 : ∀ x9 : Int32, o = .inr x9 → V E (0, 0) G 5 (QI E G post) M 151 [(3, .int x9)] []) : V E (0, 0) G 5 (QI E G post) M 88 [(0, .ref (G.2.2 + 162)), (1, .int v1), (3, .int s.1), (4, .int s.2)] [] := by
  unfold lb_Mod_cell_88 at h
  refine V_iload (n := 3) X d_Mod_cell_88 rfl rfl ?_
  refine V_aload_n (n := 0) X d_Mod_cell_90 rfl rfl rfl ?_
  refine V_getr (k2 := 163) X fo_Mod_9 kd_162 rfl rf_162_0 d_Mod_cell_91 rfl ?_
  refine V_bipush (v := 92) X d_Mod_cell_94 (by decide) rfl ?_
  refine V_iald X kd_163 (inb_in ln_163 (by decide)) d_Mod_cell_96 rfl ?_
  refine V_icmp_ge (tgt := 151) X d_Mod_cell_97 (by decide) rfl (fun c13 => ?_) (fun c13 => ?_)
  · rw [if_pos c13] at h
    refine V_sub (lv' := [(3, .int s.1)]) [2] rfl ?_
    exact kx0 s.1 (Option.some.inj h).symm
  · rw [if_neg c13] at h
    refine V_iload_n (n := 2) X d_Mod_cell_100 rfl rfl rfl ?_
    refine V_aload_n (n := 0) X d_Mod_cell_101 rfl rfl rfl ?_
    refine V_getr (k2 := 163) X fo_Mod_9 kd_162 rfl rf_162_0 d_Mod_cell_102 rfl ?_
    refine V_bipush (v := 80) X d_Mod_cell_105 (by decide) rfl ?_
    refine V_iconst (v := 2) X d_Mod_cell_107 (by decide) rfl ?_
    refine V_iload (n := 3) X d_Mod_cell_108 rfl rfl ?_
    refine V_imul X d_Mod_cell_110 rfl ?_
    refine V_iadd X d_Mod_cell_111 rfl ?_
    obtain ⟨hb, h⟩ := ifn h
    refine V_iald X kd_163 (inb_in ln_163 hb) d_Mod_cell_112 rfl ?_
    refine V_iload_n (n := 1) X d_Mod_cell_113 rfl rfl rfl ?_
    refine V_icmp_eq (tgt := 135) X d_Mod_cell_114 (by decide) rfl (fun c12 => ?_) (fun c12 => ?_)
    · rw [if_pos c12] at h
      refine V_iconst (v := 1) X d_Mod_cell_135 (by decide) rfl ?_
      refine V_iload (n := 3) X d_Mod_cell_136 rfl rfl ?_
      refine V_ishl X d_Mod_cell_138 rfl ?_
      refine V_goto (pc' := 143) X d_Mod_cell_139 (by decide) ?_
      refine V_ior X d_Mod_cell_143 rfl ?_
      refine V_istore_n (lv' := [(3, .int (s.1 ||| ((1 : Int32) <<< (s.2 &&& 31)))), (0, .ref (G.2.2 + 162)), (1, .int v1), (4, .int s.2)]) X d_Mod_cell_144 rfl (by decide) rfl rfl ?_
      refine V_iinc (n := 3) (v := (s.2 + (1 : Int32))) (lv' := [(4, .int (s.2 + (1 : Int32))), (3, .int (s.1 ||| ((1 : Int32) <<< (s.2 &&& 31)))), (0, .ref (G.2.2 + 162)), (1, .int v1)]) X d_Mod_cell_145 rfl rfl (by decide) rfl rfl ?_
      refine V_goto (pc' := 88) X d_Mod_cell_148 (by decide) ?_
      refine V_sub (lv' := [(0, .ref (G.2.2 + 162)), (1, .int v1), (3, .int (s.1 ||| ((1 : Int32) <<< (s.2 &&& 31)))), (4, .int (s.2 + (1 : Int32)))]) [2, 3, 1, 0] rfl ?_
      exact kc ((s.1 ||| ((1 : Int32) <<< (s.2 &&& 31))), (s.2 + (1 : Int32))) (Option.some.inj h).symm
    · rw [if_neg c12] at h
      refine V_aload_n (n := 0) X d_Mod_cell_117 rfl rfl rfl ?_
      refine V_getr (k2 := 163) X fo_Mod_9 kd_162 rfl rf_162_0 d_Mod_cell_118 rfl ?_
      refine V_bipush (v := 80) X d_Mod_cell_121 (by decide) rfl ?_
      refine V_iconst (v := 2) X d_Mod_cell_123 (by decide) rfl ?_
      refine V_iload (n := 3) X d_Mod_cell_124 rfl rfl ?_
      refine V_imul X d_Mod_cell_126 rfl ?_
      refine V_iadd X d_Mod_cell_127 rfl ?_
      refine V_iconst (v := 1) X d_Mod_cell_128 (by decide) rfl ?_
      refine V_iadd X d_Mod_cell_129 rfl ?_
      obtain ⟨hb, h⟩ := ifn h
      refine V_iald X kd_163 (inb_in ln_163 hb) d_Mod_cell_130 rfl ?_
      refine V_iload_n (n := 1) X d_Mod_cell_131 rfl rfl rfl ?_
      refine V_icmp_ne (tgt := 142) X d_Mod_cell_132 (by decide) rfl (fun c11 => ?_) (fun c11 => ?_)
      · rw [if_neg c11] at h
        refine V_iconst (v := 0) X d_Mod_cell_142 (by decide) rfl ?_
        refine V_ior X d_Mod_cell_143 rfl ?_
        refine V_istore_n (lv' := [(3, .int (s.1 ||| (0 : Int32))), (0, .ref (G.2.2 + 162)), (1, .int v1), (4, .int s.2)]) X d_Mod_cell_144 rfl (by decide) rfl rfl ?_
        refine V_iinc (n := 3) (v := (s.2 + (1 : Int32))) (lv' := [(4, .int (s.2 + (1 : Int32))), (3, .int (s.1 ||| (0 : Int32))), (0, .ref (G.2.2 + 162)), (1, .int v1)]) X d_Mod_cell_145 rfl rfl (by decide) rfl rfl ?_
        refine V_goto (pc' := 88) X d_Mod_cell_148 (by decide) ?_
        refine V_sub (lv' := [(0, .ref (G.2.2 + 162)), (1, .int v1), (3, .int (s.1 ||| (0 : Int32))), (4, .int (s.2 + (1 : Int32)))]) [2, 3, 1, 0] rfl ?_
        exact kc ((s.1 ||| (0 : Int32)), (s.2 + (1 : Int32))) (Option.some.inj h).symm
      · rw [if_pos c11] at h
        refine V_iconst (v := 1) X d_Mod_cell_135 (by decide) rfl ?_
        refine V_iload (n := 3) X d_Mod_cell_136 rfl rfl ?_
        refine V_ishl X d_Mod_cell_138 rfl ?_
        refine V_goto (pc' := 143) X d_Mod_cell_139 (by decide) ?_
        refine V_ior X d_Mod_cell_143 rfl ?_
        refine V_istore_n (lv' := [(3, .int (s.1 ||| ((1 : Int32) <<< (s.2 &&& 31)))), (0, .ref (G.2.2 + 162)), (1, .int v1), (4, .int s.2)]) X d_Mod_cell_144 rfl (by decide) rfl rfl ?_
        refine V_iinc (n := 3) (v := (s.2 + (1 : Int32))) (lv' := [(4, .int (s.2 + (1 : Int32))), (3, .int (s.1 ||| ((1 : Int32) <<< (s.2 &&& 31)))), (0, .ref (G.2.2 + 162)), (1, .int v1)]) X d_Mod_cell_145 rfl rfl (by decide) rfl rfl ?_
        refine V_goto (pc' := 88) X d_Mod_cell_148 (by decide) ?_
        refine V_sub (lv' := [(0, .ref (G.2.2 + 162)), (1, .int v1), (3, .int (s.1 ||| ((1 : Int32) <<< (s.2 &&& 31)))), (4, .int (s.2 + (1 : Int32)))]) [2, 3, 1, 0] rfl ?_
        exact kc ((s.1 ||| ((1 : Int32) <<< (s.2 &&& 31))), (s.2 + (1 : Int32))) (Option.some.inj h).symm
theorem lp_Mod_cell_88_ok {E : Ev} {G : Gw} {d : Nat} {post : Int32 → Mem → Prop} (X : Cx E G b_Mod_cell "WomenByTheRoofsModel" 5 d (some .int)) (hD : 6 ≤ d)  (v1 : Int32)  (M : Mem) (n9 : Nat) (s : Int32 × Int32) (x : (Int32)) (h : iter (lb_Mod_cell_88 v1 M) n9 s = some x) (kx0 : ∀ x9 : Int32, x = x9 → V E (0, 0) G 5 (QI E G post) M 151 [(3, .int x9)] []) : V E (0, 0) G 5 (QI E G post) M 88 [(0, .ref (G.2.2 + 162)), (1, .int v1), (3, .int s.1), (4, .int s.2)] [] :=
  iter_P (P := fun s : Int32 × Int32 => V E (0, 0) G 5 (QI E G post) M 88 [(0, .ref (G.2.2 + 162)), (1, .int v1), (3, .int s.1), (4, .int s.2)] []) (fun s o hb kc ky => lb_Mod_cell_88_ok X hD v1 M s o hb kc (fun x9 e9 => kx0 x9 (ky _ e9).symm)) n9 s h
def f_Mod_cell (v1 : Int32) (v2 : Int32) (M : Mem) : Option (Int32 × Mem) :=
  mem_ (s_i M 162 13 (0 : Int32)) fun M1 =>
  Option.bind (f_Mod_isCell v1 M1) fun x2 =>
  if x2 = 0 then
  j_Mod_cell_22 M1
  else
  Option.bind (f_Mod_in v2 (0 : Int32) (5 : Int32)) fun x4 =>
  if x4 = 0 then
  j_Mod_cell_22 M1
  else
  if v2 = (0 : Int32) then
  if inb v1 36 = true then
  some ((M1.1 164 v1.toNatClampNeg), M1)
  else none
  else if v2 = (1 : Int32) then
  Option.bind (f_Mod_placeOf (v2 - (1 : Int32)) v1) fun x7 =>
  Option.bind (f_Mod_onPlace 163 x7 M1) fun x8 =>
  some (x8, M1)
  else if v2 = (2 : Int32) then
  Option.bind (f_Mod_placeOf (v2 - (1 : Int32)) v1) fun x7 =>
  Option.bind (f_Mod_onPlace 163 x7 M1) fun x8 =>
  some (x8, M1)
  else if v2 = (3 : Int32) then
  Option.bind (iter (lb_Mod_cell_88 v1 M1) FU ((0 : Int32), (0 : Int32))) fun x14 =>
  some (x14, M1)
  else Option.bind (f_Mod_ways (v2 - (4 : Int32)) v1 M1) fun x5 =>
  some (x5, M1)
theorem c_Mod_cell (l : Launch) (G : Gw)  (v1 : Int32) (v2 : Int32) (M : Mem) (x : Int32 × Mem) (h : f_Mod_cell v1 v2 M = some x) (d : Nat) (hD : 6 ≤ d) : Ci l G y_Mod_cell b_Mod_cell 5 (some .int) d [.ref (G.2.2 + 162), .int v1, .int v2] M (fun r9 M9 => r9 = x.1 ∧ M9 = x.2) := by
  refine Ci_of (by decide) (Nat.le_of_ble_eq_true rfl) (fun E hE X => ?_)
  subst hE
  have kr : ∀ x9 : Int32 × Mem, x = x9 → (fun r9 M9 => r9 = x.1 ∧ M9 = x.2) x9.1 x9.2 := fun x9 e9 => by subst e9; exact ⟨rfl, rfl⟩
  unfold f_Mod_cell at h
  refine V_aload_n (n := 0) X d_Mod_cell_0 rfl rfl rfl ?_
  refine V_iconst (v := 0) X d_Mod_cell_1 (by decide) rfl ?_
  obtain ⟨M1, eM1, h⟩ := memS h
  refine V_putI X fp_Mod_109 kd_162 rfl d_Mod_cell_2 rfl ?_
  rw [← eM1]
  refine V_aload_n (n := 0) X d_Mod_cell_5 rfl rfl rfl ?_
  refine V_iload_n (n := 1) X d_Mod_cell_6 rfl rfl rfl ?_
  obtain ⟨x2, hx2, h⟩ := ob_s h
  refine V_ci (As := [.int v1]) X (Z0 E) ml_Mod_137 yq_Mod_isCell (c_Mod_isCell E.2.1 G v1 M1 x2 hx2 _ (Nat.le_refl _)) kd_162 rfl rfl (by omega) rfl (Nat.le_of_ble_eq_true rfl) d_Mod_cell_7 rfl (fun r9 M9 hq => ?_)
  rw [hq.1, hq.2]
  refine V_if_eq (tgt := 22) X d_Mod_cell_10 (by decide) rfl (fun c17 => ?_) (fun c17 => ?_)
  · rw [if_pos c17] at h
    refine V_sub (lv' := [(0, .ref (G.2.2 + 162))]) [0] rfl ?_
    exact j_Mod_cell_22_ok X hD M1 _ h kr
  · rw [if_neg c17] at h
    refine V_iload_n (n := 2) X d_Mod_cell_13 rfl rfl rfl ?_
    refine V_iconst (v := 0) X d_Mod_cell_14 (by decide) rfl ?_
    refine V_iconst (v := 5) X d_Mod_cell_15 (by decide) rfl ?_
    obtain ⟨x4, hx4, h⟩ := ob_s h
    refine V_si (As := [.int v2, .int (0 : Int32), .int (5 : Int32)]) X (Z0 E) ml_Mod_119 yq_Mod_in (c_Mod_in E.2.1 G v2 (0 : Int32) (5 : Int32) M1 x4 hx4 _ (Nat.le_refl _)) rfl (by omega) rfl (Nat.le_of_ble_eq_true rfl) d_Mod_cell_16 rfl (fun r9 M9 hq => ?_)
    rw [hq.1, hq.2]
    refine V_if_ne (tgt := 27) X d_Mod_cell_19 (by decide) rfl (fun c16 => ?_) (fun c16 => ?_)
    · rw [if_neg c16] at h
      refine V_iload_n (n := 2) X d_Mod_cell_27 rfl rfl rfl ?_
      by_cases c6 : v2 = (0 : Int32)
      · rw [if_pos c6] at h
        refine V_tbl (v := 0) (pc' := 60) (off := 32) X d_Mod_cell_28 c6 (by decide) (by decide) (by decide +kernel) (by decide) ?_
        refine V_aload_n (n := 0) X d_Mod_cell_60 rfl rfl rfl ?_
        refine V_getr (k2 := 164) X fo_Mod_13 kd_162 rfl rf_162_1 d_Mod_cell_61 rfl ?_
        refine V_iload_n (n := 1) X d_Mod_cell_64 rfl rfl rfl ?_
        obtain ⟨hb, h⟩ := ifn h
        refine V_iald X kd_164 (inb_in ln_164 hb) d_Mod_cell_65 rfl ?_
        exact V_iret X (kr ((M1.1 164 v1.toNatClampNeg), M1) (Option.some.inj h).symm) d_Mod_cell_66
      · rw [if_neg c6] at h
        by_cases c9 : v2 = (1 : Int32)
        · rw [if_pos c9] at h
          refine V_tbl (v := 1) (pc' := 67) (off := 39) X d_Mod_cell_28 c9 (by decide) (by decide) (by decide +kernel) (by decide) ?_
          refine V_aload_n (n := 0) X d_Mod_cell_67 rfl rfl rfl ?_
          refine V_aload_n (n := 0) X d_Mod_cell_68 rfl rfl rfl ?_
          refine V_getr (k2 := 163) X fo_Mod_9 kd_162 rfl rf_162_0 d_Mod_cell_69 rfl ?_
          refine V_iload_n (n := 2) X d_Mod_cell_72 rfl rfl rfl ?_
          refine V_iconst (v := 1) X d_Mod_cell_73 (by decide) rfl ?_
          refine V_isub X d_Mod_cell_74 rfl ?_
          refine V_iload_n (n := 1) X d_Mod_cell_75 rfl rfl rfl ?_
          obtain ⟨x7, hx7, h⟩ := ob_s h
          refine V_si (As := [.int (v2 - (1 : Int32)), .int v1]) X (Z0 E) ml_Mod_154 yq_Mod_placeOf (c_Mod_placeOf E.2.1 G (v2 - (1 : Int32)) v1 M1 x7 hx7 _ (Nat.le_refl _)) rfl (by omega) rfl (Nat.le_of_ble_eq_true rfl) d_Mod_cell_76 rfl (fun r9 M9 hq => ?_)
          rw [hq.1, hq.2]
          obtain ⟨x8, hx8, h⟩ := ob_s h
          refine V_ci (As := [.ref (G.2.2 + 163), .int x7]) X (Z0 E) ml_Mod_259 yq_Mod_onPlace (c_Mod_onPlace E.2.1 G 163 x7 M1 x8 hx8 _ (Nat.le_refl _)) kd_162 rfl rfl (by omega) rfl (Nat.le_of_ble_eq_true rfl) d_Mod_cell_79 rfl (fun r9 M9 hq => ?_)
          rw [hq.1, hq.2]
          exact V_iret X (kr (x8, M1) (Option.some.inj h).symm) d_Mod_cell_82
        · rw [if_neg c9] at h
          by_cases c10 : v2 = (2 : Int32)
          · rw [if_pos c10] at h
            refine V_tbl (v := 2) (pc' := 67) (off := 39) X d_Mod_cell_28 c10 (by decide) (by decide) (by decide +kernel) (by decide) ?_
            refine V_aload_n (n := 0) X d_Mod_cell_67 rfl rfl rfl ?_
            refine V_aload_n (n := 0) X d_Mod_cell_68 rfl rfl rfl ?_
            refine V_getr (k2 := 163) X fo_Mod_9 kd_162 rfl rf_162_0 d_Mod_cell_69 rfl ?_
            refine V_iload_n (n := 2) X d_Mod_cell_72 rfl rfl rfl ?_
            refine V_iconst (v := 1) X d_Mod_cell_73 (by decide) rfl ?_
            refine V_isub X d_Mod_cell_74 rfl ?_
            refine V_iload_n (n := 1) X d_Mod_cell_75 rfl rfl rfl ?_
            obtain ⟨x7, hx7, h⟩ := ob_s h
            refine V_si (As := [.int (v2 - (1 : Int32)), .int v1]) X (Z0 E) ml_Mod_154 yq_Mod_placeOf (c_Mod_placeOf E.2.1 G (v2 - (1 : Int32)) v1 M1 x7 hx7 _ (Nat.le_refl _)) rfl (by omega) rfl (Nat.le_of_ble_eq_true rfl) d_Mod_cell_76 rfl (fun r9 M9 hq => ?_)
            rw [hq.1, hq.2]
            obtain ⟨x8, hx8, h⟩ := ob_s h
            refine V_ci (As := [.ref (G.2.2 + 163), .int x7]) X (Z0 E) ml_Mod_259 yq_Mod_onPlace (c_Mod_onPlace E.2.1 G 163 x7 M1 x8 hx8 _ (Nat.le_refl _)) kd_162 rfl rfl (by omega) rfl (Nat.le_of_ble_eq_true rfl) d_Mod_cell_79 rfl (fun r9 M9 hq => ?_)
            rw [hq.1, hq.2]
            exact V_iret X (kr (x8, M1) (Option.some.inj h).symm) d_Mod_cell_82
          · rw [if_neg c10] at h
            by_cases c15 : v2 = (3 : Int32)
            · rw [if_pos c15] at h
              refine V_tbl (v := 3) (pc' := 83) (off := 55) X d_Mod_cell_28 c15 (by decide) (by decide) (by decide +kernel) (by decide) ?_
              refine V_iconst (v := 0) X d_Mod_cell_83 (by decide) rfl ?_
              refine V_istore_n (lv' := [(3, .int (0 : Int32)), (0, .ref (G.2.2 + 162)), (1, .int v1), (2, .int v2)]) X d_Mod_cell_84 rfl (by decide) rfl rfl ?_
              refine V_iconst (v := 0) X d_Mod_cell_85 (by decide) rfl ?_
              refine V_istore (lv' := [(4, .int (0 : Int32)), (3, .int (0 : Int32)), (0, .ref (G.2.2 + 162)), (1, .int v1), (2, .int v2)]) X d_Mod_cell_86 (by decide) rfl rfl ?_
              refine V_sub (lv' := [(0, .ref (G.2.2 + 162)), (1, .int v1), (3, .int (0 : Int32)), (4, .int (0 : Int32))]) [2, 3, 1, 0] rfl ?_
              obtain ⟨x14, hx14, h⟩ := ob_s h
              refine (lp_Mod_cell_88_ok X hD v1 M1 _ _ _ hx14 (fun x9 e9 => ?_) :)
              subst e9
              refine V_iload_n (n := 0) X d_Mod_cell_151 rfl rfl rfl ?_
              exact V_iret X (kr (x14, M1) (Option.some.inj h).symm) d_Mod_cell_152
            · rw [if_neg c15] at h
              refine V_tableOut (pc' := 153) X d_Mod_cell_28 (by have g0 := neT c6 (z := 0) (by decide); have g1 := neT c9 (z := 1) (by decide); have g2 := neT c10 (z := 2) (by decide); have g3 := neT c15 (z := 3) (by decide); omega) (by decide) ?_
              refine V_aload_n (n := 0) X d_Mod_cell_153 rfl rfl rfl ?_
              refine V_iload_n (n := 2) X d_Mod_cell_154 rfl rfl rfl ?_
              refine V_iconst (v := 4) X d_Mod_cell_155 (by decide) rfl ?_
              refine V_isub X d_Mod_cell_156 rfl ?_
              refine V_iload_n (n := 1) X d_Mod_cell_157 rfl rfl rfl ?_
              obtain ⟨x5, hx5, h⟩ := ob_s h
              refine V_ci (As := [.int (v2 - (4 : Int32)), .int v1]) X (Z0 E) ml_Mod_262 yq_Mod_ways (c_Mod_ways E.2.1 G (v2 - (4 : Int32)) v1 M1 x5 hx5 _ (Nat.le_refl _)) kd_162 rfl rfl (by omega) rfl (Nat.le_of_ble_eq_true rfl) d_Mod_cell_158 rfl (fun r9 M9 hq => ?_)
              rw [hq.1, hq.2]
              exact V_iret X (kr (x5, M1) (Option.some.inj h).symm) d_Mod_cell_161
    · rw [if_pos c16] at h
      refine V_sub (lv' := [(0, .ref (G.2.2 + 162))]) [0] rfl ?_
      exact j_Mod_cell_22_ok X hD M1 _ h kr
def lb_Mod_meetingsOf_4 (v1 : Int32) (M : Mem) (s : Int32 × Int32) : Option ((Int32 × Int32) ⊕ ((Int32))) :=
  if (M.1 162 4) ≤ s.2 then
  some (.inr s.1)
  else
  if inb (((16 : Int32) + ((8 : Int32) * v1)) + s.2) 96 = true then
  some (.inl ((s.1 + (M.1 163 (((16 : Int32) + ((8 : Int32) * v1)) + s.2).toNatClampNeg)), (s.2 + (1 : Int32))))
  else none
theorem lb_Mod_meetingsOf_4_ok {E : Ev} {G : Gw} {d : Nat} {post : Int32 → Mem → Prop} (X : Cx E G b_Mod_meetingsOf "WomenByTheRoofsModel" 4 d (some .int)) (hD : 1 ≤ d)  (v1 : Int32)  (M : Mem) (s : Int32 × Int32) (o : (Int32 × Int32) ⊕ ((Int32))) (h : lb_Mod_meetingsOf_4 v1 M s = some o) (kc : ∀ s9 : Int32 × Int32, o = .inl s9 → V E (0, 0) G 4 (QI E G post) M 4 [(0, .ref (G.2.2 + 162)), (1, .int v1), (2, .int s9.1), (3, .int s9.2)] []) (kx0 : ∀ x9 : Int32, o = .inr x9 → V E (0, 0) G 4 (QI E G post) M 35 [(2, .int x9)] []) : V E (0, 0) G 4 (QI E G post) M 4 [(0, .ref (G.2.2 + 162)), (1, .int v1), (2, .int s.1), (3, .int s.2)] [] := by
  unfold lb_Mod_meetingsOf_4 at h
  refine V_iload_n (n := 3) X d_Mod_meetingsOf_4 rfl rfl rfl ?_
  refine V_aload_n (n := 0) X d_Mod_meetingsOf_5 rfl rfl rfl ?_
  refine V_geti X fo_Mod_123 kd_162 rfl d_Mod_meetingsOf_6 rfl ?_
  refine V_icmp_ge (tgt := 35) X d_Mod_meetingsOf_9 (by decide) rfl (fun c1 => ?_) (fun c1 => ?_)
  · rw [if_pos c1] at h
    refine V_sub (lv' := [(2, .int s.1)]) [2] rfl ?_
    exact kx0 s.1 (Option.some.inj h).symm
  · rw [if_neg c1] at h
    refine V_iload_n (n := 2) X d_Mod_meetingsOf_12 rfl rfl rfl ?_
    refine V_aload_n (n := 0) X d_Mod_meetingsOf_13 rfl rfl rfl ?_
    refine V_getr (k2 := 163) X fo_Mod_9 kd_162 rfl rf_162_0 d_Mod_meetingsOf_14 rfl ?_
    refine V_bipush (v := 16) X d_Mod_meetingsOf_17 (by decide) rfl ?_
    refine V_bipush (v := 8) X d_Mod_meetingsOf_19 (by decide) rfl ?_
    refine V_iload_n (n := 1) X d_Mod_meetingsOf_21 rfl rfl rfl ?_
    refine V_imul X d_Mod_meetingsOf_22 rfl ?_
    refine V_iadd X d_Mod_meetingsOf_23 rfl ?_
    refine V_iload_n (n := 3) X d_Mod_meetingsOf_24 rfl rfl rfl ?_
    refine V_iadd X d_Mod_meetingsOf_25 rfl ?_
    obtain ⟨hb, h⟩ := ifn h
    refine V_iald X kd_163 (inb_in ln_163 hb) d_Mod_meetingsOf_26 rfl ?_
    refine V_iadd X d_Mod_meetingsOf_27 rfl ?_
    refine V_istore_n (lv' := [(2, .int (s.1 + (M.1 163 (((16 : Int32) + ((8 : Int32) * v1)) + s.2).toNatClampNeg))), (0, .ref (G.2.2 + 162)), (1, .int v1), (3, .int s.2)]) X d_Mod_meetingsOf_28 rfl (by decide) rfl rfl ?_
    refine V_iinc (n := 3) (v := (s.2 + (1 : Int32))) (lv' := [(3, .int (s.2 + (1 : Int32))), (2, .int (s.1 + (M.1 163 (((16 : Int32) + ((8 : Int32) * v1)) + s.2).toNatClampNeg))), (0, .ref (G.2.2 + 162)), (1, .int v1)]) X d_Mod_meetingsOf_29 rfl rfl (by decide) rfl rfl ?_
    refine V_goto (pc' := 4) X d_Mod_meetingsOf_32 (by decide) ?_
    refine V_sub (lv' := [(0, .ref (G.2.2 + 162)), (1, .int v1), (2, .int (s.1 + (M.1 163 (((16 : Int32) + ((8 : Int32) * v1)) + s.2).toNatClampNeg))), (3, .int (s.2 + (1 : Int32)))]) [2, 3, 1, 0] rfl ?_
    exact kc ((s.1 + (M.1 163 (((16 : Int32) + ((8 : Int32) * v1)) + s.2).toNatClampNeg)), (s.2 + (1 : Int32))) (Option.some.inj h).symm
theorem lp_Mod_meetingsOf_4_ok {E : Ev} {G : Gw} {d : Nat} {post : Int32 → Mem → Prop} (X : Cx E G b_Mod_meetingsOf "WomenByTheRoofsModel" 4 d (some .int)) (hD : 1 ≤ d)  (v1 : Int32)  (M : Mem) (n9 : Nat) (s : Int32 × Int32) (x : (Int32)) (h : iter (lb_Mod_meetingsOf_4 v1 M) n9 s = some x) (kx0 : ∀ x9 : Int32, x = x9 → V E (0, 0) G 4 (QI E G post) M 35 [(2, .int x9)] []) : V E (0, 0) G 4 (QI E G post) M 4 [(0, .ref (G.2.2 + 162)), (1, .int v1), (2, .int s.1), (3, .int s.2)] [] :=
  iter_P (P := fun s : Int32 × Int32 => V E (0, 0) G 4 (QI E G post) M 4 [(0, .ref (G.2.2 + 162)), (1, .int v1), (2, .int s.1), (3, .int s.2)] []) (fun s o hb kc ky => lb_Mod_meetingsOf_4_ok X hD v1 M s o hb kc (fun x9 e9 => kx0 x9 (ky _ e9).symm)) n9 s h
def f_Mod_meetingsOf (v1 : Int32) (M : Mem) : Option (Int32) :=
  Option.bind (iter (lb_Mod_meetingsOf_4 v1 M) FU ((0 : Int32), (0 : Int32))) fun x2 =>
  some x2
theorem c_Mod_meetingsOf (l : Launch) (G : Gw)  (v1 : Int32) (M : Mem) (x : Int32) (h : f_Mod_meetingsOf v1 M = some x) (d : Nat) (hD : 1 ≤ d) : Ci l G y_Mod_meetingsOf b_Mod_meetingsOf 4 (some .int) d [.ref (G.2.2 + 162), .int v1] M (fun r9 M9 => r9 = x ∧ M9 = M) := by
  refine Ci_of (by decide) (Nat.le_of_ble_eq_true rfl) (fun E hE X => ?_)
  subst hE
  have kr : ∀ x9 : Int32, x = x9 → (fun r9 M9 => r9 = x ∧ M9 = M) x9 M := fun x9 e9 => by subst e9; exact ⟨rfl, rfl⟩
  unfold f_Mod_meetingsOf at h
  refine V_iconst (v := 0) X d_Mod_meetingsOf_0 (by decide) rfl ?_
  refine V_istore_n (lv' := [(2, .int (0 : Int32)), (0, .ref (G.2.2 + 162)), (1, .int v1)]) X d_Mod_meetingsOf_1 rfl (by decide) rfl rfl ?_
  refine V_iconst (v := 0) X d_Mod_meetingsOf_2 (by decide) rfl ?_
  refine V_istore_n (lv' := [(3, .int (0 : Int32)), (2, .int (0 : Int32)), (0, .ref (G.2.2 + 162)), (1, .int v1)]) X d_Mod_meetingsOf_3 rfl (by decide) rfl rfl ?_
  refine V_sub (lv' := [(0, .ref (G.2.2 + 162)), (1, .int v1), (2, .int (0 : Int32)), (3, .int (0 : Int32))]) [2, 3, 1, 0] rfl ?_
  obtain ⟨x2, hx2, h⟩ := ob_s h
  refine (lp_Mod_meetingsOf_4_ok X hD v1 M _ _ _ hx2 (fun x9 e9 => ?_) :)
  subst e9
  refine V_iload_n (n := 0) X d_Mod_meetingsOf_35 rfl rfl rfl ?_
  exact V_iret X (kr x2 (Option.some.inj h).symm) d_Mod_meetingsOf_36
def j_Mod_person_23 (M : Mem) : Option (Int32 × Mem) :=
  Option.bind (f_Mod_lost M) fun x3 =>
  some (x3.1, x3.2)
theorem j_Mod_person_23_ok {E : Ev} {G : Gw} {d : Nat} {post : Int32 → Mem → Prop} (X : Cx E G b_Mod_person "WomenByTheRoofsModel" 3 d (some .int)) (hD : 402 ≤ d)    (M : Mem)  (o : Int32 × Mem) (h : j_Mod_person_23 M = some o) (kr : ∀ x9 : Int32 × Mem, o = x9 → post x9.1 x9.2) : V E (0, 0) G 3 (QI E G post) M 23 [(0, .ref (G.2.2 + 162))] [] := by
  unfold j_Mod_person_23 at h
  refine V_aload_n (n := 0) X d_Mod_person_23 rfl rfl rfl ?_
  obtain ⟨x3, hx3, h⟩ := ob_s h
  refine V_ci (As := []) X (Z0 E) ml_Mod_256 yq_Mod_lost (c_Mod_lost E.2.1 G  M x3 hx3 _ (Nat.le_refl _)) kd_162 rfl rfl (by omega) rfl (Nat.le_of_ble_eq_true rfl) d_Mod_person_24 rfl (fun r9 M9 hq => ?_)
  rw [hq.1, hq.2]
  exact V_iret X (kr (x3.1, x3.2) (Option.some.inj h).symm) d_Mod_person_27
def f_Mod_person (v1 : Int32) (v2 : Int32) (M : Mem) : Option (Int32 × Mem) :=
  mem_ (s_i M 162 13 (0 : Int32)) fun M1 =>
  Option.bind (f_Mod_isOne v1 M1) fun x2 =>
  if x2 = 0 then
  j_Mod_person_23 M1
  else
  Option.bind (f_Mod_in v2 (0 : Int32) (7 : Int32)) fun x4 =>
  if x4 = 0 then
  j_Mod_person_23 M1
  else
  if v2 = (0 : Int32) then
  some ((((M1.1 162 5) >>> (v1 &&& 31)) &&& (1 : Int32)), M1)
  else if v2 = (1 : Int32) then
  if inb v1 96 = true then
  Option.bind (f_Mod_cellOf (M1.1 163 v1.toNatClampNeg)) fun x8 =>
  some (x8, M1)
  else none
  else if v2 = (2 : Int32) then
  if inb v1 96 = true then
  Option.bind (f_Mod_levelOf (M1.1 163 v1.toNatClampNeg)) fun x10 =>
  some (x10, M1)
  else none
  else if v2 = (3 : Int32) then
  if inb ((8 : Int32) + v1) 96 = true then
  some ((M1.1 163 ((8 : Int32) + v1).toNatClampNeg), M1)
  else none
  else if v2 = (4 : Int32) then
  if inb v1 8 = true then
  some ((M1.1 166 v1.toNatClampNeg), M1)
  else none
  else if v2 = (5 : Int32) then
  some ((((M1.1 163 (93 : Int32).toNatClampNeg) >>> (v1 &&& 31)) &&& (1 : Int32)), M1)
  else if v2 = (6 : Int32) then
  Option.bind (f_Mod_meetingsOf v1 M1) fun x15 =>
  some (x15, M1)
  else Option.bind (f_Mod_goes 163 v1 M1) fun x5 =>
  if x5.1 = 0 then
  some ((0 : Int32), x5.2)
  else
  some ((1 : Int32), x5.2)
theorem c_Mod_person (l : Launch) (G : Gw)  (v1 : Int32) (v2 : Int32) (M : Mem) (x : Int32 × Mem) (h : f_Mod_person v1 v2 M = some x) (d : Nat) (hD : 402 ≤ d) : Ci l G y_Mod_person b_Mod_person 3 (some .int) d [.ref (G.2.2 + 162), .int v1, .int v2] M (fun r9 M9 => r9 = x.1 ∧ M9 = x.2) := by
  refine Ci_of (by decide) (Nat.le_of_ble_eq_true rfl) (fun E hE X => ?_)
  subst hE
  have kr : ∀ x9 : Int32 × Mem, x = x9 → (fun r9 M9 => r9 = x.1 ∧ M9 = x.2) x9.1 x9.2 := fun x9 e9 => by subst e9; exact ⟨rfl, rfl⟩
  unfold f_Mod_person at h
  refine V_aload_n (n := 0) X d_Mod_person_0 rfl rfl rfl ?_
  refine V_iconst (v := 0) X d_Mod_person_1 (by decide) rfl ?_
  obtain ⟨M1, eM1, h⟩ := memS h
  refine V_putI X fp_Mod_109 kd_162 rfl d_Mod_person_2 rfl ?_
  rw [← eM1]
  refine V_aload_n (n := 0) X d_Mod_person_5 rfl rfl rfl ?_
  refine V_iload_n (n := 1) X d_Mod_person_6 rfl rfl rfl ?_
  obtain ⟨x2, hx2, h⟩ := ob_s h
  refine V_ci (As := [.int v1]) X (Z0 E) ml_Mod_126 yq_Mod_isOne (c_Mod_isOne E.2.1 G v1 M1 x2 hx2 _ (Nat.le_refl _)) kd_162 rfl rfl (by omega) rfl (Nat.le_of_ble_eq_true rfl) d_Mod_person_7 rfl (fun r9 M9 hq => ?_)
  rw [hq.1, hq.2]
  refine V_if_eq (tgt := 23) X d_Mod_person_10 (by decide) rfl (fun c18 => ?_) (fun c18 => ?_)
  · rw [if_pos c18] at h
    refine V_sub (lv' := [(0, .ref (G.2.2 + 162))]) [0] rfl ?_
    exact j_Mod_person_23_ok X hD M1 _ h kr
  · rw [if_neg c18] at h
    refine V_iload_n (n := 2) X d_Mod_person_13 rfl rfl rfl ?_
    refine V_iconst (v := 0) X d_Mod_person_14 (by decide) rfl ?_
    refine V_bipush (v := 7) X d_Mod_person_15 (by decide) rfl ?_
    obtain ⟨x4, hx4, h⟩ := ob_s h
    refine V_si (As := [.int v2, .int (0 : Int32), .int (7 : Int32)]) X (Z0 E) ml_Mod_119 yq_Mod_in (c_Mod_in E.2.1 G v2 (0 : Int32) (7 : Int32) M1 x4 hx4 _ (Nat.le_refl _)) rfl (by omega) rfl (Nat.le_of_ble_eq_true rfl) d_Mod_person_17 rfl (fun r9 M9 hq => ?_)
    rw [hq.1, hq.2]
    refine V_if_ne (tgt := 28) X d_Mod_person_20 (by decide) rfl (fun c17 => ?_) (fun c17 => ?_)
    · rw [if_neg c17] at h
      refine V_iload_n (n := 2) X d_Mod_person_28 rfl rfl rfl ?_
      by_cases c7 : v2 = (0 : Int32)
      · rw [if_pos c7] at h
        refine V_tbl (v := 0) (pc' := 72) (off := 43) X d_Mod_person_29 c7 (by decide) (by decide) (by decide +kernel) (by decide) ?_
        refine V_aload_n (n := 0) X d_Mod_person_72 rfl rfl rfl ?_
        refine V_geti X fo_Mod_130 kd_162 rfl d_Mod_person_73 rfl ?_
        refine V_iload_n (n := 1) X d_Mod_person_76 rfl rfl rfl ?_
        refine V_ishr X d_Mod_person_77 rfl ?_
        refine V_iconst (v := 1) X d_Mod_person_78 (by decide) rfl ?_
        refine V_iand X d_Mod_person_79 rfl ?_
        exact V_iret X (kr ((((M1.1 162 5) >>> (v1 &&& 31)) &&& (1 : Int32)), M1) (Option.some.inj h).symm) d_Mod_person_80
      · rw [if_neg c7] at h
        by_cases c9 : v2 = (1 : Int32)
        · rw [if_pos c9] at h
          refine V_tbl (v := 1) (pc' := 81) (off := 52) X d_Mod_person_29 c9 (by decide) (by decide) (by decide +kernel) (by decide) ?_
          refine V_aload_n (n := 0) X d_Mod_person_81 rfl rfl rfl ?_
          refine V_getr (k2 := 163) X fo_Mod_9 kd_162 rfl rf_162_0 d_Mod_person_82 rfl ?_
          refine V_iload_n (n := 1) X d_Mod_person_85 rfl rfl rfl ?_
          obtain ⟨hb, h⟩ := ifn h
          refine V_iald X kd_163 (inb_in ln_163 hb) d_Mod_person_86 rfl ?_
          obtain ⟨x8, hx8, h⟩ := ob_s h
          refine V_si (As := [.int (M1.1 163 v1.toNatClampNeg)]) X (Z0 E) ml_Mod_147 yq_Mod_cellOf (c_Mod_cellOf E.2.1 G (M1.1 163 v1.toNatClampNeg) M1 x8 hx8 _ (Nat.le_refl _)) rfl (by omega) rfl (Nat.le_of_ble_eq_true rfl) d_Mod_person_87 rfl (fun r9 M9 hq => ?_)
          rw [hq.1, hq.2]
          exact V_iret X (kr (x8, M1) (Option.some.inj h).symm) d_Mod_person_90
        · rw [if_neg c9] at h
          by_cases c11 : v2 = (2 : Int32)
          · rw [if_pos c11] at h
            refine V_tbl (v := 2) (pc' := 91) (off := 62) X d_Mod_person_29 c11 (by decide) (by decide) (by decide +kernel) (by decide) ?_
            refine V_aload_n (n := 0) X d_Mod_person_91 rfl rfl rfl ?_
            refine V_getr (k2 := 163) X fo_Mod_9 kd_162 rfl rf_162_0 d_Mod_person_92 rfl ?_
            refine V_iload_n (n := 1) X d_Mod_person_95 rfl rfl rfl ?_
            obtain ⟨hb, h⟩ := ifn h
            refine V_iald X kd_163 (inb_in ln_163 hb) d_Mod_person_96 rfl ?_
            obtain ⟨x10, hx10, h⟩ := ob_s h
            refine V_si (As := [.int (M1.1 163 v1.toNatClampNeg)]) X (Z0 E) ml_Mod_143 yq_Mod_levelOf (c_Mod_levelOf E.2.1 G (M1.1 163 v1.toNatClampNeg) M1 x10 hx10 _ (Nat.le_refl _)) rfl (by omega) rfl (Nat.le_of_ble_eq_true rfl) d_Mod_person_97 rfl (fun r9 M9 hq => ?_)
            rw [hq.1, hq.2]
            exact V_iret X (kr (x10, M1) (Option.some.inj h).symm) d_Mod_person_100
          · rw [if_neg c11] at h
            by_cases c12 : v2 = (3 : Int32)
            · rw [if_pos c12] at h
              refine V_tbl (v := 3) (pc' := 101) (off := 72) X d_Mod_person_29 c12 (by decide) (by decide) (by decide +kernel) (by decide) ?_
              refine V_aload_n (n := 0) X d_Mod_person_101 rfl rfl rfl ?_
              refine V_getr (k2 := 163) X fo_Mod_9 kd_162 rfl rf_162_0 d_Mod_person_102 rfl ?_
              refine V_bipush (v := 8) X d_Mod_person_105 (by decide) rfl ?_
              refine V_iload_n (n := 1) X d_Mod_person_107 rfl rfl rfl ?_
              refine V_iadd X d_Mod_person_108 rfl ?_
              obtain ⟨hb, h⟩ := ifn h
              refine V_iald X kd_163 (inb_in ln_163 hb) d_Mod_person_109 rfl ?_
              exact V_iret X (kr ((M1.1 163 ((8 : Int32) + v1).toNatClampNeg), M1) (Option.some.inj h).symm) d_Mod_person_110
            · rw [if_neg c12] at h
              by_cases c13 : v2 = (4 : Int32)
              · rw [if_pos c13] at h
                refine V_tbl (v := 4) (pc' := 111) (off := 82) X d_Mod_person_29 c13 (by decide) (by decide) (by decide +kernel) (by decide) ?_
                refine V_aload_n (n := 0) X d_Mod_person_111 rfl rfl rfl ?_
                refine V_getr (k2 := 166) X fo_Mod_26 kd_162 rfl rf_162_7 d_Mod_person_112 rfl ?_
                refine V_iload_n (n := 1) X d_Mod_person_115 rfl rfl rfl ?_
                obtain ⟨hb, h⟩ := ifn h
                refine V_iald X kd_166 (inb_in ln_166 hb) d_Mod_person_116 rfl ?_
                exact V_iret X (kr ((M1.1 166 v1.toNatClampNeg), M1) (Option.some.inj h).symm) d_Mod_person_117
              · rw [if_neg c13] at h
                by_cases c14 : v2 = (5 : Int32)
                · rw [if_pos c14] at h
                  refine V_tbl (v := 5) (pc' := 118) (off := 89) X d_Mod_person_29 c14 (by decide) (by decide) (by decide +kernel) (by decide) ?_
                  refine V_aload_n (n := 0) X d_Mod_person_118 rfl rfl rfl ?_
                  refine V_getr (k2 := 163) X fo_Mod_9 kd_162 rfl rf_162_0 d_Mod_person_119 rfl ?_
                  refine V_bipush (v := 93) X d_Mod_person_122 (by decide) rfl ?_
                  refine V_iald X kd_163 (inb_in ln_163 (by decide)) d_Mod_person_124 rfl ?_
                  refine V_iload_n (n := 1) X d_Mod_person_125 rfl rfl rfl ?_
                  refine V_ishr X d_Mod_person_126 rfl ?_
                  refine V_iconst (v := 1) X d_Mod_person_127 (by decide) rfl ?_
                  refine V_iand X d_Mod_person_128 rfl ?_
                  exact V_iret X (kr ((((M1.1 163 (93 : Int32).toNatClampNeg) >>> (v1 &&& 31)) &&& (1 : Int32)), M1) (Option.some.inj h).symm) d_Mod_person_129
                · rw [if_neg c14] at h
                  by_cases c16 : v2 = (6 : Int32)
                  · rw [if_pos c16] at h
                    refine V_tbl (v := 6) (pc' := 130) (off := 101) X d_Mod_person_29 c16 (by decide) (by decide) (by decide +kernel) (by decide) ?_
                    refine V_aload_n (n := 0) X d_Mod_person_130 rfl rfl rfl ?_
                    refine V_iload_n (n := 1) X d_Mod_person_131 rfl rfl rfl ?_
                    obtain ⟨x15, hx15, h⟩ := ob_s h
                    refine V_ci (As := [.int v1]) X (Z0 E) ml_Mod_265 yq_Mod_meetingsOf (c_Mod_meetingsOf E.2.1 G v1 M1 x15 hx15 _ (Nat.le_refl _)) kd_162 rfl rfl (by omega) rfl (Nat.le_of_ble_eq_true rfl) d_Mod_person_132 rfl (fun r9 M9 hq => ?_)
                    rw [hq.1, hq.2]
                    exact V_iret X (kr (x15, M1) (Option.some.inj h).symm) d_Mod_person_135
                  · rw [if_neg c16] at h
                    refine V_tableOut (pc' := 136) X d_Mod_person_29 (by have g0 := neT c7 (z := 0) (by decide); have g1 := neT c9 (z := 1) (by decide); have g2 := neT c11 (z := 2) (by decide); have g3 := neT c12 (z := 3) (by decide); have g4 := neT c13 (z := 4) (by decide); have g5 := neT c14 (z := 5) (by decide); have g6 := neT c16 (z := 6) (by decide); omega) (by decide) ?_
                    refine V_aload_n (n := 0) X d_Mod_person_136 rfl rfl rfl ?_
                    refine V_aload_n (n := 0) X d_Mod_person_137 rfl rfl rfl ?_
                    refine V_getr (k2 := 163) X fo_Mod_9 kd_162 rfl rf_162_0 d_Mod_person_138 rfl ?_
                    refine V_iload_n (n := 1) X d_Mod_person_141 rfl rfl rfl ?_
                    obtain ⟨x5, hx5, h⟩ := ob_s h
                    refine V_ci (As := [.ref (G.2.2 + 163), .int v1]) X (Z0 E) ml_Mod_268 yq_Mod_goes (c_Mod_goes E.2.1 G 163 v1 M1 x5 hx5 _ (Nat.le_refl _)) kd_162 rfl rfl (by omega) rfl (Nat.le_of_ble_eq_true rfl) d_Mod_person_142 rfl (fun r9 M9 hq => ?_)
                    rw [hq.1, hq.2]
                    refine V_if_eq (tgt := 152) X d_Mod_person_145 (by decide) rfl (fun c6 => ?_) (fun c6 => ?_)
                    · rw [if_pos c6] at h
                      refine V_iconst (v := 0) X d_Mod_person_152 (by decide) rfl ?_
                      exact V_iret X (kr ((0 : Int32), x5.2) (Option.some.inj h).symm) d_Mod_person_153
                    · rw [if_neg c6] at h
                      refine V_iconst (v := 1) X d_Mod_person_148 (by decide) rfl ?_
                      refine V_goto (pc' := 153) X d_Mod_person_149 (by decide) ?_
                      exact V_iret X (kr ((1 : Int32), x5.2) (Option.some.inj h).symm) d_Mod_person_153
    · rw [if_pos c17] at h
      refine V_sub (lv' := [(0, .ref (G.2.2 + 162))]) [0] rfl ?_
      exact j_Mod_person_23_ok X hD M1 _ h kr
def lb_Mod_isUnder_2 (v1 : Int32) (M : Mem) (s : Int32) : Option ((Int32) ⊕ ((Unit) ⊕ (Unit))) :=
  if (M.1 163 (92 : Int32).toNatClampNeg) ≤ s then
  some (.inr (Sum.inl ()))
  else
  if inb ((80 : Int32) + ((2 : Int32) * s)) 96 = true then
  if inb (((80 : Int32) + ((2 : Int32) * s)) + (1 : Int32)) 96 = true then
  if ((M.1 163 ((80 : Int32) + ((2 : Int32) * s)).toNatClampNeg) + (M.1 163 (((80 : Int32) + ((2 : Int32) * s)) + (1 : Int32)).toNatClampNeg)) = ((2 : Int32) * v1) then
  some (.inr (Sum.inr ()))
  else
  some (.inl (s + (1 : Int32)))
  else none
  else none
theorem lb_Mod_isUnder_2_ok {E : Ev} {G : Gw} {d : Nat} {post : Int32 → Mem → Prop} (X : Cx E G b_Mod_isUnder "WomenByTheRoofsModel" 3 d (some .boolean)) (hD : 1 ≤ d)  (v1 : Int32)  (M : Mem) (s : Int32) (o : (Int32) ⊕ ((Unit) ⊕ (Unit))) (h : lb_Mod_isUnder_2 v1 M s = some o) (kc : ∀ s9 : Int32, o = .inl s9 → V E (0, 0) G 3 (QI E G post) M 2 [(0, .ref (G.2.2 + 162)), (1, .int v1), (2, .int s9)] []) (kx0 : ∀ x9 : Unit, o = .inr (Sum.inl x9) → V E (0, 0) G 3 (QI E G post) M 52 [] []) (kx1 : ∀ x9 : Unit, o = .inr (Sum.inr x9) → V E (0, 0) G 3 (QI E G post) M 44 [] []) : V E (0, 0) G 3 (QI E G post) M 2 [(0, .ref (G.2.2 + 162)), (1, .int v1), (2, .int s)] [] := by
  unfold lb_Mod_isUnder_2 at h
  refine V_iload_n (n := 2) X d_Mod_isUnder_2 rfl rfl rfl ?_
  refine V_aload_n (n := 0) X d_Mod_isUnder_3 rfl rfl rfl ?_
  refine V_getr (k2 := 163) X fo_Mod_9 kd_162 rfl rf_162_0 d_Mod_isUnder_4 rfl ?_
  refine V_bipush (v := 92) X d_Mod_isUnder_7 (by decide) rfl ?_
  refine V_iald X kd_163 (inb_in ln_163 (by decide)) d_Mod_isUnder_9 rfl ?_
  refine V_icmp_ge (tgt := 52) X d_Mod_isUnder_10 (by decide) rfl (fun c2 => ?_) (fun c2 => ?_)
  · rw [if_pos c2] at h
    refine V_sub (lv' := []) [] rfl ?_
    exact kx0 () (Option.some.inj h).symm
  · rw [if_neg c2] at h
    refine V_aload_n (n := 0) X d_Mod_isUnder_13 rfl rfl rfl ?_
    refine V_getr (k2 := 163) X fo_Mod_9 kd_162 rfl rf_162_0 d_Mod_isUnder_14 rfl ?_
    refine V_bipush (v := 80) X d_Mod_isUnder_17 (by decide) rfl ?_
    refine V_iconst (v := 2) X d_Mod_isUnder_19 (by decide) rfl ?_
    refine V_iload_n (n := 2) X d_Mod_isUnder_20 rfl rfl rfl ?_
    refine V_imul X d_Mod_isUnder_21 rfl ?_
    refine V_iadd X d_Mod_isUnder_22 rfl ?_
    obtain ⟨hb, h⟩ := ifn h
    refine V_iald X kd_163 (inb_in ln_163 hb) d_Mod_isUnder_23 rfl ?_
    refine V_aload_n (n := 0) X d_Mod_isUnder_24 rfl rfl rfl ?_
    refine V_getr (k2 := 163) X fo_Mod_9 kd_162 rfl rf_162_0 d_Mod_isUnder_25 rfl ?_
    refine V_bipush (v := 80) X d_Mod_isUnder_28 (by decide) rfl ?_
    refine V_iconst (v := 2) X d_Mod_isUnder_30 (by decide) rfl ?_
    refine V_iload_n (n := 2) X d_Mod_isUnder_31 rfl rfl rfl ?_
    refine V_imul X d_Mod_isUnder_32 rfl ?_
    refine V_iadd X d_Mod_isUnder_33 rfl ?_
    refine V_iconst (v := 1) X d_Mod_isUnder_34 (by decide) rfl ?_
    refine V_iadd X d_Mod_isUnder_35 rfl ?_
    obtain ⟨hb, h⟩ := ifn h
    refine V_iald X kd_163 (inb_in ln_163 hb) d_Mod_isUnder_36 rfl ?_
    refine V_iadd X d_Mod_isUnder_37 rfl ?_
    refine V_iconst (v := 2) X d_Mod_isUnder_38 (by decide) rfl ?_
    refine V_iload_n (n := 1) X d_Mod_isUnder_39 rfl rfl rfl ?_
    refine V_imul X d_Mod_isUnder_40 rfl ?_
    refine V_icmp_ne (tgt := 46) X d_Mod_isUnder_41 (by decide) rfl (fun c1 => ?_) (fun c1 => ?_)
    · rw [if_neg c1] at h
      refine V_iinc (n := 2) (v := (s + (1 : Int32))) (lv' := [(2, .int (s + (1 : Int32))), (0, .ref (G.2.2 + 162)), (1, .int v1)]) X d_Mod_isUnder_46 rfl rfl (by decide) rfl rfl ?_
      refine V_goto (pc' := 2) X d_Mod_isUnder_49 (by decide) ?_
      refine V_sub (lv' := [(0, .ref (G.2.2 + 162)), (1, .int v1), (2, .int (s + (1 : Int32)))]) [1, 2, 0] rfl ?_
      exact kc (s + (1 : Int32)) (Option.some.inj h).symm
    · rw [if_pos c1] at h
      refine V_sub (lv' := []) [] rfl ?_
      exact kx1 () (Option.some.inj h).symm
theorem lp_Mod_isUnder_2_ok {E : Ev} {G : Gw} {d : Nat} {post : Int32 → Mem → Prop} (X : Cx E G b_Mod_isUnder "WomenByTheRoofsModel" 3 d (some .boolean)) (hD : 1 ≤ d)  (v1 : Int32)  (M : Mem) (n9 : Nat) (s : Int32) (x : (Unit) ⊕ (Unit)) (h : iter (lb_Mod_isUnder_2 v1 M) n9 s = some x) (kx0 : ∀ x9 : Unit, x = (Sum.inl x9) → V E (0, 0) G 3 (QI E G post) M 52 [] []) (kx1 : ∀ x9 : Unit, x = (Sum.inr x9) → V E (0, 0) G 3 (QI E G post) M 44 [] []) : V E (0, 0) G 3 (QI E G post) M 2 [(0, .ref (G.2.2 + 162)), (1, .int v1), (2, .int s)] [] :=
  iter_P (P := fun s : Int32 => V E (0, 0) G 3 (QI E G post) M 2 [(0, .ref (G.2.2 + 162)), (1, .int v1), (2, .int s)] []) (fun s o hb kc ky => lb_Mod_isUnder_2_ok X hD v1 M s o hb kc (fun x9 e9 => kx0 x9 (ky _ e9).symm) (fun x9 e9 => kx1 x9 (ky _ e9).symm)) n9 s h
def f_Mod_isUnder (v1 : Int32) (M : Mem) : Option (Int32) :=
  Option.bind (iter (lb_Mod_isUnder_2 v1 M) FU (0 : Int32)) (Sum.elim (fun y4 => some (0 : Int32)) (fun y5 => some (1 : Int32)))
theorem c_Mod_isUnder (l : Launch) (G : Gw)  (v1 : Int32) (M : Mem) (x : Int32) (h : f_Mod_isUnder v1 M = some x) (d : Nat) (hD : 1 ≤ d) : Ci l G y_Mod_isUnder b_Mod_isUnder 3 (some .boolean) d [.ref (G.2.2 + 162), .int v1] M (fun r9 M9 => r9 = x ∧ M9 = M) := by
  refine Ci_of (by decide) (Nat.le_of_ble_eq_true rfl) (fun E hE X => ?_)
  subst hE
  have kr : ∀ x9 : Int32, x = x9 → (fun r9 M9 => r9 = x ∧ M9 = M) x9 M := fun x9 e9 => by subst e9; exact ⟨rfl, rfl⟩
  unfold f_Mod_isUnder at h
  refine V_iconst (v := 0) X d_Mod_isUnder_0 (by decide) rfl ?_
  refine V_istore_n (lv' := [(2, .int (0 : Int32)), (0, .ref (G.2.2 + 162)), (1, .int v1)]) X d_Mod_isUnder_1 rfl (by decide) rfl rfl ?_
  refine V_sub (lv' := [(0, .ref (G.2.2 + 162)), (1, .int v1), (2, .int (0 : Int32))]) [1, 2, 0] rfl ?_
  obtain ⟨x3, hx3, h⟩ := ob_s h
  rcases x3 with y4 | y5
  · simp only [Sum.elim_inl, Sum.elim_inr] at h
    refine (lp_Mod_isUnder_2_ok X hD v1 M _ _ _ hx3 (fun x9 e9 => ?_) (fun x9 e9 => by cases e9) :)
    cases e9
    refine V_iconst (v := 0) X d_Mod_isUnder_52 (by decide) rfl ?_
    exact V_zret X (kr (0 : Int32) (Option.some.inj h).symm) (by decide) d_Mod_isUnder_53
  · simp only [Sum.elim_inl, Sum.elim_inr] at h
    refine (lp_Mod_isUnder_2_ok X hD v1 M _ _ _ hx3 (fun x9 e9 => by cases e9) (fun x9 e9 => ?_) :)
    cases e9
    refine V_iconst (v := 1) X d_Mod_isUnder_44 (by decide) rfl ?_
    exact V_zret X (kr (1 : Int32) (Option.some.inj h).symm) (by decide) d_Mod_isUnder_45
def lb_Mod_build_87 (v1 : Int32) (v2 : Int32) (v3 : Int32) (M : Mem) (s : Int32) : Option ((Int32) ⊕ ((Unit) ⊕ (Unit))) :=
  if ((2 : Int32) * (M.1 163 (92 : Int32).toNatClampNeg)) ≤ s then
  some (.inr (Sum.inl ()))
  else
  if inb ((80 : Int32) + s) 96 = true then
  if (M.1 163 ((80 : Int32) + s).toNatClampNeg) = v1 then
  if v3 = 0 then
  some (.inr (Sum.inr ()))
  else
  some (.inl (s + (1 : Int32)))
  else
  some (.inl (s + (1 : Int32)))
  else none
theorem lb_Mod_build_87_ok {E : Ev} {G : Gw} {d : Nat} {post : Int32 → Mem → Prop} (X : Cx E G b_Mod_build "WomenByTheRoofsModel" 5 d (some .int)) (hD : 3 ≤ d)  (v1 : Int32) (v2 : Int32) (v3 : Int32)  (M : Mem) (s : Int32) (o : (Int32) ⊕ ((Unit) ⊕ (Unit))) (h : lb_Mod_build_87 v1 v2 v3 M s = some o) (kc : ∀ s9 : Int32, o = .inl s9 → V E (0, 0) G 5 (QI E G post) M 87 [(0, .ref (G.2.2 + 162)), (1, .int v1), (2, .int v2), (3, .int v3), (4, .int s9)] []) (kx0 : ∀ x9 : Unit, o = .inr (Sum.inl x9) → V E (0, 0) G 5 (QI E G post) M 127 [(0, .ref (G.2.2 + 162)), (1, .int v1), (2, .int v2), (3, .int v3)] []) (kx1 : ∀ x9 : Unit, o = .inr (Sum.inr x9) → V E (0, 0) G 5 (QI E G post) M 119 [] []) : V E (0, 0) G 5 (QI E G post) M 87 [(0, .ref (G.2.2 + 162)), (1, .int v1), (2, .int v2), (3, .int v3), (4, .int s)] [] := by
  unfold lb_Mod_build_87 at h
  refine V_iload (n := 4) X d_Mod_build_87 rfl rfl ?_
  refine V_iconst (v := 2) X d_Mod_build_89 (by decide) rfl ?_
  refine V_aload_n (n := 0) X d_Mod_build_90 rfl rfl rfl ?_
  refine V_getr (k2 := 163) X fo_Mod_9 kd_162 rfl rf_162_0 d_Mod_build_91 rfl ?_
  refine V_bipush (v := 92) X d_Mod_build_94 (by decide) rfl ?_
  refine V_iald X kd_163 (inb_in ln_163 (by decide)) d_Mod_build_96 rfl ?_
  refine V_imul X d_Mod_build_97 rfl ?_
  refine V_icmp_ge (tgt := 127) X d_Mod_build_98 (by decide) rfl (fun c9 => ?_) (fun c9 => ?_)
  · rw [if_pos c9] at h
    refine V_sub (lv' := [(0, .ref (G.2.2 + 162)), (1, .int v1), (2, .int v2), (3, .int v3)]) [0, 1, 2, 3] rfl ?_
    exact kx0 () (Option.some.inj h).symm
  · rw [if_neg c9] at h
    refine V_aload_n (n := 0) X d_Mod_build_101 rfl rfl rfl ?_
    refine V_getr (k2 := 163) X fo_Mod_9 kd_162 rfl rf_162_0 d_Mod_build_102 rfl ?_
    refine V_bipush (v := 80) X d_Mod_build_105 (by decide) rfl ?_
    refine V_iload (n := 4) X d_Mod_build_107 rfl rfl ?_
    refine V_iadd X d_Mod_build_109 rfl ?_
    obtain ⟨hb, h⟩ := ifn h
    refine V_iald X kd_163 (inb_in ln_163 hb) d_Mod_build_110 rfl ?_
    refine V_iload_n (n := 1) X d_Mod_build_111 rfl rfl rfl ?_
    refine V_icmp_ne (tgt := 121) X d_Mod_build_112 (by decide) rfl (fun c8 => ?_) (fun c8 => ?_)
    · rw [if_neg c8] at h
      refine V_iinc (n := 4) (v := (s + (1 : Int32))) (lv' := [(4, .int (s + (1 : Int32))), (0, .ref (G.2.2 + 162)), (1, .int v1), (2, .int v2), (3, .int v3)]) X d_Mod_build_121 rfl rfl (by decide) rfl rfl ?_
      refine V_goto (pc' := 87) X d_Mod_build_124 (by decide) ?_
      refine V_sub (lv' := [(0, .ref (G.2.2 + 162)), (1, .int v1), (2, .int v2), (3, .int v3), (4, .int (s + (1 : Int32)))]) [1, 2, 3, 4, 0] rfl ?_
      exact kc (s + (1 : Int32)) (Option.some.inj h).symm
    · rw [if_pos c8] at h
      refine V_iload_n (n := 3) X d_Mod_build_115 rfl rfl rfl ?_
      refine V_if_ne (tgt := 121) X d_Mod_build_116 (by decide) rfl (fun c7 => ?_) (fun c7 => ?_)
      · rw [if_neg c7] at h
        refine V_iinc (n := 4) (v := (s + (1 : Int32))) (lv' := [(4, .int (s + (1 : Int32))), (0, .ref (G.2.2 + 162)), (1, .int v1), (2, .int v2), (3, .int v3)]) X d_Mod_build_121 rfl rfl (by decide) rfl rfl ?_
        refine V_goto (pc' := 87) X d_Mod_build_124 (by decide) ?_
        refine V_sub (lv' := [(0, .ref (G.2.2 + 162)), (1, .int v1), (2, .int v2), (3, .int v3), (4, .int (s + (1 : Int32)))]) [1, 2, 3, 4, 0] rfl ?_
        exact kc (s + (1 : Int32)) (Option.some.inj h).symm
      · rw [if_pos c7] at h
        refine V_sub (lv' := []) [] rfl ?_
        exact kx1 () (Option.some.inj h).symm
theorem lp_Mod_build_87_ok {E : Ev} {G : Gw} {d : Nat} {post : Int32 → Mem → Prop} (X : Cx E G b_Mod_build "WomenByTheRoofsModel" 5 d (some .int)) (hD : 3 ≤ d)  (v1 : Int32) (v2 : Int32) (v3 : Int32)  (M : Mem) (n9 : Nat) (s : Int32) (x : (Unit) ⊕ (Unit)) (h : iter (lb_Mod_build_87 v1 v2 v3 M) n9 s = some x) (kx0 : ∀ x9 : Unit, x = (Sum.inl x9) → V E (0, 0) G 5 (QI E G post) M 127 [(0, .ref (G.2.2 + 162)), (1, .int v1), (2, .int v2), (3, .int v3)] []) (kx1 : ∀ x9 : Unit, x = (Sum.inr x9) → V E (0, 0) G 5 (QI E G post) M 119 [] []) : V E (0, 0) G 5 (QI E G post) M 87 [(0, .ref (G.2.2 + 162)), (1, .int v1), (2, .int v2), (3, .int v3), (4, .int s)] [] :=
  iter_P (P := fun s : Int32 => V E (0, 0) G 5 (QI E G post) M 87 [(0, .ref (G.2.2 + 162)), (1, .int v1), (2, .int v2), (3, .int v3), (4, .int s)] []) (fun s o hb kc ky => lb_Mod_build_87_ok X hD v1 v2 v3 M s o hb kc (fun x9 e9 => kx0 x9 (ky _ e9).symm) (fun x9 e9 => kx1 x9 (ky _ e9).symm)) n9 s h
def j_Mod_build_141 (v1 : Int32) (v2 : Int32) (M : Mem) : Option (Int32 × Mem) :=
  if inb v1 36 = true then
  if inb v1 36 = true then
  mem_ (s_i M 164 v1.toNatClampNeg v2) fun M12 =>
  mem_ (s_i M12 162 27 (0 : Int32)) fun M13 =>
  mem_ (s_i M13 162 48 ((M13.1 162 48) + (1 : Int32))) fun M14 =>
  some ((M.1 164 v1.toNatClampNeg), M14)
  else none
  else none
theorem j_Mod_build_141_ok {E : Ev} {G : Gw} {d : Nat} {post : Int32 → Mem → Prop} (X : Cx E G b_Mod_build "WomenByTheRoofsModel" 5 d (some .int)) (hD : 3 ≤ d)  (v1 : Int32) (v2 : Int32)  (M : Mem)  (o : Int32 × Mem) (h : j_Mod_build_141 v1 v2 M = some o) (kr : ∀ x9 : Int32 × Mem, o = x9 → post x9.1 x9.2) : V E (0, 0) G 5 (QI E G post) M 141 [(0, .ref (G.2.2 + 162)), (1, .int v1), (2, .int v2)] [] := by
  unfold j_Mod_build_141 at h
  refine V_aload_n (n := 0) X d_Mod_build_141 rfl rfl rfl ?_
  refine V_getr (k2 := 164) X fo_Mod_13 kd_162 rfl rf_162_1 d_Mod_build_142 rfl ?_
  refine V_iload_n (n := 1) X d_Mod_build_145 rfl rfl rfl ?_
  obtain ⟨hb, h⟩ := ifn h
  refine V_iald X kd_164 (inb_in ln_164 hb) d_Mod_build_146 rfl ?_
  refine V_istore (lv' := [(4, .int (M.1 164 v1.toNatClampNeg)), (0, .ref (G.2.2 + 162)), (1, .int v1), (2, .int v2)]) X d_Mod_build_147 (by decide) rfl rfl ?_
  refine V_aload_n (n := 1) X d_Mod_build_149 rfl rfl rfl ?_
  refine V_getr (k2 := 164) X fo_Mod_13 kd_162 rfl rf_162_1 d_Mod_build_150 rfl ?_
  refine V_iload_n (n := 2) X d_Mod_build_153 rfl rfl rfl ?_
  refine V_iload_n (n := 3) X d_Mod_build_154 rfl rfl rfl ?_
  obtain ⟨hb, h⟩ := ifn h
  obtain ⟨M12, eM12, h⟩ := memS h
  refine V_iast X kd_164 (inb_in ln_164 hb) d_Mod_build_155 rfl ?_
  rw [← eM12]
  refine V_aload_n (n := 1) X d_Mod_build_156 rfl rfl rfl ?_
  refine V_iconst (v := 0) X d_Mod_build_157 (by decide) rfl ?_
  obtain ⟨M13, eM13, h⟩ := memS h
  refine V_putI X fp_Mod_201 kd_162 rfl d_Mod_build_158 rfl ?_
  rw [← eM13]
  refine V_aload_n (n := 1) X d_Mod_build_161 rfl rfl rfl ?_
  refine V_dup X d_Mod_build_162 rfl rfl ?_
  refine V_geti X fo_Mod_210 kd_162 rfl d_Mod_build_163 rfl ?_
  refine V_iconst (v := 1) X d_Mod_build_166 (by decide) rfl ?_
  refine V_iadd X d_Mod_build_167 rfl ?_
  obtain ⟨M14, eM14, h⟩ := memS h
  refine V_putI X fp_Mod_210 kd_162 rfl d_Mod_build_168 rfl ?_
  rw [← eM14]
  refine V_iload (n := 0) X d_Mod_build_171 rfl rfl ?_
  exact V_iret X (kr ((M.1 164 v1.toNatClampNeg), M14) (Option.some.inj h).symm) d_Mod_build_173
def j_Mod_build_62 (v1 : Int32) (v2 : Int32) (v3 : Int32) (M : Mem) : Option (Int32 × Mem) :=
  Option.bind (f_Mod_placeOf (1 : Int32) v1) fun x5 =>
  Option.bind (f_Mod_onPlace 163 x5 M) fun x6 =>
  if x6 = 0 then
  Option.bind (iter (lb_Mod_build_87 v1 v2 v3 M) FU (0 : Int32)) (Sum.elim (fun y11 => if v3 = 0 then
  j_Mod_build_141 v1 v2 M
  else
  Option.bind (f_Mod_isUnder v1 M) fun x15 =>
  if x15 = 0 then
  j_Mod_build_141 v1 v2 M
  else
  some ((-1 : Int32), M)) (fun y18 => some ((-1 : Int32), M)))
  else
  if v3 = 0 then
  some ((-1 : Int32), M)
  else
  Option.bind (iter (lb_Mod_build_87 v1 v2 v3 M) FU (0 : Int32)) (Sum.elim (fun y20 => if v3 = 0 then
  j_Mod_build_141 v1 v2 M
  else
  Option.bind (f_Mod_isUnder v1 M) fun x21 =>
  if x21 = 0 then
  j_Mod_build_141 v1 v2 M
  else
  some ((-1 : Int32), M)) (fun y24 => some ((-1 : Int32), M)))
theorem j_Mod_build_62_ok {E : Ev} {G : Gw} {d : Nat} {post : Int32 → Mem → Prop} (X : Cx E G b_Mod_build "WomenByTheRoofsModel" 5 d (some .int)) (hD : 3 ≤ d)  (v1 : Int32) (v2 : Int32) (v3 : Int32)  (M : Mem)  (o : Int32 × Mem) (h : j_Mod_build_62 v1 v2 v3 M = some o) (kr : ∀ x9 : Int32 × Mem, o = x9 → post x9.1 x9.2) : V E (0, 0) G 5 (QI E G post) M 62 [(0, .ref (G.2.2 + 162)), (1, .int v1), (2, .int v2), (3, .int v3)] [] := by
  unfold j_Mod_build_62 at h
  refine V_aload_n (n := 0) X d_Mod_build_62 rfl rfl rfl ?_
  refine V_aload_n (n := 0) X d_Mod_build_63 rfl rfl rfl ?_
  refine V_getr (k2 := 163) X fo_Mod_9 kd_162 rfl rf_162_0 d_Mod_build_64 rfl ?_
  refine V_iconst (v := 1) X d_Mod_build_67 (by decide) rfl ?_
  refine V_iload_n (n := 1) X d_Mod_build_68 rfl rfl rfl ?_
  obtain ⟨x5, hx5, h⟩ := ob_s h
  refine V_si (As := [.int (1 : Int32), .int v1]) X (Z0 E) ml_Mod_154 yq_Mod_placeOf (c_Mod_placeOf E.2.1 G (1 : Int32) v1 M x5 hx5 _ (Nat.le_refl _)) rfl (by omega) rfl (Nat.le_of_ble_eq_true rfl) d_Mod_build_69 rfl (fun r9 M9 hq => ?_)
  rw [hq.1, hq.2]
  obtain ⟨x6, hx6, h⟩ := ob_s h
  refine V_ci (As := [.ref (G.2.2 + 163), .int x5]) X (Z0 E) ml_Mod_259 yq_Mod_onPlace (c_Mod_onPlace E.2.1 G 163 x5 M x6 hx6 _ (Nat.le_refl _)) kd_162 rfl rfl (by omega) rfl (Nat.le_of_ble_eq_true rfl) d_Mod_build_72 rfl (fun r9 M9 hq => ?_)
  rw [hq.1, hq.2]
  refine V_if_eq (tgt := 84) X d_Mod_build_75 (by decide) rfl (fun c26 => ?_) (fun c26 => ?_)
  · rw [if_pos c26] at h
    refine V_iconst (v := 0) X d_Mod_build_84 (by decide) rfl ?_
    refine V_istore (lv' := [(4, .int (0 : Int32)), (0, .ref (G.2.2 + 162)), (1, .int v1), (2, .int v2), (3, .int v3)]) X d_Mod_build_85 (by decide) rfl rfl ?_
    refine V_sub (lv' := [(0, .ref (G.2.2 + 162)), (1, .int v1), (2, .int v2), (3, .int v3), (4, .int (0 : Int32))]) [1, 2, 3, 4, 0] rfl ?_
    obtain ⟨x10, hx10, h⟩ := ob_s h
    rcases x10 with y11 | y18
    · simp only [Sum.elim_inl, Sum.elim_inr] at h
      refine (lp_Mod_build_87_ok X hD v1 v2 v3 M _ _ _ hx10 (fun x9 e9 => ?_) (fun x9 e9 => by cases e9) :)
      cases e9
      refine V_iload_n (n := 3) X d_Mod_build_127 rfl rfl rfl ?_
      refine V_if_eq (tgt := 141) X d_Mod_build_128 (by decide) rfl (fun c17 => ?_) (fun c17 => ?_)
      · rw [if_pos c17] at h
        refine V_sub (lv' := [(0, .ref (G.2.2 + 162)), (1, .int v1), (2, .int v2)]) [0, 1, 2] rfl ?_
        exact j_Mod_build_141_ok X hD v1 v2 M _ h kr
      · rw [if_neg c17] at h
        refine V_aload_n (n := 0) X d_Mod_build_131 rfl rfl rfl ?_
        refine V_iload_n (n := 1) X d_Mod_build_132 rfl rfl rfl ?_
        obtain ⟨x15, hx15, h⟩ := ob_s h
        refine V_ci (As := [.int v1]) X (Z0 E) ml_Mod_272 yq_Mod_isUnder (c_Mod_isUnder E.2.1 G v1 M x15 hx15 _ (Nat.le_refl _)) kd_162 rfl rfl (by omega) rfl (Nat.le_of_ble_eq_true rfl) d_Mod_build_133 rfl (fun r9 M9 hq => ?_)
        rw [hq.1, hq.2]
        refine V_if_eq (tgt := 141) X d_Mod_build_136 (by decide) rfl (fun c16 => ?_) (fun c16 => ?_)
        · rw [if_pos c16] at h
          refine V_sub (lv' := [(0, .ref (G.2.2 + 162)), (1, .int v1), (2, .int v2)]) [0, 1, 2] rfl ?_
          exact j_Mod_build_141_ok X hD v1 v2 M _ h kr
        · rw [if_neg c16] at h
          refine V_iconst (v := -1) X d_Mod_build_139 (by decide) rfl ?_
          exact V_iret X (kr ((-1 : Int32), M) (Option.some.inj h).symm) d_Mod_build_140
    · simp only [Sum.elim_inl, Sum.elim_inr] at h
      refine (lp_Mod_build_87_ok X hD v1 v2 v3 M _ _ _ hx10 (fun x9 e9 => by cases e9) (fun x9 e9 => ?_) :)
      cases e9
      refine V_iconst (v := -1) X d_Mod_build_119 (by decide) rfl ?_
      exact V_iret X (kr ((-1 : Int32), M) (Option.some.inj h).symm) d_Mod_build_120
  · rw [if_neg c26] at h
    refine V_iload_n (n := 3) X d_Mod_build_78 rfl rfl rfl ?_
    refine V_if_ne (tgt := 84) X d_Mod_build_79 (by decide) rfl (fun c25 => ?_) (fun c25 => ?_)
    · rw [if_neg c25] at h
      refine V_iconst (v := 0) X d_Mod_build_84 (by decide) rfl ?_
      refine V_istore (lv' := [(4, .int (0 : Int32)), (0, .ref (G.2.2 + 162)), (1, .int v1), (2, .int v2), (3, .int v3)]) X d_Mod_build_85 (by decide) rfl rfl ?_
      refine V_sub (lv' := [(0, .ref (G.2.2 + 162)), (1, .int v1), (2, .int v2), (3, .int v3), (4, .int (0 : Int32))]) [1, 2, 3, 4, 0] rfl ?_
      obtain ⟨x19, hx19, h⟩ := ob_s h
      rcases x19 with y20 | y24
      · simp only [Sum.elim_inl, Sum.elim_inr] at h
        refine (lp_Mod_build_87_ok X hD v1 v2 v3 M _ _ _ hx19 (fun x9 e9 => ?_) (fun x9 e9 => by cases e9) :)
        cases e9
        refine V_iload_n (n := 3) X d_Mod_build_127 rfl rfl rfl ?_
        refine V_if_eq (tgt := 141) X d_Mod_build_128 (by decide) rfl (fun c23 => ?_) (fun c23 => ?_)
        · rw [if_pos c23] at h
          refine V_sub (lv' := [(0, .ref (G.2.2 + 162)), (1, .int v1), (2, .int v2)]) [0, 1, 2] rfl ?_
          exact j_Mod_build_141_ok X hD v1 v2 M _ h kr
        · rw [if_neg c23] at h
          refine V_aload_n (n := 0) X d_Mod_build_131 rfl rfl rfl ?_
          refine V_iload_n (n := 1) X d_Mod_build_132 rfl rfl rfl ?_
          obtain ⟨x21, hx21, h⟩ := ob_s h
          refine V_ci (As := [.int v1]) X (Z0 E) ml_Mod_272 yq_Mod_isUnder (c_Mod_isUnder E.2.1 G v1 M x21 hx21 _ (Nat.le_refl _)) kd_162 rfl rfl (by omega) rfl (Nat.le_of_ble_eq_true rfl) d_Mod_build_133 rfl (fun r9 M9 hq => ?_)
          rw [hq.1, hq.2]
          refine V_if_eq (tgt := 141) X d_Mod_build_136 (by decide) rfl (fun c22 => ?_) (fun c22 => ?_)
          · rw [if_pos c22] at h
            refine V_sub (lv' := [(0, .ref (G.2.2 + 162)), (1, .int v1), (2, .int v2)]) [0, 1, 2] rfl ?_
            exact j_Mod_build_141_ok X hD v1 v2 M _ h kr
          · rw [if_neg c22] at h
            refine V_iconst (v := -1) X d_Mod_build_139 (by decide) rfl ?_
            exact V_iret X (kr ((-1 : Int32), M) (Option.some.inj h).symm) d_Mod_build_140
      · simp only [Sum.elim_inl, Sum.elim_inr] at h
        refine (lp_Mod_build_87_ok X hD v1 v2 v3 M _ _ _ hx19 (fun x9 e9 => by cases e9) (fun x9 e9 => ?_) :)
        cases e9
        refine V_iconst (v := -1) X d_Mod_build_119 (by decide) rfl ?_
        exact V_iret X (kr ((-1 : Int32), M) (Option.some.inj h).symm) d_Mod_build_120
    · rw [if_pos c25] at h
      refine V_iconst (v := -1) X d_Mod_build_82 (by decide) rfl ?_
      exact V_iret X (kr ((-1 : Int32), M) (Option.some.inj h).symm) d_Mod_build_83
def j_Mod_build_39 (v1 : Int32) (v2 : Int32) (w0 : Int32) (M : Mem) : Option (Int32 × Mem) :=
  Option.bind (f_Mod_onPlace 163 v1 M) fun x4 =>
  if x4 = 0 then
  j_Mod_build_62 v1 v2 w0 M
  else
  if v2 = (1 : Int32) then
  j_Mod_build_62 v1 v2 w0 M
  else
  if v2 = (3 : Int32) then
  j_Mod_build_62 v1 v2 w0 M
  else
  some ((-1 : Int32), M)
theorem j_Mod_build_39_ok {E : Ev} {G : Gw} {d : Nat} {post : Int32 → Mem → Prop} (X : Cx E G b_Mod_build "WomenByTheRoofsModel" 5 d (some .int)) (hD : 3 ≤ d)  (v1 : Int32) (v2 : Int32) (w0 : Int32)  (M : Mem)  (o : Int32 × Mem) (h : j_Mod_build_39 v1 v2 w0 M = some o) (kr : ∀ x9 : Int32 × Mem, o = x9 → post x9.1 x9.2) : V E (0, 0) G 5 (QI E G post) M 39 [(0, .ref (G.2.2 + 162)), (1, .int v1), (2, .int v2)] [.int w0] := by
  unfold j_Mod_build_39 at h
  refine V_istore_n (lv' := [(3, .int w0), (0, .ref (G.2.2 + 162)), (1, .int v1), (2, .int v2)]) X d_Mod_build_39 rfl (by decide) rfl rfl ?_
  refine V_aload_n (n := 1) X d_Mod_build_40 rfl rfl rfl ?_
  refine V_aload_n (n := 1) X d_Mod_build_41 rfl rfl rfl ?_
  refine V_getr (k2 := 163) X fo_Mod_9 kd_162 rfl rf_162_0 d_Mod_build_42 rfl ?_
  refine V_iload_n (n := 2) X d_Mod_build_45 rfl rfl rfl ?_
  obtain ⟨x4, hx4, h⟩ := ob_s h
  refine V_ci (As := [.ref (G.2.2 + 163), .int v1]) X (Z0 E) ml_Mod_259 yq_Mod_onPlace (c_Mod_onPlace E.2.1 G 163 v1 M x4 hx4 _ (Nat.le_refl _)) kd_162 rfl rfl (by omega) rfl (Nat.le_of_ble_eq_true rfl) d_Mod_build_46 rfl (fun r9 M9 hq => ?_)
  rw [hq.1, hq.2]
  refine V_if_eq (tgt := 62) X d_Mod_build_49 (by decide) rfl (fun c29 => ?_) (fun c29 => ?_)
  · rw [if_pos c29] at h
    refine V_sub (lv' := [(0, .ref (G.2.2 + 162)), (1, .int v1), (2, .int v2), (3, .int w0)]) [1, 2, 3, 0] rfl ?_
    exact j_Mod_build_62_ok X hD v1 v2 w0 M _ h kr
  · rw [if_neg c29] at h
    refine V_iload_n (n := 3) X d_Mod_build_52 rfl rfl rfl ?_
    refine V_iconst (v := 1) X d_Mod_build_53 (by decide) rfl ?_
    refine V_icmp_eq (tgt := 62) X d_Mod_build_54 (by decide) rfl (fun c28 => ?_) (fun c28 => ?_)
    · rw [if_pos c28] at h
      refine V_sub (lv' := [(0, .ref (G.2.2 + 162)), (1, .int v1), (2, .int v2), (3, .int w0)]) [1, 2, 3, 0] rfl ?_
      exact j_Mod_build_62_ok X hD v1 v2 w0 M _ h kr
    · rw [if_neg c28] at h
      refine V_iload_n (n := 3) X d_Mod_build_57 rfl rfl rfl ?_
      refine V_iconst (v := 3) X d_Mod_build_58 (by decide) rfl ?_
      refine V_icmp_ne (tgt := 82) X d_Mod_build_59 (by decide) rfl (fun c27 => ?_) (fun c27 => ?_)
      · rw [if_neg c27] at h
        refine V_iconst (v := -1) X d_Mod_build_82 (by decide) rfl ?_
        exact V_iret X (kr ((-1 : Int32), M) (Option.some.inj h).symm) d_Mod_build_83
      · rw [if_pos c27] at h
        refine V_sub (lv' := [(0, .ref (G.2.2 + 162)), (1, .int v1), (2, .int v2), (3, .int w0)]) [1, 2, 3, 0] rfl ?_
        exact j_Mod_build_62_ok X hD v1 v2 w0 M _ h kr
def f_Mod_build (v1 : Int32) (v2 : Int32) (M : Mem) : Option (Int32 × Mem) :=
  mem_ (s_i M 162 13 (0 : Int32)) fun M1 =>
  Option.bind (f_Mod_isCell v1 M1) fun x2 =>
  if x2 = 0 then
  some ((-1 : Int32), M1)
  else
  Option.bind (f_Mod_in v2 (0 : Int32) (3 : Int32)) fun x3 =>
  if x3 = 0 then
  some ((-1 : Int32), M1)
  else
  if v2 = (2 : Int32) then
  j_Mod_build_39 v1 v2 (1 : Int32) M1
  else
  if v2 = (3 : Int32) then
  j_Mod_build_39 v1 v2 (1 : Int32) M1
  else
  j_Mod_build_39 v1 v2 (0 : Int32) M1
theorem c_Mod_build (l : Launch) (G : Gw)  (v1 : Int32) (v2 : Int32) (M : Mem) (x : Int32 × Mem) (h : f_Mod_build v1 v2 M = some x) (d : Nat) (hD : 3 ≤ d) : Ci l G y_Mod_build b_Mod_build 5 (some .int) d [.ref (G.2.2 + 162), .int v1, .int v2] M (fun r9 M9 => r9 = x.1 ∧ M9 = x.2) := by
  refine Ci_of (by decide) (Nat.le_of_ble_eq_true rfl) (fun E hE X => ?_)
  subst hE
  have kr : ∀ x9 : Int32 × Mem, x = x9 → (fun r9 M9 => r9 = x.1 ∧ M9 = x.2) x9.1 x9.2 := fun x9 e9 => by subst e9; exact ⟨rfl, rfl⟩
  unfold f_Mod_build at h
  refine V_aload_n (n := 0) X d_Mod_build_0 rfl rfl rfl ?_
  refine V_iconst (v := 0) X d_Mod_build_1 (by decide) rfl ?_
  obtain ⟨M1, eM1, h⟩ := memS h
  refine V_putI X fp_Mod_109 kd_162 rfl d_Mod_build_2 rfl ?_
  rw [← eM1]
  refine V_aload_n (n := 0) X d_Mod_build_5 rfl rfl rfl ?_
  refine V_iload_n (n := 1) X d_Mod_build_6 rfl rfl rfl ?_
  obtain ⟨x2, hx2, h⟩ := ob_s h
  refine V_ci (As := [.int v1]) X (Z0 E) ml_Mod_137 yq_Mod_isCell (c_Mod_isCell E.2.1 G v1 M1 x2 hx2 _ (Nat.le_refl _)) kd_162 rfl rfl (by omega) rfl (Nat.le_of_ble_eq_true rfl) d_Mod_build_7 rfl (fun r9 M9 hq => ?_)
  rw [hq.1, hq.2]
  refine V_if_eq (tgt := 22) X d_Mod_build_10 (by decide) rfl (fun c33 => ?_) (fun c33 => ?_)
  · rw [if_pos c33] at h
    refine V_iconst (v := -1) X d_Mod_build_22 (by decide) rfl ?_
    exact V_iret X (kr ((-1 : Int32), M1) (Option.some.inj h).symm) d_Mod_build_23
  · rw [if_neg c33] at h
    refine V_iload_n (n := 2) X d_Mod_build_13 rfl rfl rfl ?_
    refine V_iconst (v := 0) X d_Mod_build_14 (by decide) rfl ?_
    refine V_iconst (v := 3) X d_Mod_build_15 (by decide) rfl ?_
    obtain ⟨x3, hx3, h⟩ := ob_s h
    refine V_si (As := [.int v2, .int (0 : Int32), .int (3 : Int32)]) X (Z0 E) ml_Mod_119 yq_Mod_in (c_Mod_in E.2.1 G v2 (0 : Int32) (3 : Int32) M1 x3 hx3 _ (Nat.le_refl _)) rfl (by omega) rfl (Nat.le_of_ble_eq_true rfl) d_Mod_build_16 rfl (fun r9 M9 hq => ?_)
    rw [hq.1, hq.2]
    refine V_if_ne (tgt := 24) X d_Mod_build_19 (by decide) rfl (fun c32 => ?_) (fun c32 => ?_)
    · rw [if_neg c32] at h
      refine V_iload_n (n := 2) X d_Mod_build_24 rfl rfl rfl ?_
      refine V_iconst (v := 2) X d_Mod_build_25 (by decide) rfl ?_
      refine V_icmp_eq (tgt := 34) X d_Mod_build_26 (by decide) rfl (fun c31 => ?_) (fun c31 => ?_)
      · rw [if_pos c31] at h
        refine V_iconst (v := 1) X d_Mod_build_34 (by decide) rfl ?_
        refine V_goto (pc' := 39) X d_Mod_build_35 (by decide) ?_
        exact j_Mod_build_39_ok X hD v1 v2 (1 : Int32) M1 _ h kr
      · rw [if_neg c31] at h
        refine V_iload_n (n := 2) X d_Mod_build_29 rfl rfl rfl ?_
        refine V_iconst (v := 3) X d_Mod_build_30 (by decide) rfl ?_
        refine V_icmp_ne (tgt := 38) X d_Mod_build_31 (by decide) rfl (fun c30 => ?_) (fun c30 => ?_)
        · rw [if_neg c30] at h
          refine V_iconst (v := 0) X d_Mod_build_38 (by decide) rfl ?_
          exact j_Mod_build_39_ok X hD v1 v2 (0 : Int32) M1 _ h kr
        · rw [if_pos c30] at h
          refine V_iconst (v := 1) X d_Mod_build_34 (by decide) rfl ?_
          refine V_goto (pc' := 39) X d_Mod_build_35 (by decide) ?_
          exact j_Mod_build_39_ok X hD v1 v2 (1 : Int32) M1 _ h kr
    · rw [if_pos c32] at h
      refine V_iconst (v := -1) X d_Mod_build_22 (by decide) rfl ?_
      exact V_iret X (kr ((-1 : Int32), M1) (Option.some.inj h).symm) d_Mod_build_23
def j_Mod_between_45 (v1 : Int32) (v2 : Int32) (v3 : Int32) (v4 : Int32) (M : Mem) : Option (Int32) :=
  if v3 = 0 then
  if v4 = (2 : Int32) then
  some ((v1 + v2) / (2 : Int32))
  else
  some (-1 : Int32)
  else
  some (-1 : Int32)
theorem j_Mod_between_45_ok {E : Ev} {G : Gw} {d : Nat} {post : Int32 → Mem → Prop} (X : Cx E G b_Mod_between "WomenByTheRoofsModel" 5 d (some .int)) (hD : 1 ≤ d)  (v1 : Int32) (v2 : Int32) (v3 : Int32) (v4 : Int32)  (M : Mem)  (o : Int32) (h : j_Mod_between_45 v1 v2 v3 v4 M = some o) (kr : ∀ x9 : Int32, o = x9 → post x9 M) : V E (0, 0) G 5 (QI E G post) M 45 [(1, .int v1), (2, .int v2), (3, .int v3), (4, .int v4)] [] := by
  unfold j_Mod_between_45 at h
  refine V_iload_n (n := 2) X d_Mod_between_45 rfl rfl rfl ?_
  refine V_if_ne (tgt := 63) X d_Mod_between_46 (by decide) rfl (fun c2 => ?_) (fun c2 => ?_)
  · rw [if_neg c2] at h
    refine V_iconst (v := -1) X d_Mod_between_63 (by decide) rfl ?_
    exact V_iret X (kr (-1 : Int32) (Option.some.inj h).symm) d_Mod_between_64
  · rw [if_pos c2] at h
    refine V_iload (n := 3) X d_Mod_between_49 rfl rfl ?_
    refine V_iconst (v := 2) X d_Mod_between_51 (by decide) rfl ?_
    refine V_icmp_ne (tgt := 63) X d_Mod_between_52 (by decide) rfl (fun c1 => ?_) (fun c1 => ?_)
    · rw [if_neg c1] at h
      refine V_iconst (v := -1) X d_Mod_between_63 (by decide) rfl ?_
      exact V_iret X (kr (-1 : Int32) (Option.some.inj h).symm) d_Mod_between_64
    · rw [if_pos c1] at h
      refine V_iload_n (n := 0) X d_Mod_between_55 rfl rfl rfl ?_
      refine V_iload_n (n := 1) X d_Mod_between_56 rfl rfl rfl ?_
      refine V_iadd X d_Mod_between_57 rfl ?_
      refine V_iconst (v := 2) X d_Mod_between_58 (by decide) rfl ?_
      refine V_idiv X d_Mod_between_59 (by decide) rfl ?_
      refine V_goto (pc' := 64) X d_Mod_between_60 (by decide) ?_
      exact V_iret X (kr ((v1 + v2) / (2 : Int32)) (Option.some.inj h).symm) d_Mod_between_64
def f_Mod_between (v1 : Int32) (v2 : Int32) (M : Mem) : Option (Int32) :=
  if (M.1 162 2) = 0 then none else
  if (M.1 162 2) = 0 then none else
  if (M.1 162 2) = 0 then none else
  if (M.1 162 2) = 0 then none else
  if (if 0 ≤ ((v1 - v1 / (M.1 162 2) * (M.1 162 2)) - (v2 - v2 / (M.1 162 2) * (M.1 162 2))) then ((v1 - v1 / (M.1 162 2) * (M.1 162 2)) - (v2 - v2 / (M.1 162 2) * (M.1 162 2))) else 0 - ((v1 - v1 / (M.1 162 2) * (M.1 162 2)) - (v2 - v2 / (M.1 162 2) * (M.1 162 2)))) = (2 : Int32) then
  if (if 0 ≤ ((v1 / (M.1 162 2)) - (v2 / (M.1 162 2))) then ((v1 / (M.1 162 2)) - (v2 / (M.1 162 2))) else 0 - ((v1 / (M.1 162 2)) - (v2 / (M.1 162 2)))) = 0 then
  some ((v1 + v2) / (2 : Int32))
  else
  j_Mod_between_45 v1 v2 (if 0 ≤ ((v1 - v1 / (M.1 162 2) * (M.1 162 2)) - (v2 - v2 / (M.1 162 2) * (M.1 162 2))) then ((v1 - v1 / (M.1 162 2) * (M.1 162 2)) - (v2 - v2 / (M.1 162 2) * (M.1 162 2))) else 0 - ((v1 - v1 / (M.1 162 2) * (M.1 162 2)) - (v2 - v2 / (M.1 162 2) * (M.1 162 2)))) (if 0 ≤ ((v1 / (M.1 162 2)) - (v2 / (M.1 162 2))) then ((v1 / (M.1 162 2)) - (v2 / (M.1 162 2))) else 0 - ((v1 / (M.1 162 2)) - (v2 / (M.1 162 2)))) M
  else
  j_Mod_between_45 v1 v2 (if 0 ≤ ((v1 - v1 / (M.1 162 2) * (M.1 162 2)) - (v2 - v2 / (M.1 162 2) * (M.1 162 2))) then ((v1 - v1 / (M.1 162 2) * (M.1 162 2)) - (v2 - v2 / (M.1 162 2) * (M.1 162 2))) else 0 - ((v1 - v1 / (M.1 162 2) * (M.1 162 2)) - (v2 - v2 / (M.1 162 2) * (M.1 162 2)))) (if 0 ≤ ((v1 / (M.1 162 2)) - (v2 / (M.1 162 2))) then ((v1 / (M.1 162 2)) - (v2 / (M.1 162 2))) else 0 - ((v1 / (M.1 162 2)) - (v2 / (M.1 162 2)))) M
theorem c_Mod_between (l : Launch) (G : Gw)  (v1 : Int32) (v2 : Int32) (M : Mem) (x : Int32) (h : f_Mod_between v1 v2 M = some x) (d : Nat) (hD : 1 ≤ d) : Ci l G y_Mod_between b_Mod_between 5 (some .int) d [.ref (G.2.2 + 162), .int v1, .int v2] M (fun r9 M9 => r9 = x ∧ M9 = M) := by
  refine Ci_of (by decide) (Nat.le_of_ble_eq_true rfl) (fun E hE X => ?_)
  subst hE
  have kr : ∀ x9 : Int32, x = x9 → (fun r9 M9 => r9 = x ∧ M9 = M) x9 M := fun x9 e9 => by subst e9; exact ⟨rfl, rfl⟩
  unfold f_Mod_between at h
  refine V_iload_n (n := 1) X d_Mod_between_0 rfl rfl rfl ?_
  refine V_aload_n (n := 0) X d_Mod_between_1 rfl rfl rfl ?_
  refine V_geti X fo_Mod_16 kd_162 rfl d_Mod_between_2 rfl ?_
  obtain ⟨hq, h⟩ := ifz h
  refine V_irem X d_Mod_between_5 hq rfl ?_
  refine V_iload_n (n := 2) X d_Mod_between_6 rfl rfl rfl ?_
  refine V_aload_n (n := 0) X d_Mod_between_7 rfl rfl rfl ?_
  refine V_geti X fo_Mod_16 kd_162 rfl d_Mod_between_8 rfl ?_
  obtain ⟨hq, h⟩ := ifz h
  refine V_irem X d_Mod_between_11 hq rfl ?_
  refine V_isub X d_Mod_between_12 rfl ?_
  refine V_mabs X (Z0 E) mm_Mod_275 (by omega) (Nat.le_of_ble_eq_true rfl) d_Mod_between_13 rfl ?_
  refine V_istore_n (lv' := [(3, .int (if 0 ≤ ((v1 - v1 / (M.1 162 2) * (M.1 162 2)) - (v2 - v2 / (M.1 162 2) * (M.1 162 2))) then ((v1 - v1 / (M.1 162 2) * (M.1 162 2)) - (v2 - v2 / (M.1 162 2) * (M.1 162 2))) else 0 - ((v1 - v1 / (M.1 162 2) * (M.1 162 2)) - (v2 - v2 / (M.1 162 2) * (M.1 162 2))))), (0, .ref (G.2.2 + 162)), (1, .int v1), (2, .int v2)]) X d_Mod_between_16 rfl (by decide) rfl rfl ?_
  refine V_iload_n (n := 2) X d_Mod_between_17 rfl rfl rfl ?_
  refine V_aload_n (n := 1) X d_Mod_between_18 rfl rfl rfl ?_
  refine V_geti X fo_Mod_16 kd_162 rfl d_Mod_between_19 rfl ?_
  obtain ⟨hq, h⟩ := ifz h
  refine V_idiv X d_Mod_between_22 hq rfl ?_
  refine V_iload_n (n := 3) X d_Mod_between_23 rfl rfl rfl ?_
  refine V_aload_n (n := 1) X d_Mod_between_24 rfl rfl rfl ?_
  refine V_geti X fo_Mod_16 kd_162 rfl d_Mod_between_25 rfl ?_
  obtain ⟨hq, h⟩ := ifz h
  refine V_idiv X d_Mod_between_28 hq rfl ?_
  refine V_isub X d_Mod_between_29 rfl ?_
  refine V_mabs X (Z0 E) mm_Mod_275 (by omega) (Nat.le_of_ble_eq_true rfl) d_Mod_between_30 rfl ?_
  refine V_istore (lv' := [(4, .int (if 0 ≤ ((v1 / (M.1 162 2)) - (v2 / (M.1 162 2))) then ((v1 / (M.1 162 2)) - (v2 / (M.1 162 2))) else 0 - ((v1 / (M.1 162 2)) - (v2 / (M.1 162 2))))), (3, .int (if 0 ≤ ((v1 - v1 / (M.1 162 2) * (M.1 162 2)) - (v2 - v2 / (M.1 162 2) * (M.1 162 2))) then ((v1 - v1 / (M.1 162 2) * (M.1 162 2)) - (v2 - v2 / (M.1 162 2) * (M.1 162 2))) else 0 - ((v1 - v1 / (M.1 162 2) * (M.1 162 2)) - (v2 - v2 / (M.1 162 2) * (M.1 162 2))))), (0, .ref (G.2.2 + 162)), (1, .int v1), (2, .int v2)]) X d_Mod_between_33 (by decide) rfl rfl ?_
  refine V_iload_n (n := 1) X d_Mod_between_35 rfl rfl rfl ?_
  refine V_iconst (v := 2) X d_Mod_between_36 (by decide) rfl ?_
  refine V_icmp_ne (tgt := 45) X d_Mod_between_37 (by decide) rfl (fun c4 => ?_) (fun c4 => ?_)
  · rw [if_neg c4] at h
    refine V_sub (lv' := [(1, .int v1), (2, .int v2), (3, .int (if 0 ≤ ((v1 - v1 / (M.1 162 2) * (M.1 162 2)) - (v2 - v2 / (M.1 162 2) * (M.1 162 2))) then ((v1 - v1 / (M.1 162 2) * (M.1 162 2)) - (v2 - v2 / (M.1 162 2) * (M.1 162 2))) else 0 - ((v1 - v1 / (M.1 162 2) * (M.1 162 2)) - (v2 - v2 / (M.1 162 2) * (M.1 162 2))))), (4, .int (if 0 ≤ ((v1 / (M.1 162 2)) - (v2 / (M.1 162 2))) then ((v1 / (M.1 162 2)) - (v2 / (M.1 162 2))) else 0 - ((v1 / (M.1 162 2)) - (v2 / (M.1 162 2)))))]) [3, 4, 1, 0] rfl ?_
    exact j_Mod_between_45_ok X hD v1 v2 (if 0 ≤ ((v1 - v1 / (M.1 162 2) * (M.1 162 2)) - (v2 - v2 / (M.1 162 2) * (M.1 162 2))) then ((v1 - v1 / (M.1 162 2) * (M.1 162 2)) - (v2 - v2 / (M.1 162 2) * (M.1 162 2))) else 0 - ((v1 - v1 / (M.1 162 2) * (M.1 162 2)) - (v2 - v2 / (M.1 162 2) * (M.1 162 2)))) (if 0 ≤ ((v1 / (M.1 162 2)) - (v2 / (M.1 162 2))) then ((v1 / (M.1 162 2)) - (v2 / (M.1 162 2))) else 0 - ((v1 / (M.1 162 2)) - (v2 / (M.1 162 2)))) M _ h kr
  · rw [if_pos c4] at h
    refine V_iload (n := 0) X d_Mod_between_40 rfl rfl ?_
    refine V_if_eq (tgt := 55) X d_Mod_between_42 (by decide) rfl (fun c3 => ?_) (fun c3 => ?_)
    · rw [if_pos c3] at h
      refine V_iload_n (n := 3) X d_Mod_between_55 rfl rfl rfl ?_
      refine V_iload_n (n := 4) X d_Mod_between_56 rfl rfl rfl ?_
      refine V_iadd X d_Mod_between_57 rfl ?_
      refine V_iconst (v := 2) X d_Mod_between_58 (by decide) rfl ?_
      refine V_idiv X d_Mod_between_59 (by decide) rfl ?_
      refine V_goto (pc' := 64) X d_Mod_between_60 (by decide) ?_
      exact V_iret X (kr ((v1 + v2) / (2 : Int32)) (Option.some.inj h).symm) d_Mod_between_64
    · rw [if_neg c3] at h
      refine V_sub (lv' := [(1, .int v1), (2, .int v2), (3, .int (if 0 ≤ ((v1 - v1 / (M.1 162 2) * (M.1 162 2)) - (v2 - v2 / (M.1 162 2) * (M.1 162 2))) then ((v1 - v1 / (M.1 162 2) * (M.1 162 2)) - (v2 - v2 / (M.1 162 2) * (M.1 162 2))) else 0 - ((v1 - v1 / (M.1 162 2) * (M.1 162 2)) - (v2 - v2 / (M.1 162 2) * (M.1 162 2))))), (4, .int (if 0 ≤ ((v1 / (M.1 162 2)) - (v2 / (M.1 162 2))) then ((v1 / (M.1 162 2)) - (v2 / (M.1 162 2))) else 0 - ((v1 / (M.1 162 2)) - (v2 / (M.1 162 2)))))]) [3, 4, 1, 0] rfl ?_
      exact j_Mod_between_45_ok X hD v1 v2 (if 0 ≤ ((v1 - v1 / (M.1 162 2) * (M.1 162 2)) - (v2 - v2 / (M.1 162 2) * (M.1 162 2))) then ((v1 - v1 / (M.1 162 2) * (M.1 162 2)) - (v2 - v2 / (M.1 162 2) * (M.1 162 2))) else 0 - ((v1 - v1 / (M.1 162 2) * (M.1 162 2)) - (v2 - v2 / (M.1 162 2) * (M.1 162 2)))) (if 0 ≤ ((v1 / (M.1 162 2)) - (v2 / (M.1 162 2))) then ((v1 / (M.1 162 2)) - (v2 / (M.1 162 2))) else 0 - ((v1 / (M.1 162 2)) - (v2 / (M.1 162 2)))) M _ h kr
def f_Mod_canBridge (v1 : Int32) (v2 : Int32) (M : Mem) : Option (Int32) :=
  Option.bind (f_Mod_between v1 v2 M) fun x1 =>
  if x1 = (-1 : Int32) then
  some (0 : Int32)
  else
  Option.bind (f_Mod_isOf (1 : Int32) v1 M) fun x2 =>
  if x2 = 0 then
  some (0 : Int32)
  else
  Option.bind (f_Mod_isOf (1 : Int32) v2 M) fun x3 =>
  if x3 = 0 then
  some (0 : Int32)
  else
  Option.bind (f_Mod_isOf (1 : Int32) x1 M) fun x4 =>
  if x4 = 0 then
  some (1 : Int32)
  else
  some (0 : Int32)
theorem c_Mod_canBridge (l : Launch) (G : Gw)  (v1 : Int32) (v2 : Int32) (M : Mem) (x : Int32) (h : f_Mod_canBridge v1 v2 M = some x) (d : Nat) (hD : 4 ≤ d) : Ci l G y_Mod_canBridge b_Mod_canBridge 4 (some .boolean) d [.ref (G.2.2 + 162), .int v1, .int v2] M (fun r9 M9 => r9 = x ∧ M9 = M) := by
  refine Ci_of (by decide) (Nat.le_of_ble_eq_true rfl) (fun E hE X => ?_)
  subst hE
  have kr : ∀ x9 : Int32, x = x9 → (fun r9 M9 => r9 = x ∧ M9 = M) x9 M := fun x9 e9 => by subst e9; exact ⟨rfl, rfl⟩
  unfold f_Mod_canBridge at h
  refine V_aload_n (n := 0) X d_Mod_canBridge_0 rfl rfl rfl ?_
  refine V_iload_n (n := 1) X d_Mod_canBridge_1 rfl rfl rfl ?_
  refine V_iload_n (n := 2) X d_Mod_canBridge_2 rfl rfl rfl ?_
  obtain ⟨x1, hx1, h⟩ := ob_s h
  refine V_ci (As := [.int v1, .int v2]) X (Z0 E) ml_Mod_280 yq_Mod_between (c_Mod_between E.2.1 G v1 v2 M x1 hx1 _ (Nat.le_refl _)) kd_162 rfl rfl (by omega) rfl (Nat.le_of_ble_eq_true rfl) d_Mod_canBridge_3 rfl (fun r9 M9 hq => ?_)
  rw [hq.1, hq.2]
  refine V_istore_n (lv' := [(3, .int x1), (0, .ref (G.2.2 + 162)), (1, .int v1), (2, .int v2)]) X d_Mod_canBridge_6 rfl (by decide) rfl rfl ?_
  refine V_iload_n (n := 0) X d_Mod_canBridge_7 rfl rfl rfl ?_
  refine V_iconst (v := -1) X d_Mod_canBridge_8 (by decide) rfl ?_
  refine V_icmp_eq (tgt := 43) X d_Mod_canBridge_9 (by decide) rfl (fun c8 => ?_) (fun c8 => ?_)
  · rw [if_pos c8] at h
    refine V_iconst (v := 0) X d_Mod_canBridge_43 (by decide) rfl ?_
    exact V_zret X (kr (0 : Int32) (Option.some.inj h).symm) (by decide) d_Mod_canBridge_44
  · rw [if_neg c8] at h
    refine V_aload_n (n := 1) X d_Mod_canBridge_12 rfl rfl rfl ?_
    refine V_iconst (v := 1) X d_Mod_canBridge_13 (by decide) rfl ?_
    refine V_iload_n (n := 2) X d_Mod_canBridge_14 rfl rfl rfl ?_
    obtain ⟨x2, hx2, h⟩ := ob_s h
    refine V_ci (As := [.int (1 : Int32), .int v1]) X (Z0 E) ml_Mod_140 yq_Mod_isOf (c_Mod_isOf E.2.1 G (1 : Int32) v1 M x2 hx2 _ (Nat.le_refl _)) kd_162 rfl rfl (by omega) rfl (Nat.le_of_ble_eq_true rfl) d_Mod_canBridge_15 rfl (fun r9 M9 hq => ?_)
    rw [hq.1, hq.2]
    refine V_if_eq (tgt := 43) X d_Mod_canBridge_18 (by decide) rfl (fun c7 => ?_) (fun c7 => ?_)
    · rw [if_pos c7] at h
      refine V_iconst (v := 0) X d_Mod_canBridge_43 (by decide) rfl ?_
      exact V_zret X (kr (0 : Int32) (Option.some.inj h).symm) (by decide) d_Mod_canBridge_44
    · rw [if_neg c7] at h
      refine V_aload_n (n := 1) X d_Mod_canBridge_21 rfl rfl rfl ?_
      refine V_iconst (v := 1) X d_Mod_canBridge_22 (by decide) rfl ?_
      refine V_iload_n (n := 3) X d_Mod_canBridge_23 rfl rfl rfl ?_
      obtain ⟨x3, hx3, h⟩ := ob_s h
      refine V_ci (As := [.int (1 : Int32), .int v2]) X (Z0 E) ml_Mod_140 yq_Mod_isOf (c_Mod_isOf E.2.1 G (1 : Int32) v2 M x3 hx3 _ (Nat.le_refl _)) kd_162 rfl rfl (by omega) rfl (Nat.le_of_ble_eq_true rfl) d_Mod_canBridge_24 rfl (fun r9 M9 hq => ?_)
      rw [hq.1, hq.2]
      refine V_if_eq (tgt := 43) X d_Mod_canBridge_27 (by decide) rfl (fun c6 => ?_) (fun c6 => ?_)
      · rw [if_pos c6] at h
        refine V_iconst (v := 0) X d_Mod_canBridge_43 (by decide) rfl ?_
        exact V_zret X (kr (0 : Int32) (Option.some.inj h).symm) (by decide) d_Mod_canBridge_44
      · rw [if_neg c6] at h
        refine V_aload_n (n := 1) X d_Mod_canBridge_30 rfl rfl rfl ?_
        refine V_iconst (v := 1) X d_Mod_canBridge_31 (by decide) rfl ?_
        refine V_iload_n (n := 0) X d_Mod_canBridge_32 rfl rfl rfl ?_
        obtain ⟨x4, hx4, h⟩ := ob_s h
        refine V_ci (As := [.int (1 : Int32), .int x1]) X (Z0 E) ml_Mod_140 yq_Mod_isOf (c_Mod_isOf E.2.1 G (1 : Int32) x1 M x4 hx4 _ (Nat.le_refl _)) kd_162 rfl rfl (by omega) rfl (Nat.le_of_ble_eq_true rfl) d_Mod_canBridge_33 rfl (fun r9 M9 hq => ?_)
        rw [hq.1, hq.2]
        refine V_if_ne (tgt := 43) X d_Mod_canBridge_36 (by decide) rfl (fun c5 => ?_) (fun c5 => ?_)
        · rw [if_neg c5] at h
          refine V_iconst (v := 0) X d_Mod_canBridge_43 (by decide) rfl ?_
          exact V_zret X (kr (0 : Int32) (Option.some.inj h).symm) (by decide) d_Mod_canBridge_44
        · rw [if_pos c5] at h
          refine V_iconst (v := 1) X d_Mod_canBridge_39 (by decide) rfl ?_
          refine V_goto (pc' := 44) X d_Mod_canBridge_40 (by decide) ?_
          exact V_zret X (kr (1 : Int32) (Option.some.inj h).symm) (by decide) d_Mod_canBridge_44
def f_Mod_plankRefusal (v1 : Int32) (v2 : Int32) (M : Mem) : Option (Int32) :=
  Option.bind (f_Mod_isCell v1 M) fun x1 =>
  if x1 = 0 then
  some (-1 : Int32)
  else
  Option.bind (f_Mod_isCell v2 M) fun x2 =>
  if x2 = 0 then
  some (-1 : Int32)
  else
  Option.bind (f_Mod_canBridge v1 v2 M) fun x3 =>
  if x3 = 0 then
  some (-2 : Int32)
  else
  Option.bind (f_Mod_isPlank 163 v1 v2 M) fun x4 =>
  if x4 = 0 then
  if (M.1 163 (92 : Int32).toNatClampNeg) = (6 : Int32) then
  some (-4 : Int32)
  else
  some (0 : Int32)
  else
  some (-3 : Int32)
theorem c_Mod_plankRefusal (l : Launch) (G : Gw)  (v1 : Int32) (v2 : Int32) (M : Mem) (x : Int32) (h : f_Mod_plankRefusal v1 v2 M = some x) (d : Nat) (hD : 5 ≤ d) : Ci l G y_Mod_plankRefusal b_Mod_plankRefusal 3 (some .int) d [.ref (G.2.2 + 162), .int v1, .int v2] M (fun r9 M9 => r9 = x ∧ M9 = M) := by
  refine Ci_of (by decide) (Nat.le_of_ble_eq_true rfl) (fun E hE X => ?_)
  subst hE
  have kr : ∀ x9 : Int32, x = x9 → (fun r9 M9 => r9 = x ∧ M9 = M) x9 M := fun x9 e9 => by subst e9; exact ⟨rfl, rfl⟩
  unfold f_Mod_plankRefusal at h
  refine V_aload_n (n := 0) X d_Mod_plankRefusal_0 rfl rfl rfl ?_
  refine V_iload_n (n := 1) X d_Mod_plankRefusal_1 rfl rfl rfl ?_
  obtain ⟨x1, hx1, h⟩ := ob_s h
  refine V_ci (As := [.int v1]) X (Z0 E) ml_Mod_137 yq_Mod_isCell (c_Mod_isCell E.2.1 G v1 M x1 hx1 _ (Nat.le_refl _)) kd_162 rfl rfl (by omega) rfl (Nat.le_of_ble_eq_true rfl) d_Mod_plankRefusal_2 rfl (fun r9 M9 hq => ?_)
  rw [hq.1, hq.2]
  refine V_if_eq (tgt := 16) X d_Mod_plankRefusal_5 (by decide) rfl (fun c9 => ?_) (fun c9 => ?_)
  · rw [if_pos c9] at h
    refine V_iconst (v := -1) X d_Mod_plankRefusal_16 (by decide) rfl ?_
    exact V_iret X (kr (-1 : Int32) (Option.some.inj h).symm) d_Mod_plankRefusal_17
  · rw [if_neg c9] at h
    refine V_aload_n (n := 0) X d_Mod_plankRefusal_8 rfl rfl rfl ?_
    refine V_iload_n (n := 2) X d_Mod_plankRefusal_9 rfl rfl rfl ?_
    obtain ⟨x2, hx2, h⟩ := ob_s h
    refine V_ci (As := [.int v2]) X (Z0 E) ml_Mod_137 yq_Mod_isCell (c_Mod_isCell E.2.1 G v2 M x2 hx2 _ (Nat.le_refl _)) kd_162 rfl rfl (by omega) rfl (Nat.le_of_ble_eq_true rfl) d_Mod_plankRefusal_10 rfl (fun r9 M9 hq => ?_)
    rw [hq.1, hq.2]
    refine V_if_ne (tgt := 18) X d_Mod_plankRefusal_13 (by decide) rfl (fun c8 => ?_) (fun c8 => ?_)
    · rw [if_neg c8] at h
      refine V_aload_n (n := 0) X d_Mod_plankRefusal_18 rfl rfl rfl ?_
      refine V_iload_n (n := 1) X d_Mod_plankRefusal_19 rfl rfl rfl ?_
      refine V_iload_n (n := 2) X d_Mod_plankRefusal_20 rfl rfl rfl ?_
      obtain ⟨x3, hx3, h⟩ := ob_s h
      refine V_ci (As := [.int v1, .int v2]) X (Z0 E) ml_Mod_283 yq_Mod_canBridge (c_Mod_canBridge E.2.1 G v1 v2 M x3 hx3 _ (Nat.le_refl _)) kd_162 rfl rfl (by omega) rfl (Nat.le_of_ble_eq_true rfl) d_Mod_plankRefusal_21 rfl (fun r9 M9 hq => ?_)
      rw [hq.1, hq.2]
      refine V_if_ne (tgt := 30) X d_Mod_plankRefusal_24 (by decide) rfl (fun c7 => ?_) (fun c7 => ?_)
      · rw [if_neg c7] at h
        refine V_aload_n (n := 0) X d_Mod_plankRefusal_30 rfl rfl rfl ?_
        refine V_getr (k2 := 163) X fo_Mod_9 kd_162 rfl rf_162_0 d_Mod_plankRefusal_31 rfl ?_
        refine V_iload_n (n := 1) X d_Mod_plankRefusal_34 rfl rfl rfl ?_
        refine V_iload_n (n := 2) X d_Mod_plankRefusal_35 rfl rfl rfl ?_
        obtain ⟨x4, hx4, h⟩ := ob_s h
        refine V_si (As := [.ref (G.2.2 + 163), .int v1, .int v2]) X (Z0 E) ml_Mod_157 yq_Mod_isPlank (c_Mod_isPlank E.2.1 G 163 v1 v2 M x4 hx4 _ (Nat.le_refl _)) rfl (by omega) rfl (Nat.le_of_ble_eq_true rfl) d_Mod_plankRefusal_36 rfl (fun r9 M9 hq => ?_)
        rw [hq.1, hq.2]
        refine V_if_eq (tgt := 45) X d_Mod_plankRefusal_39 (by decide) rfl (fun c6 => ?_) (fun c6 => ?_)
        · rw [if_pos c6] at h
          refine V_aload_n (n := 0) X d_Mod_plankRefusal_45 rfl rfl rfl ?_
          refine V_getr (k2 := 163) X fo_Mod_9 kd_162 rfl rf_162_0 d_Mod_plankRefusal_46 rfl ?_
          refine V_bipush (v := 92) X d_Mod_plankRefusal_49 (by decide) rfl ?_
          refine V_iald X kd_163 (inb_in ln_163 (by decide)) d_Mod_plankRefusal_51 rfl ?_
          refine V_bipush (v := 6) X d_Mod_plankRefusal_52 (by decide) rfl ?_
          refine V_icmp_ne (tgt := 62) X d_Mod_plankRefusal_54 (by decide) rfl (fun c5 => ?_) (fun c5 => ?_)
          · rw [if_neg c5] at h
            refine V_iconst (v := 0) X d_Mod_plankRefusal_62 (by decide) rfl ?_
            exact V_iret X (kr (0 : Int32) (Option.some.inj h).symm) d_Mod_plankRefusal_63
          · rw [if_pos c5] at h
            refine V_bipush (v := -4) X d_Mod_plankRefusal_57 (by decide) rfl ?_
            refine V_goto (pc' := 63) X d_Mod_plankRefusal_59 (by decide) ?_
            exact V_iret X (kr (-4 : Int32) (Option.some.inj h).symm) d_Mod_plankRefusal_63
        · rw [if_neg c6] at h
          refine V_bipush (v := -3) X d_Mod_plankRefusal_42 (by decide) rfl ?_
          exact V_iret X (kr (-3 : Int32) (Option.some.inj h).symm) d_Mod_plankRefusal_44
      · rw [if_pos c7] at h
        refine V_bipush (v := -2) X d_Mod_plankRefusal_27 (by decide) rfl ?_
        exact V_iret X (kr (-2 : Int32) (Option.some.inj h).symm) d_Mod_plankRefusal_29
    · rw [if_pos c8] at h
      refine V_iconst (v := -1) X d_Mod_plankRefusal_16 (by decide) rfl ?_
      exact V_iret X (kr (-1 : Int32) (Option.some.inj h).symm) d_Mod_plankRefusal_17
def f_Mod_layPlank (v1 : Int32) (v2 : Int32) (M : Mem) : Option (Mem) :=
  if inb ((80 : Int32) + ((2 : Int32) * (M.1 163 (92 : Int32).toNatClampNeg))) 96 = true then
  mem_ (s_i M 163 ((80 : Int32) + ((2 : Int32) * (M.1 163 (92 : Int32).toNatClampNeg))).toNatClampNeg v1) fun M1 =>
  if inb (((80 : Int32) + ((2 : Int32) * (M.1 163 (92 : Int32).toNatClampNeg))) + (1 : Int32)) 96 = true then
  mem_ (s_i M1 163 (((80 : Int32) + ((2 : Int32) * (M.1 163 (92 : Int32).toNatClampNeg))) + (1 : Int32)).toNatClampNeg v2) fun M2 =>
  mem_ (s_i M2 163 (92 : Int32).toNatClampNeg ((M2.1 163 (92 : Int32).toNatClampNeg) + (1 : Int32))) fun M3 =>
  some M3
  else none
  else none
theorem c_Mod_layPlank (l : Launch) (G : Gw)  (v1 : Int32) (v2 : Int32) (M : Mem) (x : Mem) (h : f_Mod_layPlank v1 v2 M = some x) (d : Nat) (hD : 1 ≤ d) : Cv l G y_Mod_layPlank b_Mod_layPlank 4 none d [.ref (G.2.2 + 162), .int v1, .int v2] M (fun M9 => M9 = x) := by
  refine Cv_of (by decide) (Nat.le_of_ble_eq_true rfl) (fun E hE X => ?_)
  subst hE
  have kr : ∀ x9 : Mem, x = x9 → (fun M9 => M9 = x) x9 := fun x9 e9 => by subst e9; exact rfl
  unfold f_Mod_layPlank at h
  refine V_bipush (v := 80) X d_Mod_layPlank_0 (by decide) rfl ?_
  refine V_iconst (v := 2) X d_Mod_layPlank_2 (by decide) rfl ?_
  refine V_aload_n (n := 0) X d_Mod_layPlank_3 rfl rfl rfl ?_
  refine V_getr (k2 := 163) X fo_Mod_9 kd_162 rfl rf_162_0 d_Mod_layPlank_4 rfl ?_
  refine V_bipush (v := 92) X d_Mod_layPlank_7 (by decide) rfl ?_
  refine V_iald X kd_163 (inb_in ln_163 (by decide)) d_Mod_layPlank_9 rfl ?_
  refine V_imul X d_Mod_layPlank_10 rfl ?_
  refine V_iadd X d_Mod_layPlank_11 rfl ?_
  refine V_istore_n (lv' := [(3, .int ((80 : Int32) + ((2 : Int32) * (M.1 163 (92 : Int32).toNatClampNeg)))), (0, .ref (G.2.2 + 162)), (1, .int v1), (2, .int v2)]) X d_Mod_layPlank_12 rfl (by decide) rfl rfl ?_
  refine V_aload_n (n := 1) X d_Mod_layPlank_13 rfl rfl rfl ?_
  refine V_getr (k2 := 163) X fo_Mod_9 kd_162 rfl rf_162_0 d_Mod_layPlank_14 rfl ?_
  refine V_iload_n (n := 0) X d_Mod_layPlank_17 rfl rfl rfl ?_
  refine V_iload_n (n := 2) X d_Mod_layPlank_18 rfl rfl rfl ?_
  obtain ⟨hb, h⟩ := ifn h
  obtain ⟨M1, eM1, h⟩ := memS h
  refine V_iast X kd_163 (inb_in ln_163 hb) d_Mod_layPlank_19 rfl ?_
  rw [← eM1]
  refine V_aload_n (n := 1) X d_Mod_layPlank_20 rfl rfl rfl ?_
  refine V_getr (k2 := 163) X fo_Mod_9 kd_162 rfl rf_162_0 d_Mod_layPlank_21 rfl ?_
  refine V_iload_n (n := 0) X d_Mod_layPlank_24 rfl rfl rfl ?_
  refine V_iconst (v := 1) X d_Mod_layPlank_25 (by decide) rfl ?_
  refine V_iadd X d_Mod_layPlank_26 rfl ?_
  refine V_iload_n (n := 3) X d_Mod_layPlank_27 rfl rfl rfl ?_
  obtain ⟨hb, h⟩ := ifn h
  obtain ⟨M2, eM2, h⟩ := memS h
  refine V_iast X kd_163 (inb_in ln_163 hb) d_Mod_layPlank_28 rfl ?_
  rw [← eM2]
  refine V_aload_n (n := 1) X d_Mod_layPlank_29 rfl rfl rfl ?_
  refine V_getr (k2 := 163) X fo_Mod_9 kd_162 rfl rf_162_0 d_Mod_layPlank_30 rfl ?_
  refine V_bipush (v := 92) X d_Mod_layPlank_33 (by decide) rfl ?_
  refine V_dup2 X d_Mod_layPlank_35 rfl rfl rfl ?_
  refine V_iald X kd_163 (inb_in ln_163 (by decide)) d_Mod_layPlank_36 rfl ?_
  refine V_iconst (v := 1) X d_Mod_layPlank_37 (by decide) rfl ?_
  refine V_iadd X d_Mod_layPlank_38 rfl ?_
  obtain ⟨M3, eM3, h⟩ := memS h
  refine V_iast X kd_163 (inb_in ln_163 (by decide)) d_Mod_layPlank_39 rfl ?_
  rw [← eM3]
  exact V_vret X (kr M3 (Option.some.inj h).symm) d_Mod_layPlank_40
def lb_Mod_lay_2 (v0 : Nat) (v1 : Nat) (v2 : Int32) (s : Int32 × Mem) : Option ((Int32 × Mem) ⊕ ((Mem))) :=
  if (96 : Int32) ≤ s.1 then
  some (.inr s.2)
  else
  if inb s.1 (ln v0) = true then
  if inb (v2 + s.1) (ln v1) = true then
  mem_ (s_i s.2 v1 (v2 + s.1).toNatClampNeg (s.2.1 v0 s.1.toNatClampNeg)) fun M1 =>
  some (.inl ((s.1 + (1 : Int32)), M1))
  else none
  else none
theorem lb_Mod_lay_2_ok {E : Ev} {G : Gw} {d : Nat} {post : Mem → Prop} (X : Cx E G b_Mod_lay "WomenByTheRoofsModel" 4 d none) (hD : 1 ≤ d)  (v0 : Nat) (v1 : Nat) (v2 : Int32) (hk_v0 : kd v0 = 1) (hk_v1 : kd v1 = 1)  (s : Int32 × Mem) (o : (Int32 × Mem) ⊕ ((Mem))) (h : lb_Mod_lay_2 v0 v1 v2 s = some o) (kc : ∀ s9 : Int32 × Mem, o = .inl s9 → V E (0, 0) G 4 (QV E G post) s9.2 2 [(0, .ref (G.2.2 + v0)), (1, .ref (G.2.2 + v1)), (2, .int v2), (3, .int s9.1)] []) (kx0 : ∀ x9 : Mem, o = .inr x9 → V E (0, 0) G 4 (QV E G post) x9 22 [] []) : V E (0, 0) G 4 (QV E G post) s.2 2 [(0, .ref (G.2.2 + v0)), (1, .ref (G.2.2 + v1)), (2, .int v2), (3, .int s.1)] [] := by
  unfold lb_Mod_lay_2 at h
  refine V_iload_n (n := 3) X d_Mod_lay_2 rfl rfl rfl ?_
  refine V_bipush (v := 96) X d_Mod_lay_3 (by decide) rfl ?_
  refine V_icmp_ge (tgt := 22) X d_Mod_lay_5 (by decide) rfl (fun c2 => ?_) (fun c2 => ?_)
  · rw [if_pos c2] at h
    refine V_sub (lv' := []) [] rfl ?_
    exact kx0 s.2 (Option.some.inj h).symm
  · rw [if_neg c2] at h
    refine V_aload_n (n := 1) X d_Mod_lay_8 rfl rfl rfl ?_
    refine V_iload_n (n := 2) X d_Mod_lay_9 rfl rfl rfl ?_
    refine V_iload_n (n := 3) X d_Mod_lay_10 rfl rfl rfl ?_
    refine V_iadd X d_Mod_lay_11 rfl ?_
    refine V_aload_n (n := 0) X d_Mod_lay_12 rfl rfl rfl ?_
    refine V_iload_n (n := 3) X d_Mod_lay_13 rfl rfl rfl ?_
    obtain ⟨hb, h⟩ := ifn h
    refine V_iald X hk_v0 (inb_in rfl hb) d_Mod_lay_14 rfl ?_
    obtain ⟨hb, h⟩ := ifn h
    obtain ⟨M1, eM1, h⟩ := memS h
    refine V_iast X hk_v1 (inb_in rfl hb) d_Mod_lay_15 rfl ?_
    rw [← eM1]
    refine V_iinc (n := 3) (v := (s.1 + (1 : Int32))) (lv' := [(3, .int (s.1 + (1 : Int32))), (0, .ref (G.2.2 + v0)), (1, .ref (G.2.2 + v1)), (2, .int v2)]) X d_Mod_lay_16 rfl rfl (by decide) rfl rfl ?_
    refine V_goto (pc' := 2) X d_Mod_lay_19 (by decide) ?_
    refine V_sub (lv' := [(0, .ref (G.2.2 + v0)), (1, .ref (G.2.2 + v1)), (2, .int v2), (3, .int (s.1 + (1 : Int32)))]) [1, 2, 3, 0] rfl ?_
    exact kc ((s.1 + (1 : Int32)), M1) (Option.some.inj h).symm
theorem lp_Mod_lay_2_ok {E : Ev} {G : Gw} {d : Nat} {post : Mem → Prop} (X : Cx E G b_Mod_lay "WomenByTheRoofsModel" 4 d none) (hD : 1 ≤ d)  (v0 : Nat) (v1 : Nat) (v2 : Int32) (hk_v0 : kd v0 = 1) (hk_v1 : kd v1 = 1)  (n9 : Nat) (s : Int32 × Mem) (x : (Mem)) (h : iter (lb_Mod_lay_2 v0 v1 v2) n9 s = some x) (kx0 : ∀ x9 : Mem, x = x9 → V E (0, 0) G 4 (QV E G post) x9 22 [] []) : V E (0, 0) G 4 (QV E G post) s.2 2 [(0, .ref (G.2.2 + v0)), (1, .ref (G.2.2 + v1)), (2, .int v2), (3, .int s.1)] [] :=
  iter_P (P := fun s : Int32 × Mem => V E (0, 0) G 4 (QV E G post) s.2 2 [(0, .ref (G.2.2 + v0)), (1, .ref (G.2.2 + v1)), (2, .int v2), (3, .int s.1)] []) (fun s o hb kc ky => lb_Mod_lay_2_ok X hD v0 v1 v2 hk_v0 hk_v1 s o hb kc (fun x9 e9 => kx0 x9 (ky _ e9).symm)) n9 s h
def f_Mod_lay (v0 : Nat) (v1 : Nat) (v2 : Int32) (M : Mem) : Option (Mem) :=
  if kd v0 = 1 then
  if kd v1 = 1 then
  Option.bind (iter (lb_Mod_lay_2 v0 v1 v2) FU ((0 : Int32), M)) fun x3 =>
  some x3
  else none
  else none
theorem c_Mod_lay (l : Launch) (G : Gw)  (v0 : Nat) (v1 : Nat) (v2 : Int32) (M : Mem) (x : Mem) (h : f_Mod_lay v0 v1 v2 M = some x) (d : Nat) (hD : 1 ≤ d) : Cv l G y_Mod_lay b_Mod_lay 4 none d [.ref (G.2.2 + v0), .ref (G.2.2 + v1), .int v2] M (fun M9 => M9 = x) := by
  refine Cv_of (by decide) (Nat.le_of_ble_eq_true rfl) (fun E hE X => ?_)
  subst hE
  have kr : ∀ x9 : Mem, x = x9 → (fun M9 => M9 = x) x9 := fun x9 e9 => by subst e9; exact rfl
  unfold f_Mod_lay at h
  obtain ⟨hk_v0, h⟩ := ifn h
  obtain ⟨hk_v1, h⟩ := ifn h
  refine V_iconst (v := 0) X d_Mod_lay_0 (by decide) rfl ?_
  refine V_istore_n (lv' := [(3, .int (0 : Int32)), (0, .ref (G.2.2 + v0)), (1, .ref (G.2.2 + v1)), (2, .int v2)]) X d_Mod_lay_1 rfl (by decide) rfl rfl ?_
  refine V_sub (lv' := [(0, .ref (G.2.2 + v0)), (1, .ref (G.2.2 + v1)), (2, .int v2), (3, .int (0 : Int32))]) [1, 2, 3, 0] rfl ?_
  obtain ⟨x3, hx3, h⟩ := ob_s h
  refine (lp_Mod_lay_2_ok X hD v0 v1 v2 hk_v0 hk_v1 _ _ _ hx3 (fun x9 e9 => ?_) :)
  subst e9
  exact V_vret X (kr x3 (Option.some.inj h).symm) d_Mod_lay_22
def j_Mod_remember_49 (v1 : Nat) (M : Mem) : Option (Mem) :=
  Option.bind (f_Mod_lay v1 173 ((96 : Int32) * (M.1 162 27)) M) fun x1 =>
  mem_ (s_i x1 162 27 ((x1.1 162 27) + (1 : Int32))) fun M2 =>
  some M2
theorem j_Mod_remember_49_ok {E : Ev} {G : Gw} {d : Nat} {post : Mem → Prop} (X : Cx E G b_Mod_remember "WomenByTheRoofsModel" 3 d none) (hD : 2 ≤ d)  (v1 : Nat) (hk_v1 : kd v1 = 1)  (M : Mem)  (o : Mem) (h : j_Mod_remember_49 v1 M = some o) (kr : ∀ x9 : Mem, o = x9 → post x9) : V E (0, 0) G 3 (QV E G post) M 49 [(0, .ref (G.2.2 + 162)), (1, .ref (G.2.2 + v1))] [] := by
  unfold j_Mod_remember_49 at h
  refine V_aload_n (n := 1) X d_Mod_remember_49 rfl rfl rfl ?_
  refine V_aload_n (n := 0) X d_Mod_remember_50 rfl rfl rfl ?_
  refine V_getr (k2 := 173) X fo_Mod_51 kd_162 rfl rf_162_26 d_Mod_remember_51 rfl ?_
  refine V_bipush (v := 96) X d_Mod_remember_54 (by decide) rfl ?_
  refine V_aload_n (n := 0) X d_Mod_remember_56 rfl rfl rfl ?_
  refine V_geti X fo_Mod_201 kd_162 rfl d_Mod_remember_57 rfl ?_
  refine V_imul X d_Mod_remember_60 rfl ?_
  obtain ⟨x1, hx1, h⟩ := ob_s h
  refine V_sv (As := [.ref (G.2.2 + v1), .ref (G.2.2 + 173), .int ((96 : Int32) * (M.1 162 27))]) X (Z0 E) ml_Mod_286 yq_Mod_lay (c_Mod_lay E.2.1 G v1 173 ((96 : Int32) * (M.1 162 27)) M x1 hx1 _ (Nat.le_refl _)) rfl (by omega) rfl (Nat.le_of_ble_eq_true rfl) d_Mod_remember_61 rfl (fun M9 hq => ?_)
  rw [hq]
  refine V_aload_n (n := 0) X d_Mod_remember_64 rfl rfl rfl ?_
  refine V_dup X d_Mod_remember_65 rfl rfl ?_
  refine V_geti X fo_Mod_201 kd_162 rfl d_Mod_remember_66 rfl ?_
  refine V_iconst (v := 1) X d_Mod_remember_69 (by decide) rfl ?_
  refine V_iadd X d_Mod_remember_70 rfl ?_
  obtain ⟨M2, eM2, h⟩ := memS h
  refine V_putI X fp_Mod_201 kd_162 rfl d_Mod_remember_71 rfl ?_
  rw [← eM2]
  exact V_vret X (kr M2 (Option.some.inj h).symm) d_Mod_remember_74
def lb_Mod_remember_11 (v1 : Nat) (s : Int32 × Mem) : Option ((Int32 × Mem) ⊕ ((Mem))) :=
  if (1056 : Int32) ≤ s.1 then
  some (.inr s.2)
  else
  if inb (s.1 + (96 : Int32)) 1152 = true then
  if inb s.1 1152 = true then
  mem_ (s_i s.2 173 s.1.toNatClampNeg (s.2.1 173 (s.1 + (96 : Int32)).toNatClampNeg)) fun M3 =>
  some (.inl ((s.1 + (1 : Int32)), M3))
  else none
  else none
theorem lb_Mod_remember_11_ok {E : Ev} {G : Gw} {d : Nat} {post : Mem → Prop} (X : Cx E G b_Mod_remember "WomenByTheRoofsModel" 3 d none) (hD : 2 ≤ d)  (v1 : Nat) (hk_v1 : kd v1 = 1)  (s : Int32 × Mem) (o : (Int32 × Mem) ⊕ ((Mem))) (h : lb_Mod_remember_11 v1 s = some o) (kc : ∀ s9 : Int32 × Mem, o = .inl s9 → V E (0, 0) G 3 (QV E G post) s9.2 11 [(0, .ref (G.2.2 + 162)), (1, .ref (G.2.2 + v1)), (2, .int s9.1)] []) (kx0 : ∀ x9 : Mem, o = .inr x9 → V E (0, 0) G 3 (QV E G post) x9 39 [(0, .ref (G.2.2 + 162)), (1, .ref (G.2.2 + v1))] []) : V E (0, 0) G 3 (QV E G post) s.2 11 [(0, .ref (G.2.2 + 162)), (1, .ref (G.2.2 + v1)), (2, .int s.1)] [] := by
  unfold lb_Mod_remember_11 at h
  refine V_iload_n (n := 2) X d_Mod_remember_11 rfl rfl rfl ?_
  refine V_sipush (v := 1056) X d_Mod_remember_12 (by decide) rfl ?_
  refine V_icmp_ge (tgt := 39) X d_Mod_remember_15 (by decide) rfl (fun c4 => ?_) (fun c4 => ?_)
  · rw [if_pos c4] at h
    refine V_sub (lv' := [(0, .ref (G.2.2 + 162)), (1, .ref (G.2.2 + v1))]) [0, 1] rfl ?_
    exact kx0 s.2 (Option.some.inj h).symm
  · rw [if_neg c4] at h
    refine V_aload_n (n := 0) X d_Mod_remember_18 rfl rfl rfl ?_
    refine V_getr (k2 := 173) X fo_Mod_51 kd_162 rfl rf_162_26 d_Mod_remember_19 rfl ?_
    refine V_iload_n (n := 2) X d_Mod_remember_22 rfl rfl rfl ?_
    refine V_aload_n (n := 0) X d_Mod_remember_23 rfl rfl rfl ?_
    refine V_getr (k2 := 173) X fo_Mod_51 kd_162 rfl rf_162_26 d_Mod_remember_24 rfl ?_
    refine V_iload_n (n := 2) X d_Mod_remember_27 rfl rfl rfl ?_
    refine V_bipush (v := 96) X d_Mod_remember_28 (by decide) rfl ?_
    refine V_iadd X d_Mod_remember_30 rfl ?_
    obtain ⟨hb, h⟩ := ifn h
    refine V_iald X kd_173 (inb_in ln_173 hb) d_Mod_remember_31 rfl ?_
    obtain ⟨hb, h⟩ := ifn h
    obtain ⟨M3, eM3, h⟩ := memS h
    refine V_iast X kd_173 (inb_in ln_173 hb) d_Mod_remember_32 rfl ?_
    rw [← eM3]
    refine V_iinc (n := 2) (v := (s.1 + (1 : Int32))) (lv' := [(2, .int (s.1 + (1 : Int32))), (0, .ref (G.2.2 + 162)), (1, .ref (G.2.2 + v1))]) X d_Mod_remember_33 rfl rfl (by decide) rfl rfl ?_
    refine V_goto (pc' := 11) X d_Mod_remember_36 (by decide) ?_
    refine V_sub (lv' := [(0, .ref (G.2.2 + 162)), (1, .ref (G.2.2 + v1)), (2, .int (s.1 + (1 : Int32)))]) [1, 2, 0] rfl ?_
    exact kc ((s.1 + (1 : Int32)), M3) (Option.some.inj h).symm
theorem lp_Mod_remember_11_ok {E : Ev} {G : Gw} {d : Nat} {post : Mem → Prop} (X : Cx E G b_Mod_remember "WomenByTheRoofsModel" 3 d none) (hD : 2 ≤ d)  (v1 : Nat) (hk_v1 : kd v1 = 1)  (n9 : Nat) (s : Int32 × Mem) (x : (Mem)) (h : iter (lb_Mod_remember_11 v1) n9 s = some x) (kx0 : ∀ x9 : Mem, x = x9 → V E (0, 0) G 3 (QV E G post) x9 39 [(0, .ref (G.2.2 + 162)), (1, .ref (G.2.2 + v1))] []) : V E (0, 0) G 3 (QV E G post) s.2 11 [(0, .ref (G.2.2 + 162)), (1, .ref (G.2.2 + v1)), (2, .int s.1)] [] :=
  iter_P (P := fun s : Int32 × Mem => V E (0, 0) G 3 (QV E G post) s.2 11 [(0, .ref (G.2.2 + 162)), (1, .ref (G.2.2 + v1)), (2, .int s.1)] []) (fun s o hb kc ky => lb_Mod_remember_11_ok X hD v1 hk_v1 s o hb kc (fun x9 e9 => kx0 x9 (ky _ e9).symm)) n9 s h
def f_Mod_remember (v1 : Nat) (M : Mem) : Option (Mem) :=
  if kd v1 = 1 then
  if (M.1 162 27) = (12 : Int32) then
  Option.bind (iter (lb_Mod_remember_11 v1) FU ((0 : Int32), M)) fun x5 =>
  mem_ (s_i x5 162 27 ((x5.1 162 27) - (1 : Int32))) fun M6 =>
  j_Mod_remember_49 v1 M6
  else
  j_Mod_remember_49 v1 M
  else none
theorem c_Mod_remember (l : Launch) (G : Gw)  (v1 : Nat) (M : Mem) (x : Mem) (h : f_Mod_remember v1 M = some x) (d : Nat) (hD : 2 ≤ d) : Cv l G y_Mod_remember b_Mod_remember 3 none d [.ref (G.2.2 + 162), .ref (G.2.2 + v1)] M (fun M9 => M9 = x) := by
  refine Cv_of (by decide) (Nat.le_of_ble_eq_true rfl) (fun E hE X => ?_)
  subst hE
  have kr : ∀ x9 : Mem, x = x9 → (fun M9 => M9 = x) x9 := fun x9 e9 => by subst e9; exact rfl
  unfold f_Mod_remember at h
  obtain ⟨hk_v1, h⟩ := ifn h
  refine V_aload_n (n := 0) X d_Mod_remember_0 rfl rfl rfl ?_
  refine V_geti X fo_Mod_201 kd_162 rfl d_Mod_remember_1 rfl ?_
  refine V_bipush (v := 12) X d_Mod_remember_4 (by decide) rfl ?_
  refine V_icmp_ne (tgt := 49) X d_Mod_remember_6 (by decide) rfl (fun c7 => ?_) (fun c7 => ?_)
  · rw [if_neg c7] at h
    exact j_Mod_remember_49_ok X hD v1 hk_v1 M _ h kr
  · rw [if_pos c7] at h
    refine V_iconst (v := 0) X d_Mod_remember_9 (by decide) rfl ?_
    refine V_istore_n (lv' := [(2, .int (0 : Int32)), (0, .ref (G.2.2 + 162)), (1, .ref (G.2.2 + v1))]) X d_Mod_remember_10 rfl (by decide) rfl rfl ?_
    refine V_sub (lv' := [(0, .ref (G.2.2 + 162)), (1, .ref (G.2.2 + v1)), (2, .int (0 : Int32))]) [1, 2, 0] rfl ?_
    obtain ⟨x5, hx5, h⟩ := ob_s h
    refine (lp_Mod_remember_11_ok X hD v1 hk_v1 _ _ _ hx5 (fun x9 e9 => ?_) :)
    subst e9
    refine V_aload_n (n := 0) X d_Mod_remember_39 rfl rfl rfl ?_
    refine V_dup X d_Mod_remember_40 rfl rfl ?_
    refine V_geti X fo_Mod_201 kd_162 rfl d_Mod_remember_41 rfl ?_
    refine V_iconst (v := 1) X d_Mod_remember_44 (by decide) rfl ?_
    refine V_isub X d_Mod_remember_45 rfl ?_
    obtain ⟨M6, eM6, h⟩ := memS h
    refine V_putI X fp_Mod_201 kd_162 rfl d_Mod_remember_46 rfl ?_
    rw [← eM6]
    exact j_Mod_remember_49_ok X hD v1 hk_v1 M6 _ h kr
def f_Mod_plank (v1 : Int32) (v2 : Int32) (M : Mem) : Option (Int32 × Mem) :=
  mem_ (s_i M 162 13 (0 : Int32)) fun M1 =>
  Option.bind (f_Mod_plankRefusal v1 v2 M1) fun x2 =>
  if 0 ≤ x2 then
  Option.bind (f_Mod_remember 163 M1) fun x3 =>
  Option.bind (f_Mod_layPlank v1 v2 x3) fun x4 =>
  some (((x4.1 163 (92 : Int32).toNatClampNeg) - (1 : Int32)), x4)
  else
  some (x2, M1)
theorem c_Mod_plank (l : Launch) (G : Gw)  (v1 : Int32) (v2 : Int32) (M : Mem) (x : Int32 × Mem) (h : f_Mod_plank v1 v2 M = some x) (d : Nat) (hD : 6 ≤ d) : Ci l G y_Mod_plank b_Mod_plank 4 (some .int) d [.ref (G.2.2 + 162), .int v1, .int v2] M (fun r9 M9 => r9 = x.1 ∧ M9 = x.2) := by
  refine Ci_of (by decide) (Nat.le_of_ble_eq_true rfl) (fun E hE X => ?_)
  subst hE
  have kr : ∀ x9 : Int32 × Mem, x = x9 → (fun r9 M9 => r9 = x.1 ∧ M9 = x.2) x9.1 x9.2 := fun x9 e9 => by subst e9; exact ⟨rfl, rfl⟩
  unfold f_Mod_plank at h
  refine V_aload_n (n := 0) X d_Mod_plank_0 rfl rfl rfl ?_
  refine V_iconst (v := 0) X d_Mod_plank_1 (by decide) rfl ?_
  obtain ⟨M1, eM1, h⟩ := memS h
  refine V_putI X fp_Mod_109 kd_162 rfl d_Mod_plank_2 rfl ?_
  rw [← eM1]
  refine V_aload_n (n := 0) X d_Mod_plank_5 rfl rfl rfl ?_
  refine V_iload_n (n := 1) X d_Mod_plank_6 rfl rfl rfl ?_
  refine V_iload_n (n := 2) X d_Mod_plank_7 rfl rfl rfl ?_
  obtain ⟨x2, hx2, h⟩ := ob_s h
  refine V_ci (As := [.int v1, .int v2]) X (Z0 E) ml_Mod_290 yq_Mod_plankRefusal (c_Mod_plankRefusal E.2.1 G v1 v2 M1 x2 hx2 _ (Nat.le_refl _)) kd_162 rfl rfl (by omega) rfl (Nat.le_of_ble_eq_true rfl) d_Mod_plank_8 rfl (fun r9 M9 hq => ?_)
  rw [hq.1, hq.2]
  refine V_istore_n (lv' := [(3, .int x2), (0, .ref (G.2.2 + 162)), (1, .int v1), (2, .int v2)]) X d_Mod_plank_11 rfl (by decide) rfl rfl ?_
  refine V_iload_n (n := 0) X d_Mod_plank_12 rfl rfl rfl ?_
  refine V_if_ge (tgt := 18) X d_Mod_plank_13 (by decide) rfl (fun c5 => ?_) (fun c5 => ?_)
  · rw [if_pos c5] at h
    refine V_aload_n (n := 1) X d_Mod_plank_18 rfl rfl rfl ?_
    refine V_aload_n (n := 1) X d_Mod_plank_19 rfl rfl rfl ?_
    refine V_getr (k2 := 163) X fo_Mod_9 kd_162 rfl rf_162_0 d_Mod_plank_20 rfl ?_
    obtain ⟨x3, hx3, h⟩ := ob_s h
    refine V_cv (As := [.ref (G.2.2 + 163)]) X (Z0 E) ml_Mod_293 yq_Mod_remember (c_Mod_remember E.2.1 G 163 M1 x3 hx3 _ (Nat.le_refl _)) kd_162 rfl rfl (by omega) rfl (Nat.le_of_ble_eq_true rfl) d_Mod_plank_23 rfl (fun M9 hq => ?_)
    rw [hq]
    refine V_aload_n (n := 1) X d_Mod_plank_26 rfl rfl rfl ?_
    refine V_iload_n (n := 2) X d_Mod_plank_27 rfl rfl rfl ?_
    refine V_iload_n (n := 3) X d_Mod_plank_28 rfl rfl rfl ?_
    obtain ⟨x4, hx4, h⟩ := ob_s h
    refine V_cv (As := [.int v1, .int v2]) X (Z0 E) ml_Mod_297 yq_Mod_layPlank (c_Mod_layPlank E.2.1 G v1 v2 x3 x4 hx4 _ (Nat.le_refl _)) kd_162 rfl rfl (by omega) rfl (Nat.le_of_ble_eq_true rfl) d_Mod_plank_29 rfl (fun M9 hq => ?_)
    rw [hq]
    refine V_aload_n (n := 1) X d_Mod_plank_32 rfl rfl rfl ?_
    refine V_getr (k2 := 163) X fo_Mod_9 kd_162 rfl rf_162_0 d_Mod_plank_33 rfl ?_
    refine V_bipush (v := 92) X d_Mod_plank_36 (by decide) rfl ?_
    refine V_iald X kd_163 (inb_in ln_163 (by decide)) d_Mod_plank_38 rfl ?_
    refine V_iconst (v := 1) X d_Mod_plank_39 (by decide) rfl ?_
    refine V_isub X d_Mod_plank_40 rfl ?_
    exact V_iret X (kr (((x4.1 163 (92 : Int32).toNatClampNeg) - (1 : Int32)), x4) (Option.some.inj h).symm) d_Mod_plank_41
  · rw [if_neg c5] at h
    refine V_iload_n (n := 0) X d_Mod_plank_16 rfl rfl rfl ?_
    exact V_iret X (kr (x2, M1) (Option.some.inj h).symm) d_Mod_plank_17
def f_Mod_take (M : Mem) : Option (Int32 × Mem) :=
  mem_ (s_i M 162 13 (0 : Int32)) fun M1 =>
  if (M1.1 163 (92 : Int32).toNatClampNeg) = 0 then
  some ((-1 : Int32), M1)
  else
  Option.bind (f_Mod_remember 163 M1) fun x2 =>
  mem_ (s_i x2 163 (92 : Int32).toNatClampNeg ((x2.1 163 (92 : Int32).toNatClampNeg) - (1 : Int32))) fun M3 =>
  some ((M3.1 163 (92 : Int32).toNatClampNeg), M3)
theorem c_Mod_take (l : Launch) (G : Gw)   (M : Mem) (x : Int32 × Mem) (h : f_Mod_take M = some x) (d : Nat) (hD : 3 ≤ d) : Ci l G y_Mod_take b_Mod_take 1 (some .int) d [.ref (G.2.2 + 162)] M (fun r9 M9 => r9 = x.1 ∧ M9 = x.2) := by
  refine Ci_of (by decide) (Nat.le_of_ble_eq_true rfl) (fun E hE X => ?_)
  subst hE
  have kr : ∀ x9 : Int32 × Mem, x = x9 → (fun r9 M9 => r9 = x.1 ∧ M9 = x.2) x9.1 x9.2 := fun x9 e9 => by subst e9; exact ⟨rfl, rfl⟩
  unfold f_Mod_take at h
  refine V_aload_n (n := 0) X d_Mod_take_0 rfl rfl rfl ?_
  refine V_iconst (v := 0) X d_Mod_take_1 (by decide) rfl ?_
  obtain ⟨M1, eM1, h⟩ := memS h
  refine V_putI X fp_Mod_109 kd_162 rfl d_Mod_take_2 rfl ?_
  rw [← eM1]
  refine V_aload_n (n := 0) X d_Mod_take_5 rfl rfl rfl ?_
  refine V_getr (k2 := 163) X fo_Mod_9 kd_162 rfl rf_162_0 d_Mod_take_6 rfl ?_
  refine V_bipush (v := 92) X d_Mod_take_9 (by decide) rfl ?_
  refine V_iald X kd_163 (inb_in ln_163 (by decide)) d_Mod_take_11 rfl ?_
  refine V_if_ne (tgt := 17) X d_Mod_take_12 (by decide) rfl (fun c4 => ?_) (fun c4 => ?_)
  · rw [if_neg c4] at h
    refine V_aload_n (n := 0) X d_Mod_take_17 rfl rfl rfl ?_
    refine V_aload_n (n := 0) X d_Mod_take_18 rfl rfl rfl ?_
    refine V_getr (k2 := 163) X fo_Mod_9 kd_162 rfl rf_162_0 d_Mod_take_19 rfl ?_
    obtain ⟨x2, hx2, h⟩ := ob_s h
    refine V_cv (As := [.ref (G.2.2 + 163)]) X (Z0 E) ml_Mod_293 yq_Mod_remember (c_Mod_remember E.2.1 G 163 M1 x2 hx2 _ (Nat.le_refl _)) kd_162 rfl rfl (by omega) rfl (Nat.le_of_ble_eq_true rfl) d_Mod_take_22 rfl (fun M9 hq => ?_)
    rw [hq]
    refine V_aload_n (n := 0) X d_Mod_take_25 rfl rfl rfl ?_
    refine V_getr (k2 := 163) X fo_Mod_9 kd_162 rfl rf_162_0 d_Mod_take_26 rfl ?_
    refine V_bipush (v := 92) X d_Mod_take_29 (by decide) rfl ?_
    refine V_dup2 X d_Mod_take_31 rfl rfl rfl ?_
    refine V_iald X kd_163 (inb_in ln_163 (by decide)) d_Mod_take_32 rfl ?_
    refine V_iconst (v := 1) X d_Mod_take_33 (by decide) rfl ?_
    refine V_isub X d_Mod_take_34 rfl ?_
    obtain ⟨M3, eM3, h⟩ := memS h
    refine V_iast X kd_163 (inb_in ln_163 (by decide)) d_Mod_take_35 rfl ?_
    rw [← eM3]
    refine V_aload_n (n := 0) X d_Mod_take_36 rfl rfl rfl ?_
    refine V_getr (k2 := 163) X fo_Mod_9 kd_162 rfl rf_162_0 d_Mod_take_37 rfl ?_
    refine V_bipush (v := 92) X d_Mod_take_40 (by decide) rfl ?_
    refine V_iald X kd_163 (inb_in ln_163 (by decide)) d_Mod_take_42 rfl ?_
    exact V_iret X (kr ((M3.1 163 (92 : Int32).toNatClampNeg), M3) (Option.some.inj h).symm) d_Mod_take_43
  · rw [if_pos c4] at h
    refine V_iconst (v := -1) X d_Mod_take_15 (by decide) rfl ?_
    exact V_iret X (kr ((-1 : Int32), M1) (Option.some.inj h).symm) d_Mod_take_16
