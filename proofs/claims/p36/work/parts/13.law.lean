theorem d_Law_rankOf_0 : decode b_Law_rankOf 0 = .ok (.iload_n 0, 1) := kq_26 byq_r (by decide +kernel)
theorem d_Law_rankOf_1 : decode b_Law_rankOf 1 = .ok (.lookupswitch 83 #[(42, 79), (43, 77), (45, 77), (47, 79), (60, 75), (61, 75), (62, 75), (256, 81)], 75) := by decide +kernel
theorem d_Law_rankOf_76 : decode b_Law_rankOf 76 = .ok (.iconst 2, 1) := kq_5 byq_r (by decide +kernel)
theorem d_Law_rankOf_77 : decode b_Law_rankOf 77 = .ok (.ireturn, 1) := kq_172 byq_r (by decide +kernel)
theorem d_Law_rankOf_78 : decode b_Law_rankOf 78 = .ok (.iconst 3, 1) := kq_6 byq_r (by decide +kernel)
theorem d_Law_rankOf_79 : decode b_Law_rankOf 79 = .ok (.ireturn, 1) := kq_172 byq_r (by decide +kernel)
theorem d_Law_rankOf_80 : decode b_Law_rankOf 80 = .ok (.iconst 4, 1) := kq_7 byq_r (by decide +kernel)
theorem d_Law_rankOf_81 : decode b_Law_rankOf 81 = .ok (.ireturn, 1) := kq_172 byq_r (by decide +kernel)
theorem d_Law_rankOf_82 : decode b_Law_rankOf 82 = .ok (.iconst 5, 1) := kq_8 byq_r (by decide +kernel)
theorem d_Law_rankOf_83 : decode b_Law_rankOf 83 = .ok (.ireturn, 1) := kq_172 byq_r (by decide +kernel)
theorem d_Law_rankOf_84 : decode b_Law_rankOf 84 = .ok (.iconst 0, 1) := kq_3 byq_r (by decide +kernel)
theorem d_Law_rankOf_85 : decode b_Law_rankOf 85 = .ok (.ireturn, 1) := kq_172 byq_r (by decide +kernel)
theorem d_Law_emit_0 : decode b_Law_emit 0 = .ok (.aload_n 0, 1) := kq_42 byq_r (by decide +kernel)
theorem d_Law_emit_1 : decode b_Law_emit 1 = .ok (.getfield 24, 3) := kq_180 byq_r (a := 0) (b := 24) (by decide +kernel)
theorem d_Law_emit_4 : decode b_Law_emit 4 = .ok (.ifCond .lt 32, 3) := kq_155 byq_r (a := 0) (b := 32) (by decide +kernel)
theorem d_Law_emit_7 : decode b_Law_emit 7 = .ok (.aload_n 0, 1) := kq_42 byq_r (by decide +kernel)
theorem d_Law_emit_8 : decode b_Law_emit 8 = .ok (.getfield 24, 3) := kq_180 byq_r (a := 0) (b := 24) (by decide +kernel)
theorem d_Law_emit_11 : decode b_Law_emit 11 = .ok (.bipush 40, 2) := kq_16 byq_r (b := 40) (by decide +kernel)
theorem d_Law_emit_13 : decode b_Law_emit 13 = .ok (.if_icmp .ge 23, 3) := kq_162 byq_r (a := 0) (b := 23) (by decide +kernel)
theorem d_Law_emit_16 : decode b_Law_emit 16 = .ok (.aload_n 0, 1) := kq_42 byq_r (by decide +kernel)
theorem d_Law_emit_17 : decode b_Law_emit 17 = .ok (.getfield 15, 3) := kq_180 byq_r (a := 0) (b := 15) (by decide +kernel)
theorem d_Law_emit_20 : decode b_Law_emit 20 = .ok (.aload_n 0, 1) := kq_42 byq_r (by decide +kernel)
theorem d_Law_emit_21 : decode b_Law_emit 21 = .ok (.getfield 24, 3) := kq_180 byq_r (a := 0) (b := 24) (by decide +kernel)
theorem d_Law_emit_24 : decode b_Law_emit 24 = .ok (.iload_n 1, 1) := kq_27 byq_r (by decide +kernel)
theorem d_Law_emit_25 : decode b_Law_emit 25 = .ok (.iastore, 1) := kq_79 byq_r (by decide +kernel)
theorem d_Law_emit_26 : decode b_Law_emit 26 = .ok (.aload_n 0, 1) := kq_42 byq_r (by decide +kernel)
theorem d_Law_emit_27 : decode b_Law_emit 27 = .ok (.dup, 1) := kq_89 byq_r (by decide +kernel)
theorem d_Law_emit_28 : decode b_Law_emit 28 = .ok (.getfield 24, 3) := kq_180 byq_r (a := 0) (b := 24) (by decide +kernel)
theorem d_Law_emit_31 : decode b_Law_emit 31 = .ok (.iconst 1, 1) := kq_4 byq_r (by decide +kernel)
theorem d_Law_emit_32 : decode b_Law_emit 32 = .ok (.iadd, 1) := kq_96 byq_r (by decide +kernel)
theorem d_Law_emit_33 : decode b_Law_emit 33 = .ok (.putfield 24, 3) := kq_181 byq_r (a := 0) (b := 24) (by decide +kernel)
theorem d_Law_emit_36 : decode b_Law_emit 36 = .ok (.return_, 1) := kq_177 byq_r (by decide +kernel)
theorem d_Law_settle_0 : decode b_Law_settle 0 = .ok (.iconst 0, 1) := kq_3 byq_r (by decide +kernel)
theorem d_Law_settle_1 : decode b_Law_settle 1 = .ok (.istore_n 2, 1) := kq_61 byq_r (by decide +kernel)
theorem d_Law_settle_2 : decode b_Law_settle 2 = .ok (.iload_n 2, 1) := kq_28 byq_r (by decide +kernel)
theorem d_Law_settle_3 : decode b_Law_settle 3 = .ok (.bipush 40, 2) := kq_16 byq_r (b := 40) (by decide +kernel)
theorem d_Law_settle_5 : decode b_Law_settle 5 = .ok (.if_icmp .ge 85, 3) := kq_162 byq_r (a := 0) (b := 85) (by decide +kernel)
theorem d_Law_settle_8 : decode b_Law_settle 8 = .ok (.aload_n 0, 1) := kq_42 byq_r (by decide +kernel)
theorem d_Law_settle_9 : decode b_Law_settle 9 = .ok (.getfield 28, 3) := kq_180 byq_r (a := 0) (b := 28) (by decide +kernel)
theorem d_Law_settle_12 : decode b_Law_settle 12 = .ok (.iconst 1, 1) := kq_4 byq_r (by decide +kernel)
theorem d_Law_settle_13 : decode b_Law_settle 13 = .ok (.if_icmp .lt 46, 3) := kq_161 byq_r (a := 0) (b := 46) (by decide +kernel)
theorem d_Law_settle_16 : decode b_Law_settle 16 = .ok (.aload_n 0, 1) := kq_42 byq_r (by decide +kernel)
theorem d_Law_settle_17 : decode b_Law_settle 17 = .ok (.getfield 28, 3) := kq_180 byq_r (a := 0) (b := 28) (by decide +kernel)
theorem d_Law_settle_20 : decode b_Law_settle 20 = .ok (.bipush 40, 2) := kq_16 byq_r (b := 40) (by decide +kernel)
theorem d_Law_settle_22 : decode b_Law_settle 22 = .ok (.if_icmp .gt 37, 3) := kq_163 byq_r (a := 0) (b := 37) (by decide +kernel)
theorem d_Law_settle_25 : decode b_Law_settle 25 = .ok (.aload_n 0, 1) := kq_42 byq_r (by decide +kernel)
theorem d_Law_settle_26 : decode b_Law_settle 26 = .ok (.getfield 18, 3) := kq_180 byq_r (a := 0) (b := 18) (by decide +kernel)
theorem d_Law_settle_29 : decode b_Law_settle 29 = .ok (.aload_n 0, 1) := kq_42 byq_r (by decide +kernel)
theorem d_Law_settle_30 : decode b_Law_settle 30 = .ok (.getfield 28, 3) := kq_180 byq_r (a := 0) (b := 28) (by decide +kernel)
theorem d_Law_settle_33 : decode b_Law_settle 33 = .ok (.iconst 1, 1) := kq_4 byq_r (by decide +kernel)
theorem d_Law_settle_34 : decode b_Law_settle 34 = .ok (.isub, 1) := kq_100 byq_r (by decide +kernel)
theorem d_Law_settle_35 : decode b_Law_settle 35 = .ok (.iaload, 1) := kq_46 byq_r (by decide +kernel)
theorem d_Law_settle_36 : decode b_Law_settle 36 = .ok (.bipush 40, 2) := kq_16 byq_r (b := 40) (by decide +kernel)
theorem d_Law_settle_38 : decode b_Law_settle 38 = .ok (.if_icmp .eq 21, 3) := kq_159 byq_r (a := 0) (b := 21) (by decide +kernel)
theorem d_Law_settle_41 : decode b_Law_settle 41 = .ok (.aload_n 0, 1) := kq_42 byq_r (by decide +kernel)
theorem d_Law_settle_42 : decode b_Law_settle 42 = .ok (.getfield 18, 3) := kq_180 byq_r (a := 0) (b := 18) (by decide +kernel)
theorem d_Law_settle_45 : decode b_Law_settle 45 = .ok (.aload_n 0, 1) := kq_42 byq_r (by decide +kernel)
theorem d_Law_settle_46 : decode b_Law_settle 46 = .ok (.getfield 28, 3) := kq_180 byq_r (a := 0) (b := 28) (by decide +kernel)
theorem d_Law_settle_49 : decode b_Law_settle 49 = .ok (.iconst 1, 1) := kq_4 byq_r (by decide +kernel)
theorem d_Law_settle_50 : decode b_Law_settle 50 = .ok (.isub, 1) := kq_100 byq_r (by decide +kernel)
theorem d_Law_settle_51 : decode b_Law_settle 51 = .ok (.iaload, 1) := kq_46 byq_r (by decide +kernel)
theorem d_Law_settle_52 : decode b_Law_settle 52 = .ok (.invokestatic 88, 3) := kq_184 byq_r (a := 0) (b := 88) (by decide +kernel)
theorem d_Law_settle_55 : decode b_Law_settle 55 = .ok (.iload_n 1, 1) := kq_27 byq_r (by decide +kernel)
theorem d_Law_settle_56 : decode b_Law_settle 56 = .ok (.if_icmp .ge 4, 3) := kq_162 byq_r (a := 0) (b := 4) (by decide +kernel)
theorem d_Law_settle_59 : decode b_Law_settle 59 = .ok (.return_, 1) := kq_177 byq_r (by decide +kernel)
theorem d_Law_settle_60 : decode b_Law_settle 60 = .ok (.aload_n 0, 1) := kq_42 byq_r (by decide +kernel)
theorem d_Law_settle_61 : decode b_Law_settle 61 = .ok (.dup, 1) := kq_89 byq_r (by decide +kernel)
theorem d_Law_settle_62 : decode b_Law_settle 62 = .ok (.getfield 28, 3) := kq_180 byq_r (a := 0) (b := 28) (by decide +kernel)
theorem d_Law_settle_65 : decode b_Law_settle 65 = .ok (.iconst 1, 1) := kq_4 byq_r (by decide +kernel)
theorem d_Law_settle_66 : decode b_Law_settle 66 = .ok (.isub, 1) := kq_100 byq_r (by decide +kernel)
theorem d_Law_settle_67 : decode b_Law_settle 67 = .ok (.putfield 28, 3) := kq_181 byq_r (a := 0) (b := 28) (by decide +kernel)
theorem d_Law_settle_70 : decode b_Law_settle 70 = .ok (.aload_n 0, 1) := kq_42 byq_r (by decide +kernel)
theorem d_Law_settle_71 : decode b_Law_settle 71 = .ok (.aload_n 0, 1) := kq_42 byq_r (by decide +kernel)
theorem d_Law_settle_72 : decode b_Law_settle 72 = .ok (.getfield 18, 3) := kq_180 byq_r (a := 0) (b := 18) (by decide +kernel)
theorem d_Law_settle_75 : decode b_Law_settle 75 = .ok (.aload_n 0, 1) := kq_42 byq_r (by decide +kernel)
theorem d_Law_settle_76 : decode b_Law_settle 76 = .ok (.getfield 28, 3) := kq_180 byq_r (a := 0) (b := 28) (by decide +kernel)
theorem d_Law_settle_79 : decode b_Law_settle 79 = .ok (.iaload, 1) := kq_46 byq_r (by decide +kernel)
theorem d_Law_settle_80 : decode b_Law_settle 80 = .ok (.ineg, 1) := kq_116 byq_r (by decide +kernel)
theorem d_Law_settle_81 : decode b_Law_settle 81 = .ok (.invokevirtual 81, 3) := kq_182 byq_r (a := 0) (b := 81) (by decide +kernel)
theorem d_Law_settle_84 : decode b_Law_settle 84 = .ok (.iinc 2 1, 3) := kq_132 byq_r (b := 1) (by decide +kernel)
theorem d_Law_settle_87 : decode b_Law_settle 87 = .ok (.goto (-85), 3) := kq_167 byq_r (a := 255) (b := 171) (by decide +kernel)
theorem d_Law_settle_90 : decode b_Law_settle 90 = .ok (.return_, 1) := kq_177 byq_r (by decide +kernel)
theorem d_Law_hold_0 : decode b_Law_hold 0 = .ok (.aload_n 0, 1) := kq_42 byq_r (by decide +kernel)
theorem d_Law_hold_1 : decode b_Law_hold 1 = .ok (.getfield 28, 3) := kq_180 byq_r (a := 0) (b := 28) (by decide +kernel)
theorem d_Law_hold_4 : decode b_Law_hold 4 = .ok (.ifCond .lt 32, 3) := kq_155 byq_r (a := 0) (b := 32) (by decide +kernel)
theorem d_Law_hold_7 : decode b_Law_hold 7 = .ok (.aload_n 0, 1) := kq_42 byq_r (by decide +kernel)
theorem d_Law_hold_8 : decode b_Law_hold 8 = .ok (.getfield 28, 3) := kq_180 byq_r (a := 0) (b := 28) (by decide +kernel)
theorem d_Law_hold_11 : decode b_Law_hold 11 = .ok (.bipush 40, 2) := kq_16 byq_r (b := 40) (by decide +kernel)
theorem d_Law_hold_13 : decode b_Law_hold 13 = .ok (.if_icmp .ge 23, 3) := kq_162 byq_r (a := 0) (b := 23) (by decide +kernel)
theorem d_Law_hold_16 : decode b_Law_hold 16 = .ok (.aload_n 0, 1) := kq_42 byq_r (by decide +kernel)
theorem d_Law_hold_17 : decode b_Law_hold 17 = .ok (.getfield 18, 3) := kq_180 byq_r (a := 0) (b := 18) (by decide +kernel)
theorem d_Law_hold_20 : decode b_Law_hold 20 = .ok (.aload_n 0, 1) := kq_42 byq_r (by decide +kernel)
theorem d_Law_hold_21 : decode b_Law_hold 21 = .ok (.getfield 28, 3) := kq_180 byq_r (a := 0) (b := 28) (by decide +kernel)
theorem d_Law_hold_24 : decode b_Law_hold 24 = .ok (.iload_n 1, 1) := kq_27 byq_r (by decide +kernel)
theorem d_Law_hold_25 : decode b_Law_hold 25 = .ok (.iastore, 1) := kq_79 byq_r (by decide +kernel)
theorem d_Law_hold_26 : decode b_Law_hold 26 = .ok (.aload_n 0, 1) := kq_42 byq_r (by decide +kernel)
theorem d_Law_hold_27 : decode b_Law_hold 27 = .ok (.dup, 1) := kq_89 byq_r (by decide +kernel)
theorem d_Law_hold_28 : decode b_Law_hold 28 = .ok (.getfield 28, 3) := kq_180 byq_r (a := 0) (b := 28) (by decide +kernel)
theorem d_Law_hold_31 : decode b_Law_hold 31 = .ok (.iconst 1, 1) := kq_4 byq_r (by decide +kernel)
theorem d_Law_hold_32 : decode b_Law_hold 32 = .ok (.iadd, 1) := kq_96 byq_r (by decide +kernel)
theorem d_Law_hold_33 : decode b_Law_hold 33 = .ok (.putfield 28, 3) := kq_181 byq_r (a := 0) (b := 28) (by decide +kernel)
theorem d_Law_hold_36 : decode b_Law_hold 36 = .ok (.return_, 1) := kq_177 byq_r (by decide +kernel)
theorem d_Law_readBehind_0 : decode b_Law_readBehind 0 = .ok (.iload_n 1, 1) := kq_27 byq_r (by decide +kernel)
theorem d_Law_readBehind_1 : decode b_Law_readBehind 1 = .ok (.bipush 41, 2) := kq_16 byq_r (b := 41) (by decide +kernel)
theorem d_Law_readBehind_3 : decode b_Law_readBehind 3 = .ok (.if_icmp .ne 37, 3) := kq_160 byq_r (a := 0) (b := 37) (by decide +kernel)
theorem d_Law_readBehind_6 : decode b_Law_readBehind 6 = .ok (.aload_n 0, 1) := kq_42 byq_r (by decide +kernel)
theorem d_Law_readBehind_7 : decode b_Law_readBehind 7 = .ok (.getfield 31, 3) := kq_180 byq_r (a := 0) (b := 31) (by decide +kernel)
theorem d_Law_readBehind_10 : decode b_Law_readBehind 10 = .ok (.ifCond .le 30, 3) := kq_158 byq_r (a := 0) (b := 30) (by decide +kernel)
theorem d_Law_readBehind_13 : decode b_Law_readBehind 13 = .ok (.aload_n 0, 1) := kq_42 byq_r (by decide +kernel)
theorem d_Law_readBehind_14 : decode b_Law_readBehind 14 = .ok (.iconst 1, 1) := kq_4 byq_r (by decide +kernel)
theorem d_Law_readBehind_15 : decode b_Law_readBehind 15 = .ok (.invokevirtual 58, 3) := kq_182 byq_r (a := 0) (b := 58) (by decide +kernel)
theorem d_Law_readBehind_18 : decode b_Law_readBehind 18 = .ok (.aload_n 0, 1) := kq_42 byq_r (by decide +kernel)
theorem d_Law_readBehind_19 : decode b_Law_readBehind 19 = .ok (.dup, 1) := kq_89 byq_r (by decide +kernel)
theorem d_Law_readBehind_20 : decode b_Law_readBehind 20 = .ok (.getfield 28, 3) := kq_180 byq_r (a := 0) (b := 28) (by decide +kernel)
theorem d_Law_readBehind_23 : decode b_Law_readBehind 23 = .ok (.iconst 1, 1) := kq_4 byq_r (by decide +kernel)
theorem d_Law_readBehind_24 : decode b_Law_readBehind 24 = .ok (.isub, 1) := kq_100 byq_r (by decide +kernel)
theorem d_Law_readBehind_25 : decode b_Law_readBehind 25 = .ok (.putfield 28, 3) := kq_181 byq_r (a := 0) (b := 28) (by decide +kernel)
theorem d_Law_readBehind_28 : decode b_Law_readBehind 28 = .ok (.aload_n 0, 1) := kq_42 byq_r (by decide +kernel)
theorem d_Law_readBehind_29 : decode b_Law_readBehind 29 = .ok (.dup, 1) := kq_89 byq_r (by decide +kernel)
theorem d_Law_readBehind_30 : decode b_Law_readBehind 30 = .ok (.getfield 31, 3) := kq_180 byq_r (a := 0) (b := 31) (by decide +kernel)
theorem d_Law_readBehind_33 : decode b_Law_readBehind 33 = .ok (.iconst 1, 1) := kq_4 byq_r (by decide +kernel)
theorem d_Law_readBehind_34 : decode b_Law_readBehind 34 = .ok (.isub, 1) := kq_100 byq_r (by decide +kernel)
theorem d_Law_readBehind_35 : decode b_Law_readBehind 35 = .ok (.putfield 31, 3) := kq_181 byq_r (a := 0) (b := 31) (by decide +kernel)
theorem d_Law_readBehind_38 : decode b_Law_readBehind 38 = .ok (.iconst 1, 1) := kq_4 byq_r (by decide +kernel)
theorem d_Law_readBehind_39 : decode b_Law_readBehind 39 = .ok (.ireturn, 1) := kq_172 byq_r (by decide +kernel)
theorem d_Law_readBehind_40 : decode b_Law_readBehind 40 = .ok (.iload_n 1, 1) := kq_27 byq_r (by decide +kernel)
theorem d_Law_readBehind_41 : decode b_Law_readBehind 41 = .ok (.invokestatic 88, 3) := kq_184 byq_r (a := 0) (b := 88) (by decide +kernel)
theorem d_Law_readBehind_44 : decode b_Law_readBehind 44 = .ok (.istore_n 2, 1) := kq_61 byq_r (by decide +kernel)
theorem d_Law_readBehind_45 : decode b_Law_readBehind 45 = .ok (.iload_n 2, 1) := kq_28 byq_r (by decide +kernel)
theorem d_Law_readBehind_46 : decode b_Law_readBehind 46 = .ok (.ifCond .eq 22, 3) := kq_153 byq_r (a := 0) (b := 22) (by decide +kernel)
theorem d_Law_readBehind_49 : decode b_Law_readBehind 49 = .ok (.iload_n 2, 1) := kq_28 byq_r (by decide +kernel)
theorem d_Law_readBehind_50 : decode b_Law_readBehind 50 = .ok (.iconst 2, 1) := kq_5 byq_r (by decide +kernel)
theorem d_Law_readBehind_51 : decode b_Law_readBehind 51 = .ok (.if_icmp .ne 19, 3) := kq_160 byq_r (a := 0) (b := 19) (by decide +kernel)
theorem d_Law_readBehind_54 : decode b_Law_readBehind 54 = .ok (.aload_n 0, 1) := kq_42 byq_r (by decide +kernel)
theorem d_Law_readBehind_55 : decode b_Law_readBehind 55 = .ok (.getfield 34, 3) := kq_180 byq_r (a := 0) (b := 34) (by decide +kernel)
theorem d_Law_readBehind_58 : decode b_Law_readBehind 58 = .ok (.aload_n 0, 1) := kq_42 byq_r (by decide +kernel)
theorem d_Law_readBehind_59 : decode b_Law_readBehind 59 = .ok (.getfield 31, 3) := kq_180 byq_r (a := 0) (b := 31) (by decide +kernel)
theorem d_Law_readBehind_62 : decode b_Law_readBehind 62 = .ok (.ishr, 1) := kq_122 byq_r (by decide +kernel)
theorem d_Law_readBehind_63 : decode b_Law_readBehind 63 = .ok (.iconst 1, 1) := kq_4 byq_r (by decide +kernel)
theorem d_Law_readBehind_64 : decode b_Law_readBehind 64 = .ok (.iand, 1) := kq_126 byq_r (by decide +kernel)
theorem d_Law_readBehind_65 : decode b_Law_readBehind 65 = .ok (.ifCond .eq 5, 3) := kq_153 byq_r (a := 0) (b := 5) (by decide +kernel)
theorem d_Law_readBehind_68 : decode b_Law_readBehind 68 = .ok (.iconst 0, 1) := kq_3 byq_r (by decide +kernel)
theorem d_Law_readBehind_69 : decode b_Law_readBehind 69 = .ok (.ireturn, 1) := kq_172 byq_r (by decide +kernel)
theorem d_Law_readBehind_70 : decode b_Law_readBehind 70 = .ok (.iload_n 2, 1) := kq_28 byq_r (by decide +kernel)
theorem d_Law_readBehind_71 : decode b_Law_readBehind 71 = .ok (.iconst 2, 1) := kq_5 byq_r (by decide +kernel)
theorem d_Law_readBehind_72 : decode b_Law_readBehind 72 = .ok (.if_icmp .ne 18, 3) := kq_160 byq_r (a := 0) (b := 18) (by decide +kernel)
theorem d_Law_readBehind_75 : decode b_Law_readBehind 75 = .ok (.aload_n 0, 1) := kq_42 byq_r (by decide +kernel)
theorem d_Law_readBehind_76 : decode b_Law_readBehind 76 = .ok (.dup, 1) := kq_89 byq_r (by decide +kernel)
theorem d_Law_readBehind_77 : decode b_Law_readBehind 77 = .ok (.getfield 34, 3) := kq_180 byq_r (a := 0) (b := 34) (by decide +kernel)
theorem d_Law_readBehind_80 : decode b_Law_readBehind 80 = .ok (.iconst 1, 1) := kq_4 byq_r (by decide +kernel)
theorem d_Law_readBehind_81 : decode b_Law_readBehind 81 = .ok (.aload_n 0, 1) := kq_42 byq_r (by decide +kernel)
theorem d_Law_readBehind_82 : decode b_Law_readBehind 82 = .ok (.getfield 31, 3) := kq_180 byq_r (a := 0) (b := 31) (by decide +kernel)
theorem d_Law_readBehind_85 : decode b_Law_readBehind 85 = .ok (.ishl, 1) := kq_120 byq_r (by decide +kernel)
theorem d_Law_readBehind_86 : decode b_Law_readBehind 86 = .ok (.ior, 1) := kq_128 byq_r (by decide +kernel)
theorem d_Law_readBehind_87 : decode b_Law_readBehind 87 = .ok (.putfield 34, 3) := kq_181 byq_r (a := 0) (b := 34) (by decide +kernel)
theorem d_Law_readBehind_90 : decode b_Law_readBehind 90 = .ok (.aload_n 0, 1) := kq_42 byq_r (by decide +kernel)
theorem d_Law_readBehind_91 : decode b_Law_readBehind 91 = .ok (.iload_n 2, 1) := kq_28 byq_r (by decide +kernel)
theorem d_Law_readBehind_92 : decode b_Law_readBehind 92 = .ok (.invokevirtual 58, 3) := kq_182 byq_r (a := 0) (b := 58) (by decide +kernel)
theorem d_Law_readBehind_95 : decode b_Law_readBehind 95 = .ok (.aload_n 0, 1) := kq_42 byq_r (by decide +kernel)
theorem d_Law_readBehind_96 : decode b_Law_readBehind 96 = .ok (.iload_n 1, 1) := kq_27 byq_r (by decide +kernel)
theorem d_Law_readBehind_97 : decode b_Law_readBehind 97 = .ok (.invokevirtual 71, 3) := kq_182 byq_r (a := 0) (b := 71) (by decide +kernel)
theorem d_Law_readBehind_100 : decode b_Law_readBehind 100 = .ok (.aload_n 0, 1) := kq_42 byq_r (by decide +kernel)
theorem d_Law_readBehind_101 : decode b_Law_readBehind 101 = .ok (.iconst 0, 1) := kq_3 byq_r (by decide +kernel)
theorem d_Law_readBehind_102 : decode b_Law_readBehind 102 = .ok (.putfield 37, 3) := kq_181 byq_r (a := 0) (b := 37) (by decide +kernel)
theorem d_Law_readBehind_105 : decode b_Law_readBehind 105 = .ok (.iconst 1, 1) := kq_4 byq_r (by decide +kernel)
theorem d_Law_readBehind_106 : decode b_Law_readBehind 106 = .ok (.ireturn, 1) := kq_172 byq_r (by decide +kernel)
theorem d_Law_isQuality_0 : decode b_Law_isQuality 0 = .ok (.iload_n 0, 1) := kq_26 byq_r (by decide +kernel)
theorem d_Law_isQuality_1 : decode b_Law_isQuality 1 = .ok (.tableswitch 85 105 121 #[83, 85, 83, 85, 83, 83, 85, 85, 85, 85, 83, 85, 85, 85, 83, 83, 83], 83) := by decide +kernel
theorem d_Law_isQuality_84 : decode b_Law_isQuality 84 = .ok (.iconst 1, 1) := kq_4 byq_r (by decide +kernel)
theorem d_Law_isQuality_85 : decode b_Law_isQuality 85 = .ok (.ireturn, 1) := kq_172 byq_r (by decide +kernel)
theorem d_Law_isQuality_86 : decode b_Law_isQuality 86 = .ok (.iconst 0, 1) := kq_3 byq_r (by decide +kernel)
theorem d_Law_isQuality_87 : decode b_Law_isQuality 87 = .ok (.ireturn, 1) := kq_172 byq_r (by decide +kernel)
theorem d_Law_readThing_0 : decode b_Law_readThing 0 = .ok (.iload_n 3, 1) := kq_29 byq_r (by decide +kernel)
theorem d_Law_readThing_1 : decode b_Law_readThing 1 = .ok (.bipush 45, 2) := kq_16 byq_r (b := 45) (by decide +kernel)
theorem d_Law_readThing_3 : decode b_Law_readThing 3 = .ok (.if_icmp .ne 12, 3) := kq_160 byq_r (a := 0) (b := 12) (by decide +kernel)
theorem d_Law_readThing_6 : decode b_Law_readThing 6 = .ok (.aload_n 0, 1) := kq_42 byq_r (by decide +kernel)
theorem d_Law_readThing_7 : decode b_Law_readThing 7 = .ok (.sipush 256, 3) := kq_17 byq_r (a := 1) (b := 0) (by decide +kernel)
theorem d_Law_readThing_10 : decode b_Law_readThing 10 = .ok (.invokevirtual 71, 3) := kq_182 byq_r (a := 0) (b := 71) (by decide +kernel)
theorem d_Law_readThing_13 : decode b_Law_readThing 13 = .ok (.iconst 1, 1) := kq_4 byq_r (by decide +kernel)
theorem d_Law_readThing_14 : decode b_Law_readThing 14 = .ok (.ireturn, 1) := kq_172 byq_r (by decide +kernel)
theorem d_Law_readThing_15 : decode b_Law_readThing 15 = .ok (.iload_n 3, 1) := kq_29 byq_r (by decide +kernel)
theorem d_Law_readThing_16 : decode b_Law_readThing 16 = .ok (.bipush 40, 2) := kq_16 byq_r (b := 40) (by decide +kernel)
theorem d_Law_readThing_18 : decode b_Law_readThing 18 = .ok (.if_icmp .ne 45, 3) := kq_160 byq_r (a := 0) (b := 45) (by decide +kernel)
theorem d_Law_readThing_21 : decode b_Law_readThing 21 = .ok (.aload_n 0, 1) := kq_42 byq_r (by decide +kernel)
theorem d_Law_readThing_22 : decode b_Law_readThing 22 = .ok (.getfield 31, 3) := kq_180 byq_r (a := 0) (b := 31) (by decide +kernel)
theorem d_Law_readThing_25 : decode b_Law_readThing 25 = .ok (.iconst 4, 1) := kq_7 byq_r (by decide +kernel)
theorem d_Law_readThing_26 : decode b_Law_readThing 26 = .ok (.if_icmp .ge 37, 3) := kq_162 byq_r (a := 0) (b := 37) (by decide +kernel)
theorem d_Law_readThing_29 : decode b_Law_readThing 29 = .ok (.aload_n 0, 1) := kq_42 byq_r (by decide +kernel)
theorem d_Law_readThing_30 : decode b_Law_readThing 30 = .ok (.dup, 1) := kq_89 byq_r (by decide +kernel)
theorem d_Law_readThing_31 : decode b_Law_readThing 31 = .ok (.getfield 31, 3) := kq_180 byq_r (a := 0) (b := 31) (by decide +kernel)
theorem d_Law_readThing_34 : decode b_Law_readThing 34 = .ok (.iconst 1, 1) := kq_4 byq_r (by decide +kernel)
theorem d_Law_readThing_35 : decode b_Law_readThing 35 = .ok (.iadd, 1) := kq_96 byq_r (by decide +kernel)
theorem d_Law_readThing_36 : decode b_Law_readThing 36 = .ok (.putfield 31, 3) := kq_181 byq_r (a := 0) (b := 31) (by decide +kernel)
theorem d_Law_readThing_39 : decode b_Law_readThing 39 = .ok (.aload_n 0, 1) := kq_42 byq_r (by decide +kernel)
theorem d_Law_readThing_40 : decode b_Law_readThing 40 = .ok (.dup, 1) := kq_89 byq_r (by decide +kernel)
theorem d_Law_readThing_41 : decode b_Law_readThing 41 = .ok (.getfield 34, 3) := kq_180 byq_r (a := 0) (b := 34) (by decide +kernel)
theorem d_Law_readThing_44 : decode b_Law_readThing 44 = .ok (.iconst 1, 1) := kq_4 byq_r (by decide +kernel)
theorem d_Law_readThing_45 : decode b_Law_readThing 45 = .ok (.aload_n 0, 1) := kq_42 byq_r (by decide +kernel)
theorem d_Law_readThing_46 : decode b_Law_readThing 46 = .ok (.getfield 31, 3) := kq_180 byq_r (a := 0) (b := 31) (by decide +kernel)
theorem d_Law_readThing_49 : decode b_Law_readThing 49 = .ok (.ishl, 1) := kq_120 byq_r (by decide +kernel)
theorem d_Law_readThing_50 : decode b_Law_readThing 50 = .ok (.iconst (-1), 1) := kq_2 byq_r (by decide +kernel)
theorem d_Law_readThing_51 : decode b_Law_readThing 51 = .ok (.ixor, 1) := kq_130 byq_r (by decide +kernel)
theorem d_Law_readThing_52 : decode b_Law_readThing 52 = .ok (.iand, 1) := kq_126 byq_r (by decide +kernel)
theorem d_Law_readThing_53 : decode b_Law_readThing 53 = .ok (.putfield 34, 3) := kq_181 byq_r (a := 0) (b := 34) (by decide +kernel)
theorem d_Law_readThing_56 : decode b_Law_readThing 56 = .ok (.aload_n 0, 1) := kq_42 byq_r (by decide +kernel)
theorem d_Law_readThing_57 : decode b_Law_readThing 57 = .ok (.iload_n 3, 1) := kq_29 byq_r (by decide +kernel)
theorem d_Law_readThing_58 : decode b_Law_readThing 58 = .ok (.invokevirtual 71, 3) := kq_182 byq_r (a := 0) (b := 71) (by decide +kernel)
theorem d_Law_readThing_61 : decode b_Law_readThing 61 = .ok (.iconst 1, 1) := kq_4 byq_r (by decide +kernel)
theorem d_Law_readThing_62 : decode b_Law_readThing 62 = .ok (.ireturn, 1) := kq_172 byq_r (by decide +kernel)
theorem d_Law_readThing_63 : decode b_Law_readThing 63 = .ok (.aload_n 1, 1) := kq_43 byq_r (by decide +kernel)
theorem d_Law_readThing_64 : decode b_Law_readThing 64 = .ok (.iload_n 2, 1) := kq_28 byq_r (by decide +kernel)
theorem d_Law_readThing_65 : decode b_Law_readThing 65 = .ok (.bipush 40, 2) := kq_16 byq_r (b := 40) (by decide +kernel)
theorem d_Law_readThing_67 : decode b_Law_readThing 67 = .ok (.iconst 3, 1) := kq_6 byq_r (by decide +kernel)
theorem d_Law_readThing_68 : decode b_Law_readThing 68 = .ok (.invokevirtual 74, 3) := kq_182 byq_r (a := 0) (b := 74) (by decide +kernel)
theorem d_Law_readThing_71 : decode b_Law_readThing 71 = .ok (.istore 4, 2) := kq_54 byq_r (by decide +kernel)
theorem d_Law_readThing_73 : decode b_Law_readThing 73 = .ok (.iload 4, 2) := kq_21 byq_r (by decide +kernel)
theorem d_Law_readThing_75 : decode b_Law_readThing 75 = .ok (.ifCond .le 19, 3) := kq_158 byq_r (a := 0) (b := 19) (by decide +kernel)
theorem d_Law_readThing_78 : decode b_Law_readThing 78 = .ok (.aload_n 0, 1) := kq_42 byq_r (by decide +kernel)
theorem d_Law_readThing_79 : decode b_Law_readThing 79 = .ok (.aload_n 1, 1) := kq_43 byq_r (by decide +kernel)
theorem d_Law_readThing_80 : decode b_Law_readThing 80 = .ok (.getfield 78, 3) := kq_180 byq_r (a := 0) (b := 78) (by decide +kernel)
theorem d_Law_readThing_83 : decode b_Law_readThing 83 = .ok (.invokevirtual 81, 3) := kq_182 byq_r (a := 0) (b := 81) (by decide +kernel)
theorem d_Law_readThing_86 : decode b_Law_readThing 86 = .ok (.aload_n 0, 1) := kq_42 byq_r (by decide +kernel)
theorem d_Law_readThing_87 : decode b_Law_readThing 87 = .ok (.iconst 1, 1) := kq_4 byq_r (by decide +kernel)
theorem d_Law_readThing_88 : decode b_Law_readThing 88 = .ok (.putfield 37, 3) := kq_181 byq_r (a := 0) (b := 37) (by decide +kernel)
theorem d_Law_readThing_91 : decode b_Law_readThing 91 = .ok (.iload 4, 2) := kq_21 byq_r (by decide +kernel)
theorem d_Law_readThing_93 : decode b_Law_readThing 93 = .ok (.ireturn, 1) := kq_172 byq_r (by decide +kernel)
theorem d_Law_readThing_94 : decode b_Law_readThing 94 = .ok (.iload_n 3, 1) := kq_29 byq_r (by decide +kernel)
theorem d_Law_readThing_95 : decode b_Law_readThing 95 = .ok (.invokestatic 84, 3) := kq_184 byq_r (a := 0) (b := 84) (by decide +kernel)
theorem d_Law_readThing_98 : decode b_Law_readThing 98 = .ok (.ifCond .eq 16, 3) := kq_153 byq_r (a := 0) (b := 16) (by decide +kernel)
theorem d_Law_readThing_101 : decode b_Law_readThing 101 = .ok (.aload_n 0, 1) := kq_42 byq_r (by decide +kernel)
theorem d_Law_readThing_102 : decode b_Law_readThing 102 = .ok (.iload_n 3, 1) := kq_29 byq_r (by decide +kernel)
theorem d_Law_readThing_103 : decode b_Law_readThing 103 = .ok (.ineg, 1) := kq_116 byq_r (by decide +kernel)
theorem d_Law_readThing_104 : decode b_Law_readThing 104 = .ok (.invokevirtual 81, 3) := kq_182 byq_r (a := 0) (b := 81) (by decide +kernel)
theorem d_Law_readThing_107 : decode b_Law_readThing 107 = .ok (.aload_n 0, 1) := kq_42 byq_r (by decide +kernel)
theorem d_Law_readThing_108 : decode b_Law_readThing 108 = .ok (.iconst 1, 1) := kq_4 byq_r (by decide +kernel)
theorem d_Law_readThing_109 : decode b_Law_readThing 109 = .ok (.putfield 37, 3) := kq_181 byq_r (a := 0) (b := 37) (by decide +kernel)
theorem d_Law_readThing_112 : decode b_Law_readThing 112 = .ok (.iconst 1, 1) := kq_4 byq_r (by decide +kernel)
theorem d_Law_readThing_113 : decode b_Law_readThing 113 = .ok (.ireturn, 1) := kq_172 byq_r (by decide +kernel)
theorem d_Law_readThing_114 : decode b_Law_readThing 114 = .ok (.iconst 0, 1) := kq_3 byq_r (by decide +kernel)
theorem d_Law_readThing_115 : decode b_Law_readThing 115 = .ok (.ireturn, 1) := kq_172 byq_r (by decide +kernel)
theorem d_Law_read_0 : decode b_Law_read 0 = .ok (.aload_n 0, 1) := kq_42 byq_r (by decide +kernel)
theorem d_Law_read_1 : decode b_Law_read 1 = .ok (.iconst 0, 1) := kq_3 byq_r (by decide +kernel)
theorem d_Law_read_2 : decode b_Law_read 2 = .ok (.putfield 24, 3) := kq_181 byq_r (a := 0) (b := 24) (by decide +kernel)
theorem d_Law_read_5 : decode b_Law_read 5 = .ok (.aload_n 0, 1) := kq_42 byq_r (by decide +kernel)
theorem d_Law_read_6 : decode b_Law_read 6 = .ok (.iconst 0, 1) := kq_3 byq_r (by decide +kernel)
theorem d_Law_read_7 : decode b_Law_read 7 = .ok (.putfield 28, 3) := kq_181 byq_r (a := 0) (b := 28) (by decide +kernel)
theorem d_Law_read_10 : decode b_Law_read 10 = .ok (.aload_n 0, 1) := kq_42 byq_r (by decide +kernel)
theorem d_Law_read_11 : decode b_Law_read 11 = .ok (.iconst 0, 1) := kq_3 byq_r (by decide +kernel)
theorem d_Law_read_12 : decode b_Law_read 12 = .ok (.putfield 31, 3) := kq_181 byq_r (a := 0) (b := 31) (by decide +kernel)
theorem d_Law_read_15 : decode b_Law_read 15 = .ok (.aload_n 0, 1) := kq_42 byq_r (by decide +kernel)
theorem d_Law_read_16 : decode b_Law_read 16 = .ok (.iconst 0, 1) := kq_3 byq_r (by decide +kernel)
theorem d_Law_read_17 : decode b_Law_read 17 = .ok (.putfield 34, 3) := kq_181 byq_r (a := 0) (b := 34) (by decide +kernel)
theorem d_Law_read_20 : decode b_Law_read 20 = .ok (.aload_n 0, 1) := kq_42 byq_r (by decide +kernel)
theorem d_Law_read_21 : decode b_Law_read 21 = .ok (.iconst 0, 1) := kq_3 byq_r (by decide +kernel)
theorem d_Law_read_22 : decode b_Law_read 22 = .ok (.putfield 37, 3) := kq_181 byq_r (a := 0) (b := 37) (by decide +kernel)
theorem d_Law_read_25 : decode b_Law_read 25 = .ok (.iconst 0, 1) := kq_3 byq_r (by decide +kernel)
theorem d_Law_read_26 : decode b_Law_read 26 = .ok (.istore_n 2, 1) := kq_61 byq_r (by decide +kernel)
theorem d_Law_read_27 : decode b_Law_read 27 = .ok (.iconst 0, 1) := kq_3 byq_r (by decide +kernel)
theorem d_Law_read_28 : decode b_Law_read 28 = .ok (.istore_n 3, 1) := kq_62 byq_r (by decide +kernel)
theorem d_Law_read_29 : decode b_Law_read 29 = .ok (.iload_n 3, 1) := kq_29 byq_r (by decide +kernel)
theorem d_Law_read_30 : decode b_Law_read 30 = .ok (.bipush 40, 2) := kq_16 byq_r (b := 40) (by decide +kernel)
theorem d_Law_read_32 : decode b_Law_read 32 = .ok (.if_icmp .gt 98, 3) := kq_163 byq_r (a := 0) (b := 98) (by decide +kernel)
theorem d_Law_read_35 : decode b_Law_read 35 = .ok (.aload_n 1, 1) := kq_43 byq_r (by decide +kernel)
theorem d_Law_read_36 : decode b_Law_read 36 = .ok (.getfield 41, 3) := kq_180 byq_r (a := 0) (b := 41) (by decide +kernel)
theorem d_Law_read_39 : decode b_Law_read 39 = .ok (.ifCond .le 91, 3) := kq_158 byq_r (a := 0) (b := 91) (by decide +kernel)
theorem d_Law_read_42 : decode b_Law_read 42 = .ok (.aload_n 1, 1) := kq_43 byq_r (by decide +kernel)
theorem d_Law_read_43 : decode b_Law_read 43 = .ok (.iload_n 2, 1) := kq_28 byq_r (by decide +kernel)
theorem d_Law_read_44 : decode b_Law_read 44 = .ok (.bipush 40, 2) := kq_16 byq_r (b := 40) (by decide +kernel)
theorem d_Law_read_46 : decode b_Law_read 46 = .ok (.invokevirtual 46, 3) := kq_182 byq_r (a := 0) (b := 46) (by decide +kernel)
theorem d_Law_read_49 : decode b_Law_read 49 = .ok (.istore 4, 2) := kq_54 byq_r (by decide +kernel)
theorem d_Law_read_51 : decode b_Law_read 51 = .ok (.iload 4, 2) := kq_21 byq_r (by decide +kernel)
theorem d_Law_read_53 : decode b_Law_read 53 = .ok (.iconst (-1), 1) := kq_2 byq_r (by decide +kernel)
theorem d_Law_read_54 : decode b_Law_read 54 = .ok (.if_icmp .ne 30, 3) := kq_160 byq_r (a := 0) (b := 30) (by decide +kernel)
theorem d_Law_read_57 : decode b_Law_read 57 = .ok (.aload_n 1, 1) := kq_43 byq_r (by decide +kernel)
theorem d_Law_read_58 : decode b_Law_read 58 = .ok (.getfield 41, 3) := kq_180 byq_r (a := 0) (b := 41) (by decide +kernel)
theorem d_Law_read_61 : decode b_Law_read 61 = .ok (.bipush 40, 2) := kq_16 byq_r (b := 40) (by decide +kernel)
theorem d_Law_read_63 : decode b_Law_read 63 = .ok (.if_icmp .gt 17, 3) := kq_163 byq_r (a := 0) (b := 17) (by decide +kernel)
theorem d_Law_read_66 : decode b_Law_read 66 = .ok (.aload_n 0, 1) := kq_42 byq_r (by decide +kernel)
theorem d_Law_read_67 : decode b_Law_read 67 = .ok (.getfield 37, 3) := kq_180 byq_r (a := 0) (b := 37) (by decide +kernel)
theorem d_Law_read_70 : decode b_Law_read 70 = .ok (.ifCond .eq 10, 3) := kq_153 byq_r (a := 0) (b := 10) (by decide +kernel)
theorem d_Law_read_73 : decode b_Law_read 73 = .ok (.aload_n 0, 1) := kq_42 byq_r (by decide +kernel)
theorem d_Law_read_74 : decode b_Law_read 74 = .ok (.getfield 31, 3) := kq_180 byq_r (a := 0) (b := 31) (by decide +kernel)
theorem d_Law_read_77 : decode b_Law_read 77 = .ok (.ifCond .le 53, 3) := kq_158 byq_r (a := 0) (b := 53) (by decide +kernel)
theorem d_Law_read_80 : decode b_Law_read 80 = .ok (.iconst (-1), 1) := kq_2 byq_r (by decide +kernel)
theorem d_Law_read_81 : decode b_Law_read 81 = .ok (.iload_n 2, 1) := kq_28 byq_r (by decide +kernel)
theorem d_Law_read_82 : decode b_Law_read 82 = .ok (.isub, 1) := kq_100 byq_r (by decide +kernel)
theorem d_Law_read_83 : decode b_Law_read 83 = .ok (.ireturn, 1) := kq_172 byq_r (by decide +kernel)
theorem d_Law_read_84 : decode b_Law_read 84 = .ok (.aload_n 0, 1) := kq_42 byq_r (by decide +kernel)
theorem d_Law_read_85 : decode b_Law_read 85 = .ok (.getfield 37, 3) := kq_180 byq_r (a := 0) (b := 37) (by decide +kernel)
theorem d_Law_read_88 : decode b_Law_read 88 = .ok (.ifCond .eq 12, 3) := kq_153 byq_r (a := 0) (b := 12) (by decide +kernel)
theorem d_Law_read_91 : decode b_Law_read 91 = .ok (.aload_n 0, 1) := kq_42 byq_r (by decide +kernel)
theorem d_Law_read_92 : decode b_Law_read 92 = .ok (.iload 4, 2) := kq_21 byq_r (by decide +kernel)
theorem d_Law_read_94 : decode b_Law_read 94 = .ok (.invokevirtual 50, 3) := kq_182 byq_r (a := 0) (b := 50) (by decide +kernel)
theorem d_Law_read_97 : decode b_Law_read 97 = .ok (.goto 11, 3) := kq_167 byq_r (a := 0) (b := 11) (by decide +kernel)
theorem d_Law_read_100 : decode b_Law_read 100 = .ok (.aload_n 0, 1) := kq_42 byq_r (by decide +kernel)
theorem d_Law_read_101 : decode b_Law_read 101 = .ok (.aload_n 1, 1) := kq_43 byq_r (by decide +kernel)
theorem d_Law_read_102 : decode b_Law_read 102 = .ok (.iload_n 2, 1) := kq_28 byq_r (by decide +kernel)
theorem d_Law_read_103 : decode b_Law_read 103 = .ok (.iload 4, 2) := kq_21 byq_r (by decide +kernel)
theorem d_Law_read_105 : decode b_Law_read 105 = .ok (.invokevirtual 54, 3) := kq_182 byq_r (a := 0) (b := 54) (by decide +kernel)
theorem d_Law_read_108 : decode b_Law_read 108 = .ok (.istore 5, 2) := kq_54 byq_r (by decide +kernel)
theorem d_Law_read_110 : decode b_Law_read 110 = .ok (.iload 5, 2) := kq_21 byq_r (by decide +kernel)
theorem d_Law_read_112 : decode b_Law_read 112 = .ok (.ifCond .ne 7, 3) := kq_154 byq_r (a := 0) (b := 7) (by decide +kernel)
theorem d_Law_read_115 : decode b_Law_read 115 = .ok (.iconst (-1), 1) := kq_2 byq_r (by decide +kernel)
theorem d_Law_read_116 : decode b_Law_read 116 = .ok (.iload_n 2, 1) := kq_28 byq_r (by decide +kernel)
theorem d_Law_read_117 : decode b_Law_read 117 = .ok (.isub, 1) := kq_100 byq_r (by decide +kernel)
theorem d_Law_read_118 : decode b_Law_read 118 = .ok (.ireturn, 1) := kq_172 byq_r (by decide +kernel)
theorem d_Law_read_119 : decode b_Law_read 119 = .ok (.iload_n 2, 1) := kq_28 byq_r (by decide +kernel)
theorem d_Law_read_120 : decode b_Law_read 120 = .ok (.iload 5, 2) := kq_21 byq_r (by decide +kernel)
theorem d_Law_read_122 : decode b_Law_read 122 = .ok (.iadd, 1) := kq_96 byq_r (by decide +kernel)
theorem d_Law_read_123 : decode b_Law_read 123 = .ok (.istore_n 2, 1) := kq_61 byq_r (by decide +kernel)
theorem d_Law_read_124 : decode b_Law_read 124 = .ok (.iinc 3 1, 3) := kq_132 byq_r (b := 1) (by decide +kernel)
theorem d_Law_read_127 : decode b_Law_read 127 = .ok (.goto (-98), 3) := kq_167 byq_r (a := 255) (b := 158) (by decide +kernel)
theorem d_Law_read_130 : decode b_Law_read 130 = .ok (.aload_n 0, 1) := kq_42 byq_r (by decide +kernel)
theorem d_Law_read_131 : decode b_Law_read 131 = .ok (.iconst 0, 1) := kq_3 byq_r (by decide +kernel)
theorem d_Law_read_132 : decode b_Law_read 132 = .ok (.invokevirtual 58, 3) := kq_182 byq_r (a := 0) (b := 58) (by decide +kernel)
theorem d_Law_read_135 : decode b_Law_read 135 = .ok (.aload_n 0, 1) := kq_42 byq_r (by decide +kernel)
theorem d_Law_read_136 : decode b_Law_read 136 = .ok (.getfield 15, 3) := kq_180 byq_r (a := 0) (b := 15) (by decide +kernel)
theorem d_Law_read_139 : decode b_Law_read 139 = .ok (.iconst 0, 1) := kq_3 byq_r (by decide +kernel)
theorem d_Law_read_140 : decode b_Law_read 140 = .ok (.aload_n 0, 1) := kq_42 byq_r (by decide +kernel)
theorem d_Law_read_141 : decode b_Law_read 141 = .ok (.getfield 9, 3) := kq_180 byq_r (a := 0) (b := 9) (by decide +kernel)
theorem d_Law_read_144 : decode b_Law_read 144 = .ok (.iconst 0, 1) := kq_3 byq_r (by decide +kernel)
theorem d_Law_read_145 : decode b_Law_read 145 = .ok (.bipush 40, 2) := kq_16 byq_r (b := 40) (by decide +kernel)
theorem d_Law_read_147 : decode b_Law_read 147 = .ok (.invokestatic 62, 3) := kq_184 byq_r (a := 0) (b := 62) (by decide +kernel)
theorem d_Law_read_150 : decode b_Law_read 150 = .ok (.aload_n 0, 1) := kq_42 byq_r (by decide +kernel)
theorem d_Law_read_151 : decode b_Law_read 151 = .ok (.aload_n 0, 1) := kq_42 byq_r (by decide +kernel)
theorem d_Law_read_152 : decode b_Law_read 152 = .ok (.getfield 24, 3) := kq_180 byq_r (a := 0) (b := 24) (by decide +kernel)
theorem d_Law_read_155 : decode b_Law_read 155 = .ok (.putfield 68, 3) := kq_181 byq_r (a := 0) (b := 68) (by decide +kernel)
theorem d_Law_read_158 : decode b_Law_read 158 = .ok (.iconst 0, 1) := kq_3 byq_r (by decide +kernel)
theorem d_Law_read_159 : decode b_Law_read 159 = .ok (.ireturn, 1) := kq_172 byq_r (by decide +kernel)
theorem d_Law_push_0 : decode b_Law_push 0 = .ok (.aload_n 0, 1) := kq_42 byq_r (by decide +kernel)
theorem d_Law_push_1 : decode b_Law_push 1 = .ok (.getfield 99, 3) := kq_180 byq_r (a := 0) (b := 99) (by decide +kernel)
theorem d_Law_push_4 : decode b_Law_push 4 = .ok (.ifCond .lt 32, 3) := kq_155 byq_r (a := 0) (b := 32) (by decide +kernel)
theorem d_Law_push_7 : decode b_Law_push 7 = .ok (.aload_n 0, 1) := kq_42 byq_r (by decide +kernel)
theorem d_Law_push_8 : decode b_Law_push 8 = .ok (.getfield 99, 3) := kq_180 byq_r (a := 0) (b := 99) (by decide +kernel)
theorem d_Law_push_11 : decode b_Law_push 11 = .ok (.bipush 40, 2) := kq_16 byq_r (b := 40) (by decide +kernel)
theorem d_Law_push_13 : decode b_Law_push 13 = .ok (.if_icmp .ge 23, 3) := kq_162 byq_r (a := 0) (b := 23) (by decide +kernel)
theorem d_Law_push_16 : decode b_Law_push 16 = .ok (.aload_n 0, 1) := kq_42 byq_r (by decide +kernel)
theorem d_Law_push_17 : decode b_Law_push 17 = .ok (.getfield 21, 3) := kq_180 byq_r (a := 0) (b := 21) (by decide +kernel)
theorem d_Law_push_20 : decode b_Law_push 20 = .ok (.aload_n 0, 1) := kq_42 byq_r (by decide +kernel)
theorem d_Law_push_21 : decode b_Law_push 21 = .ok (.getfield 99, 3) := kq_180 byq_r (a := 0) (b := 99) (by decide +kernel)
theorem d_Law_push_24 : decode b_Law_push 24 = .ok (.iload_n 1, 1) := kq_27 byq_r (by decide +kernel)
theorem d_Law_push_25 : decode b_Law_push 25 = .ok (.iastore, 1) := kq_79 byq_r (by decide +kernel)
theorem d_Law_push_26 : decode b_Law_push 26 = .ok (.aload_n 0, 1) := kq_42 byq_r (by decide +kernel)
theorem d_Law_push_27 : decode b_Law_push 27 = .ok (.dup, 1) := kq_89 byq_r (by decide +kernel)
theorem d_Law_push_28 : decode b_Law_push 28 = .ok (.getfield 99, 3) := kq_180 byq_r (a := 0) (b := 99) (by decide +kernel)
theorem d_Law_push_31 : decode b_Law_push 31 = .ok (.iconst 1, 1) := kq_4 byq_r (by decide +kernel)
theorem d_Law_push_32 : decode b_Law_push 32 = .ok (.iadd, 1) := kq_96 byq_r (by decide +kernel)
theorem d_Law_push_33 : decode b_Law_push 33 = .ok (.putfield 99, 3) := kq_181 byq_r (a := 0) (b := 99) (by decide +kernel)
theorem d_Law_push_36 : decode b_Law_push 36 = .ok (.return_, 1) := kq_177 byq_r (by decide +kernel)
theorem d_Law_quality_0 : decode b_Law_quality 0 = .ok (.aload_n 2, 1) := kq_44 byq_r (by decide +kernel)
theorem d_Law_quality_1 : decode b_Law_quality 1 = .ok (.getfield 119, 3) := kq_180 byq_r (a := 0) (b := 119) (by decide +kernel)
theorem d_Law_quality_4 : decode b_Law_quality 4 = .ok (.iload_n 1, 1) := kq_27 byq_r (by decide +kernel)
theorem d_Law_quality_5 : decode b_Law_quality 5 = .ok (.iaload, 1) := kq_46 byq_r (by decide +kernel)
theorem d_Law_quality_6 : decode b_Law_quality 6 = .ok (.istore 5, 2) := kq_54 byq_r (by decide +kernel)
theorem d_Law_quality_8 : decode b_Law_quality 8 = .ok (.iload_n 0, 1) := kq_26 byq_r (by decide +kernel)
theorem d_Law_quality_9 : decode b_Law_quality 9 = .ok (.tableswitch 167 105 121 #[88, 167, 158, 167, 83, 120, 167, 167, 167, 167, 142, 167, 167, 167, 90, 104, 112], 83) := by decide +kernel
theorem d_Law_quality_92 : decode b_Law_quality 92 = .ok (.aload_n 2, 1) := kq_44 byq_r (by decide +kernel)
theorem d_Law_quality_93 : decode b_Law_quality 93 = .ok (.getfield 121, 3) := kq_180 byq_r (a := 0) (b := 121) (by decide +kernel)
theorem d_Law_quality_96 : decode b_Law_quality 96 = .ok (.ireturn, 1) := kq_172 byq_r (by decide +kernel)
theorem d_Law_quality_97 : decode b_Law_quality 97 = .ok (.iload_n 1, 1) := kq_27 byq_r (by decide +kernel)
theorem d_Law_quality_98 : decode b_Law_quality 98 = .ok (.ireturn, 1) := kq_172 byq_r (by decide +kernel)
theorem d_Law_quality_99 : decode b_Law_quality 99 = .ok (.aload_n 3, 1) := kq_45 byq_r (by decide +kernel)
theorem d_Law_quality_100 : decode b_Law_quality 100 = .ok (.iload_n 1, 1) := kq_27 byq_r (by decide +kernel)
theorem d_Law_quality_101 : decode b_Law_quality 101 = .ok (.invokevirtual 124, 3) := kq_182 byq_r (a := 0) (b := 124) (by decide +kernel)
theorem d_Law_quality_104 : decode b_Law_quality 104 = .ok (.ifCond .eq 7, 3) := kq_153 byq_r (a := 0) (b := 7) (by decide +kernel)
theorem d_Law_quality_107 : decode b_Law_quality 107 = .ok (.iconst 1, 1) := kq_4 byq_r (by decide +kernel)
theorem d_Law_quality_108 : decode b_Law_quality 108 = .ok (.goto 4, 3) := kq_167 byq_r (a := 0) (b := 4) (by decide +kernel)
theorem d_Law_quality_111 : decode b_Law_quality 111 = .ok (.iconst 0, 1) := kq_3 byq_r (by decide +kernel)
theorem d_Law_quality_112 : decode b_Law_quality 112 = .ok (.ireturn, 1) := kq_172 byq_r (by decide +kernel)
theorem d_Law_quality_113 : decode b_Law_quality 113 = .ok (.aload 4, 2) := kq_25 byq_r (by decide +kernel)
theorem d_Law_quality_115 : decode b_Law_quality 115 = .ok (.iload 5, 2) := kq_21 byq_r (by decide +kernel)
theorem d_Law_quality_117 : decode b_Law_quality 117 = .ok (.invokevirtual 129, 3) := kq_182 byq_r (a := 0) (b := 129) (by decide +kernel)
theorem d_Law_quality_120 : decode b_Law_quality 120 = .ok (.ireturn, 1) := kq_172 byq_r (by decide +kernel)
theorem d_Law_quality_121 : decode b_Law_quality 121 = .ok (.aload 4, 2) := kq_25 byq_r (by decide +kernel)
theorem d_Law_quality_123 : decode b_Law_quality 123 = .ok (.iload 5, 2) := kq_21 byq_r (by decide +kernel)
theorem d_Law_quality_125 : decode b_Law_quality 125 = .ok (.invokevirtual 134, 3) := kq_182 byq_r (a := 0) (b := 134) (by decide +kernel)
theorem d_Law_quality_128 : decode b_Law_quality 128 = .ok (.ireturn, 1) := kq_172 byq_r (by decide +kernel)
theorem d_Law_quality_129 : decode b_Law_quality 129 = .ok (.aload_n 2, 1) := kq_44 byq_r (by decide +kernel)
theorem d_Law_quality_130 : decode b_Law_quality 130 = .ok (.aload_n 2, 1) := kq_44 byq_r (by decide +kernel)
theorem d_Law_quality_131 : decode b_Law_quality 131 = .ok (.getfield 96, 3) := kq_180 byq_r (a := 0) (b := 96) (by decide +kernel)
theorem d_Law_quality_134 : decode b_Law_quality 134 = .ok (.iload_n 1, 1) := kq_27 byq_r (by decide +kernel)
theorem d_Law_quality_135 : decode b_Law_quality 135 = .ok (.iaload, 1) := kq_46 byq_r (by decide +kernel)
theorem d_Law_quality_136 : decode b_Law_quality 136 = .ok (.iload 5, 2) := kq_21 byq_r (by decide +kernel)
theorem d_Law_quality_138 : decode b_Law_quality 138 = .ok (.aload_n 3, 1) := kq_45 byq_r (by decide +kernel)
theorem d_Law_quality_139 : decode b_Law_quality 139 = .ok (.getfield 137, 3) := kq_180 byq_r (a := 0) (b := 137) (by decide +kernel)
theorem d_Law_quality_142 : decode b_Law_quality 142 = .ok (.invokevirtual 140, 3) := kq_182 byq_r (a := 0) (b := 140) (by decide +kernel)
theorem d_Law_quality_145 : decode b_Law_quality 145 = .ok (.invokestatic 143, 3) := kq_184 byq_r (a := 0) (b := 143) (by decide +kernel)
theorem d_Law_quality_148 : decode b_Law_quality 148 = .ok (.iconst 1, 1) := kq_4 byq_r (by decide +kernel)
theorem d_Law_quality_149 : decode b_Law_quality 149 = .ok (.isub, 1) := kq_100 byq_r (by decide +kernel)
theorem d_Law_quality_150 : decode b_Law_quality 150 = .ok (.ireturn, 1) := kq_172 byq_r (by decide +kernel)
theorem d_Law_quality_151 : decode b_Law_quality 151 = .ok (.aload 4, 2) := kq_25 byq_r (by decide +kernel)
theorem d_Law_quality_153 : decode b_Law_quality 153 = .ok (.iload 5, 2) := kq_21 byq_r (by decide +kernel)
theorem d_Law_quality_155 : decode b_Law_quality 155 = .ok (.invokevirtual 148, 3) := kq_182 byq_r (a := 0) (b := 148) (by decide +kernel)
theorem d_Law_quality_158 : decode b_Law_quality 158 = .ok (.ifCond .eq 7, 3) := kq_153 byq_r (a := 0) (b := 7) (by decide +kernel)
theorem d_Law_quality_161 : decode b_Law_quality 161 = .ok (.iconst 1, 1) := kq_4 byq_r (by decide +kernel)
theorem d_Law_quality_162 : decode b_Law_quality 162 = .ok (.goto 4, 3) := kq_167 byq_r (a := 0) (b := 4) (by decide +kernel)
theorem d_Law_quality_165 : decode b_Law_quality 165 = .ok (.iconst 0, 1) := kq_3 byq_r (by decide +kernel)
theorem d_Law_quality_166 : decode b_Law_quality 166 = .ok (.ireturn, 1) := kq_172 byq_r (by decide +kernel)
theorem d_Law_quality_167 : decode b_Law_quality 167 = .ok (.aload_n 2, 1) := kq_44 byq_r (by decide +kernel)
theorem d_Law_quality_168 : decode b_Law_quality 168 = .ok (.getfield 151, 3) := kq_180 byq_r (a := 0) (b := 151) (by decide +kernel)
theorem d_Law_quality_171 : decode b_Law_quality 171 = .ok (.iload_n 1, 1) := kq_27 byq_r (by decide +kernel)
theorem d_Law_quality_172 : decode b_Law_quality 172 = .ok (.ishr, 1) := kq_122 byq_r (by decide +kernel)
theorem d_Law_quality_173 : decode b_Law_quality 173 = .ok (.iconst 1, 1) := kq_4 byq_r (by decide +kernel)
theorem d_Law_quality_174 : decode b_Law_quality 174 = .ok (.iand, 1) := kq_126 byq_r (by decide +kernel)
theorem d_Law_quality_175 : decode b_Law_quality 175 = .ok (.ireturn, 1) := kq_172 byq_r (by decide +kernel)
theorem d_Law_quality_176 : decode b_Law_quality 176 = .ok (.iconst 0, 1) := kq_3 byq_r (by decide +kernel)
theorem d_Law_quality_177 : decode b_Law_quality 177 = .ok (.ireturn, 1) := kq_172 byq_r (by decide +kernel)
theorem d_Law_pop_0 : decode b_Law_pop 0 = .ok (.aload_n 0, 1) := kq_42 byq_r (by decide +kernel)
theorem d_Law_pop_1 : decode b_Law_pop 1 = .ok (.getfield 99, 3) := kq_180 byq_r (a := 0) (b := 99) (by decide +kernel)
theorem d_Law_pop_4 : decode b_Law_pop 4 = .ok (.iconst 1, 1) := kq_4 byq_r (by decide +kernel)
theorem d_Law_pop_5 : decode b_Law_pop 5 = .ok (.if_icmp .lt 12, 3) := kq_161 byq_r (a := 0) (b := 12) (by decide +kernel)
theorem d_Law_pop_8 : decode b_Law_pop 8 = .ok (.aload_n 0, 1) := kq_42 byq_r (by decide +kernel)
theorem d_Law_pop_9 : decode b_Law_pop 9 = .ok (.getfield 99, 3) := kq_180 byq_r (a := 0) (b := 99) (by decide +kernel)
theorem d_Law_pop_12 : decode b_Law_pop 12 = .ok (.bipush 40, 2) := kq_16 byq_r (b := 40) (by decide +kernel)
theorem d_Law_pop_14 : decode b_Law_pop 14 = .ok (.if_icmp .le 5, 3) := kq_164 byq_r (a := 0) (b := 5) (by decide +kernel)
theorem d_Law_pop_17 : decode b_Law_pop 17 = .ok (.iconst 0, 1) := kq_3 byq_r (by decide +kernel)
theorem d_Law_pop_18 : decode b_Law_pop 18 = .ok (.ireturn, 1) := kq_172 byq_r (by decide +kernel)
theorem d_Law_pop_19 : decode b_Law_pop 19 = .ok (.aload_n 0, 1) := kq_42 byq_r (by decide +kernel)
theorem d_Law_pop_20 : decode b_Law_pop 20 = .ok (.dup, 1) := kq_89 byq_r (by decide +kernel)
theorem d_Law_pop_21 : decode b_Law_pop 21 = .ok (.getfield 99, 3) := kq_180 byq_r (a := 0) (b := 99) (by decide +kernel)
theorem d_Law_pop_24 : decode b_Law_pop 24 = .ok (.iconst 1, 1) := kq_4 byq_r (by decide +kernel)
theorem d_Law_pop_25 : decode b_Law_pop 25 = .ok (.isub, 1) := kq_100 byq_r (by decide +kernel)
theorem d_Law_pop_26 : decode b_Law_pop 26 = .ok (.putfield 99, 3) := kq_181 byq_r (a := 0) (b := 99) (by decide +kernel)
theorem d_Law_pop_29 : decode b_Law_pop 29 = .ok (.aload_n 0, 1) := kq_42 byq_r (by decide +kernel)
theorem d_Law_pop_30 : decode b_Law_pop 30 = .ok (.getfield 21, 3) := kq_180 byq_r (a := 0) (b := 21) (by decide +kernel)
theorem d_Law_pop_33 : decode b_Law_pop 33 = .ok (.aload_n 0, 1) := kq_42 byq_r (by decide +kernel)
theorem d_Law_pop_34 : decode b_Law_pop 34 = .ok (.getfield 99, 3) := kq_180 byq_r (a := 0) (b := 99) (by decide +kernel)
theorem d_Law_pop_37 : decode b_Law_pop 37 = .ok (.iaload, 1) := kq_46 byq_r (by decide +kernel)
theorem d_Law_pop_38 : decode b_Law_pop 38 = .ok (.ireturn, 1) := kq_172 byq_r (by decide +kernel)
theorem d_Law_joined_0 : decode b_Law_joined 0 = .ok (.iload_n 1, 1) := kq_27 byq_r (by decide +kernel)
theorem d_Law_joined_1 : decode b_Law_joined 1 = .ok (.tableswitch 156 42 62 #[140, 132, 156, 136, 156, 144, 156, 156, 156, 156, 156, 156, 156, 156, 156, 156, 156, 156, 99, 121, 110], 99) := by decide +kernel
theorem d_Law_joined_100 : decode b_Law_joined 100 = .ok (.iload_n 0, 1) := kq_26 byq_r (by decide +kernel)
theorem d_Law_joined_101 : decode b_Law_joined 101 = .ok (.iload_n 2, 1) := kq_28 byq_r (by decide +kernel)
theorem d_Law_joined_102 : decode b_Law_joined 102 = .ok (.if_icmp .ge 7, 3) := kq_162 byq_r (a := 0) (b := 7) (by decide +kernel)
theorem d_Law_joined_105 : decode b_Law_joined 105 = .ok (.iconst 1, 1) := kq_4 byq_r (by decide +kernel)
theorem d_Law_joined_106 : decode b_Law_joined 106 = .ok (.goto 4, 3) := kq_167 byq_r (a := 0) (b := 4) (by decide +kernel)
theorem d_Law_joined_109 : decode b_Law_joined 109 = .ok (.iconst 0, 1) := kq_3 byq_r (by decide +kernel)
theorem d_Law_joined_110 : decode b_Law_joined 110 = .ok (.ireturn, 1) := kq_172 byq_r (by decide +kernel)
theorem d_Law_joined_111 : decode b_Law_joined 111 = .ok (.iload_n 0, 1) := kq_26 byq_r (by decide +kernel)
theorem d_Law_joined_112 : decode b_Law_joined 112 = .ok (.iload_n 2, 1) := kq_28 byq_r (by decide +kernel)
theorem d_Law_joined_113 : decode b_Law_joined 113 = .ok (.if_icmp .le 7, 3) := kq_164 byq_r (a := 0) (b := 7) (by decide +kernel)
theorem d_Law_joined_116 : decode b_Law_joined 116 = .ok (.iconst 1, 1) := kq_4 byq_r (by decide +kernel)
theorem d_Law_joined_117 : decode b_Law_joined 117 = .ok (.goto 4, 3) := kq_167 byq_r (a := 0) (b := 4) (by decide +kernel)
theorem d_Law_joined_120 : decode b_Law_joined 120 = .ok (.iconst 0, 1) := kq_3 byq_r (by decide +kernel)
theorem d_Law_joined_121 : decode b_Law_joined 121 = .ok (.ireturn, 1) := kq_172 byq_r (by decide +kernel)
theorem d_Law_joined_122 : decode b_Law_joined 122 = .ok (.iload_n 0, 1) := kq_26 byq_r (by decide +kernel)
theorem d_Law_joined_123 : decode b_Law_joined 123 = .ok (.iload_n 2, 1) := kq_28 byq_r (by decide +kernel)
theorem d_Law_joined_124 : decode b_Law_joined 124 = .ok (.if_icmp .ne 7, 3) := kq_160 byq_r (a := 0) (b := 7) (by decide +kernel)
theorem d_Law_joined_127 : decode b_Law_joined 127 = .ok (.iconst 1, 1) := kq_4 byq_r (by decide +kernel)
theorem d_Law_joined_128 : decode b_Law_joined 128 = .ok (.goto 4, 3) := kq_167 byq_r (a := 0) (b := 4) (by decide +kernel)
theorem d_Law_joined_131 : decode b_Law_joined 131 = .ok (.iconst 0, 1) := kq_3 byq_r (by decide +kernel)
theorem d_Law_joined_132 : decode b_Law_joined 132 = .ok (.ireturn, 1) := kq_172 byq_r (by decide +kernel)
theorem d_Law_joined_133 : decode b_Law_joined 133 = .ok (.iload_n 0, 1) := kq_26 byq_r (by decide +kernel)
theorem d_Law_joined_134 : decode b_Law_joined 134 = .ok (.iload_n 2, 1) := kq_28 byq_r (by decide +kernel)
theorem d_Law_joined_135 : decode b_Law_joined 135 = .ok (.iadd, 1) := kq_96 byq_r (by decide +kernel)
theorem d_Law_joined_136 : decode b_Law_joined 136 = .ok (.ireturn, 1) := kq_172 byq_r (by decide +kernel)
theorem d_Law_joined_137 : decode b_Law_joined 137 = .ok (.iload_n 0, 1) := kq_26 byq_r (by decide +kernel)
theorem d_Law_joined_138 : decode b_Law_joined 138 = .ok (.iload_n 2, 1) := kq_28 byq_r (by decide +kernel)
theorem d_Law_joined_139 : decode b_Law_joined 139 = .ok (.isub, 1) := kq_100 byq_r (by decide +kernel)
theorem d_Law_joined_140 : decode b_Law_joined 140 = .ok (.ireturn, 1) := kq_172 byq_r (by decide +kernel)
theorem d_Law_joined_141 : decode b_Law_joined 141 = .ok (.iload_n 0, 1) := kq_26 byq_r (by decide +kernel)
theorem d_Law_joined_142 : decode b_Law_joined 142 = .ok (.iload_n 2, 1) := kq_28 byq_r (by decide +kernel)
theorem d_Law_joined_143 : decode b_Law_joined 143 = .ok (.imul, 1) := kq_104 byq_r (by decide +kernel)
theorem d_Law_joined_144 : decode b_Law_joined 144 = .ok (.ireturn, 1) := kq_172 byq_r (by decide +kernel)
theorem d_Law_joined_145 : decode b_Law_joined 145 = .ok (.iload_n 2, 1) := kq_28 byq_r (by decide +kernel)
theorem d_Law_joined_146 : decode b_Law_joined 146 = .ok (.ifCond .ne 7, 3) := kq_154 byq_r (a := 0) (b := 7) (by decide +kernel)
theorem d_Law_joined_149 : decode b_Law_joined 149 = .ok (.iconst 0, 1) := kq_3 byq_r (by decide +kernel)
theorem d_Law_joined_150 : decode b_Law_joined 150 = .ok (.goto 6, 3) := kq_167 byq_r (a := 0) (b := 6) (by decide +kernel)
theorem d_Law_joined_153 : decode b_Law_joined 153 = .ok (.iload_n 0, 1) := kq_26 byq_r (by decide +kernel)
theorem d_Law_joined_154 : decode b_Law_joined 154 = .ok (.iload_n 2, 1) := kq_28 byq_r (by decide +kernel)
theorem d_Law_joined_155 : decode b_Law_joined 155 = .ok (.idiv, 1) := kq_108 byq_r (by decide +kernel)
theorem d_Law_joined_156 : decode b_Law_joined 156 = .ok (.ireturn, 1) := kq_172 byq_r (by decide +kernel)
theorem d_Law_joined_157 : decode b_Law_joined 157 = .ok (.iconst 0, 1) := kq_3 byq_r (by decide +kernel)
theorem d_Law_joined_158 : decode b_Law_joined 158 = .ok (.ireturn, 1) := kq_172 byq_r (by decide +kernel)
theorem d_Law_work_0 : decode b_Law_work 0 = .ok (.aload_n 0, 1) := kq_42 byq_r (by decide +kernel)
theorem d_Law_work_1 : decode b_Law_work 1 = .ok (.invokevirtual 112, 3) := kq_182 byq_r (a := 0) (b := 112) (by decide +kernel)
theorem d_Law_work_4 : decode b_Law_work 4 = .ok (.istore_n 2, 1) := kq_61 byq_r (by decide +kernel)
theorem d_Law_work_5 : decode b_Law_work 5 = .ok (.iload_n 1, 1) := kq_27 byq_r (by decide +kernel)
theorem d_Law_work_6 : decode b_Law_work 6 = .ok (.sipush 256, 3) := kq_17 byq_r (a := 1) (b := 0) (by decide +kernel)
theorem d_Law_work_9 : decode b_Law_work 9 = .ok (.if_icmp .ne 12, 3) := kq_160 byq_r (a := 0) (b := 12) (by decide +kernel)
theorem d_Law_work_12 : decode b_Law_work 12 = .ok (.aload_n 0, 1) := kq_42 byq_r (by decide +kernel)
theorem d_Law_work_13 : decode b_Law_work 13 = .ok (.iload_n 2, 1) := kq_28 byq_r (by decide +kernel)
theorem d_Law_work_14 : decode b_Law_work 14 = .ok (.ineg, 1) := kq_116 byq_r (by decide +kernel)
theorem d_Law_work_15 : decode b_Law_work 15 = .ok (.invokevirtual 102, 3) := kq_182 byq_r (a := 0) (b := 102) (by decide +kernel)
theorem d_Law_work_18 : decode b_Law_work 18 = .ok (.goto 16, 3) := kq_167 byq_r (a := 0) (b := 16) (by decide +kernel)
theorem d_Law_work_21 : decode b_Law_work 21 = .ok (.aload_n 0, 1) := kq_42 byq_r (by decide +kernel)
theorem d_Law_work_22 : decode b_Law_work 22 = .ok (.aload_n 0, 1) := kq_42 byq_r (by decide +kernel)
theorem d_Law_work_23 : decode b_Law_work 23 = .ok (.invokevirtual 112, 3) := kq_182 byq_r (a := 0) (b := 112) (by decide +kernel)
theorem d_Law_work_26 : decode b_Law_work 26 = .ok (.iload_n 1, 1) := kq_27 byq_r (by decide +kernel)
theorem d_Law_work_27 : decode b_Law_work 27 = .ok (.iload_n 2, 1) := kq_28 byq_r (by decide +kernel)
theorem d_Law_work_28 : decode b_Law_work 28 = .ok (.invokestatic 116, 3) := kq_184 byq_r (a := 0) (b := 116) (by decide +kernel)
theorem d_Law_work_31 : decode b_Law_work 31 = .ok (.invokevirtual 102, 3) := kq_182 byq_r (a := 0) (b := 102) (by decide +kernel)
theorem d_Law_work_34 : decode b_Law_work 34 = .ok (.return_, 1) := kq_177 byq_r (by decide +kernel)
theorem d_Law_goes_0 : decode b_Law_goes 0 = .ok (.aload_n 2, 1) := kq_44 byq_r (by decide +kernel)
theorem d_Law_goes_1 : decode b_Law_goes 1 = .ok (.getfield 91, 3) := kq_180 byq_r (a := 0) (b := 91) (by decide +kernel)
theorem d_Law_goes_4 : decode b_Law_goes 4 = .ok (.iconst 1, 1) := kq_4 byq_r (by decide +kernel)
theorem d_Law_goes_5 : decode b_Law_goes 5 = .ok (.if_icmp .ne 15, 3) := kq_160 byq_r (a := 0) (b := 15) (by decide +kernel)
theorem d_Law_goes_8 : decode b_Law_goes 8 = .ok (.aload_n 2, 1) := kq_44 byq_r (by decide +kernel)
theorem d_Law_goes_9 : decode b_Law_goes 9 = .ok (.getfield 96, 3) := kq_180 byq_r (a := 0) (b := 96) (by decide +kernel)
theorem d_Law_goes_12 : decode b_Law_goes 12 = .ok (.iload_n 1, 1) := kq_27 byq_r (by decide +kernel)
theorem d_Law_goes_13 : decode b_Law_goes 13 = .ok (.iaload, 1) := kq_46 byq_r (by decide +kernel)
theorem d_Law_goes_14 : decode b_Law_goes 14 = .ok (.iconst 1, 1) := kq_4 byq_r (by decide +kernel)
theorem d_Law_goes_15 : decode b_Law_goes 15 = .ok (.if_icmp .ne 5, 3) := kq_160 byq_r (a := 0) (b := 5) (by decide +kernel)
theorem d_Law_goes_18 : decode b_Law_goes 18 = .ok (.iconst 0, 1) := kq_3 byq_r (by decide +kernel)
theorem d_Law_goes_19 : decode b_Law_goes 19 = .ok (.ireturn, 1) := kq_172 byq_r (by decide +kernel)
theorem d_Law_goes_20 : decode b_Law_goes 20 = .ok (.aload_n 0, 1) := kq_42 byq_r (by decide +kernel)
theorem d_Law_goes_21 : decode b_Law_goes 21 = .ok (.iconst 0, 1) := kq_3 byq_r (by decide +kernel)
theorem d_Law_goes_22 : decode b_Law_goes 22 = .ok (.putfield 99, 3) := kq_181 byq_r (a := 0) (b := 99) (by decide +kernel)
theorem d_Law_goes_25 : decode b_Law_goes 25 = .ok (.iconst 0, 1) := kq_3 byq_r (by decide +kernel)
theorem d_Law_goes_26 : decode b_Law_goes 26 = .ok (.istore 5, 2) := kq_54 byq_r (by decide +kernel)
theorem d_Law_goes_28 : decode b_Law_goes 28 = .ok (.iload 5, 2) := kq_21 byq_r (by decide +kernel)
theorem d_Law_goes_30 : decode b_Law_goes 30 = .ok (.aload_n 0, 1) := kq_42 byq_r (by decide +kernel)
theorem d_Law_goes_31 : decode b_Law_goes 31 = .ok (.getfield 68, 3) := kq_180 byq_r (a := 0) (b := 68) (by decide +kernel)
theorem d_Law_goes_34 : decode b_Law_goes 34 = .ok (.if_icmp .ge 73, 3) := kq_162 byq_r (a := 0) (b := 73) (by decide +kernel)
theorem d_Law_goes_37 : decode b_Law_goes 37 = .ok (.iload 5, 2) := kq_21 byq_r (by decide +kernel)
theorem d_Law_goes_39 : decode b_Law_goes 39 = .ok (.bipush 40, 2) := kq_16 byq_r (b := 40) (by decide +kernel)
theorem d_Law_goes_41 : decode b_Law_goes 41 = .ok (.if_icmp .ge 66, 3) := kq_162 byq_r (a := 0) (b := 66) (by decide +kernel)
theorem d_Law_goes_44 : decode b_Law_goes 44 = .ok (.aload_n 0, 1) := kq_42 byq_r (by decide +kernel)
theorem d_Law_goes_45 : decode b_Law_goes 45 = .ok (.getfield 9, 3) := kq_180 byq_r (a := 0) (b := 9) (by decide +kernel)
theorem d_Law_goes_48 : decode b_Law_goes 48 = .ok (.iload 5, 2) := kq_21 byq_r (by decide +kernel)
theorem d_Law_goes_50 : decode b_Law_goes 50 = .ok (.iaload, 1) := kq_46 byq_r (by decide +kernel)
theorem d_Law_goes_51 : decode b_Law_goes 51 = .ok (.istore 6, 2) := kq_54 byq_r (by decide +kernel)
theorem d_Law_goes_53 : decode b_Law_goes 53 = .ok (.iload 6, 2) := kq_21 byq_r (by decide +kernel)
theorem d_Law_goes_55 : decode b_Law_goes 55 = .ok (.ifCond .lt 12, 3) := kq_155 byq_r (a := 0) (b := 12) (by decide +kernel)
theorem d_Law_goes_58 : decode b_Law_goes 58 = .ok (.aload_n 0, 1) := kq_42 byq_r (by decide +kernel)
theorem d_Law_goes_59 : decode b_Law_goes 59 = .ok (.iload 6, 2) := kq_21 byq_r (by decide +kernel)
theorem d_Law_goes_61 : decode b_Law_goes 61 = .ok (.invokevirtual 102, 3) := kq_182 byq_r (a := 0) (b := 102) (by decide +kernel)
theorem d_Law_goes_64 : decode b_Law_goes 64 = .ok (.goto 37, 3) := kq_167 byq_r (a := 0) (b := 37) (by decide +kernel)
theorem d_Law_goes_67 : decode b_Law_goes 67 = .ok (.iload 6, 2) := kq_21 byq_r (by decide +kernel)
theorem d_Law_goes_69 : decode b_Law_goes 69 = .ok (.ineg, 1) := kq_116 byq_r (by decide +kernel)
theorem d_Law_goes_70 : decode b_Law_goes 70 = .ok (.invokestatic 84, 3) := kq_184 byq_r (a := 0) (b := 84) (by decide +kernel)
theorem d_Law_goes_73 : decode b_Law_goes 73 = .ok (.ifCond .eq 21, 3) := kq_153 byq_r (a := 0) (b := 21) (by decide +kernel)
theorem d_Law_goes_76 : decode b_Law_goes 76 = .ok (.aload_n 0, 1) := kq_42 byq_r (by decide +kernel)
theorem d_Law_goes_77 : decode b_Law_goes 77 = .ok (.iload 6, 2) := kq_21 byq_r (by decide +kernel)
theorem d_Law_goes_79 : decode b_Law_goes 79 = .ok (.ineg, 1) := kq_116 byq_r (by decide +kernel)
theorem d_Law_goes_80 : decode b_Law_goes 80 = .ok (.iload_n 1, 1) := kq_27 byq_r (by decide +kernel)
theorem d_Law_goes_81 : decode b_Law_goes 81 = .ok (.aload_n 2, 1) := kq_44 byq_r (by decide +kernel)
theorem d_Law_goes_82 : decode b_Law_goes 82 = .ok (.aload_n 3, 1) := kq_45 byq_r (by decide +kernel)
theorem d_Law_goes_83 : decode b_Law_goes 83 = .ok (.aload 4, 2) := kq_25 byq_r (by decide +kernel)
theorem d_Law_goes_85 : decode b_Law_goes 85 = .ok (.invokestatic 105, 3) := kq_184 byq_r (a := 0) (b := 105) (by decide +kernel)
theorem d_Law_goes_88 : decode b_Law_goes 88 = .ok (.invokevirtual 102, 3) := kq_182 byq_r (a := 0) (b := 102) (by decide +kernel)
theorem d_Law_goes_91 : decode b_Law_goes 91 = .ok (.goto 10, 3) := kq_167 byq_r (a := 0) (b := 10) (by decide +kernel)
theorem d_Law_goes_94 : decode b_Law_goes 94 = .ok (.aload_n 0, 1) := kq_42 byq_r (by decide +kernel)
theorem d_Law_goes_95 : decode b_Law_goes 95 = .ok (.iload 6, 2) := kq_21 byq_r (by decide +kernel)
theorem d_Law_goes_97 : decode b_Law_goes 97 = .ok (.ineg, 1) := kq_116 byq_r (by decide +kernel)
theorem d_Law_goes_98 : decode b_Law_goes 98 = .ok (.invokevirtual 109, 3) := kq_182 byq_r (a := 0) (b := 109) (by decide +kernel)
theorem d_Law_goes_101 : decode b_Law_goes 101 = .ok (.iinc 5 1, 3) := kq_132 byq_r (b := 1) (by decide +kernel)
theorem d_Law_goes_104 : decode b_Law_goes 104 = .ok (.goto (-76), 3) := kq_167 byq_r (a := 255) (b := 180) (by decide +kernel)
theorem d_Law_goes_107 : decode b_Law_goes 107 = .ok (.aload_n 0, 1) := kq_42 byq_r (by decide +kernel)
theorem d_Law_goes_108 : decode b_Law_goes 108 = .ok (.getfield 68, 3) := kq_180 byq_r (a := 0) (b := 68) (by decide +kernel)
theorem d_Law_goes_111 : decode b_Law_goes 111 = .ok (.ifCond .eq 10, 3) := kq_153 byq_r (a := 0) (b := 10) (by decide +kernel)
theorem d_Law_goes_114 : decode b_Law_goes 114 = .ok (.aload_n 0, 1) := kq_42 byq_r (by decide +kernel)
theorem d_Law_goes_115 : decode b_Law_goes 115 = .ok (.invokevirtual 112, 3) := kq_182 byq_r (a := 0) (b := 112) (by decide +kernel)
theorem d_Law_goes_118 : decode b_Law_goes 118 = .ok (.ifCond .eq 7, 3) := kq_153 byq_r (a := 0) (b := 7) (by decide +kernel)
theorem d_Law_goes_121 : decode b_Law_goes 121 = .ok (.iconst 1, 1) := kq_4 byq_r (by decide +kernel)
theorem d_Law_goes_122 : decode b_Law_goes 122 = .ok (.goto 4, 3) := kq_167 byq_r (a := 0) (b := 4) (by decide +kernel)
theorem d_Law_goes_125 : decode b_Law_goes 125 = .ok (.iconst 0, 1) := kq_3 byq_r (by decide +kernel)
theorem d_Law_goes_126 : decode b_Law_goes 126 = .ok (.ireturn, 1) := kq_172 byq_r (by decide +kernel)
def f_Law_rankOf (v0 : Int32) : Option (Int32) :=
  if v0 = (42 : Int32) then
  some (4 : Int32)
  else if v0 = (47 : Int32) then
  some (4 : Int32)
  else if v0 = (43 : Int32) then
  some (3 : Int32)
  else if v0 = (45 : Int32) then
  some (3 : Int32)
  else if v0 = (60 : Int32) then
  some (2 : Int32)
  else if v0 = (61 : Int32) then
  some (2 : Int32)
  else if v0 = (62 : Int32) then
  some (2 : Int32)
  else if v0 = (256 : Int32) then
  some (5 : Int32)
  else some (0 : Int32)
theorem c_Law_rankOf (l : Launch) (G : Gw)  (v0 : Int32) (M : Mem) (x : Int32) (h : f_Law_rankOf v0 = some x) (d : Nat) (hD : 1 ≤ d) : Ci l G y_Law_rankOf b_Law_rankOf 1 (some .int) d [.int v0] M (fun r9 M9 => r9 = x ∧ M9 = M) := by
  refine Ci_of (by decide) (Nat.le_of_ble_eq_true rfl) (fun E hE X => ?_)
  subst hE
  have kr : ∀ x9 : Int32, x = x9 → (fun r9 M9 => r9 = x ∧ M9 = M) x9 M := fun x9 e9 => by subst e9; exact ⟨rfl, rfl⟩
  unfold f_Law_rankOf at h
  refine V_iload_n (n := 0) X d_Law_rankOf_0 rfl rfl rfl ?_
  by_cases c1 : v0 = (42 : Int32)
  · rw [if_pos c1] at h
    refine V_lku (v := 42) (pc' := 80) (off := 79) X d_Law_rankOf_1 c1 (by decide) (by decide +kernel) (by decide) ?_
    refine V_iconst (v := 4) X d_Law_rankOf_80 (by decide) rfl ?_
    exact V_iret X (kr (4 : Int32) (Option.some.inj h).symm) d_Law_rankOf_81
  · rw [if_neg c1] at h
    by_cases c2 : v0 = (47 : Int32)
    · rw [if_pos c2] at h
      refine V_lku (v := 47) (pc' := 80) (off := 79) X d_Law_rankOf_1 c2 (by decide) (by decide +kernel) (by decide) ?_
      refine V_iconst (v := 4) X d_Law_rankOf_80 (by decide) rfl ?_
      exact V_iret X (kr (4 : Int32) (Option.some.inj h).symm) d_Law_rankOf_81
    · rw [if_neg c2] at h
      by_cases c3 : v0 = (43 : Int32)
      · rw [if_pos c3] at h
        refine V_lku (v := 43) (pc' := 78) (off := 77) X d_Law_rankOf_1 c3 (by decide) (by decide +kernel) (by decide) ?_
        refine V_iconst (v := 3) X d_Law_rankOf_78 (by decide) rfl ?_
        exact V_iret X (kr (3 : Int32) (Option.some.inj h).symm) d_Law_rankOf_79
      · rw [if_neg c3] at h
        by_cases c4 : v0 = (45 : Int32)
        · rw [if_pos c4] at h
          refine V_lku (v := 45) (pc' := 78) (off := 77) X d_Law_rankOf_1 c4 (by decide) (by decide +kernel) (by decide) ?_
          refine V_iconst (v := 3) X d_Law_rankOf_78 (by decide) rfl ?_
          exact V_iret X (kr (3 : Int32) (Option.some.inj h).symm) d_Law_rankOf_79
        · rw [if_neg c4] at h
          by_cases c5 : v0 = (60 : Int32)
          · rw [if_pos c5] at h
            refine V_lku (v := 60) (pc' := 76) (off := 75) X d_Law_rankOf_1 c5 (by decide) (by decide +kernel) (by decide) ?_
            refine V_iconst (v := 2) X d_Law_rankOf_76 (by decide) rfl ?_
            exact V_iret X (kr (2 : Int32) (Option.some.inj h).symm) d_Law_rankOf_77
          · rw [if_neg c5] at h
            by_cases c6 : v0 = (61 : Int32)
            · rw [if_pos c6] at h
              refine V_lku (v := 61) (pc' := 76) (off := 75) X d_Law_rankOf_1 c6 (by decide) (by decide +kernel) (by decide) ?_
              refine V_iconst (v := 2) X d_Law_rankOf_76 (by decide) rfl ?_
              exact V_iret X (kr (2 : Int32) (Option.some.inj h).symm) d_Law_rankOf_77
            · rw [if_neg c6] at h
              by_cases c7 : v0 = (62 : Int32)
              · rw [if_pos c7] at h
                refine V_lku (v := 62) (pc' := 76) (off := 75) X d_Law_rankOf_1 c7 (by decide) (by decide +kernel) (by decide) ?_
                refine V_iconst (v := 2) X d_Law_rankOf_76 (by decide) rfl ?_
                exact V_iret X (kr (2 : Int32) (Option.some.inj h).symm) d_Law_rankOf_77
              · rw [if_neg c7] at h
                by_cases c8 : v0 = (256 : Int32)
                · rw [if_pos c8] at h
                  refine V_lku (v := 256) (pc' := 82) (off := 81) X d_Law_rankOf_1 c8 (by decide) (by decide +kernel) (by decide) ?_
                  refine V_iconst (v := 5) X d_Law_rankOf_82 (by decide) rfl ?_
                  exact V_iret X (kr (5 : Int32) (Option.some.inj h).symm) d_Law_rankOf_83
                · rw [if_neg c8] at h
                  refine V_lookup (pc' := 84) X d_Law_rankOf_1 (by decide) (off := 83) (by simp [Op.lookupswitch.offset, (neT c1 (z := 42) (by decide)).symm, (neT c2 (z := 47) (by decide)).symm, (neT c3 (z := 43) (by decide)).symm, (neT c4 (z := 45) (by decide)).symm, (neT c5 (z := 60) (by decide)).symm, (neT c6 (z := 61) (by decide)).symm, (neT c7 (z := 62) (by decide)).symm, (neT c8 (z := 256) (by decide)).symm]) (by decide) ?_
                  refine V_iconst (v := 0) X d_Law_rankOf_84 (by decide) rfl ?_
                  exact V_iret X (kr (0 : Int32) (Option.some.inj h).symm) d_Law_rankOf_85
def f_Law_emit (v1 : Int32) (M : Mem) : Option (Mem) :=
  if (M.1 40 5) < 0 then
  some M
  else
  if (40 : Int32) ≤ (M.1 40 5) then
  some M
  else
  if inb (M.1 40 5) 40 = true then
  mem_ (s_i M 42 (M.1 40 5).toNatClampNeg v1) fun M1 =>
  mem_ (s_i M1 40 5 ((M1.1 40 5) + (1 : Int32))) fun M2 =>
  some M2
  else none
theorem c_Law_emit (l : Launch) (G : Gw)  (v1 : Int32) (M : Mem) (x : Mem) (h : f_Law_emit v1 M = some x) (d : Nat) (hD : 1 ≤ d) : Cv l G y_Law_emit b_Law_emit 2 none d [.ref (G.2.2 + 40), .int v1] M (fun M9 => M9 = x) := by
  refine Cv_of (by decide) (Nat.le_of_ble_eq_true rfl) (fun E hE X => ?_)
  subst hE
  have kr : ∀ x9 : Mem, x = x9 → (fun M9 => M9 = x) x9 := fun x9 e9 => by subst e9; exact rfl
  unfold f_Law_emit at h
  refine V_aload_n (n := 0) X d_Law_emit_0 rfl rfl rfl ?_
  refine V_geti X fo_Law_24 kd_40 rfl d_Law_emit_1 rfl ?_
  refine V_if_lt (tgt := 36) X d_Law_emit_4 (by decide) rfl (fun c4 => ?_) (fun c4 => ?_)
  · rw [if_pos c4] at h
    exact V_vret X (kr M (Option.some.inj h).symm) d_Law_emit_36
  · rw [if_neg c4] at h
    refine V_aload_n (n := 0) X d_Law_emit_7 rfl rfl rfl ?_
    refine V_geti X fo_Law_24 kd_40 rfl d_Law_emit_8 rfl ?_
    refine V_bipush (v := 40) X d_Law_emit_11 (by decide) rfl ?_
    refine V_icmp_ge (tgt := 36) X d_Law_emit_13 (by decide) rfl (fun c3 => ?_) (fun c3 => ?_)
    · rw [if_pos c3] at h
      exact V_vret X (kr M (Option.some.inj h).symm) d_Law_emit_36
    · rw [if_neg c3] at h
      refine V_aload_n (n := 0) X d_Law_emit_16 rfl rfl rfl ?_
      refine V_getr (k2 := 42) X fo_Law_15 kd_40 rfl rf_40_1 d_Law_emit_17 rfl ?_
      refine V_aload_n (n := 0) X d_Law_emit_20 rfl rfl rfl ?_
      refine V_geti X fo_Law_24 kd_40 rfl d_Law_emit_21 rfl ?_
      refine V_iload_n (n := 1) X d_Law_emit_24 rfl rfl rfl ?_
      obtain ⟨hb, h⟩ := ifn h
      obtain ⟨M1, eM1, h⟩ := memS h
      refine V_iast X kd_42 (inb_in ln_42 hb) d_Law_emit_25 rfl ?_
      rw [← eM1]
      refine V_aload_n (n := 0) X d_Law_emit_26 rfl rfl rfl ?_
      refine V_dup X d_Law_emit_27 rfl rfl ?_
      refine V_geti X fo_Law_24 kd_40 rfl d_Law_emit_28 rfl ?_
      refine V_iconst (v := 1) X d_Law_emit_31 (by decide) rfl ?_
      refine V_iadd X d_Law_emit_32 rfl ?_
      obtain ⟨M2, eM2, h⟩ := memS h
      refine V_putI X fp_Law_24 kd_40 rfl d_Law_emit_33 rfl ?_
      rw [← eM2]
      exact V_vret X (kr M2 (Option.some.inj h).symm) d_Law_emit_36
def lb_Law_settle_2 (v1 : Int32) (s : Int32 × Mem) : Option ((Int32 × Mem) ⊕ ((Mem) ⊕ (Mem))) :=
  if (40 : Int32) ≤ s.1 then
  some (.inr (Sum.inl s.2))
  else
  if (s.2.1 40 6) < (1 : Int32) then
  some (.inr (Sum.inr s.2))
  else
  if (40 : Int32) < (s.2.1 40 6) then
  some (.inr (Sum.inr s.2))
  else
  if inb ((s.2.1 40 6) - (1 : Int32)) 40 = true then
  if (s.2.1 43 ((s.2.1 40 6) - (1 : Int32)).toNatClampNeg) = (40 : Int32) then
  some (.inr (Sum.inr s.2))
  else
  if inb ((s.2.1 40 6) - (1 : Int32)) 40 = true then
  Option.bind (f_Law_rankOf (s.2.1 43 ((s.2.1 40 6) - (1 : Int32)).toNatClampNeg)) fun x1 =>
  if v1 ≤ x1 then
  mem_ (s_i s.2 40 6 ((s.2.1 40 6) - (1 : Int32))) fun M2 =>
  if inb (M2.1 40 6) 40 = true then
  Option.bind (f_Law_emit (-(M2.1 43 (M2.1 40 6).toNatClampNeg)) M2) fun x3 =>
  some (.inl ((s.1 + (1 : Int32)), x3))
  else none
  else
  some (.inr (Sum.inr s.2))
  else none
  else none
theorem lb_Law_settle_2_ok {E : Ev} {G : Gw} {d : Nat} {post : Mem → Prop} (X : Cx E G b_Law_settle "WomenByTheRoofs$Law" 3 d none) (hD : 2 ≤ d)  (v1 : Int32)   (s : Int32 × Mem) (o : (Int32 × Mem) ⊕ ((Mem) ⊕ (Mem))) (h : lb_Law_settle_2 v1 s = some o) (kc : ∀ s9 : Int32 × Mem, o = .inl s9 → V E (0, 0) G 3 (QV E G post) s9.2 2 [(0, .ref (G.2.2 + 40)), (1, .int v1), (2, .int s9.1)] []) (kx0 : ∀ x9 : Mem, o = .inr (Sum.inl x9) → V E (0, 0) G 3 (QV E G post) x9 90 [] []) (kx1 : ∀ x9 : Mem, o = .inr (Sum.inr x9) → V E (0, 0) G 3 (QV E G post) x9 59 [] []) : V E (0, 0) G 3 (QV E G post) s.2 2 [(0, .ref (G.2.2 + 40)), (1, .int v1), (2, .int s.1)] [] := by
  unfold lb_Law_settle_2 at h
  refine V_iload_n (n := 2) X d_Law_settle_2 rfl rfl rfl ?_
  refine V_bipush (v := 40) X d_Law_settle_3 (by decide) rfl ?_
  refine V_icmp_ge (tgt := 90) X d_Law_settle_5 (by decide) rfl (fun c8 => ?_) (fun c8 => ?_)
  · rw [if_pos c8] at h
    refine V_sub (lv' := []) [] rfl ?_
    exact kx0 s.2 (Option.some.inj h).symm
  · rw [if_neg c8] at h
    refine V_aload_n (n := 0) X d_Law_settle_8 rfl rfl rfl ?_
    refine V_geti X fo_Law_28 kd_40 rfl d_Law_settle_9 rfl ?_
    refine V_iconst (v := 1) X d_Law_settle_12 (by decide) rfl ?_
    refine V_icmp_lt (tgt := 59) X d_Law_settle_13 (by decide) rfl (fun c7 => ?_) (fun c7 => ?_)
    · rw [if_pos c7] at h
      refine V_sub (lv' := []) [] rfl ?_
      exact kx1 s.2 (Option.some.inj h).symm
    · rw [if_neg c7] at h
      refine V_aload_n (n := 0) X d_Law_settle_16 rfl rfl rfl ?_
      refine V_geti X fo_Law_28 kd_40 rfl d_Law_settle_17 rfl ?_
      refine V_bipush (v := 40) X d_Law_settle_20 (by decide) rfl ?_
      refine V_icmp_gt (tgt := 59) X d_Law_settle_22 (by decide) rfl (fun c6 => ?_) (fun c6 => ?_)
      · rw [if_pos c6] at h
        refine V_sub (lv' := []) [] rfl ?_
        exact kx1 s.2 (Option.some.inj h).symm
      · rw [if_neg c6] at h
        refine V_aload_n (n := 0) X d_Law_settle_25 rfl rfl rfl ?_
        refine V_getr (k2 := 43) X fo_Law_18 kd_40 rfl rf_40_2 d_Law_settle_26 rfl ?_
        refine V_aload_n (n := 0) X d_Law_settle_29 rfl rfl rfl ?_
        refine V_geti X fo_Law_28 kd_40 rfl d_Law_settle_30 rfl ?_
        refine V_iconst (v := 1) X d_Law_settle_33 (by decide) rfl ?_
        refine V_isub X d_Law_settle_34 rfl ?_
        obtain ⟨hb, h⟩ := ifn h
        refine V_iald X kd_43 (inb_in ln_43 hb) d_Law_settle_35 rfl ?_
        refine V_bipush (v := 40) X d_Law_settle_36 (by decide) rfl ?_
        refine V_icmp_eq (tgt := 59) X d_Law_settle_38 (by decide) rfl (fun c5 => ?_) (fun c5 => ?_)
        · rw [if_pos c5] at h
          refine V_sub (lv' := []) [] rfl ?_
          exact kx1 s.2 (Option.some.inj h).symm
        · rw [if_neg c5] at h
          refine V_aload_n (n := 0) X d_Law_settle_41 rfl rfl rfl ?_
          refine V_getr (k2 := 43) X fo_Law_18 kd_40 rfl rf_40_2 d_Law_settle_42 rfl ?_
          refine V_aload_n (n := 0) X d_Law_settle_45 rfl rfl rfl ?_
          refine V_geti X fo_Law_28 kd_40 rfl d_Law_settle_46 rfl ?_
          refine V_iconst (v := 1) X d_Law_settle_49 (by decide) rfl ?_
          refine V_isub X d_Law_settle_50 rfl ?_
          obtain ⟨hb, h⟩ := ifn h
          refine V_iald X kd_43 (inb_in ln_43 hb) d_Law_settle_51 rfl ?_
          obtain ⟨x1, hx1, h⟩ := ob_s h
          refine V_si (As := [.int (s.2.1 43 ((s.2.1 40 6) - (1 : Int32)).toNatClampNeg)]) X (Z0 E) ml_Law_88 yq_Law_rankOf (c_Law_rankOf E.2.1 G (s.2.1 43 ((s.2.1 40 6) - (1 : Int32)).toNatClampNeg) s.2 x1 hx1 _ (Nat.le_refl _)) rfl (by omega) rfl (Nat.le_of_ble_eq_true rfl) d_Law_settle_52 rfl (fun r9 M9 hq => ?_)
          rw [hq.1, hq.2]
          refine V_iload_n (n := 1) X d_Law_settle_55 rfl rfl rfl ?_
          refine V_icmp_ge (tgt := 60) X d_Law_settle_56 (by decide) rfl (fun c4 => ?_) (fun c4 => ?_)
          · rw [if_pos c4] at h
            refine V_aload_n (n := 0) X d_Law_settle_60 rfl rfl rfl ?_
            refine V_dup X d_Law_settle_61 rfl rfl ?_
            refine V_geti X fo_Law_28 kd_40 rfl d_Law_settle_62 rfl ?_
            refine V_iconst (v := 1) X d_Law_settle_65 (by decide) rfl ?_
            refine V_isub X d_Law_settle_66 rfl ?_
            obtain ⟨M2, eM2, h⟩ := memS h
            refine V_putI X fp_Law_28 kd_40 rfl d_Law_settle_67 rfl ?_
            rw [← eM2]
            refine V_aload_n (n := 0) X d_Law_settle_70 rfl rfl rfl ?_
            refine V_aload_n (n := 0) X d_Law_settle_71 rfl rfl rfl ?_
            refine V_getr (k2 := 43) X fo_Law_18 kd_40 rfl rf_40_2 d_Law_settle_72 rfl ?_
            refine V_aload_n (n := 0) X d_Law_settle_75 rfl rfl rfl ?_
            refine V_geti X fo_Law_28 kd_40 rfl d_Law_settle_76 rfl ?_
            obtain ⟨hb, h⟩ := ifn h
            refine V_iald X kd_43 (inb_in ln_43 hb) d_Law_settle_79 rfl ?_
            refine V_ineg X d_Law_settle_80 rfl ?_
            obtain ⟨x3, hx3, h⟩ := ob_s h
            refine V_cv (As := [.int (-(M2.1 43 (M2.1 40 6).toNatClampNeg))]) X (Z0 E) ml_Law_81 yq_Law_emit (c_Law_emit E.2.1 G (-(M2.1 43 (M2.1 40 6).toNatClampNeg)) M2 x3 hx3 _ (Nat.le_refl _)) kd_40 rfl rfl (by omega) rfl (Nat.le_of_ble_eq_true rfl) d_Law_settle_81 rfl (fun M9 hq => ?_)
            rw [hq]
            refine V_iinc (n := 2) (v := (s.1 + (1 : Int32))) (lv' := [(2, .int (s.1 + (1 : Int32))), (0, .ref (G.2.2 + 40)), (1, .int v1)]) X d_Law_settle_84 rfl rfl (by decide) rfl rfl ?_
            refine V_goto (pc' := 2) X d_Law_settle_87 (by decide) ?_
            refine V_sub (lv' := [(0, .ref (G.2.2 + 40)), (1, .int v1), (2, .int (s.1 + (1 : Int32)))]) [1, 2, 0] rfl ?_
            exact kc ((s.1 + (1 : Int32)), x3) (Option.some.inj h).symm
          · rw [if_neg c4] at h
            refine V_sub (lv' := []) [] rfl ?_
            exact kx1 s.2 (Option.some.inj h).symm
theorem lp_Law_settle_2_ok {E : Ev} {G : Gw} {d : Nat} {post : Mem → Prop} (X : Cx E G b_Law_settle "WomenByTheRoofs$Law" 3 d none) (hD : 2 ≤ d)  (v1 : Int32)   (n9 : Nat) (s : Int32 × Mem) (x : (Mem) ⊕ (Mem)) (h : iter (lb_Law_settle_2 v1) n9 s = some x) (kx0 : ∀ x9 : Mem, x = (Sum.inl x9) → V E (0, 0) G 3 (QV E G post) x9 90 [] []) (kx1 : ∀ x9 : Mem, x = (Sum.inr x9) → V E (0, 0) G 3 (QV E G post) x9 59 [] []) : V E (0, 0) G 3 (QV E G post) s.2 2 [(0, .ref (G.2.2 + 40)), (1, .int v1), (2, .int s.1)] [] :=
  iter_P (P := fun s : Int32 × Mem => V E (0, 0) G 3 (QV E G post) s.2 2 [(0, .ref (G.2.2 + 40)), (1, .int v1), (2, .int s.1)] []) (fun s o hb kc ky => lb_Law_settle_2_ok X hD v1 s o hb kc (fun x9 e9 => kx0 x9 (ky _ e9).symm) (fun x9 e9 => kx1 x9 (ky _ e9).symm)) n9 s h
def f_Law_settle (v1 : Int32) (M : Mem) : Option (Mem) :=
  Option.bind (iter (lb_Law_settle_2 v1) FU ((0 : Int32), M)) (Sum.elim (fun y10 => some y10) (fun y11 => some y11))
theorem c_Law_settle (l : Launch) (G : Gw)  (v1 : Int32) (M : Mem) (x : Mem) (h : f_Law_settle v1 M = some x) (d : Nat) (hD : 2 ≤ d) : Cv l G y_Law_settle b_Law_settle 3 none d [.ref (G.2.2 + 40), .int v1] M (fun M9 => M9 = x) := by
  refine Cv_of (by decide) (Nat.le_of_ble_eq_true rfl) (fun E hE X => ?_)
  subst hE
  have kr : ∀ x9 : Mem, x = x9 → (fun M9 => M9 = x) x9 := fun x9 e9 => by subst e9; exact rfl
  unfold f_Law_settle at h
  refine V_iconst (v := 0) X d_Law_settle_0 (by decide) rfl ?_
  refine V_istore_n (lv' := [(2, .int (0 : Int32)), (0, .ref (G.2.2 + 40)), (1, .int v1)]) X d_Law_settle_1 rfl (by decide) rfl rfl ?_
  refine V_sub (lv' := [(0, .ref (G.2.2 + 40)), (1, .int v1), (2, .int (0 : Int32))]) [1, 2, 0] rfl ?_
  obtain ⟨x9, hx9, h⟩ := ob_s h
  rcases x9 with y10 | y11
  · simp only [Sum.elim_inl, Sum.elim_inr] at h
    refine (lp_Law_settle_2_ok X hD v1 _ _ _ hx9 (fun x9 e9 => ?_) (fun x9 e9 => by cases e9) :)
    cases e9
    exact V_vret X (kr y10 (Option.some.inj h).symm) d_Law_settle_90
  · simp only [Sum.elim_inl, Sum.elim_inr] at h
    refine (lp_Law_settle_2_ok X hD v1 _ _ _ hx9 (fun x9 e9 => by cases e9) (fun x9 e9 => ?_) :)
    cases e9
    exact V_vret X (kr y11 (Option.some.inj h).symm) d_Law_settle_59
def f_Law_hold (v1 : Int32) (M : Mem) : Option (Mem) :=
  if (M.1 40 6) < 0 then
  some M
  else
  if (40 : Int32) ≤ (M.1 40 6) then
  some M
  else
  if inb (M.1 40 6) 40 = true then
  mem_ (s_i M 43 (M.1 40 6).toNatClampNeg v1) fun M1 =>
  mem_ (s_i M1 40 6 ((M1.1 40 6) + (1 : Int32))) fun M2 =>
  some M2
  else none
theorem c_Law_hold (l : Launch) (G : Gw)  (v1 : Int32) (M : Mem) (x : Mem) (h : f_Law_hold v1 M = some x) (d : Nat) (hD : 1 ≤ d) : Cv l G y_Law_hold b_Law_hold 2 none d [.ref (G.2.2 + 40), .int v1] M (fun M9 => M9 = x) := by
  refine Cv_of (by decide) (Nat.le_of_ble_eq_true rfl) (fun E hE X => ?_)
  subst hE
  have kr : ∀ x9 : Mem, x = x9 → (fun M9 => M9 = x) x9 := fun x9 e9 => by subst e9; exact rfl
  unfold f_Law_hold at h
  refine V_aload_n (n := 0) X d_Law_hold_0 rfl rfl rfl ?_
  refine V_geti X fo_Law_28 kd_40 rfl d_Law_hold_1 rfl ?_
  refine V_if_lt (tgt := 36) X d_Law_hold_4 (by decide) rfl (fun c4 => ?_) (fun c4 => ?_)
  · rw [if_pos c4] at h
    exact V_vret X (kr M (Option.some.inj h).symm) d_Law_hold_36
  · rw [if_neg c4] at h
    refine V_aload_n (n := 0) X d_Law_hold_7 rfl rfl rfl ?_
    refine V_geti X fo_Law_28 kd_40 rfl d_Law_hold_8 rfl ?_
    refine V_bipush (v := 40) X d_Law_hold_11 (by decide) rfl ?_
    refine V_icmp_ge (tgt := 36) X d_Law_hold_13 (by decide) rfl (fun c3 => ?_) (fun c3 => ?_)
    · rw [if_pos c3] at h
      exact V_vret X (kr M (Option.some.inj h).symm) d_Law_hold_36
    · rw [if_neg c3] at h
      refine V_aload_n (n := 0) X d_Law_hold_16 rfl rfl rfl ?_
      refine V_getr (k2 := 43) X fo_Law_18 kd_40 rfl rf_40_2 d_Law_hold_17 rfl ?_
      refine V_aload_n (n := 0) X d_Law_hold_20 rfl rfl rfl ?_
      refine V_geti X fo_Law_28 kd_40 rfl d_Law_hold_21 rfl ?_
      refine V_iload_n (n := 1) X d_Law_hold_24 rfl rfl rfl ?_
      obtain ⟨hb, h⟩ := ifn h
      obtain ⟨M1, eM1, h⟩ := memS h
      refine V_iast X kd_43 (inb_in ln_43 hb) d_Law_hold_25 rfl ?_
      rw [← eM1]
      refine V_aload_n (n := 0) X d_Law_hold_26 rfl rfl rfl ?_
      refine V_dup X d_Law_hold_27 rfl rfl ?_
      refine V_geti X fo_Law_28 kd_40 rfl d_Law_hold_28 rfl ?_
      refine V_iconst (v := 1) X d_Law_hold_31 (by decide) rfl ?_
      refine V_iadd X d_Law_hold_32 rfl ?_
      obtain ⟨M2, eM2, h⟩ := memS h
      refine V_putI X fp_Law_28 kd_40 rfl d_Law_hold_33 rfl ?_
      rw [← eM2]
      exact V_vret X (kr M2 (Option.some.inj h).symm) d_Law_hold_36
def j_Law_readBehind_90 (v1 : Int32) (v2 : Int32) (M : Mem) : Option (Int32 × Mem) :=
  Option.bind (f_Law_settle v2 M) fun x2 =>
  Option.bind (f_Law_hold v1 x2) fun x3 =>
  mem_ (s_i x3 40 10 (0 : Int32)) fun M4 =>
  some ((1 : Int32), M4)
theorem j_Law_readBehind_90_ok {E : Ev} {G : Gw} {d : Nat} {post : Int32 → Mem → Prop} (X : Cx E G b_Law_readBehind "WomenByTheRoofs$Law" 3 d (some .int)) (hD : 3 ≤ d)  (v1 : Int32) (v2 : Int32)  (M : Mem)  (o : Int32 × Mem) (h : j_Law_readBehind_90 v1 v2 M = some o) (kr : ∀ x9 : Int32 × Mem, o = x9 → post x9.1 x9.2) : V E (0, 0) G 3 (QI E G post) M 90 [(0, .ref (G.2.2 + 40)), (1, .int v1), (2, .int v2)] [] := by
  unfold j_Law_readBehind_90 at h
  refine V_aload_n (n := 0) X d_Law_readBehind_90 rfl rfl rfl ?_
  refine V_iload_n (n := 2) X d_Law_readBehind_91 rfl rfl rfl ?_
  obtain ⟨x2, hx2, h⟩ := ob_s h
  refine V_cv (As := [.int v2]) X (Z0 E) ml_Law_58 yq_Law_settle (c_Law_settle E.2.1 G v2 M x2 hx2 _ (Nat.le_refl _)) kd_40 rfl rfl (by omega) rfl (Nat.le_of_ble_eq_true rfl) d_Law_readBehind_92 rfl (fun M9 hq => ?_)
  rw [hq]
  refine V_aload_n (n := 0) X d_Law_readBehind_95 rfl rfl rfl ?_
  refine V_iload_n (n := 1) X d_Law_readBehind_96 rfl rfl rfl ?_
  obtain ⟨x3, hx3, h⟩ := ob_s h
  refine V_cv (As := [.int v1]) X (Z0 E) ml_Law_71 yq_Law_hold (c_Law_hold E.2.1 G v1 x2 x3 hx3 _ (Nat.le_refl _)) kd_40 rfl rfl (by omega) rfl (Nat.le_of_ble_eq_true rfl) d_Law_readBehind_97 rfl (fun M9 hq => ?_)
  rw [hq]
  refine V_aload_n (n := 0) X d_Law_readBehind_100 rfl rfl rfl ?_
  refine V_iconst (v := 0) X d_Law_readBehind_101 (by decide) rfl ?_
  obtain ⟨M4, eM4, h⟩ := memS h
  refine V_putZ X fp_Law_37 kd_40 rfl (by decide) d_Law_readBehind_102 rfl ?_
  rw [← eM4]
  refine V_iconst (v := 1) X d_Law_readBehind_105 (by decide) rfl ?_
  exact V_iret X (kr ((1 : Int32), M4) (Option.some.inj h).symm) d_Law_readBehind_106
def j_Law_readBehind_70 (v1 : Int32) (v2 : Int32) (M : Mem) : Option (Int32 × Mem) :=
  if v2 = (2 : Int32) then
  mem_ (s_i M 40 9 ((M.1 40 9) ||| ((1 : Int32) <<< ((M.1 40 8) &&& 31)))) fun M5 =>
  j_Law_readBehind_90 v1 v2 M5
  else
  j_Law_readBehind_90 v1 v2 M
theorem j_Law_readBehind_70_ok {E : Ev} {G : Gw} {d : Nat} {post : Int32 → Mem → Prop} (X : Cx E G b_Law_readBehind "WomenByTheRoofs$Law" 3 d (some .int)) (hD : 3 ≤ d)  (v1 : Int32) (v2 : Int32)  (M : Mem)  (o : Int32 × Mem) (h : j_Law_readBehind_70 v1 v2 M = some o) (kr : ∀ x9 : Int32 × Mem, o = x9 → post x9.1 x9.2) : V E (0, 0) G 3 (QI E G post) M 70 [(0, .ref (G.2.2 + 40)), (1, .int v1), (2, .int v2)] [] := by
  unfold j_Law_readBehind_70 at h
  refine V_iload_n (n := 2) X d_Law_readBehind_70 rfl rfl rfl ?_
  refine V_iconst (v := 2) X d_Law_readBehind_71 (by decide) rfl ?_
  refine V_icmp_ne (tgt := 90) X d_Law_readBehind_72 (by decide) rfl (fun c6 => ?_) (fun c6 => ?_)
  · rw [if_neg c6] at h
    exact j_Law_readBehind_90_ok X hD v1 v2 M _ h kr
  · rw [if_pos c6] at h
    refine V_aload_n (n := 0) X d_Law_readBehind_75 rfl rfl rfl ?_
    refine V_dup X d_Law_readBehind_76 rfl rfl ?_
    refine V_geti X fo_Law_34 kd_40 rfl d_Law_readBehind_77 rfl ?_
    refine V_iconst (v := 1) X d_Law_readBehind_80 (by decide) rfl ?_
    refine V_aload_n (n := 0) X d_Law_readBehind_81 rfl rfl rfl ?_
    refine V_geti X fo_Law_31 kd_40 rfl d_Law_readBehind_82 rfl ?_
    refine V_ishl X d_Law_readBehind_85 rfl ?_
    refine V_ior X d_Law_readBehind_86 rfl ?_
    obtain ⟨M5, eM5, h⟩ := memS h
    refine V_putI X fp_Law_34 kd_40 rfl d_Law_readBehind_87 rfl ?_
    rw [← eM5]
    exact j_Law_readBehind_90_ok X hD v1 v2 M5 _ h kr
def j_Law_readBehind_40 (v1 : Int32) (M : Mem) : Option (Int32 × Mem) :=
  Option.bind (f_Law_rankOf v1) fun x1 =>
  if x1 = 0 then
  some ((0 : Int32), M)
  else
  if x1 = (2 : Int32) then
  if (((M.1 40 9) >>> ((M.1 40 8) &&& 31)) &&& (1 : Int32)) = 0 then
  j_Law_readBehind_70 v1 x1 M
  else
  some ((0 : Int32), M)
  else
  j_Law_readBehind_70 v1 x1 M
theorem j_Law_readBehind_40_ok {E : Ev} {G : Gw} {d : Nat} {post : Int32 → Mem → Prop} (X : Cx E G b_Law_readBehind "WomenByTheRoofs$Law" 3 d (some .int)) (hD : 3 ≤ d)  (v1 : Int32)  (M : Mem)  (o : Int32 × Mem) (h : j_Law_readBehind_40 v1 M = some o) (kr : ∀ x9 : Int32 × Mem, o = x9 → post x9.1 x9.2) : V E (0, 0) G 3 (QI E G post) M 40 [(0, .ref (G.2.2 + 40)), (1, .int v1)] [] := by
  unfold j_Law_readBehind_40 at h
  refine V_iload_n (n := 1) X d_Law_readBehind_40 rfl rfl rfl ?_
  obtain ⟨x1, hx1, h⟩ := ob_s h
  refine V_si (As := [.int v1]) X (Z0 E) ml_Law_88 yq_Law_rankOf (c_Law_rankOf E.2.1 G v1 M x1 hx1 _ (Nat.le_refl _)) rfl (by omega) rfl (Nat.le_of_ble_eq_true rfl) d_Law_readBehind_41 rfl (fun r9 M9 hq => ?_)
  rw [hq.1, hq.2]
  refine V_istore_n (lv' := [(2, .int x1), (0, .ref (G.2.2 + 40)), (1, .int v1)]) X d_Law_readBehind_44 rfl (by decide) rfl rfl ?_
  refine V_iload_n (n := 0) X d_Law_readBehind_45 rfl rfl rfl ?_
  refine V_if_eq (tgt := 68) X d_Law_readBehind_46 (by decide) rfl (fun c9 => ?_) (fun c9 => ?_)
  · rw [if_pos c9] at h
    refine V_iconst (v := 0) X d_Law_readBehind_68 (by decide) rfl ?_
    exact V_iret X (kr ((0 : Int32), M) (Option.some.inj h).symm) d_Law_readBehind_69
  · rw [if_neg c9] at h
    refine V_iload_n (n := 0) X d_Law_readBehind_49 rfl rfl rfl ?_
    refine V_iconst (v := 2) X d_Law_readBehind_50 (by decide) rfl ?_
    refine V_icmp_ne (tgt := 70) X d_Law_readBehind_51 (by decide) rfl (fun c8 => ?_) (fun c8 => ?_)
    · rw [if_neg c8] at h
      refine V_sub (lv' := [(0, .ref (G.2.2 + 40)), (1, .int v1), (2, .int x1)]) [1, 2, 0] rfl ?_
      exact j_Law_readBehind_70_ok X hD v1 x1 M _ h kr
    · rw [if_pos c8] at h
      refine V_aload_n (n := 1) X d_Law_readBehind_54 rfl rfl rfl ?_
      refine V_geti X fo_Law_34 kd_40 rfl d_Law_readBehind_55 rfl ?_
      refine V_aload_n (n := 1) X d_Law_readBehind_58 rfl rfl rfl ?_
      refine V_geti X fo_Law_31 kd_40 rfl d_Law_readBehind_59 rfl ?_
      refine V_ishr X d_Law_readBehind_62 rfl ?_
      refine V_iconst (v := 1) X d_Law_readBehind_63 (by decide) rfl ?_
      refine V_iand X d_Law_readBehind_64 rfl ?_
      refine V_if_eq (tgt := 70) X d_Law_readBehind_65 (by decide) rfl (fun c7 => ?_) (fun c7 => ?_)
      · rw [if_pos c7] at h
        refine V_sub (lv' := [(0, .ref (G.2.2 + 40)), (1, .int v1), (2, .int x1)]) [1, 2, 0] rfl ?_
        exact j_Law_readBehind_70_ok X hD v1 x1 M _ h kr
      · rw [if_neg c7] at h
        refine V_iconst (v := 0) X d_Law_readBehind_68 (by decide) rfl ?_
        exact V_iret X (kr ((0 : Int32), M) (Option.some.inj h).symm) d_Law_readBehind_69
def f_Law_readBehind (v1 : Int32) (M : Mem) : Option (Int32 × Mem) :=
  if v1 = (41 : Int32) then
  if (M.1 40 8) ≤ 0 then
  j_Law_readBehind_40 v1 M
  else
  Option.bind (f_Law_settle (1 : Int32) M) fun x10 =>
  mem_ (s_i x10 40 6 ((x10.1 40 6) - (1 : Int32))) fun M11 =>
  mem_ (s_i M11 40 8 ((M11.1 40 8) - (1 : Int32))) fun M12 =>
  some ((1 : Int32), M12)
  else
  j_Law_readBehind_40 v1 M
theorem c_Law_readBehind (l : Launch) (G : Gw)  (v1 : Int32) (M : Mem) (x : Int32 × Mem) (h : f_Law_readBehind v1 M = some x) (d : Nat) (hD : 3 ≤ d) : Ci l G y_Law_readBehind b_Law_readBehind 3 (some .int) d [.ref (G.2.2 + 40), .int v1] M (fun r9 M9 => r9 = x.1 ∧ M9 = x.2) := by
  refine Ci_of (by decide) (Nat.le_of_ble_eq_true rfl) (fun E hE X => ?_)
  subst hE
  have kr : ∀ x9 : Int32 × Mem, x = x9 → (fun r9 M9 => r9 = x.1 ∧ M9 = x.2) x9.1 x9.2 := fun x9 e9 => by subst e9; exact ⟨rfl, rfl⟩
  unfold f_Law_readBehind at h
  refine V_iload_n (n := 1) X d_Law_readBehind_0 rfl rfl rfl ?_
  refine V_bipush (v := 41) X d_Law_readBehind_1 (by decide) rfl ?_
  refine V_icmp_ne (tgt := 40) X d_Law_readBehind_3 (by decide) rfl (fun c14 => ?_) (fun c14 => ?_)
  · rw [if_neg c14] at h
    exact j_Law_readBehind_40_ok X hD v1 M _ h kr
  · rw [if_pos c14] at h
    refine V_aload_n (n := 0) X d_Law_readBehind_6 rfl rfl rfl ?_
    refine V_geti X fo_Law_31 kd_40 rfl d_Law_readBehind_7 rfl ?_
    refine V_if_le (tgt := 40) X d_Law_readBehind_10 (by decide) rfl (fun c13 => ?_) (fun c13 => ?_)
    · rw [if_pos c13] at h
      exact j_Law_readBehind_40_ok X hD v1 M _ h kr
    · rw [if_neg c13] at h
      refine V_aload_n (n := 0) X d_Law_readBehind_13 rfl rfl rfl ?_
      refine V_iconst (v := 1) X d_Law_readBehind_14 (by decide) rfl ?_
      obtain ⟨x10, hx10, h⟩ := ob_s h
      refine V_cv (As := [.int (1 : Int32)]) X (Z0 E) ml_Law_58 yq_Law_settle (c_Law_settle E.2.1 G (1 : Int32) M x10 hx10 _ (Nat.le_refl _)) kd_40 rfl rfl (by omega) rfl (Nat.le_of_ble_eq_true rfl) d_Law_readBehind_15 rfl (fun M9 hq => ?_)
      rw [hq]
      refine V_aload_n (n := 0) X d_Law_readBehind_18 rfl rfl rfl ?_
      refine V_dup X d_Law_readBehind_19 rfl rfl ?_
      refine V_geti X fo_Law_28 kd_40 rfl d_Law_readBehind_20 rfl ?_
      refine V_iconst (v := 1) X d_Law_readBehind_23 (by decide) rfl ?_
      refine V_isub X d_Law_readBehind_24 rfl ?_
      obtain ⟨M11, eM11, h⟩ := memS h
      refine V_putI X fp_Law_28 kd_40 rfl d_Law_readBehind_25 rfl ?_
      rw [← eM11]
      refine V_aload_n (n := 0) X d_Law_readBehind_28 rfl rfl rfl ?_
      refine V_dup X d_Law_readBehind_29 rfl rfl ?_
      refine V_geti X fo_Law_31 kd_40 rfl d_Law_readBehind_30 rfl ?_
      refine V_iconst (v := 1) X d_Law_readBehind_33 (by decide) rfl ?_
      refine V_isub X d_Law_readBehind_34 rfl ?_
      obtain ⟨M12, eM12, h⟩ := memS h
      refine V_putI X fp_Law_31 kd_40 rfl d_Law_readBehind_35 rfl ?_
      rw [← eM12]
      refine V_iconst (v := 1) X d_Law_readBehind_38 (by decide) rfl ?_
      exact V_iret X (kr ((1 : Int32), M12) (Option.some.inj h).symm) d_Law_readBehind_39
def f_Law_isQuality (v0 : Int32) : Option (Int32) :=
  if v0 = (105 : Int32) then
  some (1 : Int32)
  else if v0 = (107 : Int32) then
  some (1 : Int32)
  else if v0 = (109 : Int32) then
  some (1 : Int32)
  else if v0 = (110 : Int32) then
  some (1 : Int32)
  else if v0 = (115 : Int32) then
  some (1 : Int32)
  else if v0 = (119 : Int32) then
  some (1 : Int32)
  else if v0 = (120 : Int32) then
  some (1 : Int32)
  else if v0 = (121 : Int32) then
  some (1 : Int32)
  else some (0 : Int32)
theorem c_Law_isQuality (l : Launch) (G : Gw)  (v0 : Int32) (M : Mem) (x : Int32) (h : f_Law_isQuality v0 = some x) (d : Nat) (hD : 1 ≤ d) : Ci l G y_Law_isQuality b_Law_isQuality 1 (some .boolean) d [.int v0] M (fun r9 M9 => r9 = x ∧ M9 = M) := by
  refine Ci_of (by decide) (Nat.le_of_ble_eq_true rfl) (fun E hE X => ?_)
  subst hE
  have kr : ∀ x9 : Int32, x = x9 → (fun r9 M9 => r9 = x ∧ M9 = M) x9 M := fun x9 e9 => by subst e9; exact ⟨rfl, rfl⟩
  unfold f_Law_isQuality at h
  refine V_iload_n (n := 0) X d_Law_isQuality_0 rfl rfl rfl ?_
  by_cases c1 : v0 = (105 : Int32)
  · rw [if_pos c1] at h
    refine V_tbl (v := 105) (pc' := 84) (off := 83) X d_Law_isQuality_1 c1 (by decide) (by decide) (by decide +kernel) (by decide) ?_
    refine V_iconst (v := 1) X d_Law_isQuality_84 (by decide) rfl ?_
    exact V_zret X (kr (1 : Int32) (Option.some.inj h).symm) (by decide) d_Law_isQuality_85
  · rw [if_neg c1] at h
    by_cases c2 : v0 = (107 : Int32)
    · rw [if_pos c2] at h
      refine V_tbl (v := 107) (pc' := 84) (off := 83) X d_Law_isQuality_1 c2 (by decide) (by decide) (by decide +kernel) (by decide) ?_
      refine V_iconst (v := 1) X d_Law_isQuality_84 (by decide) rfl ?_
      exact V_zret X (kr (1 : Int32) (Option.some.inj h).symm) (by decide) d_Law_isQuality_85
    · rw [if_neg c2] at h
      by_cases c3 : v0 = (109 : Int32)
      · rw [if_pos c3] at h
        refine V_tbl (v := 109) (pc' := 84) (off := 83) X d_Law_isQuality_1 c3 (by decide) (by decide) (by decide +kernel) (by decide) ?_
        refine V_iconst (v := 1) X d_Law_isQuality_84 (by decide) rfl ?_
        exact V_zret X (kr (1 : Int32) (Option.some.inj h).symm) (by decide) d_Law_isQuality_85
      · rw [if_neg c3] at h
        by_cases c4 : v0 = (110 : Int32)
        · rw [if_pos c4] at h
          refine V_tbl (v := 110) (pc' := 84) (off := 83) X d_Law_isQuality_1 c4 (by decide) (by decide) (by decide +kernel) (by decide) ?_
          refine V_iconst (v := 1) X d_Law_isQuality_84 (by decide) rfl ?_
          exact V_zret X (kr (1 : Int32) (Option.some.inj h).symm) (by decide) d_Law_isQuality_85
        · rw [if_neg c4] at h
          by_cases c5 : v0 = (115 : Int32)
          · rw [if_pos c5] at h
            refine V_tbl (v := 115) (pc' := 84) (off := 83) X d_Law_isQuality_1 c5 (by decide) (by decide) (by decide +kernel) (by decide) ?_
            refine V_iconst (v := 1) X d_Law_isQuality_84 (by decide) rfl ?_
            exact V_zret X (kr (1 : Int32) (Option.some.inj h).symm) (by decide) d_Law_isQuality_85
          · rw [if_neg c5] at h
            by_cases c6 : v0 = (119 : Int32)
            · rw [if_pos c6] at h
              refine V_tbl (v := 119) (pc' := 84) (off := 83) X d_Law_isQuality_1 c6 (by decide) (by decide) (by decide +kernel) (by decide) ?_
              refine V_iconst (v := 1) X d_Law_isQuality_84 (by decide) rfl ?_
              exact V_zret X (kr (1 : Int32) (Option.some.inj h).symm) (by decide) d_Law_isQuality_85
            · rw [if_neg c6] at h
              by_cases c7 : v0 = (120 : Int32)
              · rw [if_pos c7] at h
                refine V_tbl (v := 120) (pc' := 84) (off := 83) X d_Law_isQuality_1 c7 (by decide) (by decide) (by decide +kernel) (by decide) ?_
                refine V_iconst (v := 1) X d_Law_isQuality_84 (by decide) rfl ?_
                exact V_zret X (kr (1 : Int32) (Option.some.inj h).symm) (by decide) d_Law_isQuality_85
              · rw [if_neg c7] at h
                by_cases c8 : v0 = (121 : Int32)
                · rw [if_pos c8] at h
                  refine V_tbl (v := 121) (pc' := 84) (off := 83) X d_Law_isQuality_1 c8 (by decide) (by decide) (by decide +kernel) (by decide) ?_
                  refine V_iconst (v := 1) X d_Law_isQuality_84 (by decide) rfl ?_
                  exact V_zret X (kr (1 : Int32) (Option.some.inj h).symm) (by decide) d_Law_isQuality_85
                · rw [if_neg c8] at h
                  by_cases c9 : v0 = (106 : Int32)
                  · refine V_tbl (v := 106) (pc' := 86) (off := 85) X d_Law_isQuality_1 c9 (by decide) (by decide) (by decide +kernel) (by decide) ?_
                    refine V_iconst (v := 0) X d_Law_isQuality_86 (by decide) rfl ?_
                    exact V_zret X (kr (0 : Int32) (Option.some.inj h).symm) (by decide) d_Law_isQuality_87
                  · skip
                    by_cases c10 : v0 = (108 : Int32)
                    · refine V_tbl (v := 108) (pc' := 86) (off := 85) X d_Law_isQuality_1 c10 (by decide) (by decide) (by decide +kernel) (by decide) ?_
                      refine V_iconst (v := 0) X d_Law_isQuality_86 (by decide) rfl ?_
                      exact V_zret X (kr (0 : Int32) (Option.some.inj h).symm) (by decide) d_Law_isQuality_87
                    · skip
                      by_cases c11 : v0 = (111 : Int32)
                      · refine V_tbl (v := 111) (pc' := 86) (off := 85) X d_Law_isQuality_1 c11 (by decide) (by decide) (by decide +kernel) (by decide) ?_
                        refine V_iconst (v := 0) X d_Law_isQuality_86 (by decide) rfl ?_
                        exact V_zret X (kr (0 : Int32) (Option.some.inj h).symm) (by decide) d_Law_isQuality_87
                      · skip
                        by_cases c12 : v0 = (112 : Int32)
                        · refine V_tbl (v := 112) (pc' := 86) (off := 85) X d_Law_isQuality_1 c12 (by decide) (by decide) (by decide +kernel) (by decide) ?_
                          refine V_iconst (v := 0) X d_Law_isQuality_86 (by decide) rfl ?_
                          exact V_zret X (kr (0 : Int32) (Option.some.inj h).symm) (by decide) d_Law_isQuality_87
                        · skip
                          by_cases c13 : v0 = (113 : Int32)
                          · refine V_tbl (v := 113) (pc' := 86) (off := 85) X d_Law_isQuality_1 c13 (by decide) (by decide) (by decide +kernel) (by decide) ?_
                            refine V_iconst (v := 0) X d_Law_isQuality_86 (by decide) rfl ?_
                            exact V_zret X (kr (0 : Int32) (Option.some.inj h).symm) (by decide) d_Law_isQuality_87
                          · skip
                            by_cases c14 : v0 = (114 : Int32)
                            · refine V_tbl (v := 114) (pc' := 86) (off := 85) X d_Law_isQuality_1 c14 (by decide) (by decide) (by decide +kernel) (by decide) ?_
                              refine V_iconst (v := 0) X d_Law_isQuality_86 (by decide) rfl ?_
                              exact V_zret X (kr (0 : Int32) (Option.some.inj h).symm) (by decide) d_Law_isQuality_87
                            · skip
                              by_cases c15 : v0 = (116 : Int32)
                              · refine V_tbl (v := 116) (pc' := 86) (off := 85) X d_Law_isQuality_1 c15 (by decide) (by decide) (by decide +kernel) (by decide) ?_
                                refine V_iconst (v := 0) X d_Law_isQuality_86 (by decide) rfl ?_
                                exact V_zret X (kr (0 : Int32) (Option.some.inj h).symm) (by decide) d_Law_isQuality_87
                              · skip
                                by_cases c16 : v0 = (117 : Int32)
                                · refine V_tbl (v := 117) (pc' := 86) (off := 85) X d_Law_isQuality_1 c16 (by decide) (by decide) (by decide +kernel) (by decide) ?_
                                  refine V_iconst (v := 0) X d_Law_isQuality_86 (by decide) rfl ?_
                                  exact V_zret X (kr (0 : Int32) (Option.some.inj h).symm) (by decide) d_Law_isQuality_87
                                · skip
                                  by_cases c17 : v0 = (118 : Int32)
                                  · refine V_tbl (v := 118) (pc' := 86) (off := 85) X d_Law_isQuality_1 c17 (by decide) (by decide) (by decide +kernel) (by decide) ?_
                                    refine V_iconst (v := 0) X d_Law_isQuality_86 (by decide) rfl ?_
                                    exact V_zret X (kr (0 : Int32) (Option.some.inj h).symm) (by decide) d_Law_isQuality_87
                                  · skip
                                    refine V_tableOut (pc' := 86) X d_Law_isQuality_1 (by have g0 := neT c1 (z := 105) (by decide); have g1 := neT c2 (z := 107) (by decide); have g2 := neT c3 (z := 109) (by decide); have g3 := neT c4 (z := 110) (by decide); have g4 := neT c5 (z := 115) (by decide); have g5 := neT c6 (z := 119) (by decide); have g6 := neT c7 (z := 120) (by decide); have g7 := neT c8 (z := 121) (by decide); have g8 := neT c9 (z := 106) (by decide); have g9 := neT c10 (z := 108) (by decide); have g10 := neT c11 (z := 111) (by decide); have g11 := neT c12 (z := 112) (by decide); have g12 := neT c13 (z := 113) (by decide); have g13 := neT c14 (z := 114) (by decide); have g14 := neT c15 (z := 116) (by decide); have g15 := neT c16 (z := 117) (by decide); have g16 := neT c17 (z := 118) (by decide); omega) (by decide) ?_
                                    refine V_iconst (v := 0) X d_Law_isQuality_86 (by decide) rfl ?_
                                    exact V_zret X (kr (0 : Int32) (Option.some.inj h).symm) (by decide) d_Law_isQuality_87
def j_Law_readThing_63 (v2 : Int32) (v3 : Int32) (M : Mem) : Option (Int32 × Mem) :=
  Option.bind (f_Signs_digits v2 (40 : Int32) (3 : Int32) M) fun x1 =>
  if x1.1 ≤ 0 then
  Option.bind (f_Law_isQuality v3) fun x2 =>
  if x2 = 0 then
  some ((0 : Int32), x1.2)
  else
  Option.bind (f_Law_emit (-v3) x1.2) fun x3 =>
  mem_ (s_i x3 40 10 (1 : Int32)) fun M4 =>
  some ((1 : Int32), M4)
  else
  Option.bind (f_Law_emit (x1.2.1 1 2) x1.2) fun x6 =>
  mem_ (s_i x6 40 10 (1 : Int32)) fun M7 =>
  some (x1.1, M7)
theorem j_Law_readThing_63_ok {E : Ev} {G : Gw} {d : Nat} {post : Int32 → Mem → Prop} (X : Cx E G b_Law_readThing "WomenByTheRoofs$Law" 5 d (some .int)) (hD : 3 ≤ d)  (v2 : Int32) (v3 : Int32)  (M : Mem)  (o : Int32 × Mem) (h : j_Law_readThing_63 v2 v3 M = some o) (kr : ∀ x9 : Int32 × Mem, o = x9 → post x9.1 x9.2) : V E (0, 0) G 5 (QI E G post) M 63 [(0, .ref (G.2.2 + 40)), (1, .ref (G.2.2 + 1)), (2, .int v2), (3, .int v3)] [] := by
  unfold j_Law_readThing_63 at h
  refine V_aload_n (n := 1) X d_Law_readThing_63 rfl rfl rfl ?_
  refine V_iload_n (n := 2) X d_Law_readThing_64 rfl rfl rfl ?_
  refine V_bipush (v := 40) X d_Law_readThing_65 (by decide) rfl ?_
  refine V_iconst (v := 3) X d_Law_readThing_67 (by decide) rfl ?_
  obtain ⟨x1, hx1, h⟩ := ob_s h
  refine V_ci (As := [.int v2, .int (40 : Int32), .int (3 : Int32)]) X (Z0 E) ml_Law_74 yq_Signs_digits (c_Signs_digits E.2.1 G v2 (40 : Int32) (3 : Int32) M x1 hx1 _ (Nat.le_refl _)) kd_1 rfl rfl (by omega) rfl (Nat.le_of_ble_eq_true rfl) d_Law_readThing_68 rfl (fun r9 M9 hq => ?_)
  rw [hq.1, hq.2]
  refine V_istore (lv' := [(4, .int x1.1), (0, .ref (G.2.2 + 40)), (1, .ref (G.2.2 + 1)), (2, .int v2), (3, .int v3)]) X d_Law_readThing_71 (by decide) rfl rfl ?_
  refine V_iload (n := 0) X d_Law_readThing_73 rfl rfl ?_
  refine V_if_le (tgt := 94) X d_Law_readThing_75 (by decide) rfl (fun c8 => ?_) (fun c8 => ?_)
  · rw [if_pos c8] at h
    refine V_iload_n (n := 4) X d_Law_readThing_94 rfl rfl rfl ?_
    obtain ⟨x2, hx2, h⟩ := ob_s h
    refine V_si (As := [.int v3]) X (Z0 E) ml_Law_84 yq_Law_isQuality (c_Law_isQuality E.2.1 G v3 x1.2 x2 hx2 _ (Nat.le_refl _)) rfl (by omega) rfl (Nat.le_of_ble_eq_true rfl) d_Law_readThing_95 rfl (fun r9 M9 hq => ?_)
    rw [hq.1, hq.2]
    refine V_if_eq (tgt := 114) X d_Law_readThing_98 (by decide) rfl (fun c5 => ?_) (fun c5 => ?_)
    · rw [if_pos c5] at h
      refine V_iconst (v := 0) X d_Law_readThing_114 (by decide) rfl ?_
      exact V_iret X (kr ((0 : Int32), x1.2) (Option.some.inj h).symm) d_Law_readThing_115
    · rw [if_neg c5] at h
      refine V_aload_n (n := 1) X d_Law_readThing_101 rfl rfl rfl ?_
      refine V_iload_n (n := 4) X d_Law_readThing_102 rfl rfl rfl ?_
      refine V_ineg X d_Law_readThing_103 rfl ?_
      obtain ⟨x3, hx3, h⟩ := ob_s h
      refine V_cv (As := [.int (-v3)]) X (Z0 E) ml_Law_81 yq_Law_emit (c_Law_emit E.2.1 G (-v3) x1.2 x3 hx3 _ (Nat.le_refl _)) kd_40 rfl rfl (by omega) rfl (Nat.le_of_ble_eq_true rfl) d_Law_readThing_104 rfl (fun M9 hq => ?_)
      rw [hq]
      refine V_aload_n (n := 1) X d_Law_readThing_107 rfl rfl rfl ?_
      refine V_iconst (v := 1) X d_Law_readThing_108 (by decide) rfl ?_
      obtain ⟨M4, eM4, h⟩ := memS h
      refine V_putZ X fp_Law_37 kd_40 rfl (by decide) d_Law_readThing_109 rfl ?_
      rw [← eM4]
      refine V_iconst (v := 1) X d_Law_readThing_112 (by decide) rfl ?_
      exact V_iret X (kr ((1 : Int32), M4) (Option.some.inj h).symm) d_Law_readThing_113
  · rw [if_neg c8] at h
    refine V_aload_n (n := 1) X d_Law_readThing_78 rfl rfl rfl ?_
    refine V_aload_n (n := 2) X d_Law_readThing_79 rfl rfl rfl ?_
    refine V_geti X fo_Law_78 kd_1 rfl d_Law_readThing_80 rfl ?_
    obtain ⟨x6, hx6, h⟩ := ob_s h
    refine V_cv (As := [.int (x1.2.1 1 2)]) X (Z0 E) ml_Law_81 yq_Law_emit (c_Law_emit E.2.1 G (x1.2.1 1 2) x1.2 x6 hx6 _ (Nat.le_refl _)) kd_40 rfl rfl (by omega) rfl (Nat.le_of_ble_eq_true rfl) d_Law_readThing_83 rfl (fun M9 hq => ?_)
    rw [hq]
    refine V_aload_n (n := 1) X d_Law_readThing_86 rfl rfl rfl ?_
    refine V_iconst (v := 1) X d_Law_readThing_87 (by decide) rfl ?_
    obtain ⟨M7, eM7, h⟩ := memS h
    refine V_putZ X fp_Law_37 kd_40 rfl (by decide) d_Law_readThing_88 rfl ?_
    rw [← eM7]
    refine V_iload (n := 0) X d_Law_readThing_91 rfl rfl ?_
    exact V_iret X (kr (x1.1, M7) (Option.some.inj h).symm) d_Law_readThing_93
def f_Law_readThing (v2 : Int32) (v3 : Int32) (M : Mem) : Option (Int32 × Mem) :=
  if v3 = (45 : Int32) then
  Option.bind (f_Law_hold (256 : Int32) M) fun x14 =>
  some ((1 : Int32), x14)
  else
  if v3 = (40 : Int32) then
  if (4 : Int32) ≤ (M.1 40 8) then
  j_Law_readThing_63 v2 v3 M
  else
  mem_ (s_i M 40 8 ((M.1 40 8) + (1 : Int32))) fun M9 =>
  mem_ (s_i M9 40 9 ((M9.1 40 9) &&& (((1 : Int32) <<< ((M9.1 40 8) &&& 31)) ^^^ (-1 : Int32)))) fun M10 =>
  Option.bind (f_Law_hold v3 M10) fun x11 =>
  some ((1 : Int32), x11)
  else
  j_Law_readThing_63 v2 v3 M
theorem c_Law_readThing (l : Launch) (G : Gw)  (v2 : Int32) (v3 : Int32) (M : Mem) (x : Int32 × Mem) (h : f_Law_readThing v2 v3 M = some x) (d : Nat) (hD : 3 ≤ d) : Ci l G y_Law_readThing b_Law_readThing 5 (some .int) d [.ref (G.2.2 + 40), .ref (G.2.2 + 1), .int v2, .int v3] M (fun r9 M9 => r9 = x.1 ∧ M9 = x.2) := by
  refine Ci_of (by decide) (Nat.le_of_ble_eq_true rfl) (fun E hE X => ?_)
  subst hE
  have kr : ∀ x9 : Int32 × Mem, x = x9 → (fun r9 M9 => r9 = x.1 ∧ M9 = x.2) x9.1 x9.2 := fun x9 e9 => by subst e9; exact ⟨rfl, rfl⟩
  unfold f_Law_readThing at h
  refine V_iload_n (n := 3) X d_Law_readThing_0 rfl rfl rfl ?_
  refine V_bipush (v := 45) X d_Law_readThing_1 (by decide) rfl ?_
  refine V_icmp_ne (tgt := 15) X d_Law_readThing_3 (by decide) rfl (fun c15 => ?_) (fun c15 => ?_)
  · rw [if_neg c15] at h
    refine V_iload_n (n := 3) X d_Law_readThing_15 rfl rfl rfl ?_
    refine V_bipush (v := 40) X d_Law_readThing_16 (by decide) rfl ?_
    refine V_icmp_ne (tgt := 63) X d_Law_readThing_18 (by decide) rfl (fun c13 => ?_) (fun c13 => ?_)
    · rw [if_neg c13] at h
      exact j_Law_readThing_63_ok X hD v2 v3 M _ h kr
    · rw [if_pos c13] at h
      refine V_aload_n (n := 0) X d_Law_readThing_21 rfl rfl rfl ?_
      refine V_geti X fo_Law_31 kd_40 rfl d_Law_readThing_22 rfl ?_
      refine V_iconst (v := 4) X d_Law_readThing_25 (by decide) rfl ?_
      refine V_icmp_ge (tgt := 63) X d_Law_readThing_26 (by decide) rfl (fun c12 => ?_) (fun c12 => ?_)
      · rw [if_pos c12] at h
        exact j_Law_readThing_63_ok X hD v2 v3 M _ h kr
      · rw [if_neg c12] at h
        refine V_aload_n (n := 0) X d_Law_readThing_29 rfl rfl rfl ?_
        refine V_dup X d_Law_readThing_30 rfl rfl ?_
        refine V_geti X fo_Law_31 kd_40 rfl d_Law_readThing_31 rfl ?_
        refine V_iconst (v := 1) X d_Law_readThing_34 (by decide) rfl ?_
        refine V_iadd X d_Law_readThing_35 rfl ?_
        obtain ⟨M9, eM9, h⟩ := memS h
        refine V_putI X fp_Law_31 kd_40 rfl d_Law_readThing_36 rfl ?_
        rw [← eM9]
        refine V_aload_n (n := 0) X d_Law_readThing_39 rfl rfl rfl ?_
        refine V_dup X d_Law_readThing_40 rfl rfl ?_
        refine V_geti X fo_Law_34 kd_40 rfl d_Law_readThing_41 rfl ?_
        refine V_iconst (v := 1) X d_Law_readThing_44 (by decide) rfl ?_
        refine V_aload_n (n := 0) X d_Law_readThing_45 rfl rfl rfl ?_
        refine V_geti X fo_Law_31 kd_40 rfl d_Law_readThing_46 rfl ?_
        refine V_ishl X d_Law_readThing_49 rfl ?_
        refine V_iconst (v := -1) X d_Law_readThing_50 (by decide) rfl ?_
        refine V_ixor X d_Law_readThing_51 rfl ?_
        refine V_iand X d_Law_readThing_52 rfl ?_
        obtain ⟨M10, eM10, h⟩ := memS h
        refine V_putI X fp_Law_34 kd_40 rfl d_Law_readThing_53 rfl ?_
        rw [← eM10]
        refine V_aload_n (n := 0) X d_Law_readThing_56 rfl rfl rfl ?_
        refine V_iload_n (n := 3) X d_Law_readThing_57 rfl rfl rfl ?_
        obtain ⟨x11, hx11, h⟩ := ob_s h
        refine V_cv (As := [.int v3]) X (Z0 E) ml_Law_71 yq_Law_hold (c_Law_hold E.2.1 G v3 M10 x11 hx11 _ (Nat.le_refl _)) kd_40 rfl rfl (by omega) rfl (Nat.le_of_ble_eq_true rfl) d_Law_readThing_58 rfl (fun M9 hq => ?_)
        rw [hq]
        refine V_iconst (v := 1) X d_Law_readThing_61 (by decide) rfl ?_
        exact V_iret X (kr ((1 : Int32), x11) (Option.some.inj h).symm) d_Law_readThing_62
  · rw [if_pos c15] at h
    refine V_aload_n (n := 0) X d_Law_readThing_6 rfl rfl rfl ?_
    refine V_sipush (v := 256) X d_Law_readThing_7 (by decide) rfl ?_
    obtain ⟨x14, hx14, h⟩ := ob_s h
    refine V_cv (As := [.int (256 : Int32)]) X (Z0 E) ml_Law_71 yq_Law_hold (c_Law_hold E.2.1 G (256 : Int32) M x14 hx14 _ (Nat.le_refl _)) kd_40 rfl rfl (by omega) rfl (Nat.le_of_ble_eq_true rfl) d_Law_readThing_10 rfl (fun M9 hq => ?_)
    rw [hq]
    refine V_iconst (v := 1) X d_Law_readThing_13 (by decide) rfl ?_
    exact V_iret X (kr ((1 : Int32), x14) (Option.some.inj h).symm) d_Law_readThing_14
def j_Law_read_108_29 (v2 : Int32) (v3 : Int32) (w0 : Int32) (M : Mem) : Option ((Int32 × Int32 × Mem) ⊕ ((Mem) ⊕ (Int32 × Mem) ⊕ (Int32 × Mem))) :=
  if w0 = 0 then
  some (.inr (Sum.inr (Sum.inr (v2, M))))
  else
  some (.inl ((v2 + w0), (v3 + (1 : Int32)), M))
theorem j_Law_read_108_29_ok {E : Ev} {G : Gw} {d : Nat} {post : Int32 → Mem → Prop} (X : Cx E G b_Law_read "WomenByTheRoofs$Law" 6 d (some .int)) (hD : 4 ≤ d)  (v2 : Int32) (v3 : Int32) (w0 : Int32)  (M : Mem)  (o : (Int32 × Int32 × Mem) ⊕ ((Mem) ⊕ (Int32 × Mem) ⊕ (Int32 × Mem))) (h : j_Law_read_108_29 v2 v3 w0 M = some o) (kc : ∀ s9 : Int32 × Int32 × Mem, o = .inl s9 → V E (0, 0) G 6 (QI E G post) s9.2.2 29 [(0, .ref (G.2.2 + 40)), (1, .ref (G.2.2 + 1)), (2, .int s9.1), (3, .int s9.2.1)] []) (kx0 : ∀ x9 : Mem, o = .inr (Sum.inl x9) → V E (0, 0) G 6 (QI E G post) x9 130 [(0, .ref (G.2.2 + 40))] []) (kx1 : ∀ x9 : Int32 × Mem, o = .inr (Sum.inr (Sum.inl x9)) → V E (0, 0) G 6 (QI E G post) x9.2 57 [(0, .ref (G.2.2 + 40)), (1, .ref (G.2.2 + 1)), (2, .int x9.1)] []) (kx2 : ∀ x9 : Int32 × Mem, o = .inr (Sum.inr (Sum.inr x9)) → V E (0, 0) G 6 (QI E G post) x9.2 115 [(2, .int x9.1)] []) : V E (0, 0) G 6 (QI E G post) M 108 [(0, .ref (G.2.2 + 40)), (1, .ref (G.2.2 + 1)), (2, .int v2), (3, .int v3)] [.int w0] := by
  unfold j_Law_read_108_29 at h
  refine V_istore (lv' := [(5, .int w0), (0, .ref (G.2.2 + 40)), (1, .ref (G.2.2 + 1)), (2, .int v2), (3, .int v3)]) X d_Law_read_108 (by decide) rfl rfl ?_
  refine V_iload (n := 0) X d_Law_read_110 rfl rfl ?_
  refine V_if_ne (tgt := 119) X d_Law_read_112 (by decide) rfl (fun c8 => ?_) (fun c8 => ?_)
  · rw [if_neg c8] at h
    refine V_iload_n (n := 3) X d_Law_read_119 rfl rfl rfl ?_
    refine V_iload (n := 0) X d_Law_read_120 rfl rfl ?_
    refine V_iadd X d_Law_read_122 rfl ?_
    refine V_istore_n (lv' := [(2, .int (v2 + w0)), (5, .int w0), (0, .ref (G.2.2 + 40)), (1, .ref (G.2.2 + 1)), (3, .int v3)]) X d_Law_read_123 rfl (by decide) rfl rfl ?_
    refine V_iinc (n := 4) (v := (v3 + (1 : Int32))) (lv' := [(3, .int (v3 + (1 : Int32))), (2, .int (v2 + w0)), (5, .int w0), (0, .ref (G.2.2 + 40)), (1, .ref (G.2.2 + 1))]) X d_Law_read_124 rfl rfl (by decide) rfl rfl ?_
    refine V_goto (pc' := 29) X d_Law_read_127 (by decide) ?_
    refine V_sub (lv' := [(0, .ref (G.2.2 + 40)), (1, .ref (G.2.2 + 1)), (2, .int (v2 + w0)), (3, .int (v3 + (1 : Int32)))]) [3, 4, 1, 0] rfl ?_
    exact kc ((v2 + w0), (v3 + (1 : Int32)), M) (Option.some.inj h).symm
  · rw [if_pos c8] at h
    refine V_sub (lv' := [(2, .int v2)]) [3] rfl ?_
    exact kx2 (v2, M) (Option.some.inj h).symm
def lb_Law_read_29  (s : Int32 × Int32 × Mem) : Option ((Int32 × Int32 × Mem) ⊕ ((Mem) ⊕ (Int32 × Mem) ⊕ (Int32 × Mem))) :=
  if (40 : Int32) < s.2.1 then
  some (.inr (Sum.inl s.2.2))
  else
  if (s.2.2.1 1 1) ≤ 0 then
  some (.inr (Sum.inl s.2.2))
  else
  Option.bind (f_Signs_at s.1 (40 : Int32) s.2.2) fun x6 =>
  if x6 = (-1 : Int32) then
  some (.inr (Sum.inr (Sum.inl (s.1, s.2.2))))
  else
  if (s.2.2.1 40 10) = 0 then
  Option.bind (f_Law_readThing s.1 x6 s.2.2) fun x7 =>
  j_Law_read_108_29 s.1 s.2.1 x7.1 x7.2
  else
  Option.bind (f_Law_readBehind x6 s.2.2) fun x9 =>
  j_Law_read_108_29 s.1 s.2.1 x9.1 x9.2
theorem lb_Law_read_29_ok {E : Ev} {G : Gw} {d : Nat} {post : Int32 → Mem → Prop} (X : Cx E G b_Law_read "WomenByTheRoofs$Law" 6 d (some .int)) (hD : 4 ≤ d)     (s : Int32 × Int32 × Mem) (o : (Int32 × Int32 × Mem) ⊕ ((Mem) ⊕ (Int32 × Mem) ⊕ (Int32 × Mem))) (h : lb_Law_read_29 s = some o) (kc : ∀ s9 : Int32 × Int32 × Mem, o = .inl s9 → V E (0, 0) G 6 (QI E G post) s9.2.2 29 [(0, .ref (G.2.2 + 40)), (1, .ref (G.2.2 + 1)), (2, .int s9.1), (3, .int s9.2.1)] []) (kx0 : ∀ x9 : Mem, o = .inr (Sum.inl x9) → V E (0, 0) G 6 (QI E G post) x9 130 [(0, .ref (G.2.2 + 40))] []) (kx1 : ∀ x9 : Int32 × Mem, o = .inr (Sum.inr (Sum.inl x9)) → V E (0, 0) G 6 (QI E G post) x9.2 57 [(0, .ref (G.2.2 + 40)), (1, .ref (G.2.2 + 1)), (2, .int x9.1)] []) (kx2 : ∀ x9 : Int32 × Mem, o = .inr (Sum.inr (Sum.inr x9)) → V E (0, 0) G 6 (QI E G post) x9.2 115 [(2, .int x9.1)] []) : V E (0, 0) G 6 (QI E G post) s.2.2 29 [(0, .ref (G.2.2 + 40)), (1, .ref (G.2.2 + 1)), (2, .int s.1), (3, .int s.2.1)] [] := by
  unfold lb_Law_read_29 at h
  refine V_iload_n (n := 3) X d_Law_read_29 rfl rfl rfl ?_
  refine V_bipush (v := 40) X d_Law_read_30 (by decide) rfl ?_
  refine V_icmp_gt (tgt := 130) X d_Law_read_32 (by decide) rfl (fun c13 => ?_) (fun c13 => ?_)
  · rw [if_pos c13] at h
    refine V_sub (lv' := [(0, .ref (G.2.2 + 40))]) [0] rfl ?_
    exact kx0 s.2.2 (Option.some.inj h).symm
  · rw [if_neg c13] at h
    refine V_aload_n (n := 1) X d_Law_read_35 rfl rfl rfl ?_
    refine V_geti X fo_Law_41 kd_1 rfl d_Law_read_36 rfl ?_
    refine V_if_le (tgt := 130) X d_Law_read_39 (by decide) rfl (fun c12 => ?_) (fun c12 => ?_)
    · rw [if_pos c12] at h
      refine V_sub (lv' := [(0, .ref (G.2.2 + 40))]) [0] rfl ?_
      exact kx0 s.2.2 (Option.some.inj h).symm
    · rw [if_neg c12] at h
      refine V_aload_n (n := 1) X d_Law_read_42 rfl rfl rfl ?_
      refine V_iload_n (n := 2) X d_Law_read_43 rfl rfl rfl ?_
      refine V_bipush (v := 40) X d_Law_read_44 (by decide) rfl ?_
      obtain ⟨x6, hx6, h⟩ := ob_s h
      refine V_ci (As := [.int s.1, .int (40 : Int32)]) X (Z0 E) ml_Law_46 yq_Signs_at (c_Signs_at E.2.1 G s.1 (40 : Int32) s.2.2 x6 hx6 _ (Nat.le_refl _)) kd_1 rfl rfl (by omega) rfl (Nat.le_of_ble_eq_true rfl) d_Law_read_46 rfl (fun r9 M9 hq => ?_)
      rw [hq.1, hq.2]
      refine V_istore (lv' := [(4, .int x6), (0, .ref (G.2.2 + 40)), (1, .ref (G.2.2 + 1)), (2, .int s.1), (3, .int s.2.1)]) X d_Law_read_49 (by decide) rfl rfl ?_
      refine V_iload (n := 0) X d_Law_read_51 rfl rfl ?_
      refine V_iconst (v := -1) X d_Law_read_53 (by decide) rfl ?_
      refine V_icmp_ne (tgt := 84) X d_Law_read_54 (by decide) rfl (fun c11 => ?_) (fun c11 => ?_)
      · rw [if_neg c11] at h
        refine V_aload_n (n := 1) X d_Law_read_84 rfl rfl rfl ?_
        refine V_geti X fo_Law_37 kd_40 rfl d_Law_read_85 rfl ?_
        refine V_if_eq (tgt := 100) X d_Law_read_88 (by decide) rfl (fun c10 => ?_) (fun c10 => ?_)
        · rw [if_pos c10] at h
          refine V_aload_n (n := 1) X d_Law_read_100 rfl rfl rfl ?_
          refine V_aload_n (n := 2) X d_Law_read_101 rfl rfl rfl ?_
          refine V_iload_n (n := 3) X d_Law_read_102 rfl rfl rfl ?_
          refine V_iload (n := 0) X d_Law_read_103 rfl rfl ?_
          obtain ⟨x7, hx7, h⟩ := ob_s h
          refine V_ci (As := [.ref (G.2.2 + 1), .int s.1, .int x6]) X (Z0 E) ml_Law_54 yq_Law_readThing (c_Law_readThing E.2.1 G s.1 x6 s.2.2 x7 hx7 _ (Nat.le_refl _)) kd_40 rfl rfl (by omega) rfl (Nat.le_of_ble_eq_true rfl) d_Law_read_105 rfl (fun r9 M9 hq => ?_)
          rw [hq.1, hq.2]
          refine V_sub (lv' := [(0, .ref (G.2.2 + 40)), (1, .ref (G.2.2 + 1)), (2, .int s.1), (3, .int s.2.1)]) [1, 2, 3, 4] rfl ?_
          exact j_Law_read_108_29_ok X hD s.1 s.2.1 x7.1 x7.2 _ h kc kx0 kx1 kx2
        · rw [if_neg c10] at h
          refine V_aload_n (n := 1) X d_Law_read_91 rfl rfl rfl ?_
          refine V_iload (n := 0) X d_Law_read_92 rfl rfl ?_
          obtain ⟨x9, hx9, h⟩ := ob_s h
          refine V_ci (As := [.int x6]) X (Z0 E) ml_Law_50 yq_Law_readBehind (c_Law_readBehind E.2.1 G x6 s.2.2 x9 hx9 _ (Nat.le_refl _)) kd_40 rfl rfl (by omega) rfl (Nat.le_of_ble_eq_true rfl) d_Law_read_94 rfl (fun r9 M9 hq => ?_)
          rw [hq.1, hq.2]
          refine V_goto (pc' := 108) X d_Law_read_97 (by decide) ?_
          refine V_sub (lv' := [(0, .ref (G.2.2 + 40)), (1, .ref (G.2.2 + 1)), (2, .int s.1), (3, .int s.2.1)]) [1, 2, 3, 4] rfl ?_
          exact j_Law_read_108_29_ok X hD s.1 s.2.1 x9.1 x9.2 _ h kc kx0 kx1 kx2
      · rw [if_pos c11] at h
        refine V_sub (lv' := [(0, .ref (G.2.2 + 40)), (1, .ref (G.2.2 + 1)), (2, .int s.1)]) [1, 2, 3] rfl ?_
        exact kx1 (s.1, s.2.2) (Option.some.inj h).symm
theorem lp_Law_read_29_ok {E : Ev} {G : Gw} {d : Nat} {post : Int32 → Mem → Prop} (X : Cx E G b_Law_read "WomenByTheRoofs$Law" 6 d (some .int)) (hD : 4 ≤ d)     (n9 : Nat) (s : Int32 × Int32 × Mem) (x : (Mem) ⊕ (Int32 × Mem) ⊕ (Int32 × Mem)) (h : iter (lb_Law_read_29) n9 s = some x) (kx0 : ∀ x9 : Mem, x = (Sum.inl x9) → V E (0, 0) G 6 (QI E G post) x9 130 [(0, .ref (G.2.2 + 40))] []) (kx1 : ∀ x9 : Int32 × Mem, x = (Sum.inr (Sum.inl x9)) → V E (0, 0) G 6 (QI E G post) x9.2 57 [(0, .ref (G.2.2 + 40)), (1, .ref (G.2.2 + 1)), (2, .int x9.1)] []) (kx2 : ∀ x9 : Int32 × Mem, x = (Sum.inr (Sum.inr x9)) → V E (0, 0) G 6 (QI E G post) x9.2 115 [(2, .int x9.1)] []) : V E (0, 0) G 6 (QI E G post) s.2.2 29 [(0, .ref (G.2.2 + 40)), (1, .ref (G.2.2 + 1)), (2, .int s.1), (3, .int s.2.1)] [] :=
  iter_P (P := fun s : Int32 × Int32 × Mem => V E (0, 0) G 6 (QI E G post) s.2.2 29 [(0, .ref (G.2.2 + 40)), (1, .ref (G.2.2 + 1)), (2, .int s.1), (3, .int s.2.1)] []) (fun s o hb kc ky => lb_Law_read_29_ok X hD  s o hb kc (fun x9 e9 => kx0 x9 (ky _ e9).symm) (fun x9 e9 => kx1 x9 (ky _ e9).symm) (fun x9 e9 => kx2 x9 (ky _ e9).symm)) n9 s h
def j_Law_read_130 (M : Mem) : Option (Int32 × Mem) :=
  Option.bind (f_Law_settle (0 : Int32) M) fun x16 =>
  mem_ (s_c x16 42 41 0 0 40) fun M17 =>
  mem_ (s_i M17 40 4 (M17.1 40 5)) fun M18 =>
  some ((0 : Int32), M18)
theorem j_Law_read_130_ok {E : Ev} {G : Gw} {d : Nat} {post : Int32 → Mem → Prop} (X : Cx E G b_Law_read "WomenByTheRoofs$Law" 6 d (some .int)) (hD : 4 ≤ d)    (M : Mem)  (o : Int32 × Mem) (h : j_Law_read_130 M = some o) (kr : ∀ x9 : Int32 × Mem, o = x9 → post x9.1 x9.2) : V E (0, 0) G 6 (QI E G post) M 130 [(0, .ref (G.2.2 + 40))] [] := by
  unfold j_Law_read_130 at h
  refine V_aload_n (n := 0) X d_Law_read_130 rfl rfl rfl ?_
  refine V_iconst (v := 0) X d_Law_read_131 (by decide) rfl ?_
  obtain ⟨x16, hx16, h⟩ := ob_s h
  refine V_cv (As := [.int (0 : Int32)]) X (Z0 E) ml_Law_58 yq_Law_settle (c_Law_settle E.2.1 G (0 : Int32) M x16 hx16 _ (Nat.le_refl _)) kd_40 rfl rfl (by omega) rfl (Nat.le_of_ble_eq_true rfl) d_Law_read_132 rfl (fun M9 hq => ?_)
  rw [hq]
  refine V_aload_n (n := 0) X d_Law_read_135 rfl rfl rfl ?_
  refine V_getr (k2 := 42) X fo_Law_15 kd_40 rfl rf_40_1 d_Law_read_136 rfl ?_
  refine V_iconst (v := 0) X d_Law_read_139 (by decide) rfl ?_
  refine V_aload_n (n := 0) X d_Law_read_140 rfl rfl rfl ?_
  refine V_getr (k2 := 41) X fo_Law_9 kd_40 rfl rf_40_0 d_Law_read_141 rfl ?_
  refine V_iconst (v := 0) X d_Law_read_144 (by decide) rfl ?_
  refine V_bipush (v := 40) X d_Law_read_145 (by decide) rfl ?_
  obtain ⟨M17, eM17, h⟩ := memS h
  refine V_copy X mm_Law_62 (by omega) (Nat.le_of_ble_eq_true rfl) kd_42 kd_41 (by decide) (by decide) (by decide) (by rw [ln_42]; decide) (by rw [ln_41]; decide) d_Law_read_147 rfl ?_
  rw [show (0 : Int32).toNatClampNeg = 0 from by decide, show (40 : Int32).toNatClampNeg = 40 from by decide, ← eM17]
  refine V_aload_n (n := 0) X d_Law_read_150 rfl rfl rfl ?_
  refine V_aload_n (n := 0) X d_Law_read_151 rfl rfl rfl ?_
  refine V_geti X fo_Law_24 kd_40 rfl d_Law_read_152 rfl ?_
  obtain ⟨M18, eM18, h⟩ := memS h
  refine V_putI X fp_Law_68 kd_40 rfl d_Law_read_155 rfl ?_
  rw [← eM18]
  refine V_iconst (v := 0) X d_Law_read_158 (by decide) rfl ?_
  exact V_iret X (kr ((0 : Int32), M18) (Option.some.inj h).symm) d_Law_read_159
def f_Law_read (M : Mem) : Option (Int32 × Mem) :=
  mem_ (s_i M 40 5 (0 : Int32)) fun M1 =>
  mem_ (s_i M1 40 6 (0 : Int32)) fun M2 =>
  mem_ (s_i M2 40 8 (0 : Int32)) fun M3 =>
  mem_ (s_i M3 40 9 (0 : Int32)) fun M4 =>
  mem_ (s_i M4 40 10 (0 : Int32)) fun M5 =>
  Option.bind (iter (lb_Law_read_29) FU ((0 : Int32), (0 : Int32), M5)) (Sum.elim (fun y15 => j_Law_read_130 y15) (Sum.elim (fun y19 => if (40 : Int32) < (y19.2.1 1 1) then
  some (((-1 : Int32) - y19.1), y19.2)
  else
  if (y19.2.1 40 10) = 0 then
  some (((-1 : Int32) - y19.1), y19.2)
  else
  if (y19.2.1 40 8) ≤ 0 then
  j_Law_read_130 y19.2
  else
  some (((-1 : Int32) - y19.1), y19.2)) (fun y23 => some (((-1 : Int32) - y23.1), y23.2))))
theorem c_Law_read (l : Launch) (G : Gw)   (M : Mem) (x : Int32 × Mem) (h : f_Law_read M = some x) (d : Nat) (hD : 4 ≤ d) : Ci l G y_Law_read b_Law_read 6 (some .int) d [.ref (G.2.2 + 40), .ref (G.2.2 + 1)] M (fun r9 M9 => r9 = x.1 ∧ M9 = x.2) := by
  refine Ci_of (by decide) (Nat.le_of_ble_eq_true rfl) (fun E hE X => ?_)
  subst hE
  have kr : ∀ x9 : Int32 × Mem, x = x9 → (fun r9 M9 => r9 = x.1 ∧ M9 = x.2) x9.1 x9.2 := fun x9 e9 => by subst e9; exact ⟨rfl, rfl⟩
  unfold f_Law_read at h
  refine V_aload_n (n := 0) X d_Law_read_0 rfl rfl rfl ?_
  refine V_iconst (v := 0) X d_Law_read_1 (by decide) rfl ?_
  obtain ⟨M1, eM1, h⟩ := memS h
  refine V_putI X fp_Law_24 kd_40 rfl d_Law_read_2 rfl ?_
  rw [← eM1]
  refine V_aload_n (n := 0) X d_Law_read_5 rfl rfl rfl ?_
  refine V_iconst (v := 0) X d_Law_read_6 (by decide) rfl ?_
  obtain ⟨M2, eM2, h⟩ := memS h
  refine V_putI X fp_Law_28 kd_40 rfl d_Law_read_7 rfl ?_
  rw [← eM2]
  refine V_aload_n (n := 0) X d_Law_read_10 rfl rfl rfl ?_
  refine V_iconst (v := 0) X d_Law_read_11 (by decide) rfl ?_
  obtain ⟨M3, eM3, h⟩ := memS h
  refine V_putI X fp_Law_31 kd_40 rfl d_Law_read_12 rfl ?_
  rw [← eM3]
  refine V_aload_n (n := 0) X d_Law_read_15 rfl rfl rfl ?_
  refine V_iconst (v := 0) X d_Law_read_16 (by decide) rfl ?_
  obtain ⟨M4, eM4, h⟩ := memS h
  refine V_putI X fp_Law_34 kd_40 rfl d_Law_read_17 rfl ?_
  rw [← eM4]
  refine V_aload_n (n := 0) X d_Law_read_20 rfl rfl rfl ?_
  refine V_iconst (v := 0) X d_Law_read_21 (by decide) rfl ?_
  obtain ⟨M5, eM5, h⟩ := memS h
  refine V_putZ X fp_Law_37 kd_40 rfl (by decide) d_Law_read_22 rfl ?_
  rw [← eM5]
  refine V_iconst (v := 0) X d_Law_read_25 (by decide) rfl ?_
  refine V_istore_n (lv' := [(2, .int (0 : Int32)), (0, .ref (G.2.2 + 40)), (1, .ref (G.2.2 + 1))]) X d_Law_read_26 rfl (by decide) rfl rfl ?_
  refine V_iconst (v := 0) X d_Law_read_27 (by decide) rfl ?_
  refine V_istore_n (lv' := [(3, .int (0 : Int32)), (2, .int (0 : Int32)), (0, .ref (G.2.2 + 40)), (1, .ref (G.2.2 + 1))]) X d_Law_read_28 rfl (by decide) rfl rfl ?_
  refine V_sub (lv' := [(0, .ref (G.2.2 + 40)), (1, .ref (G.2.2 + 1)), (2, .int (0 : Int32)), (3, .int (0 : Int32))]) [2, 3, 1, 0] rfl ?_
  obtain ⟨x14, hx14, h⟩ := ob_s h
  rcases x14 with y15 | y19 | y23
  · simp only [Sum.elim_inl, Sum.elim_inr] at h
    refine (lp_Law_read_29_ok X hD  _ _ _ hx14 (fun x9 e9 => ?_) (fun x9 e9 => by cases e9) (fun x9 e9 => by cases e9) :)
    cases e9
    exact j_Law_read_130_ok X hD y15 _ h kr
  · simp only [Sum.elim_inl, Sum.elim_inr] at h
    refine (lp_Law_read_29_ok X hD  _ _ _ hx14 (fun x9 e9 => by cases e9) (fun x9 e9 => ?_) (fun x9 e9 => by cases e9) :)
    cases e9
    refine V_aload_n (n := 1) X d_Law_read_57 rfl rfl rfl ?_
    refine V_geti X fo_Law_41 kd_1 rfl d_Law_read_58 rfl ?_
    refine V_bipush (v := 40) X d_Law_read_61 (by decide) rfl ?_
    refine V_icmp_gt (tgt := 80) X d_Law_read_63 (by decide) rfl (fun c22 => ?_) (fun c22 => ?_)
    · rw [if_pos c22] at h
      refine V_iconst (v := -1) X d_Law_read_80 (by decide) rfl ?_
      refine V_iload_n (n := 2) X d_Law_read_81 rfl rfl rfl ?_
      refine V_isub X d_Law_read_82 rfl ?_
      exact V_iret X (kr (((-1 : Int32) - y19.1), y19.2) (Option.some.inj h).symm) d_Law_read_83
    · rw [if_neg c22] at h
      refine V_aload_n (n := 0) X d_Law_read_66 rfl rfl rfl ?_
      refine V_geti X fo_Law_37 kd_40 rfl d_Law_read_67 rfl ?_
      refine V_if_eq (tgt := 80) X d_Law_read_70 (by decide) rfl (fun c21 => ?_) (fun c21 => ?_)
      · rw [if_pos c21] at h
        refine V_iconst (v := -1) X d_Law_read_80 (by decide) rfl ?_
        refine V_iload_n (n := 2) X d_Law_read_81 rfl rfl rfl ?_
        refine V_isub X d_Law_read_82 rfl ?_
        exact V_iret X (kr (((-1 : Int32) - y19.1), y19.2) (Option.some.inj h).symm) d_Law_read_83
      · rw [if_neg c21] at h
        refine V_aload_n (n := 0) X d_Law_read_73 rfl rfl rfl ?_
        refine V_geti X fo_Law_31 kd_40 rfl d_Law_read_74 rfl ?_
        refine V_if_le (tgt := 130) X d_Law_read_77 (by decide) rfl (fun c20 => ?_) (fun c20 => ?_)
        · rw [if_pos c20] at h
          refine V_sub (lv' := [(0, .ref (G.2.2 + 40))]) [0] rfl ?_
          exact j_Law_read_130_ok X hD y19.2 _ h kr
        · rw [if_neg c20] at h
          refine V_iconst (v := -1) X d_Law_read_80 (by decide) rfl ?_
          refine V_iload_n (n := 2) X d_Law_read_81 rfl rfl rfl ?_
          refine V_isub X d_Law_read_82 rfl ?_
          exact V_iret X (kr (((-1 : Int32) - y19.1), y19.2) (Option.some.inj h).symm) d_Law_read_83
  · simp only [Sum.elim_inl, Sum.elim_inr] at h
    refine (lp_Law_read_29_ok X hD  _ _ _ hx14 (fun x9 e9 => by cases e9) (fun x9 e9 => by cases e9) (fun x9 e9 => ?_) :)
    cases e9
    refine V_iconst (v := -1) X d_Law_read_115 (by decide) rfl ?_
    refine V_iload_n (n := 0) X d_Law_read_116 rfl rfl rfl ?_
    refine V_isub X d_Law_read_117 rfl ?_
    exact V_iret X (kr (((-1 : Int32) - y23.1), y23.2) (Option.some.inj h).symm) d_Law_read_118
def f_Law_push (v1 : Int32) (M : Mem) : Option (Mem) :=
  if (M.1 40 7) < 0 then
  some M
  else
  if (40 : Int32) ≤ (M.1 40 7) then
  some M
  else
  if inb (M.1 40 7) 40 = true then
  mem_ (s_i M 44 (M.1 40 7).toNatClampNeg v1) fun M1 =>
  mem_ (s_i M1 40 7 ((M1.1 40 7) + (1 : Int32))) fun M2 =>
  some M2
  else none
theorem c_Law_push (l : Launch) (G : Gw)  (v1 : Int32) (M : Mem) (x : Mem) (h : f_Law_push v1 M = some x) (d : Nat) (hD : 1 ≤ d) : Cv l G y_Law_push b_Law_push 2 none d [.ref (G.2.2 + 40), .int v1] M (fun M9 => M9 = x) := by
  refine Cv_of (by decide) (Nat.le_of_ble_eq_true rfl) (fun E hE X => ?_)
  subst hE
  have kr : ∀ x9 : Mem, x = x9 → (fun M9 => M9 = x) x9 := fun x9 e9 => by subst e9; exact rfl
  unfold f_Law_push at h
  refine V_aload_n (n := 0) X d_Law_push_0 rfl rfl rfl ?_
  refine V_geti X fo_Law_99 kd_40 rfl d_Law_push_1 rfl ?_
  refine V_if_lt (tgt := 36) X d_Law_push_4 (by decide) rfl (fun c4 => ?_) (fun c4 => ?_)
  · rw [if_pos c4] at h
    exact V_vret X (kr M (Option.some.inj h).symm) d_Law_push_36
  · rw [if_neg c4] at h
    refine V_aload_n (n := 0) X d_Law_push_7 rfl rfl rfl ?_
    refine V_geti X fo_Law_99 kd_40 rfl d_Law_push_8 rfl ?_
    refine V_bipush (v := 40) X d_Law_push_11 (by decide) rfl ?_
    refine V_icmp_ge (tgt := 36) X d_Law_push_13 (by decide) rfl (fun c3 => ?_) (fun c3 => ?_)
    · rw [if_pos c3] at h
      exact V_vret X (kr M (Option.some.inj h).symm) d_Law_push_36
    · rw [if_neg c3] at h
      refine V_aload_n (n := 0) X d_Law_push_16 rfl rfl rfl ?_
      refine V_getr (k2 := 44) X fo_Law_21 kd_40 rfl rf_40_3 d_Law_push_17 rfl ?_
      refine V_aload_n (n := 0) X d_Law_push_20 rfl rfl rfl ?_
      refine V_geti X fo_Law_99 kd_40 rfl d_Law_push_21 rfl ?_
      refine V_iload_n (n := 1) X d_Law_push_24 rfl rfl rfl ?_
      obtain ⟨hb, h⟩ := ifn h
      obtain ⟨M1, eM1, h⟩ := memS h
      refine V_iast X kd_44 (inb_in ln_44 hb) d_Law_push_25 rfl ?_
      rw [← eM1]
      refine V_aload_n (n := 0) X d_Law_push_26 rfl rfl rfl ?_
      refine V_dup X d_Law_push_27 rfl rfl ?_
      refine V_geti X fo_Law_99 kd_40 rfl d_Law_push_28 rfl ?_
      refine V_iconst (v := 1) X d_Law_push_31 (by decide) rfl ?_
      refine V_iadd X d_Law_push_32 rfl ?_
      obtain ⟨M2, eM2, h⟩ := memS h
      refine V_putI X fp_Law_99 kd_40 rfl d_Law_push_33 rfl ?_
      rw [← eM2]
      exact V_vret X (kr M2 (Option.some.inj h).symm) d_Law_push_36
def f_Law_quality (v0 : Int32) (v1 : Int32) (v2 : Nat) (M : Mem) : Option (Int32) :=
  if kd v2 = 10 + 7 then
  if inb v1 8 = true then
  if v0 = (105 : Int32) then
  some v1
  else if v0 = (107 : Int32) then
  some (((M.1 v2 8) >>> (v1 &&& 31)) &&& (1 : Int32))
  else if v0 = (109 : Int32) then
  some (M.1 v2 7)
  else if v0 = (110 : Int32) then
  if inb v1 8 = true then
  Option.bind (f_Scene_standing v2 (M.1 (rf v2 1) v1.toNatClampNeg) (M.1 (rf v2 0) v1.toNatClampNeg) (M.1 6 4) M) fun x4 =>
  Option.bind (f_JInteger_bitCount x4) fun x5 =>
  some (x5 - (1 : Int32))
  else none
  else if v0 = (115 : Int32) then
  Option.bind (f_Ground_isStair (M.1 (rf v2 0) v1.toNatClampNeg) M) fun x7 =>
  if x7 = 0 then
  some (0 : Int32)
  else
  some (1 : Int32)
  else if v0 = (119 : Int32) then
  Option.bind (f_Crowd_woman v1 M) fun x10 =>
  if x10 = 0 then
  some (0 : Int32)
  else
  some (1 : Int32)
  else if v0 = (120 : Int32) then
  Option.bind (f_Ground_column (M.1 (rf v2 0) v1.toNatClampNeg) M) fun x13 =>
  some x13
  else if v0 = (121 : Int32) then
  Option.bind (f_Ground_line (M.1 (rf v2 0) v1.toNatClampNeg) M) fun x15 =>
  some x15
  else some (0 : Int32)
  else none
  else none
theorem c_Law_quality (l : Launch) (G : Gw)  (v0 : Int32) (v1 : Int32) (v2 : Nat) (M : Mem) (x : Int32) (h : f_Law_quality v0 v1 v2 M = some x) (d : Nat) (hD : 2 ≤ d) : Ci l G y_Law_quality b_Law_quality 6 (some .int) d [.int v0, .int v1, .ref (G.2.2 + v2), .ref (G.2.2 + 6), .ref (G.2.2 + 3)] M (fun r9 M9 => r9 = x ∧ M9 = M) := by
  refine Ci_of (by decide) (Nat.le_of_ble_eq_true rfl) (fun E hE X => ?_)
  subst hE
  have kr : ∀ x9 : Int32, x = x9 → (fun r9 M9 => r9 = x ∧ M9 = M) x9 M := fun x9 e9 => by subst e9; exact ⟨rfl, rfl⟩
  unfold f_Law_quality at h
  obtain ⟨hk_v2, h⟩ := ifn h
  refine V_aload_n (n := 2) X d_Law_quality_0 rfl rfl rfl ?_
  refine V_getr X fo_Law_119 hk_v2 rfl rfl d_Law_quality_1 rfl ?_
  refine V_iload_n (n := 1) X d_Law_quality_4 rfl rfl rfl ?_
  obtain ⟨hb, h⟩ := ifn h
  refine V_iald X (kdScene_0 hk_v2) (inb_in (lnScene_0 hk_v2) hb) d_Law_quality_5 rfl ?_
  refine V_istore (lv' := [(5, .int (M.1 (rf v2 0) v1.toNatClampNeg)), (0, .int v0), (1, .int v1), (2, .ref (G.2.2 + v2)), (3, .ref (G.2.2 + 6)), (4, .ref (G.2.2 + 3))]) X d_Law_quality_6 (by decide) rfl rfl ?_
  refine V_iload_n (n := 1) X d_Law_quality_8 rfl rfl rfl ?_
  by_cases c1 : v0 = (105 : Int32)
  · rw [if_pos c1] at h
    refine V_tbl (v := 105) (pc' := 97) (off := 88) X d_Law_quality_9 c1 (by decide) (by decide) (by decide +kernel) (by decide) ?_
    refine V_iload_n (n := 2) X d_Law_quality_97 rfl rfl rfl ?_
    exact V_iret X (kr v1 (Option.some.inj h).symm) d_Law_quality_98
  · rw [if_neg c1] at h
    by_cases c2 : v0 = (107 : Int32)
    · rw [if_pos c2] at h
      refine V_tbl (v := 107) (pc' := 167) (off := 158) X d_Law_quality_9 c2 (by decide) (by decide) (by decide +kernel) (by decide) ?_
      refine V_aload_n (n := 3) X d_Law_quality_167 rfl rfl rfl ?_
      refine V_geti X fo_Law_151 hk_v2 rfl d_Law_quality_168 rfl ?_
      refine V_iload_n (n := 2) X d_Law_quality_171 rfl rfl rfl ?_
      refine V_ishr X d_Law_quality_172 rfl ?_
      refine V_iconst (v := 1) X d_Law_quality_173 (by decide) rfl ?_
      refine V_iand X d_Law_quality_174 rfl ?_
      exact V_iret X (kr (((M.1 v2 8) >>> (v1 &&& 31)) &&& (1 : Int32)) (Option.some.inj h).symm) d_Law_quality_175
    · rw [if_neg c2] at h
      by_cases c3 : v0 = (109 : Int32)
      · rw [if_pos c3] at h
        refine V_tbl (v := 109) (pc' := 92) (off := 83) X d_Law_quality_9 c3 (by decide) (by decide) (by decide +kernel) (by decide) ?_
        refine V_aload_n (n := 3) X d_Law_quality_92 rfl rfl rfl ?_
        refine V_geti X fo_Law_121 hk_v2 rfl d_Law_quality_93 rfl ?_
        exact V_iret X (kr (M.1 v2 7) (Option.some.inj h).symm) d_Law_quality_96
      · rw [if_neg c3] at h
        by_cases c6 : v0 = (110 : Int32)
        · rw [if_pos c6] at h
          refine V_tbl (v := 110) (pc' := 129) (off := 120) X d_Law_quality_9 c6 (by decide) (by decide) (by decide +kernel) (by decide) ?_
          refine V_aload_n (n := 3) X d_Law_quality_129 rfl rfl rfl ?_
          refine V_aload_n (n := 3) X d_Law_quality_130 rfl rfl rfl ?_
          refine V_getr X fo_Law_96 hk_v2 rfl rfl d_Law_quality_131 rfl ?_
          refine V_iload_n (n := 2) X d_Law_quality_134 rfl rfl rfl ?_
          obtain ⟨hb, h⟩ := ifn h
          refine V_iald X (kdScene_1 hk_v2) (inb_in (lnScene_1 hk_v2) hb) d_Law_quality_135 rfl ?_
          refine V_iload (n := 0) X d_Law_quality_136 rfl rfl ?_
          refine V_aload_n (n := 4) X d_Law_quality_138 rfl rfl rfl ?_
          refine V_geti X fo_Law_137 kd_6 rfl d_Law_quality_139 rfl ?_
          obtain ⟨x4, hx4, h⟩ := ob_s h
          refine V_ci (As := [.int (M.1 (rf v2 1) v1.toNatClampNeg), .int (M.1 (rf v2 0) v1.toNatClampNeg), .int (M.1 6 4)]) X (Z0 E) ml_Law_140 yq_Scene_standing (c_Scene_standing E.2.1 G v2 (M.1 (rf v2 1) v1.toNatClampNeg) (M.1 (rf v2 0) v1.toNatClampNeg) (M.1 6 4) M x4 hx4 _ (Nat.le_refl _)) hk_v2 rfl rfl (by omega) rfl (Nat.le_of_ble_eq_true rfl) d_Law_quality_142 rfl (fun r9 M9 hq => ?_)
          rw [hq.1, hq.2]
          obtain ⟨x5, hx5, h⟩ := ob_s h
          refine V_si (As := [.int x4]) X (Z0 E) ml_Law_143 yq_JInteger_bitCount (c_JInteger_bitCount E.2.1 G x4 M x5 hx5 _ (Nat.le_refl _)) rfl (by omega) rfl (Nat.le_of_ble_eq_true rfl) d_Law_quality_145 rfl (fun r9 M9 hq => ?_)
          rw [hq.1, hq.2]
          refine V_iconst (v := 1) X d_Law_quality_148 (by decide) rfl ?_
          refine V_isub X d_Law_quality_149 rfl ?_
          exact V_iret X (kr (x5 - (1 : Int32)) (Option.some.inj h).symm) d_Law_quality_150
        · rw [if_neg c6] at h
          by_cases c9 : v0 = (115 : Int32)
          · rw [if_pos c9] at h
            refine V_tbl (v := 115) (pc' := 151) (off := 142) X d_Law_quality_9 c9 (by decide) (by decide) (by decide +kernel) (by decide) ?_
            refine V_aload (n := 5) X d_Law_quality_151 rfl rfl ?_
            refine V_iload (n := 0) X d_Law_quality_153 rfl rfl ?_
            obtain ⟨x7, hx7, h⟩ := ob_s h
            refine V_ci (As := [.int (M.1 (rf v2 0) v1.toNatClampNeg)]) X (Z0 E) ml_Law_148 yq_Ground_isStair (c_Ground_isStair E.2.1 G (M.1 (rf v2 0) v1.toNatClampNeg) M x7 hx7 _ (Nat.le_refl _)) kd_3 rfl rfl (by omega) rfl (Nat.le_of_ble_eq_true rfl) d_Law_quality_155 rfl (fun r9 M9 hq => ?_)
            rw [hq.1, hq.2]
            refine V_if_eq (tgt := 165) X d_Law_quality_158 (by decide) rfl (fun c8 => ?_) (fun c8 => ?_)
            · rw [if_pos c8] at h
              refine V_iconst (v := 0) X d_Law_quality_165 (by decide) rfl ?_
              exact V_iret X (kr (0 : Int32) (Option.some.inj h).symm) d_Law_quality_166
            · rw [if_neg c8] at h
              refine V_iconst (v := 1) X d_Law_quality_161 (by decide) rfl ?_
              refine V_goto (pc' := 166) X d_Law_quality_162 (by decide) ?_
              exact V_iret X (kr (1 : Int32) (Option.some.inj h).symm) d_Law_quality_166
          · rw [if_neg c9] at h
            by_cases c12 : v0 = (119 : Int32)
            · rw [if_pos c12] at h
              refine V_tbl (v := 119) (pc' := 99) (off := 90) X d_Law_quality_9 c12 (by decide) (by decide) (by decide +kernel) (by decide) ?_
              refine V_aload_n (n := 4) X d_Law_quality_99 rfl rfl rfl ?_
              refine V_iload_n (n := 2) X d_Law_quality_100 rfl rfl rfl ?_
              obtain ⟨x10, hx10, h⟩ := ob_s h
              refine V_ci (As := [.int v1]) X (Z0 E) ml_Law_124 yq_Crowd_woman (c_Crowd_woman E.2.1 G v1 M x10 hx10 _ (Nat.le_refl _)) kd_6 rfl rfl (by omega) rfl (Nat.le_of_ble_eq_true rfl) d_Law_quality_101 rfl (fun r9 M9 hq => ?_)
              rw [hq.1, hq.2]
              refine V_if_eq (tgt := 111) X d_Law_quality_104 (by decide) rfl (fun c11 => ?_) (fun c11 => ?_)
              · rw [if_pos c11] at h
                refine V_iconst (v := 0) X d_Law_quality_111 (by decide) rfl ?_
                exact V_iret X (kr (0 : Int32) (Option.some.inj h).symm) d_Law_quality_112
              · rw [if_neg c11] at h
                refine V_iconst (v := 1) X d_Law_quality_107 (by decide) rfl ?_
                refine V_goto (pc' := 112) X d_Law_quality_108 (by decide) ?_
                exact V_iret X (kr (1 : Int32) (Option.some.inj h).symm) d_Law_quality_112
            · rw [if_neg c12] at h
              by_cases c14 : v0 = (120 : Int32)
              · rw [if_pos c14] at h
                refine V_tbl (v := 120) (pc' := 113) (off := 104) X d_Law_quality_9 c14 (by decide) (by decide) (by decide +kernel) (by decide) ?_
                refine V_aload (n := 5) X d_Law_quality_113 rfl rfl ?_
                refine V_iload (n := 0) X d_Law_quality_115 rfl rfl ?_
                obtain ⟨x13, hx13, h⟩ := ob_s h
                refine V_ci (As := [.int (M.1 (rf v2 0) v1.toNatClampNeg)]) X (Z0 E) ml_Law_129 yq_Ground_column (c_Ground_column E.2.1 G (M.1 (rf v2 0) v1.toNatClampNeg) M x13 hx13 _ (Nat.le_refl _)) kd_3 rfl rfl (by omega) rfl (Nat.le_of_ble_eq_true rfl) d_Law_quality_117 rfl (fun r9 M9 hq => ?_)
                rw [hq.1, hq.2]
                exact V_iret X (kr x13 (Option.some.inj h).symm) d_Law_quality_120
              · rw [if_neg c14] at h
                by_cases c16 : v0 = (121 : Int32)
                · rw [if_pos c16] at h
                  refine V_tbl (v := 121) (pc' := 121) (off := 112) X d_Law_quality_9 c16 (by decide) (by decide) (by decide +kernel) (by decide) ?_
                  refine V_aload (n := 5) X d_Law_quality_121 rfl rfl ?_
                  refine V_iload (n := 0) X d_Law_quality_123 rfl rfl ?_
                  obtain ⟨x15, hx15, h⟩ := ob_s h
                  refine V_ci (As := [.int (M.1 (rf v2 0) v1.toNatClampNeg)]) X (Z0 E) ml_Law_134 yq_Ground_line (c_Ground_line E.2.1 G (M.1 (rf v2 0) v1.toNatClampNeg) M x15 hx15 _ (Nat.le_refl _)) kd_3 rfl rfl (by omega) rfl (Nat.le_of_ble_eq_true rfl) d_Law_quality_125 rfl (fun r9 M9 hq => ?_)
                  rw [hq.1, hq.2]
                  exact V_iret X (kr x15 (Option.some.inj h).symm) d_Law_quality_128
                · rw [if_neg c16] at h
                  by_cases c17 : v0 = (106 : Int32)
                  · refine V_tbl (v := 106) (pc' := 176) (off := 167) X d_Law_quality_9 c17 (by decide) (by decide) (by decide +kernel) (by decide) ?_
                    refine V_iconst (v := 0) X d_Law_quality_176 (by decide) rfl ?_
                    exact V_iret X (kr (0 : Int32) (Option.some.inj h).symm) d_Law_quality_177
                  · skip
                    by_cases c18 : v0 = (108 : Int32)
                    · refine V_tbl (v := 108) (pc' := 176) (off := 167) X d_Law_quality_9 c18 (by decide) (by decide) (by decide +kernel) (by decide) ?_
                      refine V_iconst (v := 0) X d_Law_quality_176 (by decide) rfl ?_
                      exact V_iret X (kr (0 : Int32) (Option.some.inj h).symm) d_Law_quality_177
                    · skip
                      by_cases c19 : v0 = (111 : Int32)
                      · refine V_tbl (v := 111) (pc' := 176) (off := 167) X d_Law_quality_9 c19 (by decide) (by decide) (by decide +kernel) (by decide) ?_
                        refine V_iconst (v := 0) X d_Law_quality_176 (by decide) rfl ?_
                        exact V_iret X (kr (0 : Int32) (Option.some.inj h).symm) d_Law_quality_177
                      · skip
                        by_cases c20 : v0 = (112 : Int32)
                        · refine V_tbl (v := 112) (pc' := 176) (off := 167) X d_Law_quality_9 c20 (by decide) (by decide) (by decide +kernel) (by decide) ?_
                          refine V_iconst (v := 0) X d_Law_quality_176 (by decide) rfl ?_
                          exact V_iret X (kr (0 : Int32) (Option.some.inj h).symm) d_Law_quality_177
                        · skip
                          by_cases c21 : v0 = (113 : Int32)
                          · refine V_tbl (v := 113) (pc' := 176) (off := 167) X d_Law_quality_9 c21 (by decide) (by decide) (by decide +kernel) (by decide) ?_
                            refine V_iconst (v := 0) X d_Law_quality_176 (by decide) rfl ?_
                            exact V_iret X (kr (0 : Int32) (Option.some.inj h).symm) d_Law_quality_177
                          · skip
                            by_cases c22 : v0 = (114 : Int32)
                            · refine V_tbl (v := 114) (pc' := 176) (off := 167) X d_Law_quality_9 c22 (by decide) (by decide) (by decide +kernel) (by decide) ?_
                              refine V_iconst (v := 0) X d_Law_quality_176 (by decide) rfl ?_
                              exact V_iret X (kr (0 : Int32) (Option.some.inj h).symm) d_Law_quality_177
                            · skip
                              by_cases c23 : v0 = (116 : Int32)
                              · refine V_tbl (v := 116) (pc' := 176) (off := 167) X d_Law_quality_9 c23 (by decide) (by decide) (by decide +kernel) (by decide) ?_
                                refine V_iconst (v := 0) X d_Law_quality_176 (by decide) rfl ?_
                                exact V_iret X (kr (0 : Int32) (Option.some.inj h).symm) d_Law_quality_177
                              · skip
                                by_cases c24 : v0 = (117 : Int32)
                                · refine V_tbl (v := 117) (pc' := 176) (off := 167) X d_Law_quality_9 c24 (by decide) (by decide) (by decide +kernel) (by decide) ?_
                                  refine V_iconst (v := 0) X d_Law_quality_176 (by decide) rfl ?_
                                  exact V_iret X (kr (0 : Int32) (Option.some.inj h).symm) d_Law_quality_177
                                · skip
                                  by_cases c25 : v0 = (118 : Int32)
                                  · refine V_tbl (v := 118) (pc' := 176) (off := 167) X d_Law_quality_9 c25 (by decide) (by decide) (by decide +kernel) (by decide) ?_
                                    refine V_iconst (v := 0) X d_Law_quality_176 (by decide) rfl ?_
                                    exact V_iret X (kr (0 : Int32) (Option.some.inj h).symm) d_Law_quality_177
                                  · skip
                                    refine V_tableOut (pc' := 176) X d_Law_quality_9 (by have g0 := neT c1 (z := 105) (by decide); have g1 := neT c2 (z := 107) (by decide); have g2 := neT c3 (z := 109) (by decide); have g3 := neT c6 (z := 110) (by decide); have g4 := neT c9 (z := 115) (by decide); have g5 := neT c12 (z := 119) (by decide); have g6 := neT c14 (z := 120) (by decide); have g7 := neT c16 (z := 121) (by decide); have g8 := neT c17 (z := 106) (by decide); have g9 := neT c18 (z := 108) (by decide); have g10 := neT c19 (z := 111) (by decide); have g11 := neT c20 (z := 112) (by decide); have g12 := neT c21 (z := 113) (by decide); have g13 := neT c22 (z := 114) (by decide); have g14 := neT c23 (z := 116) (by decide); have g15 := neT c24 (z := 117) (by decide); have g16 := neT c25 (z := 118) (by decide); omega) (by decide) ?_
                                    refine V_iconst (v := 0) X d_Law_quality_176 (by decide) rfl ?_
                                    exact V_iret X (kr (0 : Int32) (Option.some.inj h).symm) d_Law_quality_177
def f_Law_pop (M : Mem) : Option (Int32 × Mem) :=
  if (M.1 40 7) < (1 : Int32) then
  some ((0 : Int32), M)
  else
  if (M.1 40 7) ≤ (40 : Int32) then
  mem_ (s_i M 40 7 ((M.1 40 7) - (1 : Int32))) fun M1 =>
  if inb (M1.1 40 7) 40 = true then
  some ((M1.1 44 (M1.1 40 7).toNatClampNeg), M1)
  else none
  else
  some ((0 : Int32), M)
theorem c_Law_pop (l : Launch) (G : Gw)   (M : Mem) (x : Int32 × Mem) (h : f_Law_pop M = some x) (d : Nat) (hD : 1 ≤ d) : Ci l G y_Law_pop b_Law_pop 1 (some .int) d [.ref (G.2.2 + 40)] M (fun r9 M9 => r9 = x.1 ∧ M9 = x.2) := by
  refine Ci_of (by decide) (Nat.le_of_ble_eq_true rfl) (fun E hE X => ?_)
  subst hE
  have kr : ∀ x9 : Int32 × Mem, x = x9 → (fun r9 M9 => r9 = x.1 ∧ M9 = x.2) x9.1 x9.2 := fun x9 e9 => by subst e9; exact ⟨rfl, rfl⟩
  unfold f_Law_pop at h
  refine V_aload_n (n := 0) X d_Law_pop_0 rfl rfl rfl ?_
  refine V_geti X fo_Law_99 kd_40 rfl d_Law_pop_1 rfl ?_
  refine V_iconst (v := 1) X d_Law_pop_4 (by decide) rfl ?_
  refine V_icmp_lt (tgt := 17) X d_Law_pop_5 (by decide) rfl (fun c3 => ?_) (fun c3 => ?_)
  · rw [if_pos c3] at h
    refine V_iconst (v := 0) X d_Law_pop_17 (by decide) rfl ?_
    exact V_iret X (kr ((0 : Int32), M) (Option.some.inj h).symm) d_Law_pop_18
  · rw [if_neg c3] at h
    refine V_aload_n (n := 0) X d_Law_pop_8 rfl rfl rfl ?_
    refine V_geti X fo_Law_99 kd_40 rfl d_Law_pop_9 rfl ?_
    refine V_bipush (v := 40) X d_Law_pop_12 (by decide) rfl ?_
    refine V_icmp_le (tgt := 19) X d_Law_pop_14 (by decide) rfl (fun c2 => ?_) (fun c2 => ?_)
    · rw [if_pos c2] at h
      refine V_aload_n (n := 0) X d_Law_pop_19 rfl rfl rfl ?_
      refine V_dup X d_Law_pop_20 rfl rfl ?_
      refine V_geti X fo_Law_99 kd_40 rfl d_Law_pop_21 rfl ?_
      refine V_iconst (v := 1) X d_Law_pop_24 (by decide) rfl ?_
      refine V_isub X d_Law_pop_25 rfl ?_
      obtain ⟨M1, eM1, h⟩ := memS h
      refine V_putI X fp_Law_99 kd_40 rfl d_Law_pop_26 rfl ?_
      rw [← eM1]
      refine V_aload_n (n := 0) X d_Law_pop_29 rfl rfl rfl ?_
      refine V_getr (k2 := 44) X fo_Law_21 kd_40 rfl rf_40_3 d_Law_pop_30 rfl ?_
      refine V_aload_n (n := 0) X d_Law_pop_33 rfl rfl rfl ?_
      refine V_geti X fo_Law_99 kd_40 rfl d_Law_pop_34 rfl ?_
      obtain ⟨hb, h⟩ := ifn h
      refine V_iald X kd_44 (inb_in ln_44 hb) d_Law_pop_37 rfl ?_
      exact V_iret X (kr ((M1.1 44 (M1.1 40 7).toNatClampNeg), M1) (Option.some.inj h).symm) d_Law_pop_38
    · rw [if_neg c2] at h
      refine V_iconst (v := 0) X d_Law_pop_17 (by decide) rfl ?_
      exact V_iret X (kr ((0 : Int32), M) (Option.some.inj h).symm) d_Law_pop_18
def f_Law_joined (v0 : Int32) (v1 : Int32) (v2 : Int32) : Option (Int32) :=
  if v1 = (42 : Int32) then
  some (v0 * v2)
  else if v1 = (43 : Int32) then
  some (v0 + v2)
  else if v1 = (45 : Int32) then
  some (v0 - v2)
  else if v1 = (47 : Int32) then
  if v2 = 0 then
  some (0 : Int32)
  else
  if v2 = 0 then none else
  some (v0 / v2)
  else if v1 = (60 : Int32) then
  if v2 ≤ v0 then
  some (0 : Int32)
  else
  some (1 : Int32)
  else if v1 = (61 : Int32) then
  if v0 = v2 then
  some (1 : Int32)
  else
  some (0 : Int32)
  else if v1 = (62 : Int32) then
  if v0 ≤ v2 then
  some (0 : Int32)
  else
  some (1 : Int32)
  else some (0 : Int32)
theorem c_Law_joined (l : Launch) (G : Gw)  (v0 : Int32) (v1 : Int32) (v2 : Int32) (M : Mem) (x : Int32) (h : f_Law_joined v0 v1 v2 = some x) (d : Nat) (hD : 1 ≤ d) : Ci l G y_Law_joined b_Law_joined 3 (some .int) d [.int v0, .int v1, .int v2] M (fun r9 M9 => r9 = x ∧ M9 = M) := by
  refine Ci_of (by decide) (Nat.le_of_ble_eq_true rfl) (fun E hE X => ?_)
  subst hE
  have kr : ∀ x9 : Int32, x = x9 → (fun r9 M9 => r9 = x ∧ M9 = M) x9 M := fun x9 e9 => by subst e9; exact ⟨rfl, rfl⟩
  unfold f_Law_joined at h
  refine V_iload_n (n := 1) X d_Law_joined_0 rfl rfl rfl ?_
  by_cases c1 : v1 = (42 : Int32)
  · rw [if_pos c1] at h
    refine V_tbl (v := 42) (pc' := 141) (off := 140) X d_Law_joined_1 c1 (by decide) (by decide) (by decide +kernel) (by decide) ?_
    refine V_iload_n (n := 0) X d_Law_joined_141 rfl rfl rfl ?_
    refine V_iload_n (n := 2) X d_Law_joined_142 rfl rfl rfl ?_
    refine V_imul X d_Law_joined_143 rfl ?_
    exact V_iret X (kr (v0 * v2) (Option.some.inj h).symm) d_Law_joined_144
  · rw [if_neg c1] at h
    by_cases c2 : v1 = (43 : Int32)
    · rw [if_pos c2] at h
      refine V_tbl (v := 43) (pc' := 133) (off := 132) X d_Law_joined_1 c2 (by decide) (by decide) (by decide +kernel) (by decide) ?_
      refine V_iload_n (n := 0) X d_Law_joined_133 rfl rfl rfl ?_
      refine V_iload_n (n := 2) X d_Law_joined_134 rfl rfl rfl ?_
      refine V_iadd X d_Law_joined_135 rfl ?_
      exact V_iret X (kr (v0 + v2) (Option.some.inj h).symm) d_Law_joined_136
    · rw [if_neg c2] at h
      by_cases c3 : v1 = (45 : Int32)
      · rw [if_pos c3] at h
        refine V_tbl (v := 45) (pc' := 137) (off := 136) X d_Law_joined_1 c3 (by decide) (by decide) (by decide +kernel) (by decide) ?_
        refine V_iload_n (n := 0) X d_Law_joined_137 rfl rfl rfl ?_
        refine V_iload_n (n := 2) X d_Law_joined_138 rfl rfl rfl ?_
        refine V_isub X d_Law_joined_139 rfl ?_
        exact V_iret X (kr (v0 - v2) (Option.some.inj h).symm) d_Law_joined_140
      · rw [if_neg c3] at h
        by_cases c5 : v1 = (47 : Int32)
        · rw [if_pos c5] at h
          refine V_tbl (v := 47) (pc' := 145) (off := 144) X d_Law_joined_1 c5 (by decide) (by decide) (by decide +kernel) (by decide) ?_
          refine V_iload_n (n := 2) X d_Law_joined_145 rfl rfl rfl ?_
          refine V_if_ne (tgt := 153) X d_Law_joined_146 (by decide) rfl (fun c4 => ?_) (fun c4 => ?_)
          · rw [if_neg c4] at h
            refine V_iload_n (n := 0) X d_Law_joined_153 rfl rfl rfl ?_
            refine V_iload_n (n := 2) X d_Law_joined_154 rfl rfl rfl ?_
            obtain ⟨hq, h⟩ := ifz h
            refine V_idiv X d_Law_joined_155 hq rfl ?_
            exact V_iret X (kr (v0 / v2) (Option.some.inj h).symm) d_Law_joined_156
          · rw [if_pos c4] at h
            refine V_iconst (v := 0) X d_Law_joined_149 (by decide) rfl ?_
            refine V_goto (pc' := 156) X d_Law_joined_150 (by decide) ?_
            exact V_iret X (kr (0 : Int32) (Option.some.inj h).symm) d_Law_joined_156
        · rw [if_neg c5] at h
          by_cases c7 : v1 = (60 : Int32)
          · rw [if_pos c7] at h
            refine V_tbl (v := 60) (pc' := 100) (off := 99) X d_Law_joined_1 c7 (by decide) (by decide) (by decide +kernel) (by decide) ?_
            refine V_iload_n (n := 0) X d_Law_joined_100 rfl rfl rfl ?_
            refine V_iload_n (n := 2) X d_Law_joined_101 rfl rfl rfl ?_
            refine V_icmp_ge (tgt := 109) X d_Law_joined_102 (by decide) rfl (fun c6 => ?_) (fun c6 => ?_)
            · rw [if_pos c6] at h
              refine V_iconst (v := 0) X d_Law_joined_109 (by decide) rfl ?_
              exact V_iret X (kr (0 : Int32) (Option.some.inj h).symm) d_Law_joined_110
            · rw [if_neg c6] at h
              refine V_iconst (v := 1) X d_Law_joined_105 (by decide) rfl ?_
              refine V_goto (pc' := 110) X d_Law_joined_106 (by decide) ?_
              exact V_iret X (kr (1 : Int32) (Option.some.inj h).symm) d_Law_joined_110
          · rw [if_neg c7] at h
            by_cases c9 : v1 = (61 : Int32)
            · rw [if_pos c9] at h
              refine V_tbl (v := 61) (pc' := 122) (off := 121) X d_Law_joined_1 c9 (by decide) (by decide) (by decide +kernel) (by decide) ?_
              refine V_iload_n (n := 0) X d_Law_joined_122 rfl rfl rfl ?_
              refine V_iload_n (n := 2) X d_Law_joined_123 rfl rfl rfl ?_
              refine V_icmp_ne (tgt := 131) X d_Law_joined_124 (by decide) rfl (fun c8 => ?_) (fun c8 => ?_)
              · rw [if_neg c8] at h
                refine V_iconst (v := 0) X d_Law_joined_131 (by decide) rfl ?_
                exact V_iret X (kr (0 : Int32) (Option.some.inj h).symm) d_Law_joined_132
              · rw [if_pos c8] at h
                refine V_iconst (v := 1) X d_Law_joined_127 (by decide) rfl ?_
                refine V_goto (pc' := 132) X d_Law_joined_128 (by decide) ?_
                exact V_iret X (kr (1 : Int32) (Option.some.inj h).symm) d_Law_joined_132
            · rw [if_neg c9] at h
              by_cases c11 : v1 = (62 : Int32)
              · rw [if_pos c11] at h
                refine V_tbl (v := 62) (pc' := 111) (off := 110) X d_Law_joined_1 c11 (by decide) (by decide) (by decide +kernel) (by decide) ?_
                refine V_iload_n (n := 0) X d_Law_joined_111 rfl rfl rfl ?_
                refine V_iload_n (n := 2) X d_Law_joined_112 rfl rfl rfl ?_
                refine V_icmp_le (tgt := 120) X d_Law_joined_113 (by decide) rfl (fun c10 => ?_) (fun c10 => ?_)
                · rw [if_pos c10] at h
                  refine V_iconst (v := 0) X d_Law_joined_120 (by decide) rfl ?_
                  exact V_iret X (kr (0 : Int32) (Option.some.inj h).symm) d_Law_joined_121
                · rw [if_neg c10] at h
                  refine V_iconst (v := 1) X d_Law_joined_116 (by decide) rfl ?_
                  refine V_goto (pc' := 121) X d_Law_joined_117 (by decide) ?_
                  exact V_iret X (kr (1 : Int32) (Option.some.inj h).symm) d_Law_joined_121
              · rw [if_neg c11] at h
                by_cases c12 : v1 = (44 : Int32)
                · refine V_tbl (v := 44) (pc' := 157) (off := 156) X d_Law_joined_1 c12 (by decide) (by decide) (by decide +kernel) (by decide) ?_
                  refine V_iconst (v := 0) X d_Law_joined_157 (by decide) rfl ?_
                  exact V_iret X (kr (0 : Int32) (Option.some.inj h).symm) d_Law_joined_158
                · skip
                  by_cases c13 : v1 = (46 : Int32)
                  · refine V_tbl (v := 46) (pc' := 157) (off := 156) X d_Law_joined_1 c13 (by decide) (by decide) (by decide +kernel) (by decide) ?_
                    refine V_iconst (v := 0) X d_Law_joined_157 (by decide) rfl ?_
                    exact V_iret X (kr (0 : Int32) (Option.some.inj h).symm) d_Law_joined_158
                  · skip
                    by_cases c14 : v1 = (48 : Int32)
                    · refine V_tbl (v := 48) (pc' := 157) (off := 156) X d_Law_joined_1 c14 (by decide) (by decide) (by decide +kernel) (by decide) ?_
                      refine V_iconst (v := 0) X d_Law_joined_157 (by decide) rfl ?_
                      exact V_iret X (kr (0 : Int32) (Option.some.inj h).symm) d_Law_joined_158
                    · skip
                      by_cases c15 : v1 = (49 : Int32)
                      · refine V_tbl (v := 49) (pc' := 157) (off := 156) X d_Law_joined_1 c15 (by decide) (by decide) (by decide +kernel) (by decide) ?_
                        refine V_iconst (v := 0) X d_Law_joined_157 (by decide) rfl ?_
                        exact V_iret X (kr (0 : Int32) (Option.some.inj h).symm) d_Law_joined_158
                      · skip
                        by_cases c16 : v1 = (50 : Int32)
                        · refine V_tbl (v := 50) (pc' := 157) (off := 156) X d_Law_joined_1 c16 (by decide) (by decide) (by decide +kernel) (by decide) ?_
                          refine V_iconst (v := 0) X d_Law_joined_157 (by decide) rfl ?_
                          exact V_iret X (kr (0 : Int32) (Option.some.inj h).symm) d_Law_joined_158
                        · skip
                          by_cases c17 : v1 = (51 : Int32)
                          · refine V_tbl (v := 51) (pc' := 157) (off := 156) X d_Law_joined_1 c17 (by decide) (by decide) (by decide +kernel) (by decide) ?_
                            refine V_iconst (v := 0) X d_Law_joined_157 (by decide) rfl ?_
                            exact V_iret X (kr (0 : Int32) (Option.some.inj h).symm) d_Law_joined_158
                          · skip
                            by_cases c18 : v1 = (52 : Int32)
                            · refine V_tbl (v := 52) (pc' := 157) (off := 156) X d_Law_joined_1 c18 (by decide) (by decide) (by decide +kernel) (by decide) ?_
                              refine V_iconst (v := 0) X d_Law_joined_157 (by decide) rfl ?_
                              exact V_iret X (kr (0 : Int32) (Option.some.inj h).symm) d_Law_joined_158
                            · skip
                              by_cases c19 : v1 = (53 : Int32)
                              · refine V_tbl (v := 53) (pc' := 157) (off := 156) X d_Law_joined_1 c19 (by decide) (by decide) (by decide +kernel) (by decide) ?_
                                refine V_iconst (v := 0) X d_Law_joined_157 (by decide) rfl ?_
                                exact V_iret X (kr (0 : Int32) (Option.some.inj h).symm) d_Law_joined_158
                              · skip
                                by_cases c20 : v1 = (54 : Int32)
                                · refine V_tbl (v := 54) (pc' := 157) (off := 156) X d_Law_joined_1 c20 (by decide) (by decide) (by decide +kernel) (by decide) ?_
                                  refine V_iconst (v := 0) X d_Law_joined_157 (by decide) rfl ?_
                                  exact V_iret X (kr (0 : Int32) (Option.some.inj h).symm) d_Law_joined_158
                                · skip
                                  by_cases c21 : v1 = (55 : Int32)
                                  · refine V_tbl (v := 55) (pc' := 157) (off := 156) X d_Law_joined_1 c21 (by decide) (by decide) (by decide +kernel) (by decide) ?_
                                    refine V_iconst (v := 0) X d_Law_joined_157 (by decide) rfl ?_
                                    exact V_iret X (kr (0 : Int32) (Option.some.inj h).symm) d_Law_joined_158
                                  · skip
                                    by_cases c22 : v1 = (56 : Int32)
                                    · refine V_tbl (v := 56) (pc' := 157) (off := 156) X d_Law_joined_1 c22 (by decide) (by decide) (by decide +kernel) (by decide) ?_
                                      refine V_iconst (v := 0) X d_Law_joined_157 (by decide) rfl ?_
                                      exact V_iret X (kr (0 : Int32) (Option.some.inj h).symm) d_Law_joined_158
                                    · skip
                                      by_cases c23 : v1 = (57 : Int32)
                                      · refine V_tbl (v := 57) (pc' := 157) (off := 156) X d_Law_joined_1 c23 (by decide) (by decide) (by decide +kernel) (by decide) ?_
                                        refine V_iconst (v := 0) X d_Law_joined_157 (by decide) rfl ?_
                                        exact V_iret X (kr (0 : Int32) (Option.some.inj h).symm) d_Law_joined_158
                                      · skip
                                        by_cases c24 : v1 = (58 : Int32)
                                        · refine V_tbl (v := 58) (pc' := 157) (off := 156) X d_Law_joined_1 c24 (by decide) (by decide) (by decide +kernel) (by decide) ?_
                                          refine V_iconst (v := 0) X d_Law_joined_157 (by decide) rfl ?_
                                          exact V_iret X (kr (0 : Int32) (Option.some.inj h).symm) d_Law_joined_158
                                        · skip
                                          by_cases c25 : v1 = (59 : Int32)
                                          · refine V_tbl (v := 59) (pc' := 157) (off := 156) X d_Law_joined_1 c25 (by decide) (by decide) (by decide +kernel) (by decide) ?_
                                            refine V_iconst (v := 0) X d_Law_joined_157 (by decide) rfl ?_
                                            exact V_iret X (kr (0 : Int32) (Option.some.inj h).symm) d_Law_joined_158
                                          · skip
                                            refine V_tableOut (pc' := 157) X d_Law_joined_1 (by have g0 := neT c1 (z := 42) (by decide); have g1 := neT c2 (z := 43) (by decide); have g2 := neT c3 (z := 45) (by decide); have g3 := neT c5 (z := 47) (by decide); have g4 := neT c7 (z := 60) (by decide); have g5 := neT c9 (z := 61) (by decide); have g6 := neT c11 (z := 62) (by decide); have g7 := neT c12 (z := 44) (by decide); have g8 := neT c13 (z := 46) (by decide); have g9 := neT c14 (z := 48) (by decide); have g10 := neT c15 (z := 49) (by decide); have g11 := neT c16 (z := 50) (by decide); have g12 := neT c17 (z := 51) (by decide); have g13 := neT c18 (z := 52) (by decide); have g14 := neT c19 (z := 53) (by decide); have g15 := neT c20 (z := 54) (by decide); have g16 := neT c21 (z := 55) (by decide); have g17 := neT c22 (z := 56) (by decide); have g18 := neT c23 (z := 57) (by decide); have g19 := neT c24 (z := 58) (by decide); have g20 := neT c25 (z := 59) (by decide); omega) (by decide) ?_
                                            refine V_iconst (v := 0) X d_Law_joined_157 (by decide) rfl ?_
                                            exact V_iret X (kr (0 : Int32) (Option.some.inj h).symm) d_Law_joined_158
def f_Law_work (v1 : Int32) (M : Mem) : Option (Mem) :=
  Option.bind (f_Law_pop M) fun x1 =>
  if v1 = (256 : Int32) then
  Option.bind (f_Law_push (-x1.1) x1.2) fun x5 =>
  some x5
  else
  Option.bind (f_Law_pop x1.2) fun x2 =>
  Option.bind (f_Law_joined x2.1 v1 x1.1) fun x3 =>
  Option.bind (f_Law_push x3 x2.2) fun x4 =>
  some x4
theorem c_Law_work (l : Launch) (G : Gw)  (v1 : Int32) (M : Mem) (x : Mem) (h : f_Law_work v1 M = some x) (d : Nat) (hD : 2 ≤ d) : Cv l G y_Law_work b_Law_work 3 none d [.ref (G.2.2 + 40), .int v1] M (fun M9 => M9 = x) := by
  refine Cv_of (by decide) (Nat.le_of_ble_eq_true rfl) (fun E hE X => ?_)
  subst hE
  have kr : ∀ x9 : Mem, x = x9 → (fun M9 => M9 = x) x9 := fun x9 e9 => by subst e9; exact rfl
  unfold f_Law_work at h
  refine V_aload_n (n := 0) X d_Law_work_0 rfl rfl rfl ?_
  obtain ⟨x1, hx1, h⟩ := ob_s h
  refine V_ci (As := []) X (Z0 E) ml_Law_112 yq_Law_pop (c_Law_pop E.2.1 G  M x1 hx1 _ (Nat.le_refl _)) kd_40 rfl rfl (by omega) rfl (Nat.le_of_ble_eq_true rfl) d_Law_work_1 rfl (fun r9 M9 hq => ?_)
  rw [hq.1, hq.2]
  refine V_istore_n (lv' := [(2, .int x1.1), (0, .ref (G.2.2 + 40)), (1, .int v1)]) X d_Law_work_4 rfl (by decide) rfl rfl ?_
  refine V_iload_n (n := 2) X d_Law_work_5 rfl rfl rfl ?_
  refine V_sipush (v := 256) X d_Law_work_6 (by decide) rfl ?_
  refine V_icmp_ne (tgt := 21) X d_Law_work_9 (by decide) rfl (fun c6 => ?_) (fun c6 => ?_)
  · rw [if_neg c6] at h
    refine V_aload_n (n := 1) X d_Law_work_21 rfl rfl rfl ?_
    refine V_aload_n (n := 1) X d_Law_work_22 rfl rfl rfl ?_
    obtain ⟨x2, hx2, h⟩ := ob_s h
    refine V_ci (As := []) X (Z0 E) ml_Law_112 yq_Law_pop (c_Law_pop E.2.1 G  x1.2 x2 hx2 _ (Nat.le_refl _)) kd_40 rfl rfl (by omega) rfl (Nat.le_of_ble_eq_true rfl) d_Law_work_23 rfl (fun r9 M9 hq => ?_)
    rw [hq.1, hq.2]
    refine V_iload_n (n := 2) X d_Law_work_26 rfl rfl rfl ?_
    refine V_iload_n (n := 0) X d_Law_work_27 rfl rfl rfl ?_
    obtain ⟨x3, hx3, h⟩ := ob_s h
    refine V_si (As := [.int x2.1, .int v1, .int x1.1]) X (Z0 E) ml_Law_116 yq_Law_joined (c_Law_joined E.2.1 G x2.1 v1 x1.1 x2.2 x3 hx3 _ (Nat.le_refl _)) rfl (by omega) rfl (Nat.le_of_ble_eq_true rfl) d_Law_work_28 rfl (fun r9 M9 hq => ?_)
    rw [hq.1, hq.2]
    obtain ⟨x4, hx4, h⟩ := ob_s h
    refine V_cv (As := [.int x3]) X (Z0 E) ml_Law_102 yq_Law_push (c_Law_push E.2.1 G x3 x2.2 x4 hx4 _ (Nat.le_refl _)) kd_40 rfl rfl (by omega) rfl (Nat.le_of_ble_eq_true rfl) d_Law_work_31 rfl (fun M9 hq => ?_)
    rw [hq]
    exact V_vret X (kr x4 (Option.some.inj h).symm) d_Law_work_34
  · rw [if_pos c6] at h
    refine V_aload_n (n := 1) X d_Law_work_12 rfl rfl rfl ?_
    refine V_iload_n (n := 0) X d_Law_work_13 rfl rfl rfl ?_
    refine V_ineg X d_Law_work_14 rfl ?_
    obtain ⟨x5, hx5, h⟩ := ob_s h
    refine V_cv (As := [.int (-x1.1)]) X (Z0 E) ml_Law_102 yq_Law_push (c_Law_push E.2.1 G (-x1.1) x1.2 x5 hx5 _ (Nat.le_refl _)) kd_40 rfl rfl (by omega) rfl (Nat.le_of_ble_eq_true rfl) d_Law_work_15 rfl (fun M9 hq => ?_)
    rw [hq]
    refine V_goto (pc' := 34) X d_Law_work_18 (by decide) ?_
    exact V_vret X (kr x5 (Option.some.inj h).symm) d_Law_work_34
def lb_Law_goes_28 (v1 : Int32) (v2 : Nat) (s : Int32 × Mem) : Option ((Int32 × Mem) ⊕ ((Mem))) :=
  if (s.2.1 40 4) ≤ s.1 then
  some (.inr s.2)
  else
  if (40 : Int32) ≤ s.1 then
  some (.inr s.2)
  else
  if inb s.1 40 = true then
  if (s.2.1 41 s.1.toNatClampNeg) < 0 then
  Option.bind (f_Law_isQuality (-(s.2.1 41 s.1.toNatClampNeg))) fun x2 =>
  if x2 = 0 then
  Option.bind (f_Law_work (-(s.2.1 41 s.1.toNatClampNeg)) s.2) fun x3 =>
  some (.inl ((s.1 + (1 : Int32)), x3))
  else
  Option.bind (f_Law_quality (-(s.2.1 41 s.1.toNatClampNeg)) v1 v2 s.2) fun x4 =>
  Option.bind (f_Law_push x4 s.2) fun x5 =>
  some (.inl ((s.1 + (1 : Int32)), x5))
  else
  Option.bind (f_Law_push (s.2.1 41 s.1.toNatClampNeg) s.2) fun x7 =>
  some (.inl ((s.1 + (1 : Int32)), x7))
  else none
theorem lb_Law_goes_28_ok {E : Ev} {G : Gw} {d : Nat} {post : Int32 → Mem → Prop} (X : Cx E G b_Law_goes "WomenByTheRoofs$Law" 7 d (some .boolean)) (hD : 3 ≤ d)  (v1 : Int32) (v2 : Nat) (hk_v2 : kd v2 = 10 + 7)  (s : Int32 × Mem) (o : (Int32 × Mem) ⊕ ((Mem))) (h : lb_Law_goes_28 v1 v2 s = some o) (kc : ∀ s9 : Int32 × Mem, o = .inl s9 → V E (0, 0) G 7 (QI E G post) s9.2 28 [(0, .ref (G.2.2 + 40)), (1, .int v1), (2, .ref (G.2.2 + v2)), (3, .ref (G.2.2 + 6)), (4, .ref (G.2.2 + 3)), (5, .int s9.1)] []) (kx0 : ∀ x9 : Mem, o = .inr x9 → V E (0, 0) G 7 (QI E G post) x9 107 [(0, .ref (G.2.2 + 40))] []) : V E (0, 0) G 7 (QI E G post) s.2 28 [(0, .ref (G.2.2 + 40)), (1, .int v1), (2, .ref (G.2.2 + v2)), (3, .ref (G.2.2 + 6)), (4, .ref (G.2.2 + 3)), (5, .int s.1)] [] := by
  unfold lb_Law_goes_28 at h
  refine V_iload (n := 5) X d_Law_goes_28 rfl rfl ?_
  refine V_aload_n (n := 0) X d_Law_goes_30 rfl rfl rfl ?_
  refine V_geti X fo_Law_68 kd_40 rfl d_Law_goes_31 rfl ?_
  refine V_icmp_ge (tgt := 107) X d_Law_goes_34 (by decide) rfl (fun c10 => ?_) (fun c10 => ?_)
  · rw [if_pos c10] at h
    refine V_sub (lv' := [(0, .ref (G.2.2 + 40))]) [0] rfl ?_
    exact kx0 s.2 (Option.some.inj h).symm
  · rw [if_neg c10] at h
    refine V_iload (n := 5) X d_Law_goes_37 rfl rfl ?_
    refine V_bipush (v := 40) X d_Law_goes_39 (by decide) rfl ?_
    refine V_icmp_ge (tgt := 107) X d_Law_goes_41 (by decide) rfl (fun c9 => ?_) (fun c9 => ?_)
    · rw [if_pos c9] at h
      refine V_sub (lv' := [(0, .ref (G.2.2 + 40))]) [0] rfl ?_
      exact kx0 s.2 (Option.some.inj h).symm
    · rw [if_neg c9] at h
      refine V_aload_n (n := 0) X d_Law_goes_44 rfl rfl rfl ?_
      refine V_getr (k2 := 41) X fo_Law_9 kd_40 rfl rf_40_0 d_Law_goes_45 rfl ?_
      refine V_iload (n := 5) X d_Law_goes_48 rfl rfl ?_
      obtain ⟨hb, h⟩ := ifn h
      refine V_iald X kd_41 (inb_in ln_41 hb) d_Law_goes_50 rfl ?_
      refine V_istore (lv' := [(6, .int (s.2.1 41 s.1.toNatClampNeg)), (0, .ref (G.2.2 + 40)), (1, .int v1), (2, .ref (G.2.2 + v2)), (3, .ref (G.2.2 + 6)), (4, .ref (G.2.2 + 3)), (5, .int s.1)]) X d_Law_goes_51 (by decide) rfl rfl ?_
      refine V_iload (n := 0) X d_Law_goes_53 rfl rfl ?_
      refine V_if_lt (tgt := 67) X d_Law_goes_55 (by decide) rfl (fun c8 => ?_) (fun c8 => ?_)
      · rw [if_pos c8] at h
        refine V_iload (n := 0) X d_Law_goes_67 rfl rfl ?_
        refine V_ineg X d_Law_goes_69 rfl ?_
        obtain ⟨x2, hx2, h⟩ := ob_s h
        refine V_si (As := [.int (-(s.2.1 41 s.1.toNatClampNeg))]) X (Z0 E) ml_Law_84 yq_Law_isQuality (c_Law_isQuality E.2.1 G (-(s.2.1 41 s.1.toNatClampNeg)) s.2 x2 hx2 _ (Nat.le_refl _)) rfl (by omega) rfl (Nat.le_of_ble_eq_true rfl) d_Law_goes_70 rfl (fun r9 M9 hq => ?_)
        rw [hq.1, hq.2]
        refine V_if_eq (tgt := 94) X d_Law_goes_73 (by decide) rfl (fun c6 => ?_) (fun c6 => ?_)
        · rw [if_pos c6] at h
          refine V_aload_n (n := 1) X d_Law_goes_94 rfl rfl rfl ?_
          refine V_iload (n := 0) X d_Law_goes_95 rfl rfl ?_
          refine V_ineg X d_Law_goes_97 rfl ?_
          obtain ⟨x3, hx3, h⟩ := ob_s h
          refine V_cv (As := [.int (-(s.2.1 41 s.1.toNatClampNeg))]) X (Z0 E) ml_Law_109 yq_Law_work (c_Law_work E.2.1 G (-(s.2.1 41 s.1.toNatClampNeg)) s.2 x3 hx3 _ (Nat.le_refl _)) kd_40 rfl rfl (by omega) rfl (Nat.le_of_ble_eq_true rfl) d_Law_goes_98 rfl (fun M9 hq => ?_)
          rw [hq]
          refine V_iinc (n := 6) (v := (s.1 + (1 : Int32))) (lv' := [(5, .int (s.1 + (1 : Int32))), (6, .int (s.2.1 41 s.1.toNatClampNeg)), (0, .ref (G.2.2 + 40)), (1, .int v1), (2, .ref (G.2.2 + v2)), (3, .ref (G.2.2 + 6)), (4, .ref (G.2.2 + 3))]) X d_Law_goes_101 rfl rfl (by decide) rfl rfl ?_
          refine V_goto (pc' := 28) X d_Law_goes_104 (by decide) ?_
          refine V_sub (lv' := [(0, .ref (G.2.2 + 40)), (1, .int v1), (2, .ref (G.2.2 + v2)), (3, .ref (G.2.2 + 6)), (4, .ref (G.2.2 + 3)), (5, .int (s.1 + (1 : Int32)))]) [2, 3, 4, 5, 6, 0] rfl ?_
          exact kc ((s.1 + (1 : Int32)), x3) (Option.some.inj h).symm
        · rw [if_neg c6] at h
          refine V_aload_n (n := 1) X d_Law_goes_76 rfl rfl rfl ?_
          refine V_iload (n := 0) X d_Law_goes_77 rfl rfl ?_
          refine V_ineg X d_Law_goes_79 rfl ?_
          refine V_iload_n (n := 2) X d_Law_goes_80 rfl rfl rfl ?_
          refine V_aload_n (n := 3) X d_Law_goes_81 rfl rfl rfl ?_
          refine V_aload_n (n := 4) X d_Law_goes_82 rfl rfl rfl ?_
          refine V_aload (n := 5) X d_Law_goes_83 rfl rfl ?_
          obtain ⟨x4, hx4, h⟩ := ob_s h
          refine V_si (As := [.int (-(s.2.1 41 s.1.toNatClampNeg)), .int v1, .ref (G.2.2 + v2), .ref (G.2.2 + 6), .ref (G.2.2 + 3)]) X (Z0 E) ml_Law_105 yq_Law_quality (c_Law_quality E.2.1 G (-(s.2.1 41 s.1.toNatClampNeg)) v1 v2 s.2 x4 hx4 _ (Nat.le_refl _)) rfl (by omega) rfl (Nat.le_of_ble_eq_true rfl) d_Law_goes_85 rfl (fun r9 M9 hq => ?_)
          rw [hq.1, hq.2]
          obtain ⟨x5, hx5, h⟩ := ob_s h
          refine V_cv (As := [.int x4]) X (Z0 E) ml_Law_102 yq_Law_push (c_Law_push E.2.1 G x4 s.2 x5 hx5 _ (Nat.le_refl _)) kd_40 rfl rfl (by omega) rfl (Nat.le_of_ble_eq_true rfl) d_Law_goes_88 rfl (fun M9 hq => ?_)
          rw [hq]
          refine V_goto (pc' := 101) X d_Law_goes_91 (by decide) ?_
          refine V_iinc (n := 6) (v := (s.1 + (1 : Int32))) (lv' := [(5, .int (s.1 + (1 : Int32))), (6, .int (s.2.1 41 s.1.toNatClampNeg)), (0, .ref (G.2.2 + 40)), (1, .int v1), (2, .ref (G.2.2 + v2)), (3, .ref (G.2.2 + 6)), (4, .ref (G.2.2 + 3))]) X d_Law_goes_101 rfl rfl (by decide) rfl rfl ?_
          refine V_goto (pc' := 28) X d_Law_goes_104 (by decide) ?_
          refine V_sub (lv' := [(0, .ref (G.2.2 + 40)), (1, .int v1), (2, .ref (G.2.2 + v2)), (3, .ref (G.2.2 + 6)), (4, .ref (G.2.2 + 3)), (5, .int (s.1 + (1 : Int32)))]) [2, 3, 4, 5, 6, 0] rfl ?_
          exact kc ((s.1 + (1 : Int32)), x5) (Option.some.inj h).symm
      · rw [if_neg c8] at h
        refine V_aload_n (n := 1) X d_Law_goes_58 rfl rfl rfl ?_
        refine V_iload (n := 0) X d_Law_goes_59 rfl rfl ?_
        obtain ⟨x7, hx7, h⟩ := ob_s h
        refine V_cv (As := [.int (s.2.1 41 s.1.toNatClampNeg)]) X (Z0 E) ml_Law_102 yq_Law_push (c_Law_push E.2.1 G (s.2.1 41 s.1.toNatClampNeg) s.2 x7 hx7 _ (Nat.le_refl _)) kd_40 rfl rfl (by omega) rfl (Nat.le_of_ble_eq_true rfl) d_Law_goes_61 rfl (fun M9 hq => ?_)
        rw [hq]
        refine V_goto (pc' := 101) X d_Law_goes_64 (by decide) ?_
        refine V_iinc (n := 6) (v := (s.1 + (1 : Int32))) (lv' := [(5, .int (s.1 + (1 : Int32))), (6, .int (s.2.1 41 s.1.toNatClampNeg)), (0, .ref (G.2.2 + 40)), (1, .int v1), (2, .ref (G.2.2 + v2)), (3, .ref (G.2.2 + 6)), (4, .ref (G.2.2 + 3))]) X d_Law_goes_101 rfl rfl (by decide) rfl rfl ?_
        refine V_goto (pc' := 28) X d_Law_goes_104 (by decide) ?_
        refine V_sub (lv' := [(0, .ref (G.2.2 + 40)), (1, .int v1), (2, .ref (G.2.2 + v2)), (3, .ref (G.2.2 + 6)), (4, .ref (G.2.2 + 3)), (5, .int (s.1 + (1 : Int32)))]) [2, 3, 4, 5, 6, 0] rfl ?_
        exact kc ((s.1 + (1 : Int32)), x7) (Option.some.inj h).symm
theorem lp_Law_goes_28_ok {E : Ev} {G : Gw} {d : Nat} {post : Int32 → Mem → Prop} (X : Cx E G b_Law_goes "WomenByTheRoofs$Law" 7 d (some .boolean)) (hD : 3 ≤ d)  (v1 : Int32) (v2 : Nat) (hk_v2 : kd v2 = 10 + 7)  (n9 : Nat) (s : Int32 × Mem) (x : (Mem)) (h : iter (lb_Law_goes_28 v1 v2) n9 s = some x) (kx0 : ∀ x9 : Mem, x = x9 → V E (0, 0) G 7 (QI E G post) x9 107 [(0, .ref (G.2.2 + 40))] []) : V E (0, 0) G 7 (QI E G post) s.2 28 [(0, .ref (G.2.2 + 40)), (1, .int v1), (2, .ref (G.2.2 + v2)), (3, .ref (G.2.2 + 6)), (4, .ref (G.2.2 + 3)), (5, .int s.1)] [] :=
  iter_P (P := fun s : Int32 × Mem => V E (0, 0) G 7 (QI E G post) s.2 28 [(0, .ref (G.2.2 + 40)), (1, .int v1), (2, .ref (G.2.2 + v2)), (3, .ref (G.2.2 + 6)), (4, .ref (G.2.2 + 3)), (5, .int s.1)] []) (fun s o hb kc ky => lb_Law_goes_28_ok X hD v1 v2 hk_v2 s o hb kc (fun x9 e9 => kx0 x9 (ky _ e9).symm)) n9 s h
def j_Law_goes_107 (M : Mem) : Option (Int32 × Mem) :=
  if (M.1 40 4) = 0 then
  some ((1 : Int32), M)
  else
  Option.bind (f_Law_pop M) fun x12 =>
  if x12.1 = 0 then
  some ((0 : Int32), x12.2)
  else
  some ((1 : Int32), x12.2)
theorem j_Law_goes_107_ok {E : Ev} {G : Gw} {d : Nat} {post : Int32 → Mem → Prop} (X : Cx E G b_Law_goes "WomenByTheRoofs$Law" 7 d (some .boolean)) (hD : 3 ≤ d)    (M : Mem)  (o : Int32 × Mem) (h : j_Law_goes_107 M = some o) (kr : ∀ x9 : Int32 × Mem, o = x9 → post x9.1 x9.2) : V E (0, 0) G 7 (QI E G post) M 107 [(0, .ref (G.2.2 + 40))] [] := by
  unfold j_Law_goes_107 at h
  refine V_aload_n (n := 0) X d_Law_goes_107 rfl rfl rfl ?_
  refine V_geti X fo_Law_68 kd_40 rfl d_Law_goes_108 rfl ?_
  refine V_if_eq (tgt := 121) X d_Law_goes_111 (by decide) rfl (fun c14 => ?_) (fun c14 => ?_)
  · rw [if_pos c14] at h
    refine V_iconst (v := 1) X d_Law_goes_121 (by decide) rfl ?_
    refine V_goto (pc' := 126) X d_Law_goes_122 (by decide) ?_
    exact V_zret X (kr ((1 : Int32), M) (Option.some.inj h).symm) (by decide) d_Law_goes_126
  · rw [if_neg c14] at h
    refine V_aload_n (n := 0) X d_Law_goes_114 rfl rfl rfl ?_
    obtain ⟨x12, hx12, h⟩ := ob_s h
    refine V_ci (As := []) X (Z0 E) ml_Law_112 yq_Law_pop (c_Law_pop E.2.1 G  M x12 hx12 _ (Nat.le_refl _)) kd_40 rfl rfl (by omega) rfl (Nat.le_of_ble_eq_true rfl) d_Law_goes_115 rfl (fun r9 M9 hq => ?_)
    rw [hq.1, hq.2]
    refine V_if_eq (tgt := 125) X d_Law_goes_118 (by decide) rfl (fun c13 => ?_) (fun c13 => ?_)
    · rw [if_pos c13] at h
      refine V_iconst (v := 0) X d_Law_goes_125 (by decide) rfl ?_
      exact V_zret X (kr ((0 : Int32), x12.2) (Option.some.inj h).symm) (by decide) d_Law_goes_126
    · rw [if_neg c13] at h
      refine V_iconst (v := 1) X d_Law_goes_121 (by decide) rfl ?_
      refine V_goto (pc' := 126) X d_Law_goes_122 (by decide) ?_
      exact V_zret X (kr ((1 : Int32), x12.2) (Option.some.inj h).symm) (by decide) d_Law_goes_126
def f_Law_goes (v1 : Int32) (v2 : Nat) (M : Mem) : Option (Int32 × Mem) :=
  if kd v2 = 10 + 7 then
  if (M.1 v2 9) = (1 : Int32) then
  if inb v1 8 = true then
  if (M.1 (rf v2 1) v1.toNatClampNeg) = (1 : Int32) then
  some ((0 : Int32), M)
  else
  mem_ (s_i M 40 7 (0 : Int32)) fun M15 =>
  Option.bind (iter (lb_Law_goes_28 v1 v2) FU ((0 : Int32), M15)) fun x16 =>
  j_Law_goes_107 x16
  else none
  else
  mem_ (s_i M 40 7 (0 : Int32)) fun M1 =>
  Option.bind (iter (lb_Law_goes_28 v1 v2) FU ((0 : Int32), M1)) fun x11 =>
  j_Law_goes_107 x11
  else none
theorem c_Law_goes (l : Launch) (G : Gw)  (v1 : Int32) (v2 : Nat) (M : Mem) (x : Int32 × Mem) (h : f_Law_goes v1 v2 M = some x) (d : Nat) (hD : 3 ≤ d) : Ci l G y_Law_goes b_Law_goes 7 (some .boolean) d [.ref (G.2.2 + 40), .int v1, .ref (G.2.2 + v2), .ref (G.2.2 + 6), .ref (G.2.2 + 3)] M (fun r9 M9 => r9 = x.1 ∧ M9 = x.2) := by
  refine Ci_of (by decide) (Nat.le_of_ble_eq_true rfl) (fun E hE X => ?_)
  subst hE
  have kr : ∀ x9 : Int32 × Mem, x = x9 → (fun r9 M9 => r9 = x.1 ∧ M9 = x.2) x9.1 x9.2 := fun x9 e9 => by subst e9; exact ⟨rfl, rfl⟩
  unfold f_Law_goes at h
  obtain ⟨hk_v2, h⟩ := ifn h
  refine V_aload_n (n := 2) X d_Law_goes_0 rfl rfl rfl ?_
  refine V_geti X fo_Law_91 hk_v2 rfl d_Law_goes_1 rfl ?_
  refine V_iconst (v := 1) X d_Law_goes_4 (by decide) rfl ?_
  refine V_icmp_ne (tgt := 20) X d_Law_goes_5 (by decide) rfl (fun c18 => ?_) (fun c18 => ?_)
  · rw [if_neg c18] at h
    refine V_aload_n (n := 0) X d_Law_goes_20 rfl rfl rfl ?_
    refine V_iconst (v := 0) X d_Law_goes_21 (by decide) rfl ?_
    obtain ⟨M1, eM1, h⟩ := memS h
    refine V_putI X fp_Law_99 kd_40 rfl d_Law_goes_22 rfl ?_
    rw [← eM1]
    refine V_iconst (v := 0) X d_Law_goes_25 (by decide) rfl ?_
    refine V_istore (lv' := [(5, .int (0 : Int32)), (0, .ref (G.2.2 + 40)), (1, .int v1), (2, .ref (G.2.2 + v2)), (3, .ref (G.2.2 + 6)), (4, .ref (G.2.2 + 3))]) X d_Law_goes_26 (by decide) rfl rfl ?_
    refine V_sub (lv' := [(0, .ref (G.2.2 + 40)), (1, .int v1), (2, .ref (G.2.2 + v2)), (3, .ref (G.2.2 + 6)), (4, .ref (G.2.2 + 3)), (5, .int (0 : Int32))]) [1, 2, 3, 4, 5, 0] rfl ?_
    obtain ⟨x11, hx11, h⟩ := ob_s h
    refine (lp_Law_goes_28_ok X hD v1 v2 hk_v2 _ _ _ hx11 (fun x9 e9 => ?_) :)
    subst e9
    exact j_Law_goes_107_ok X hD x11 _ h kr
  · rw [if_pos c18] at h
    refine V_aload_n (n := 2) X d_Law_goes_8 rfl rfl rfl ?_
    refine V_getr X fo_Law_96 hk_v2 rfl rfl d_Law_goes_9 rfl ?_
    refine V_iload_n (n := 1) X d_Law_goes_12 rfl rfl rfl ?_
    obtain ⟨hb, h⟩ := ifn h
    refine V_iald X (kdScene_1 hk_v2) (inb_in (lnScene_1 hk_v2) hb) d_Law_goes_13 rfl ?_
    refine V_iconst (v := 1) X d_Law_goes_14 (by decide) rfl ?_
    refine V_icmp_ne (tgt := 20) X d_Law_goes_15 (by decide) rfl (fun c17 => ?_) (fun c17 => ?_)
    · rw [if_neg c17] at h
      refine V_aload_n (n := 0) X d_Law_goes_20 rfl rfl rfl ?_
      refine V_iconst (v := 0) X d_Law_goes_21 (by decide) rfl ?_
      obtain ⟨M15, eM15, h⟩ := memS h
      refine V_putI X fp_Law_99 kd_40 rfl d_Law_goes_22 rfl ?_
      rw [← eM15]
      refine V_iconst (v := 0) X d_Law_goes_25 (by decide) rfl ?_
      refine V_istore (lv' := [(5, .int (0 : Int32)), (0, .ref (G.2.2 + 40)), (1, .int v1), (2, .ref (G.2.2 + v2)), (3, .ref (G.2.2 + 6)), (4, .ref (G.2.2 + 3))]) X d_Law_goes_26 (by decide) rfl rfl ?_
      refine V_sub (lv' := [(0, .ref (G.2.2 + 40)), (1, .int v1), (2, .ref (G.2.2 + v2)), (3, .ref (G.2.2 + 6)), (4, .ref (G.2.2 + 3)), (5, .int (0 : Int32))]) [1, 2, 3, 4, 5, 0] rfl ?_
      obtain ⟨x16, hx16, h⟩ := ob_s h
      refine (lp_Law_goes_28_ok X hD v1 v2 hk_v2 _ _ _ hx16 (fun x9 e9 => ?_) :)
      subst e9
      exact j_Law_goes_107_ok X hD x16 _ h kr
    · rw [if_pos c17] at h
      refine V_iconst (v := 0) X d_Law_goes_18 (by decide) rfl ?_
      exact V_zret X (kr ((0 : Int32), M) (Option.some.inj h).symm) (by decide) d_Law_goes_19
