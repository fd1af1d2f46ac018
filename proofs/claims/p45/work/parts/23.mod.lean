theorem d_Mod_between_0 : decode b_Mod_between 0 = .ok (.iload_n 1, 1) := kq_27 byq_r (by decide +kernel)
theorem d_Mod_between_1 : decode b_Mod_between 1 = .ok (.aload_n 0, 1) := kq_42 byq_r (by decide +kernel)
theorem d_Mod_between_2 : decode b_Mod_between 2 = .ok (.getfield 16, 3) := kq_180 byq_r (a := 0) (b := 16) (by decide +kernel)
theorem d_Mod_between_5 : decode b_Mod_between 5 = .ok (.irem, 1) := kq_112 byq_r (by decide +kernel)
theorem d_Mod_between_6 : decode b_Mod_between 6 = .ok (.iload_n 2, 1) := kq_28 byq_r (by decide +kernel)
theorem d_Mod_between_7 : decode b_Mod_between 7 = .ok (.aload_n 0, 1) := kq_42 byq_r (by decide +kernel)
theorem d_Mod_between_8 : decode b_Mod_between 8 = .ok (.getfield 16, 3) := kq_180 byq_r (a := 0) (b := 16) (by decide +kernel)
theorem d_Mod_between_11 : decode b_Mod_between 11 = .ok (.irem, 1) := kq_112 byq_r (by decide +kernel)
theorem d_Mod_between_12 : decode b_Mod_between 12 = .ok (.isub, 1) := kq_100 byq_r (by decide +kernel)
theorem d_Mod_between_13 : decode b_Mod_between 13 = .ok (.invokestatic 275, 3) := kq_184 byq_r (a := 1) (b := 19) (by decide +kernel)
theorem d_Mod_between_16 : decode b_Mod_between 16 = .ok (.istore_n 3, 1) := kq_62 byq_r (by decide +kernel)
theorem d_Mod_between_17 : decode b_Mod_between 17 = .ok (.iload_n 1, 1) := kq_27 byq_r (by decide +kernel)
theorem d_Mod_between_18 : decode b_Mod_between 18 = .ok (.aload_n 0, 1) := kq_42 byq_r (by decide +kernel)
theorem d_Mod_between_19 : decode b_Mod_between 19 = .ok (.getfield 16, 3) := kq_180 byq_r (a := 0) (b := 16) (by decide +kernel)
theorem d_Mod_between_22 : decode b_Mod_between 22 = .ok (.idiv, 1) := kq_108 byq_r (by decide +kernel)
theorem d_Mod_between_23 : decode b_Mod_between 23 = .ok (.iload_n 2, 1) := kq_28 byq_r (by decide +kernel)
theorem d_Mod_between_24 : decode b_Mod_between 24 = .ok (.aload_n 0, 1) := kq_42 byq_r (by decide +kernel)
theorem d_Mod_between_25 : decode b_Mod_between 25 = .ok (.getfield 16, 3) := kq_180 byq_r (a := 0) (b := 16) (by decide +kernel)
theorem d_Mod_between_28 : decode b_Mod_between 28 = .ok (.idiv, 1) := kq_108 byq_r (by decide +kernel)
theorem d_Mod_between_29 : decode b_Mod_between 29 = .ok (.isub, 1) := kq_100 byq_r (by decide +kernel)
theorem d_Mod_between_30 : decode b_Mod_between 30 = .ok (.invokestatic 275, 3) := kq_184 byq_r (a := 1) (b := 19) (by decide +kernel)
theorem d_Mod_between_33 : decode b_Mod_between 33 = .ok (.istore 4, 2) := kq_54 byq_r (by decide +kernel)
theorem d_Mod_between_35 : decode b_Mod_between 35 = .ok (.iload_n 3, 1) := kq_29 byq_r (by decide +kernel)
theorem d_Mod_between_36 : decode b_Mod_between 36 = .ok (.iconst 2, 1) := kq_5 byq_r (by decide +kernel)
theorem d_Mod_between_37 : decode b_Mod_between 37 = .ok (.if_icmp .ne 8, 3) := kq_160 byq_r (a := 0) (b := 8) (by decide +kernel)
theorem d_Mod_between_40 : decode b_Mod_between 40 = .ok (.iload 4, 2) := kq_21 byq_r (by decide +kernel)
theorem d_Mod_between_42 : decode b_Mod_between 42 = .ok (.ifCond .eq 13, 3) := kq_153 byq_r (a := 0) (b := 13) (by decide +kernel)
theorem d_Mod_between_45 : decode b_Mod_between 45 = .ok (.iload_n 3, 1) := kq_29 byq_r (by decide +kernel)
theorem d_Mod_between_46 : decode b_Mod_between 46 = .ok (.ifCond .ne 17, 3) := kq_154 byq_r (a := 0) (b := 17) (by decide +kernel)
theorem d_Mod_between_49 : decode b_Mod_between 49 = .ok (.iload 4, 2) := kq_21 byq_r (by decide +kernel)
theorem d_Mod_between_51 : decode b_Mod_between 51 = .ok (.iconst 2, 1) := kq_5 byq_r (by decide +kernel)
theorem d_Mod_between_52 : decode b_Mod_between 52 = .ok (.if_icmp .ne 11, 3) := kq_160 byq_r (a := 0) (b := 11) (by decide +kernel)
theorem d_Mod_between_55 : decode b_Mod_between 55 = .ok (.iload_n 1, 1) := kq_27 byq_r (by decide +kernel)
theorem d_Mod_between_56 : decode b_Mod_between 56 = .ok (.iload_n 2, 1) := kq_28 byq_r (by decide +kernel)
theorem d_Mod_between_57 : decode b_Mod_between 57 = .ok (.iadd, 1) := kq_96 byq_r (by decide +kernel)
theorem d_Mod_between_58 : decode b_Mod_between 58 = .ok (.iconst 2, 1) := kq_5 byq_r (by decide +kernel)
theorem d_Mod_between_59 : decode b_Mod_between 59 = .ok (.idiv, 1) := kq_108 byq_r (by decide +kernel)
theorem d_Mod_between_60 : decode b_Mod_between 60 = .ok (.goto 4, 3) := kq_167 byq_r (a := 0) (b := 4) (by decide +kernel)
theorem d_Mod_between_63 : decode b_Mod_between 63 = .ok (.iconst (-1), 1) := kq_2 byq_r (by decide +kernel)
theorem d_Mod_between_64 : decode b_Mod_between 64 = .ok (.ireturn, 1) := kq_172 byq_r (by decide +kernel)
theorem d_Mod_canBridge_0 : decode b_Mod_canBridge 0 = .ok (.aload_n 0, 1) := kq_42 byq_r (by decide +kernel)
theorem d_Mod_canBridge_1 : decode b_Mod_canBridge 1 = .ok (.iload_n 1, 1) := kq_27 byq_r (by decide +kernel)
theorem d_Mod_canBridge_2 : decode b_Mod_canBridge 2 = .ok (.iload_n 2, 1) := kq_28 byq_r (by decide +kernel)
theorem d_Mod_canBridge_3 : decode b_Mod_canBridge 3 = .ok (.invokevirtual 280, 3) := kq_182 byq_r (a := 1) (b := 24) (by decide +kernel)
theorem d_Mod_canBridge_6 : decode b_Mod_canBridge 6 = .ok (.istore_n 3, 1) := kq_62 byq_r (by decide +kernel)
theorem d_Mod_canBridge_7 : decode b_Mod_canBridge 7 = .ok (.iload_n 3, 1) := kq_29 byq_r (by decide +kernel)
theorem d_Mod_canBridge_8 : decode b_Mod_canBridge 8 = .ok (.iconst (-1), 1) := kq_2 byq_r (by decide +kernel)
theorem d_Mod_canBridge_9 : decode b_Mod_canBridge 9 = .ok (.if_icmp .eq 34, 3) := kq_159 byq_r (a := 0) (b := 34) (by decide +kernel)
theorem d_Mod_canBridge_12 : decode b_Mod_canBridge 12 = .ok (.aload_n 0, 1) := kq_42 byq_r (by decide +kernel)
theorem d_Mod_canBridge_13 : decode b_Mod_canBridge 13 = .ok (.iconst 1, 1) := kq_4 byq_r (by decide +kernel)
theorem d_Mod_canBridge_14 : decode b_Mod_canBridge 14 = .ok (.iload_n 1, 1) := kq_27 byq_r (by decide +kernel)
theorem d_Mod_canBridge_15 : decode b_Mod_canBridge 15 = .ok (.invokevirtual 140, 3) := kq_182 byq_r (a := 0) (b := 140) (by decide +kernel)
theorem d_Mod_canBridge_18 : decode b_Mod_canBridge 18 = .ok (.ifCond .eq 25, 3) := kq_153 byq_r (a := 0) (b := 25) (by decide +kernel)
theorem d_Mod_canBridge_21 : decode b_Mod_canBridge 21 = .ok (.aload_n 0, 1) := kq_42 byq_r (by decide +kernel)
theorem d_Mod_canBridge_22 : decode b_Mod_canBridge 22 = .ok (.iconst 1, 1) := kq_4 byq_r (by decide +kernel)
theorem d_Mod_canBridge_23 : decode b_Mod_canBridge 23 = .ok (.iload_n 2, 1) := kq_28 byq_r (by decide +kernel)
theorem d_Mod_canBridge_24 : decode b_Mod_canBridge 24 = .ok (.invokevirtual 140, 3) := kq_182 byq_r (a := 0) (b := 140) (by decide +kernel)
theorem d_Mod_canBridge_27 : decode b_Mod_canBridge 27 = .ok (.ifCond .eq 16, 3) := kq_153 byq_r (a := 0) (b := 16) (by decide +kernel)
theorem d_Mod_canBridge_30 : decode b_Mod_canBridge 30 = .ok (.aload_n 0, 1) := kq_42 byq_r (by decide +kernel)
theorem d_Mod_canBridge_31 : decode b_Mod_canBridge 31 = .ok (.iconst 1, 1) := kq_4 byq_r (by decide +kernel)
theorem d_Mod_canBridge_32 : decode b_Mod_canBridge 32 = .ok (.iload_n 3, 1) := kq_29 byq_r (by decide +kernel)
theorem d_Mod_canBridge_33 : decode b_Mod_canBridge 33 = .ok (.invokevirtual 140, 3) := kq_182 byq_r (a := 0) (b := 140) (by decide +kernel)
theorem d_Mod_canBridge_36 : decode b_Mod_canBridge 36 = .ok (.ifCond .ne 7, 3) := kq_154 byq_r (a := 0) (b := 7) (by decide +kernel)
theorem d_Mod_canBridge_39 : decode b_Mod_canBridge 39 = .ok (.iconst 1, 1) := kq_4 byq_r (by decide +kernel)
theorem d_Mod_canBridge_40 : decode b_Mod_canBridge 40 = .ok (.goto 4, 3) := kq_167 byq_r (a := 0) (b := 4) (by decide +kernel)
theorem d_Mod_canBridge_43 : decode b_Mod_canBridge 43 = .ok (.iconst 0, 1) := kq_3 byq_r (by decide +kernel)
theorem d_Mod_canBridge_44 : decode b_Mod_canBridge 44 = .ok (.ireturn, 1) := kq_172 byq_r (by decide +kernel)
theorem d_Mod_plankRefusal_0 : decode b_Mod_plankRefusal 0 = .ok (.aload_n 0, 1) := kq_42 byq_r (by decide +kernel)
theorem d_Mod_plankRefusal_1 : decode b_Mod_plankRefusal 1 = .ok (.iload_n 1, 1) := kq_27 byq_r (by decide +kernel)
theorem d_Mod_plankRefusal_2 : decode b_Mod_plankRefusal 2 = .ok (.invokevirtual 137, 3) := kq_182 byq_r (a := 0) (b := 137) (by decide +kernel)
theorem d_Mod_plankRefusal_5 : decode b_Mod_plankRefusal 5 = .ok (.ifCond .eq 11, 3) := kq_153 byq_r (a := 0) (b := 11) (by decide +kernel)
theorem d_Mod_plankRefusal_8 : decode b_Mod_plankRefusal 8 = .ok (.aload_n 0, 1) := kq_42 byq_r (by decide +kernel)
theorem d_Mod_plankRefusal_9 : decode b_Mod_plankRefusal 9 = .ok (.iload_n 2, 1) := kq_28 byq_r (by decide +kernel)
theorem d_Mod_plankRefusal_10 : decode b_Mod_plankRefusal 10 = .ok (.invokevirtual 137, 3) := kq_182 byq_r (a := 0) (b := 137) (by decide +kernel)
theorem d_Mod_plankRefusal_13 : decode b_Mod_plankRefusal 13 = .ok (.ifCond .ne 5, 3) := kq_154 byq_r (a := 0) (b := 5) (by decide +kernel)
theorem d_Mod_plankRefusal_16 : decode b_Mod_plankRefusal 16 = .ok (.iconst (-1), 1) := kq_2 byq_r (by decide +kernel)
theorem d_Mod_plankRefusal_17 : decode b_Mod_plankRefusal 17 = .ok (.ireturn, 1) := kq_172 byq_r (by decide +kernel)
theorem d_Mod_plankRefusal_18 : decode b_Mod_plankRefusal 18 = .ok (.aload_n 0, 1) := kq_42 byq_r (by decide +kernel)
theorem d_Mod_plankRefusal_19 : decode b_Mod_plankRefusal 19 = .ok (.iload_n 1, 1) := kq_27 byq_r (by decide +kernel)
theorem d_Mod_plankRefusal_20 : decode b_Mod_plankRefusal 20 = .ok (.iload_n 2, 1) := kq_28 byq_r (by decide +kernel)
theorem d_Mod_plankRefusal_21 : decode b_Mod_plankRefusal 21 = .ok (.invokevirtual 283, 3) := kq_182 byq_r (a := 1) (b := 27) (by decide +kernel)
theorem d_Mod_plankRefusal_24 : decode b_Mod_plankRefusal 24 = .ok (.ifCond .ne 6, 3) := kq_154 byq_r (a := 0) (b := 6) (by decide +kernel)
theorem d_Mod_plankRefusal_27 : decode b_Mod_plankRefusal 27 = .ok (.bipush (-2), 2) := kq_16 byq_r (b := 254) (by decide +kernel)
theorem d_Mod_plankRefusal_29 : decode b_Mod_plankRefusal 29 = .ok (.ireturn, 1) := kq_172 byq_r (by decide +kernel)
theorem d_Mod_plankRefusal_30 : decode b_Mod_plankRefusal 30 = .ok (.aload_n 0, 1) := kq_42 byq_r (by decide +kernel)
theorem d_Mod_plankRefusal_31 : decode b_Mod_plankRefusal 31 = .ok (.getfield 9, 3) := kq_180 byq_r (a := 0) (b := 9) (by decide +kernel)
theorem d_Mod_plankRefusal_34 : decode b_Mod_plankRefusal 34 = .ok (.iload_n 1, 1) := kq_27 byq_r (by decide +kernel)
theorem d_Mod_plankRefusal_35 : decode b_Mod_plankRefusal 35 = .ok (.iload_n 2, 1) := kq_28 byq_r (by decide +kernel)
theorem d_Mod_plankRefusal_36 : decode b_Mod_plankRefusal 36 = .ok (.invokestatic 157, 3) := kq_184 byq_r (a := 0) (b := 157) (by decide +kernel)
theorem d_Mod_plankRefusal_39 : decode b_Mod_plankRefusal 39 = .ok (.ifCond .eq 6, 3) := kq_153 byq_r (a := 0) (b := 6) (by decide +kernel)
theorem d_Mod_plankRefusal_42 : decode b_Mod_plankRefusal 42 = .ok (.bipush (-3), 2) := kq_16 byq_r (b := 253) (by decide +kernel)
theorem d_Mod_plankRefusal_44 : decode b_Mod_plankRefusal 44 = .ok (.ireturn, 1) := kq_172 byq_r (by decide +kernel)
theorem d_Mod_plankRefusal_45 : decode b_Mod_plankRefusal 45 = .ok (.aload_n 0, 1) := kq_42 byq_r (by decide +kernel)
theorem d_Mod_plankRefusal_46 : decode b_Mod_plankRefusal 46 = .ok (.getfield 9, 3) := kq_180 byq_r (a := 0) (b := 9) (by decide +kernel)
theorem d_Mod_plankRefusal_49 : decode b_Mod_plankRefusal 49 = .ok (.bipush 92, 2) := kq_16 byq_r (b := 92) (by decide +kernel)
theorem d_Mod_plankRefusal_51 : decode b_Mod_plankRefusal 51 = .ok (.iaload, 1) := kq_46 byq_r (by decide +kernel)
theorem d_Mod_plankRefusal_52 : decode b_Mod_plankRefusal 52 = .ok (.bipush 6, 2) := kq_16 byq_r (b := 6) (by decide +kernel)
theorem d_Mod_plankRefusal_54 : decode b_Mod_plankRefusal 54 = .ok (.if_icmp .ne 8, 3) := kq_160 byq_r (a := 0) (b := 8) (by decide +kernel)
theorem d_Mod_plankRefusal_57 : decode b_Mod_plankRefusal 57 = .ok (.bipush (-4), 2) := kq_16 byq_r (b := 252) (by decide +kernel)
theorem d_Mod_plankRefusal_59 : decode b_Mod_plankRefusal 59 = .ok (.goto 4, 3) := kq_167 byq_r (a := 0) (b := 4) (by decide +kernel)
theorem d_Mod_plankRefusal_62 : decode b_Mod_plankRefusal 62 = .ok (.iconst 0, 1) := kq_3 byq_r (by decide +kernel)
theorem d_Mod_plankRefusal_63 : decode b_Mod_plankRefusal 63 = .ok (.ireturn, 1) := kq_172 byq_r (by decide +kernel)
theorem d_Mod_layPlank_0 : decode b_Mod_layPlank 0 = .ok (.bipush 80, 2) := kq_16 byq_r (b := 80) (by decide +kernel)
theorem d_Mod_layPlank_2 : decode b_Mod_layPlank 2 = .ok (.iconst 2, 1) := kq_5 byq_r (by decide +kernel)
theorem d_Mod_layPlank_3 : decode b_Mod_layPlank 3 = .ok (.aload_n 0, 1) := kq_42 byq_r (by decide +kernel)
theorem d_Mod_layPlank_4 : decode b_Mod_layPlank 4 = .ok (.getfield 9, 3) := kq_180 byq_r (a := 0) (b := 9) (by decide +kernel)
theorem d_Mod_layPlank_7 : decode b_Mod_layPlank 7 = .ok (.bipush 92, 2) := kq_16 byq_r (b := 92) (by decide +kernel)
theorem d_Mod_layPlank_9 : decode b_Mod_layPlank 9 = .ok (.iaload, 1) := kq_46 byq_r (by decide +kernel)
theorem d_Mod_layPlank_10 : decode b_Mod_layPlank 10 = .ok (.imul, 1) := kq_104 byq_r (by decide +kernel)
theorem d_Mod_layPlank_11 : decode b_Mod_layPlank 11 = .ok (.iadd, 1) := kq_96 byq_r (by decide +kernel)
theorem d_Mod_layPlank_12 : decode b_Mod_layPlank 12 = .ok (.istore_n 3, 1) := kq_62 byq_r (by decide +kernel)
theorem d_Mod_layPlank_13 : decode b_Mod_layPlank 13 = .ok (.aload_n 0, 1) := kq_42 byq_r (by decide +kernel)
theorem d_Mod_layPlank_14 : decode b_Mod_layPlank 14 = .ok (.getfield 9, 3) := kq_180 byq_r (a := 0) (b := 9) (by decide +kernel)
theorem d_Mod_layPlank_17 : decode b_Mod_layPlank 17 = .ok (.iload_n 3, 1) := kq_29 byq_r (by decide +kernel)
theorem d_Mod_layPlank_18 : decode b_Mod_layPlank 18 = .ok (.iload_n 1, 1) := kq_27 byq_r (by decide +kernel)
theorem d_Mod_layPlank_19 : decode b_Mod_layPlank 19 = .ok (.iastore, 1) := kq_79 byq_r (by decide +kernel)
theorem d_Mod_layPlank_20 : decode b_Mod_layPlank 20 = .ok (.aload_n 0, 1) := kq_42 byq_r (by decide +kernel)
theorem d_Mod_layPlank_21 : decode b_Mod_layPlank 21 = .ok (.getfield 9, 3) := kq_180 byq_r (a := 0) (b := 9) (by decide +kernel)
theorem d_Mod_layPlank_24 : decode b_Mod_layPlank 24 = .ok (.iload_n 3, 1) := kq_29 byq_r (by decide +kernel)
theorem d_Mod_layPlank_25 : decode b_Mod_layPlank 25 = .ok (.iconst 1, 1) := kq_4 byq_r (by decide +kernel)
theorem d_Mod_layPlank_26 : decode b_Mod_layPlank 26 = .ok (.iadd, 1) := kq_96 byq_r (by decide +kernel)
theorem d_Mod_layPlank_27 : decode b_Mod_layPlank 27 = .ok (.iload_n 2, 1) := kq_28 byq_r (by decide +kernel)
theorem d_Mod_layPlank_28 : decode b_Mod_layPlank 28 = .ok (.iastore, 1) := kq_79 byq_r (by decide +kernel)
theorem d_Mod_layPlank_29 : decode b_Mod_layPlank 29 = .ok (.aload_n 0, 1) := kq_42 byq_r (by decide +kernel)
theorem d_Mod_layPlank_30 : decode b_Mod_layPlank 30 = .ok (.getfield 9, 3) := kq_180 byq_r (a := 0) (b := 9) (by decide +kernel)
theorem d_Mod_layPlank_33 : decode b_Mod_layPlank 33 = .ok (.bipush 92, 2) := kq_16 byq_r (b := 92) (by decide +kernel)
theorem d_Mod_layPlank_35 : decode b_Mod_layPlank 35 = .ok (.dup2, 1) := kq_92 byq_r (by decide +kernel)
theorem d_Mod_layPlank_36 : decode b_Mod_layPlank 36 = .ok (.iaload, 1) := kq_46 byq_r (by decide +kernel)
theorem d_Mod_layPlank_37 : decode b_Mod_layPlank 37 = .ok (.iconst 1, 1) := kq_4 byq_r (by decide +kernel)
theorem d_Mod_layPlank_38 : decode b_Mod_layPlank 38 = .ok (.iadd, 1) := kq_96 byq_r (by decide +kernel)
theorem d_Mod_layPlank_39 : decode b_Mod_layPlank 39 = .ok (.iastore, 1) := kq_79 byq_r (by decide +kernel)
theorem d_Mod_layPlank_40 : decode b_Mod_layPlank 40 = .ok (.return_, 1) := kq_177 byq_r (by decide +kernel)
theorem d_Mod_lay_0 : decode b_Mod_lay 0 = .ok (.iconst 0, 1) := kq_3 byq_r (by decide +kernel)
theorem d_Mod_lay_1 : decode b_Mod_lay 1 = .ok (.istore_n 3, 1) := kq_62 byq_r (by decide +kernel)
theorem d_Mod_lay_2 : decode b_Mod_lay 2 = .ok (.iload_n 3, 1) := kq_29 byq_r (by decide +kernel)
theorem d_Mod_lay_3 : decode b_Mod_lay 3 = .ok (.bipush 96, 2) := kq_16 byq_r (b := 96) (by decide +kernel)
theorem d_Mod_lay_5 : decode b_Mod_lay 5 = .ok (.if_icmp .ge 17, 3) := kq_162 byq_r (a := 0) (b := 17) (by decide +kernel)
theorem d_Mod_lay_8 : decode b_Mod_lay 8 = .ok (.aload_n 1, 1) := kq_43 byq_r (by decide +kernel)
theorem d_Mod_lay_9 : decode b_Mod_lay 9 = .ok (.iload_n 2, 1) := kq_28 byq_r (by decide +kernel)
theorem d_Mod_lay_10 : decode b_Mod_lay 10 = .ok (.iload_n 3, 1) := kq_29 byq_r (by decide +kernel)
theorem d_Mod_lay_11 : decode b_Mod_lay 11 = .ok (.iadd, 1) := kq_96 byq_r (by decide +kernel)
theorem d_Mod_lay_12 : decode b_Mod_lay 12 = .ok (.aload_n 0, 1) := kq_42 byq_r (by decide +kernel)
theorem d_Mod_lay_13 : decode b_Mod_lay 13 = .ok (.iload_n 3, 1) := kq_29 byq_r (by decide +kernel)
theorem d_Mod_lay_14 : decode b_Mod_lay 14 = .ok (.iaload, 1) := kq_46 byq_r (by decide +kernel)
theorem d_Mod_lay_15 : decode b_Mod_lay 15 = .ok (.iastore, 1) := kq_79 byq_r (by decide +kernel)
theorem d_Mod_lay_16 : decode b_Mod_lay 16 = .ok (.iinc 3 1, 3) := kq_132 byq_r (b := 1) (by decide +kernel)
theorem d_Mod_lay_19 : decode b_Mod_lay 19 = .ok (.goto (-17), 3) := kq_167 byq_r (a := 255) (b := 239) (by decide +kernel)
theorem d_Mod_lay_22 : decode b_Mod_lay 22 = .ok (.return_, 1) := kq_177 byq_r (by decide +kernel)
theorem d_Mod_remember_0 : decode b_Mod_remember 0 = .ok (.aload_n 0, 1) := kq_42 byq_r (by decide +kernel)
theorem d_Mod_remember_1 : decode b_Mod_remember 1 = .ok (.getfield 201, 3) := kq_180 byq_r (a := 0) (b := 201) (by decide +kernel)
theorem d_Mod_remember_4 : decode b_Mod_remember 4 = .ok (.bipush 12, 2) := kq_16 byq_r (b := 12) (by decide +kernel)
theorem d_Mod_remember_6 : decode b_Mod_remember 6 = .ok (.if_icmp .ne 43, 3) := kq_160 byq_r (a := 0) (b := 43) (by decide +kernel)
theorem d_Mod_remember_9 : decode b_Mod_remember 9 = .ok (.iconst 0, 1) := kq_3 byq_r (by decide +kernel)
theorem d_Mod_remember_10 : decode b_Mod_remember 10 = .ok (.istore_n 2, 1) := kq_61 byq_r (by decide +kernel)
theorem d_Mod_remember_11 : decode b_Mod_remember 11 = .ok (.iload_n 2, 1) := kq_28 byq_r (by decide +kernel)
theorem d_Mod_remember_12 : decode b_Mod_remember 12 = .ok (.sipush 1056, 3) := kq_17 byq_r (a := 4) (b := 32) (by decide +kernel)
theorem d_Mod_remember_15 : decode b_Mod_remember 15 = .ok (.if_icmp .ge 24, 3) := kq_162 byq_r (a := 0) (b := 24) (by decide +kernel)
theorem d_Mod_remember_18 : decode b_Mod_remember 18 = .ok (.aload_n 0, 1) := kq_42 byq_r (by decide +kernel)
theorem d_Mod_remember_19 : decode b_Mod_remember 19 = .ok (.getfield 51, 3) := kq_180 byq_r (a := 0) (b := 51) (by decide +kernel)
theorem d_Mod_remember_22 : decode b_Mod_remember 22 = .ok (.iload_n 2, 1) := kq_28 byq_r (by decide +kernel)
theorem d_Mod_remember_23 : decode b_Mod_remember 23 = .ok (.aload_n 0, 1) := kq_42 byq_r (by decide +kernel)
theorem d_Mod_remember_24 : decode b_Mod_remember 24 = .ok (.getfield 51, 3) := kq_180 byq_r (a := 0) (b := 51) (by decide +kernel)
theorem d_Mod_remember_27 : decode b_Mod_remember 27 = .ok (.iload_n 2, 1) := kq_28 byq_r (by decide +kernel)
theorem d_Mod_remember_28 : decode b_Mod_remember 28 = .ok (.bipush 96, 2) := kq_16 byq_r (b := 96) (by decide +kernel)
theorem d_Mod_remember_30 : decode b_Mod_remember 30 = .ok (.iadd, 1) := kq_96 byq_r (by decide +kernel)
theorem d_Mod_remember_31 : decode b_Mod_remember 31 = .ok (.iaload, 1) := kq_46 byq_r (by decide +kernel)
theorem d_Mod_remember_32 : decode b_Mod_remember 32 = .ok (.iastore, 1) := kq_79 byq_r (by decide +kernel)
theorem d_Mod_remember_33 : decode b_Mod_remember 33 = .ok (.iinc 2 1, 3) := kq_132 byq_r (b := 1) (by decide +kernel)
theorem d_Mod_remember_36 : decode b_Mod_remember 36 = .ok (.goto (-25), 3) := kq_167 byq_r (a := 255) (b := 231) (by decide +kernel)
theorem d_Mod_remember_39 : decode b_Mod_remember 39 = .ok (.aload_n 0, 1) := kq_42 byq_r (by decide +kernel)
theorem d_Mod_remember_40 : decode b_Mod_remember 40 = .ok (.dup, 1) := kq_89 byq_r (by decide +kernel)
theorem d_Mod_remember_41 : decode b_Mod_remember 41 = .ok (.getfield 201, 3) := kq_180 byq_r (a := 0) (b := 201) (by decide +kernel)
theorem d_Mod_remember_44 : decode b_Mod_remember 44 = .ok (.iconst 1, 1) := kq_4 byq_r (by decide +kernel)
theorem d_Mod_remember_45 : decode b_Mod_remember 45 = .ok (.isub, 1) := kq_100 byq_r (by decide +kernel)
theorem d_Mod_remember_46 : decode b_Mod_remember 46 = .ok (.putfield 201, 3) := kq_181 byq_r (a := 0) (b := 201) (by decide +kernel)
theorem d_Mod_remember_49 : decode b_Mod_remember 49 = .ok (.aload_n 1, 1) := kq_43 byq_r (by decide +kernel)
theorem d_Mod_remember_50 : decode b_Mod_remember 50 = .ok (.aload_n 0, 1) := kq_42 byq_r (by decide +kernel)
theorem d_Mod_remember_51 : decode b_Mod_remember 51 = .ok (.getfield 51, 3) := kq_180 byq_r (a := 0) (b := 51) (by decide +kernel)
theorem d_Mod_remember_54 : decode b_Mod_remember 54 = .ok (.bipush 96, 2) := kq_16 byq_r (b := 96) (by decide +kernel)
theorem d_Mod_remember_56 : decode b_Mod_remember 56 = .ok (.aload_n 0, 1) := kq_42 byq_r (by decide +kernel)
theorem d_Mod_remember_57 : decode b_Mod_remember 57 = .ok (.getfield 201, 3) := kq_180 byq_r (a := 0) (b := 201) (by decide +kernel)
theorem d_Mod_remember_60 : decode b_Mod_remember 60 = .ok (.imul, 1) := kq_104 byq_r (by decide +kernel)
theorem d_Mod_remember_61 : decode b_Mod_remember 61 = .ok (.invokestatic 286, 3) := kq_184 byq_r (a := 1) (b := 30) (by decide +kernel)
theorem d_Mod_remember_64 : decode b_Mod_remember 64 = .ok (.aload_n 0, 1) := kq_42 byq_r (by decide +kernel)
theorem d_Mod_remember_65 : decode b_Mod_remember 65 = .ok (.dup, 1) := kq_89 byq_r (by decide +kernel)
theorem d_Mod_remember_66 : decode b_Mod_remember 66 = .ok (.getfield 201, 3) := kq_180 byq_r (a := 0) (b := 201) (by decide +kernel)
theorem d_Mod_remember_69 : decode b_Mod_remember 69 = .ok (.iconst 1, 1) := kq_4 byq_r (by decide +kernel)
theorem d_Mod_remember_70 : decode b_Mod_remember 70 = .ok (.iadd, 1) := kq_96 byq_r (by decide +kernel)
theorem d_Mod_remember_71 : decode b_Mod_remember 71 = .ok (.putfield 201, 3) := kq_181 byq_r (a := 0) (b := 201) (by decide +kernel)
theorem d_Mod_remember_74 : decode b_Mod_remember 74 = .ok (.return_, 1) := kq_177 byq_r (by decide +kernel)
theorem d_Mod_plank_0 : decode b_Mod_plank 0 = .ok (.aload_n 0, 1) := kq_42 byq_r (by decide +kernel)
theorem d_Mod_plank_1 : decode b_Mod_plank 1 = .ok (.iconst 0, 1) := kq_3 byq_r (by decide +kernel)
theorem d_Mod_plank_2 : decode b_Mod_plank 2 = .ok (.putfield 109, 3) := kq_181 byq_r (a := 0) (b := 109) (by decide +kernel)
theorem d_Mod_plank_5 : decode b_Mod_plank 5 = .ok (.aload_n 0, 1) := kq_42 byq_r (by decide +kernel)
theorem d_Mod_plank_6 : decode b_Mod_plank 6 = .ok (.iload_n 1, 1) := kq_27 byq_r (by decide +kernel)
theorem d_Mod_plank_7 : decode b_Mod_plank 7 = .ok (.iload_n 2, 1) := kq_28 byq_r (by decide +kernel)
theorem d_Mod_plank_8 : decode b_Mod_plank 8 = .ok (.invokevirtual 290, 3) := kq_182 byq_r (a := 1) (b := 34) (by decide +kernel)
theorem d_Mod_plank_11 : decode b_Mod_plank 11 = .ok (.istore_n 3, 1) := kq_62 byq_r (by decide +kernel)
theorem d_Mod_plank_12 : decode b_Mod_plank 12 = .ok (.iload_n 3, 1) := kq_29 byq_r (by decide +kernel)
theorem d_Mod_plank_13 : decode b_Mod_plank 13 = .ok (.ifCond .ge 5, 3) := kq_156 byq_r (a := 0) (b := 5) (by decide +kernel)
theorem d_Mod_plank_16 : decode b_Mod_plank 16 = .ok (.iload_n 3, 1) := kq_29 byq_r (by decide +kernel)
theorem d_Mod_plank_17 : decode b_Mod_plank 17 = .ok (.ireturn, 1) := kq_172 byq_r (by decide +kernel)
theorem d_Mod_plank_18 : decode b_Mod_plank 18 = .ok (.aload_n 0, 1) := kq_42 byq_r (by decide +kernel)
theorem d_Mod_plank_19 : decode b_Mod_plank 19 = .ok (.aload_n 0, 1) := kq_42 byq_r (by decide +kernel)
theorem d_Mod_plank_20 : decode b_Mod_plank 20 = .ok (.getfield 9, 3) := kq_180 byq_r (a := 0) (b := 9) (by decide +kernel)
theorem d_Mod_plank_23 : decode b_Mod_plank 23 = .ok (.invokevirtual 293, 3) := kq_182 byq_r (a := 1) (b := 37) (by decide +kernel)
theorem d_Mod_plank_26 : decode b_Mod_plank 26 = .ok (.aload_n 0, 1) := kq_42 byq_r (by decide +kernel)
theorem d_Mod_plank_27 : decode b_Mod_plank 27 = .ok (.iload_n 1, 1) := kq_27 byq_r (by decide +kernel)
theorem d_Mod_plank_28 : decode b_Mod_plank 28 = .ok (.iload_n 2, 1) := kq_28 byq_r (by decide +kernel)
theorem d_Mod_plank_29 : decode b_Mod_plank 29 = .ok (.invokevirtual 297, 3) := kq_182 byq_r (a := 1) (b := 41) (by decide +kernel)
theorem d_Mod_plank_32 : decode b_Mod_plank 32 = .ok (.aload_n 0, 1) := kq_42 byq_r (by decide +kernel)
theorem d_Mod_plank_33 : decode b_Mod_plank 33 = .ok (.getfield 9, 3) := kq_180 byq_r (a := 0) (b := 9) (by decide +kernel)
theorem d_Mod_plank_36 : decode b_Mod_plank 36 = .ok (.bipush 92, 2) := kq_16 byq_r (b := 92) (by decide +kernel)
theorem d_Mod_plank_38 : decode b_Mod_plank 38 = .ok (.iaload, 1) := kq_46 byq_r (by decide +kernel)
theorem d_Mod_plank_39 : decode b_Mod_plank 39 = .ok (.iconst 1, 1) := kq_4 byq_r (by decide +kernel)
theorem d_Mod_plank_40 : decode b_Mod_plank 40 = .ok (.isub, 1) := kq_100 byq_r (by decide +kernel)
theorem d_Mod_plank_41 : decode b_Mod_plank 41 = .ok (.ireturn, 1) := kq_172 byq_r (by decide +kernel)
theorem d_Mod_take_0 : decode b_Mod_take 0 = .ok (.aload_n 0, 1) := kq_42 byq_r (by decide +kernel)
theorem d_Mod_take_1 : decode b_Mod_take 1 = .ok (.iconst 0, 1) := kq_3 byq_r (by decide +kernel)
theorem d_Mod_take_2 : decode b_Mod_take 2 = .ok (.putfield 109, 3) := kq_181 byq_r (a := 0) (b := 109) (by decide +kernel)
theorem d_Mod_take_5 : decode b_Mod_take 5 = .ok (.aload_n 0, 1) := kq_42 byq_r (by decide +kernel)
theorem d_Mod_take_6 : decode b_Mod_take 6 = .ok (.getfield 9, 3) := kq_180 byq_r (a := 0) (b := 9) (by decide +kernel)
theorem d_Mod_take_9 : decode b_Mod_take 9 = .ok (.bipush 92, 2) := kq_16 byq_r (b := 92) (by decide +kernel)
theorem d_Mod_take_11 : decode b_Mod_take 11 = .ok (.iaload, 1) := kq_46 byq_r (by decide +kernel)
theorem d_Mod_take_12 : decode b_Mod_take 12 = .ok (.ifCond .ne 5, 3) := kq_154 byq_r (a := 0) (b := 5) (by decide +kernel)
theorem d_Mod_take_15 : decode b_Mod_take 15 = .ok (.iconst (-1), 1) := kq_2 byq_r (by decide +kernel)
theorem d_Mod_take_16 : decode b_Mod_take 16 = .ok (.ireturn, 1) := kq_172 byq_r (by decide +kernel)
theorem d_Mod_take_17 : decode b_Mod_take 17 = .ok (.aload_n 0, 1) := kq_42 byq_r (by decide +kernel)
theorem d_Mod_take_18 : decode b_Mod_take 18 = .ok (.aload_n 0, 1) := kq_42 byq_r (by decide +kernel)
theorem d_Mod_take_19 : decode b_Mod_take 19 = .ok (.getfield 9, 3) := kq_180 byq_r (a := 0) (b := 9) (by decide +kernel)
theorem d_Mod_take_22 : decode b_Mod_take 22 = .ok (.invokevirtual 293, 3) := kq_182 byq_r (a := 1) (b := 37) (by decide +kernel)
theorem d_Mod_take_25 : decode b_Mod_take 25 = .ok (.aload_n 0, 1) := kq_42 byq_r (by decide +kernel)
theorem d_Mod_take_26 : decode b_Mod_take 26 = .ok (.getfield 9, 3) := kq_180 byq_r (a := 0) (b := 9) (by decide +kernel)
theorem d_Mod_take_29 : decode b_Mod_take 29 = .ok (.bipush 92, 2) := kq_16 byq_r (b := 92) (by decide +kernel)
theorem d_Mod_take_31 : decode b_Mod_take 31 = .ok (.dup2, 1) := kq_92 byq_r (by decide +kernel)
theorem d_Mod_take_32 : decode b_Mod_take 32 = .ok (.iaload, 1) := kq_46 byq_r (by decide +kernel)
theorem d_Mod_take_33 : decode b_Mod_take 33 = .ok (.iconst 1, 1) := kq_4 byq_r (by decide +kernel)
theorem d_Mod_take_34 : decode b_Mod_take 34 = .ok (.isub, 1) := kq_100 byq_r (by decide +kernel)
theorem d_Mod_take_35 : decode b_Mod_take 35 = .ok (.iastore, 1) := kq_79 byq_r (by decide +kernel)
theorem d_Mod_take_36 : decode b_Mod_take 36 = .ok (.aload_n 0, 1) := kq_42 byq_r (by decide +kernel)
theorem d_Mod_take_37 : decode b_Mod_take 37 = .ok (.getfield 9, 3) := kq_180 byq_r (a := 0) (b := 9) (by decide +kernel)
theorem d_Mod_take_40 : decode b_Mod_take 40 = .ok (.bipush 92, 2) := kq_16 byq_r (b := 92) (by decide +kernel)
theorem d_Mod_take_42 : decode b_Mod_take 42 = .ok (.iaload, 1) := kq_46 byq_r (by decide +kernel)
theorem d_Mod_take_43 : decode b_Mod_take 43 = .ok (.ireturn, 1) := kq_172 byq_r (by decide +kernel)
theorem d_Mod_sheet_0 : decode b_Mod_sheet 0 = .ok (.aload_n 0, 1) := kq_42 byq_r (by decide +kernel)
theorem d_Mod_sheet_1 : decode b_Mod_sheet 1 = .ok (.iconst 0, 1) := kq_3 byq_r (by decide +kernel)
theorem d_Mod_sheet_2 : decode b_Mod_sheet 2 = .ok (.putfield 109, 3) := kq_181 byq_r (a := 0) (b := 109) (by decide +kernel)
theorem d_Mod_sheet_5 : decode b_Mod_sheet 5 = .ok (.iload_n 1, 1) := kq_27 byq_r (by decide +kernel)
theorem d_Mod_sheet_6 : decode b_Mod_sheet 6 = .ok (.iconst 0, 1) := kq_3 byq_r (by decide +kernel)
theorem d_Mod_sheet_7 : decode b_Mod_sheet 7 = .ok (.iconst 3, 1) := kq_6 byq_r (by decide +kernel)
theorem d_Mod_sheet_8 : decode b_Mod_sheet 8 = .ok (.invokestatic 119, 3) := kq_184 byq_r (a := 0) (b := 119) (by decide +kernel)
theorem d_Mod_sheet_11 : decode b_Mod_sheet 11 = .ok (.ifCond .eq 9, 3) := kq_153 byq_r (a := 0) (b := 9) (by decide +kernel)
theorem d_Mod_sheet_14 : decode b_Mod_sheet 14 = .ok (.iload_n 2, 1) := kq_28 byq_r (by decide +kernel)
theorem d_Mod_sheet_15 : decode b_Mod_sheet 15 = .ok (.bipush 8, 2) := kq_16 byq_r (b := 8) (by decide +kernel)
theorem d_Mod_sheet_17 : decode b_Mod_sheet 17 = .ok (.if_icmp .le 5, 3) := kq_164 byq_r (a := 0) (b := 5) (by decide +kernel)
theorem d_Mod_sheet_20 : decode b_Mod_sheet 20 = .ok (.iconst (-1), 1) := kq_2 byq_r (by decide +kernel)
theorem d_Mod_sheet_21 : decode b_Mod_sheet 21 = .ok (.ireturn, 1) := kq_172 byq_r (by decide +kernel)
theorem d_Mod_sheet_22 : decode b_Mod_sheet 22 = .ok (.iload_n 1, 1) := kq_27 byq_r (by decide +kernel)
theorem d_Mod_sheet_23 : decode b_Mod_sheet 23 = .ok (.iconst 3, 1) := kq_6 byq_r (by decide +kernel)
theorem d_Mod_sheet_24 : decode b_Mod_sheet 24 = .ok (.if_icmp .ge 10, 3) := kq_162 byq_r (a := 0) (b := 10) (by decide +kernel)
theorem d_Mod_sheet_27 : decode b_Mod_sheet 27 = .ok (.iload_n 2, 1) := kq_28 byq_r (by decide +kernel)
theorem d_Mod_sheet_28 : decode b_Mod_sheet 28 = .ok (.ifCond .ge 6, 3) := kq_156 byq_r (a := 0) (b := 6) (by decide +kernel)
theorem d_Mod_sheet_31 : decode b_Mod_sheet 31 = .ok (.bipush (-2), 2) := kq_16 byq_r (b := 254) (by decide +kernel)
theorem d_Mod_sheet_33 : decode b_Mod_sheet 33 = .ok (.ireturn, 1) := kq_172 byq_r (by decide +kernel)
theorem d_Mod_sheet_34 : decode b_Mod_sheet 34 = .ok (.iconst 0, 1) := kq_3 byq_r (by decide +kernel)
theorem d_Mod_sheet_35 : decode b_Mod_sheet 35 = .ok (.istore 5, 2) := kq_54 byq_r (by decide +kernel)
theorem d_Mod_sheet_37 : decode b_Mod_sheet 37 = .ok (.iload_n 3, 1) := kq_29 byq_r (by decide +kernel)
theorem d_Mod_sheet_38 : decode b_Mod_sheet 38 = .ok (.istore 6, 2) := kq_54 byq_r (by decide +kernel)
theorem d_Mod_sheet_40 : decode b_Mod_sheet 40 = .ok (.iconst 0, 1) := kq_3 byq_r (by decide +kernel)
theorem d_Mod_sheet_41 : decode b_Mod_sheet 41 = .ok (.istore 7, 2) := kq_54 byq_r (by decide +kernel)
theorem d_Mod_sheet_43 : decode b_Mod_sheet 43 = .ok (.iload 7, 2) := kq_21 byq_r (by decide +kernel)
theorem d_Mod_sheet_45 : decode b_Mod_sheet 45 = .ok (.aload_n 0, 1) := kq_42 byq_r (by decide +kernel)
theorem d_Mod_sheet_46 : decode b_Mod_sheet 46 = .ok (.getfield 123, 3) := kq_180 byq_r (a := 0) (b := 123) (by decide +kernel)
theorem d_Mod_sheet_49 : decode b_Mod_sheet 49 = .ok (.if_icmp .ge 99, 3) := kq_162 byq_r (a := 0) (b := 99) (by decide +kernel)
theorem d_Mod_sheet_52 : decode b_Mod_sheet 52 = .ok (.iload_n 1, 1) := kq_27 byq_r (by decide +kernel)
theorem d_Mod_sheet_53 : decode b_Mod_sheet 53 = .ok (.ifCond .ne 9, 3) := kq_154 byq_r (a := 0) (b := 9) (by decide +kernel)
theorem d_Mod_sheet_56 : decode b_Mod_sheet 56 = .ok (.iload 6, 2) := kq_21 byq_r (by decide +kernel)
theorem d_Mod_sheet_58 : decode b_Mod_sheet 58 = .ok (.i2b, 1) := kq_145 byq_r (by decide +kernel)
theorem d_Mod_sheet_59 : decode b_Mod_sheet 59 = .ok (.goto 16, 3) := kq_167 byq_r (a := 0) (b := 16) (by decide +kernel)
theorem d_Mod_sheet_62 : decode b_Mod_sheet 62 = .ok (.iload_n 1, 1) := kq_27 byq_r (by decide +kernel)
theorem d_Mod_sheet_63 : decode b_Mod_sheet 63 = .ok (.iconst 1, 1) := kq_4 byq_r (by decide +kernel)
theorem d_Mod_sheet_64 : decode b_Mod_sheet 64 = .ok (.if_icmp .ne 9, 3) := kq_160 byq_r (a := 0) (b := 9) (by decide +kernel)
theorem d_Mod_sheet_67 : decode b_Mod_sheet 67 = .ok (.iload 6, 2) := kq_21 byq_r (by decide +kernel)
theorem d_Mod_sheet_69 : decode b_Mod_sheet 69 = .ok (.i2s, 1) := kq_147 byq_r (by decide +kernel)
theorem d_Mod_sheet_70 : decode b_Mod_sheet 70 = .ok (.goto 5, 3) := kq_167 byq_r (a := 0) (b := 5) (by decide +kernel)
theorem d_Mod_sheet_73 : decode b_Mod_sheet 73 = .ok (.iload 6, 2) := kq_21 byq_r (by decide +kernel)
theorem d_Mod_sheet_75 : decode b_Mod_sheet 75 = .ok (.istore 8, 2) := kq_54 byq_r (by decide +kernel)
theorem d_Mod_sheet_77 : decode b_Mod_sheet 77 = .ok (.aload_n 0, 1) := kq_42 byq_r (by decide +kernel)
theorem d_Mod_sheet_78 : decode b_Mod_sheet 78 = .ok (.getfield 9, 3) := kq_180 byq_r (a := 0) (b := 9) (by decide +kernel)
theorem d_Mod_sheet_81 : decode b_Mod_sheet 81 = .ok (.bipush 8, 2) := kq_16 byq_r (b := 8) (by decide +kernel)
theorem d_Mod_sheet_83 : decode b_Mod_sheet 83 = .ok (.iload 7, 2) := kq_21 byq_r (by decide +kernel)
theorem d_Mod_sheet_85 : decode b_Mod_sheet 85 = .ok (.iadd, 1) := kq_96 byq_r (by decide +kernel)
theorem d_Mod_sheet_86 : decode b_Mod_sheet 86 = .ok (.iload_n 1, 1) := kq_27 byq_r (by decide +kernel)
theorem d_Mod_sheet_87 : decode b_Mod_sheet 87 = .ok (.iconst 3, 1) := kq_6 byq_r (by decide +kernel)
theorem d_Mod_sheet_88 : decode b_Mod_sheet 88 = .ok (.if_icmp .eq 9, 3) := kq_159 byq_r (a := 0) (b := 9) (by decide +kernel)
theorem d_Mod_sheet_91 : decode b_Mod_sheet 91 = .ok (.iload 7, 2) := kq_21 byq_r (by decide +kernel)
theorem d_Mod_sheet_93 : decode b_Mod_sheet 93 = .ok (.iload_n 2, 1) := kq_28 byq_r (by decide +kernel)
theorem d_Mod_sheet_94 : decode b_Mod_sheet 94 = .ok (.if_icmp .lt 7, 3) := kq_161 byq_r (a := 0) (b := 7) (by decide +kernel)
theorem d_Mod_sheet_97 : decode b_Mod_sheet 97 = .ok (.iconst 0, 1) := kq_3 byq_r (by decide +kernel)
theorem d_Mod_sheet_98 : decode b_Mod_sheet 98 = .ok (.goto 21, 3) := kq_167 byq_r (a := 0) (b := 21) (by decide +kernel)
theorem d_Mod_sheet_101 : decode b_Mod_sheet 101 = .ok (.iconst 0, 1) := kq_3 byq_r (by decide +kernel)
theorem d_Mod_sheet_102 : decode b_Mod_sheet 102 = .ok (.aload_n 0, 1) := kq_42 byq_r (by decide +kernel)
theorem d_Mod_sheet_103 : decode b_Mod_sheet 103 = .ok (.getfield 26, 3) := kq_180 byq_r (a := 0) (b := 26) (by decide +kernel)
theorem d_Mod_sheet_106 : decode b_Mod_sheet 106 = .ok (.iload 7, 2) := kq_21 byq_r (by decide +kernel)
theorem d_Mod_sheet_108 : decode b_Mod_sheet 108 = .ok (.iaload, 1) := kq_46 byq_r (by decide +kernel)
theorem d_Mod_sheet_109 : decode b_Mod_sheet 109 = .ok (.iconst 1, 1) := kq_4 byq_r (by decide +kernel)
theorem d_Mod_sheet_110 : decode b_Mod_sheet 110 = .ok (.isub, 1) := kq_100 byq_r (by decide +kernel)
theorem d_Mod_sheet_111 : decode b_Mod_sheet 111 = .ok (.iload 8, 2) := kq_21 byq_r (by decide +kernel)
theorem d_Mod_sheet_113 : decode b_Mod_sheet 113 = .ok (.invokestatic 301, 3) := kq_184 byq_r (a := 1) (b := 45) (by decide +kernel)
theorem d_Mod_sheet_116 : decode b_Mod_sheet 116 = .ok (.invokestatic 304, 3) := kq_184 byq_r (a := 1) (b := 48) (by decide +kernel)
theorem d_Mod_sheet_119 : decode b_Mod_sheet 119 = .ok (.iastore, 1) := kq_79 byq_r (by decide +kernel)
theorem d_Mod_sheet_120 : decode b_Mod_sheet 120 = .ok (.iload 5, 2) := kq_21 byq_r (by decide +kernel)
theorem d_Mod_sheet_122 : decode b_Mod_sheet 122 = .ok (.aload_n 0, 1) := kq_42 byq_r (by decide +kernel)
theorem d_Mod_sheet_123 : decode b_Mod_sheet 123 = .ok (.getfield 9, 3) := kq_180 byq_r (a := 0) (b := 9) (by decide +kernel)
theorem d_Mod_sheet_126 : decode b_Mod_sheet 126 = .ok (.bipush 8, 2) := kq_16 byq_r (b := 8) (by decide +kernel)
theorem d_Mod_sheet_128 : decode b_Mod_sheet 128 = .ok (.iload 7, 2) := kq_21 byq_r (by decide +kernel)
theorem d_Mod_sheet_130 : decode b_Mod_sheet 130 = .ok (.iadd, 1) := kq_96 byq_r (by decide +kernel)
theorem d_Mod_sheet_131 : decode b_Mod_sheet 131 = .ok (.iaload, 1) := kq_46 byq_r (by decide +kernel)
theorem d_Mod_sheet_132 : decode b_Mod_sheet 132 = .ok (.iadd, 1) := kq_96 byq_r (by decide +kernel)
theorem d_Mod_sheet_133 : decode b_Mod_sheet 133 = .ok (.istore 5, 2) := kq_54 byq_r (by decide +kernel)
theorem d_Mod_sheet_135 : decode b_Mod_sheet 135 = .ok (.iload 6, 2) := kq_21 byq_r (by decide +kernel)
theorem d_Mod_sheet_137 : decode b_Mod_sheet 137 = .ok (.iload 4, 2) := kq_21 byq_r (by decide +kernel)
theorem d_Mod_sheet_139 : decode b_Mod_sheet 139 = .ok (.iadd, 1) := kq_96 byq_r (by decide +kernel)
theorem d_Mod_sheet_140 : decode b_Mod_sheet 140 = .ok (.istore 6, 2) := kq_54 byq_r (by decide +kernel)
theorem d_Mod_sheet_142 : decode b_Mod_sheet 142 = .ok (.iinc 7 1, 3) := kq_132 byq_r (b := 1) (by decide +kernel)
theorem d_Mod_sheet_145 : decode b_Mod_sheet 145 = .ok (.goto (-102), 3) := kq_167 byq_r (a := 255) (b := 154) (by decide +kernel)
theorem d_Mod_sheet_148 : decode b_Mod_sheet 148 = .ok (.iload_n 1, 1) := kq_27 byq_r (by decide +kernel)
theorem d_Mod_sheet_149 : decode b_Mod_sheet 149 = .ok (.iconst 3, 1) := kq_6 byq_r (by decide +kernel)
theorem d_Mod_sheet_150 : decode b_Mod_sheet 150 = .ok (.if_icmp .ne 8, 3) := kq_160 byq_r (a := 0) (b := 8) (by decide +kernel)
theorem d_Mod_sheet_153 : decode b_Mod_sheet 153 = .ok (.bipush (-3), 2) := kq_16 byq_r (b := 253) (by decide +kernel)
theorem d_Mod_sheet_155 : decode b_Mod_sheet 155 = .ok (.goto 5, 3) := kq_167 byq_r (a := 0) (b := 5) (by decide +kernel)
theorem d_Mod_sheet_158 : decode b_Mod_sheet 158 = .ok (.iload 5, 2) := kq_21 byq_r (by decide +kernel)
theorem d_Mod_sheet_160 : decode b_Mod_sheet 160 = .ok (.ireturn, 1) := kq_172 byq_r (by decide +kernel)
theorem d_Mod_canTell_0 : decode b_Mod_canTell 0 = .ok (.aload_n 0, 1) := kq_42 byq_r (by decide +kernel)
theorem d_Mod_canTell_1 : decode b_Mod_canTell 1 = .ok (.iload_n 1, 1) := kq_27 byq_r (by decide +kernel)
theorem d_Mod_canTell_2 : decode b_Mod_canTell 2 = .ok (.invokevirtual 126, 3) := kq_182 byq_r (a := 0) (b := 126) (by decide +kernel)
theorem d_Mod_canTell_5 : decode b_Mod_canTell 5 = .ok (.ifCond .eq 21, 3) := kq_153 byq_r (a := 0) (b := 21) (by decide +kernel)
theorem d_Mod_canTell_8 : decode b_Mod_canTell 8 = .ok (.aload_n 0, 1) := kq_42 byq_r (by decide +kernel)
theorem d_Mod_canTell_9 : decode b_Mod_canTell 9 = .ok (.getfield 9, 3) := kq_180 byq_r (a := 0) (b := 9) (by decide +kernel)
theorem d_Mod_canTell_12 : decode b_Mod_canTell 12 = .ok (.bipush 93, 2) := kq_16 byq_r (b := 93) (by decide +kernel)
theorem d_Mod_canTell_14 : decode b_Mod_canTell 14 = .ok (.iaload, 1) := kq_46 byq_r (by decide +kernel)
theorem d_Mod_canTell_15 : decode b_Mod_canTell 15 = .ok (.iload_n 1, 1) := kq_27 byq_r (by decide +kernel)
theorem d_Mod_canTell_16 : decode b_Mod_canTell 16 = .ok (.invokestatic 133, 3) := kq_184 byq_r (a := 0) (b := 133) (by decide +kernel)
theorem d_Mod_canTell_19 : decode b_Mod_canTell 19 = .ok (.ifCond .ne 7, 3) := kq_154 byq_r (a := 0) (b := 7) (by decide +kernel)
theorem d_Mod_canTell_22 : decode b_Mod_canTell 22 = .ok (.iconst 1, 1) := kq_4 byq_r (by decide +kernel)
theorem d_Mod_canTell_23 : decode b_Mod_canTell 23 = .ok (.goto 4, 3) := kq_167 byq_r (a := 0) (b := 4) (by decide +kernel)
theorem d_Mod_canTell_26 : decode b_Mod_canTell 26 = .ok (.iconst 0, 1) := kq_3 byq_r (by decide +kernel)
theorem d_Mod_canTell_27 : decode b_Mod_canTell 27 = .ok (.ireturn, 1) := kq_172 byq_r (by decide +kernel)
theorem d_Mod_tell_0 : decode b_Mod_tell 0 = .ok (.aload_n 0, 1) := kq_42 byq_r (by decide +kernel)
theorem d_Mod_tell_1 : decode b_Mod_tell 1 = .ok (.iconst 0, 1) := kq_3 byq_r (by decide +kernel)
theorem d_Mod_tell_2 : decode b_Mod_tell 2 = .ok (.putfield 109, 3) := kq_181 byq_r (a := 0) (b := 109) (by decide +kernel)
theorem d_Mod_tell_5 : decode b_Mod_tell 5 = .ok (.aload_n 0, 1) := kq_42 byq_r (by decide +kernel)
theorem d_Mod_tell_6 : decode b_Mod_tell 6 = .ok (.iload_n 1, 1) := kq_27 byq_r (by decide +kernel)
theorem d_Mod_tell_7 : decode b_Mod_tell 7 = .ok (.invokevirtual 307, 3) := kq_182 byq_r (a := 1) (b := 51) (by decide +kernel)
theorem d_Mod_tell_10 : decode b_Mod_tell 10 = .ok (.ifCond .ne 5, 3) := kq_154 byq_r (a := 0) (b := 5) (by decide +kernel)
theorem d_Mod_tell_13 : decode b_Mod_tell 13 = .ok (.iconst (-1), 1) := kq_2 byq_r (by decide +kernel)
theorem d_Mod_tell_14 : decode b_Mod_tell 14 = .ok (.ireturn, 1) := kq_172 byq_r (by decide +kernel)
theorem d_Mod_tell_15 : decode b_Mod_tell 15 = .ok (.aload_n 0, 1) := kq_42 byq_r (by decide +kernel)
theorem d_Mod_tell_16 : decode b_Mod_tell 16 = .ok (.aload_n 0, 1) := kq_42 byq_r (by decide +kernel)
theorem d_Mod_tell_17 : decode b_Mod_tell 17 = .ok (.getfield 9, 3) := kq_180 byq_r (a := 0) (b := 9) (by decide +kernel)
theorem d_Mod_tell_20 : decode b_Mod_tell 20 = .ok (.invokevirtual 293, 3) := kq_182 byq_r (a := 1) (b := 37) (by decide +kernel)
theorem d_Mod_tell_23 : decode b_Mod_tell 23 = .ok (.aload_n 0, 1) := kq_42 byq_r (by decide +kernel)
theorem d_Mod_tell_24 : decode b_Mod_tell 24 = .ok (.getfield 9, 3) := kq_180 byq_r (a := 0) (b := 9) (by decide +kernel)
theorem d_Mod_tell_27 : decode b_Mod_tell 27 = .ok (.bipush 93, 2) := kq_16 byq_r (b := 93) (by decide +kernel)
theorem d_Mod_tell_29 : decode b_Mod_tell 29 = .ok (.dup2, 1) := kq_92 byq_r (by decide +kernel)
theorem d_Mod_tell_30 : decode b_Mod_tell 30 = .ok (.iaload, 1) := kq_46 byq_r (by decide +kernel)
theorem d_Mod_tell_31 : decode b_Mod_tell 31 = .ok (.iconst 1, 1) := kq_4 byq_r (by decide +kernel)
theorem d_Mod_tell_32 : decode b_Mod_tell 32 = .ok (.iload_n 1, 1) := kq_27 byq_r (by decide +kernel)
theorem d_Mod_tell_33 : decode b_Mod_tell 33 = .ok (.ishl, 1) := kq_120 byq_r (by decide +kernel)
theorem d_Mod_tell_34 : decode b_Mod_tell 34 = .ok (.ior, 1) := kq_128 byq_r (by decide +kernel)
theorem d_Mod_tell_35 : decode b_Mod_tell 35 = .ok (.iastore, 1) := kq_79 byq_r (by decide +kernel)
theorem d_Mod_tell_36 : decode b_Mod_tell 36 = .ok (.aload_n 0, 1) := kq_42 byq_r (by decide +kernel)
theorem d_Mod_tell_37 : decode b_Mod_tell 37 = .ok (.getfield 9, 3) := kq_180 byq_r (a := 0) (b := 9) (by decide +kernel)
theorem d_Mod_tell_40 : decode b_Mod_tell 40 = .ok (.bipush 93, 2) := kq_16 byq_r (b := 93) (by decide +kernel)
theorem d_Mod_tell_42 : decode b_Mod_tell 42 = .ok (.iaload, 1) := kq_46 byq_r (by decide +kernel)
theorem d_Mod_tell_43 : decode b_Mod_tell 43 = .ok (.invokestatic 310, 3) := kq_184 byq_r (a := 1) (b := 54) (by decide +kernel)
theorem d_Mod_tell_46 : decode b_Mod_tell 46 = .ok (.ireturn, 1) := kq_172 byq_r (by decide +kernel)
theorem d_Mod_womenBelow_0 : decode b_Mod_womenBelow 0 = .ok (.iconst 0, 1) := kq_3 byq_r (by decide +kernel)
theorem d_Mod_womenBelow_1 : decode b_Mod_womenBelow 1 = .ok (.istore_n 1, 1) := kq_60 byq_r (by decide +kernel)
theorem d_Mod_womenBelow_2 : decode b_Mod_womenBelow 2 = .ok (.iconst 0, 1) := kq_3 byq_r (by decide +kernel)
theorem d_Mod_womenBelow_3 : decode b_Mod_womenBelow 3 = .ok (.istore_n 2, 1) := kq_61 byq_r (by decide +kernel)
theorem d_Mod_womenBelow_4 : decode b_Mod_womenBelow 4 = .ok (.iload_n 2, 1) := kq_28 byq_r (by decide +kernel)
theorem d_Mod_womenBelow_5 : decode b_Mod_womenBelow 5 = .ok (.aload_n 0, 1) := kq_42 byq_r (by decide +kernel)
theorem d_Mod_womenBelow_6 : decode b_Mod_womenBelow 6 = .ok (.getfield 123, 3) := kq_180 byq_r (a := 0) (b := 123) (by decide +kernel)
theorem d_Mod_womenBelow_9 : decode b_Mod_womenBelow 9 = .ok (.if_icmp .ge 40, 3) := kq_162 byq_r (a := 0) (b := 40) (by decide +kernel)
theorem d_Mod_womenBelow_12 : decode b_Mod_womenBelow 12 = .ok (.iload_n 1, 1) := kq_27 byq_r (by decide +kernel)
theorem d_Mod_womenBelow_13 : decode b_Mod_womenBelow 13 = .ok (.aload_n 0, 1) := kq_42 byq_r (by decide +kernel)
theorem d_Mod_womenBelow_14 : decode b_Mod_womenBelow 14 = .ok (.getfield 130, 3) := kq_180 byq_r (a := 0) (b := 130) (by decide +kernel)
theorem d_Mod_womenBelow_17 : decode b_Mod_womenBelow 17 = .ok (.iload_n 2, 1) := kq_28 byq_r (by decide +kernel)
theorem d_Mod_womenBelow_18 : decode b_Mod_womenBelow 18 = .ok (.invokestatic 133, 3) := kq_184 byq_r (a := 0) (b := 133) (by decide +kernel)
theorem d_Mod_womenBelow_21 : decode b_Mod_womenBelow 21 = .ok (.ifCond .eq 19, 3) := kq_153 byq_r (a := 0) (b := 19) (by decide +kernel)
theorem d_Mod_womenBelow_24 : decode b_Mod_womenBelow 24 = .ok (.aload_n 0, 1) := kq_42 byq_r (by decide +kernel)
theorem d_Mod_womenBelow_25 : decode b_Mod_womenBelow 25 = .ok (.getfield 9, 3) := kq_180 byq_r (a := 0) (b := 9) (by decide +kernel)
theorem d_Mod_womenBelow_28 : decode b_Mod_womenBelow 28 = .ok (.iload_n 2, 1) := kq_28 byq_r (by decide +kernel)
theorem d_Mod_womenBelow_29 : decode b_Mod_womenBelow 29 = .ok (.iaload, 1) := kq_46 byq_r (by decide +kernel)
theorem d_Mod_womenBelow_30 : decode b_Mod_womenBelow 30 = .ok (.invokestatic 143, 3) := kq_184 byq_r (a := 0) (b := 143) (by decide +kernel)
theorem d_Mod_womenBelow_33 : decode b_Mod_womenBelow 33 = .ok (.ifCond .ne 7, 3) := kq_154 byq_r (a := 0) (b := 7) (by decide +kernel)
theorem d_Mod_womenBelow_36 : decode b_Mod_womenBelow 36 = .ok (.iconst 1, 1) := kq_4 byq_r (by decide +kernel)
theorem d_Mod_womenBelow_37 : decode b_Mod_womenBelow 37 = .ok (.goto 4, 3) := kq_167 byq_r (a := 0) (b := 4) (by decide +kernel)
theorem d_Mod_womenBelow_40 : decode b_Mod_womenBelow 40 = .ok (.iconst 0, 1) := kq_3 byq_r (by decide +kernel)
theorem d_Mod_womenBelow_41 : decode b_Mod_womenBelow 41 = .ok (.iadd, 1) := kq_96 byq_r (by decide +kernel)
theorem d_Mod_womenBelow_42 : decode b_Mod_womenBelow 42 = .ok (.istore_n 1, 1) := kq_60 byq_r (by decide +kernel)
theorem d_Mod_womenBelow_43 : decode b_Mod_womenBelow 43 = .ok (.iinc 2 1, 3) := kq_132 byq_r (b := 1) (by decide +kernel)
theorem d_Mod_womenBelow_46 : decode b_Mod_womenBelow 46 = .ok (.goto (-42), 3) := kq_167 byq_r (a := 255) (b := 214) (by decide +kernel)
theorem d_Mod_womenBelow_49 : decode b_Mod_womenBelow 49 = .ok (.iload_n 1, 1) := kq_27 byq_r (by decide +kernel)
theorem d_Mod_womenBelow_50 : decode b_Mod_womenBelow 50 = .ok (.ireturn, 1) := kq_172 byq_r (by decide +kernel)
theorem d_Mod_canFeast_0 : decode b_Mod_canFeast 0 = .ok (.iload_n 1, 1) := kq_27 byq_r (by decide +kernel)
theorem d_Mod_canFeast_1 : decode b_Mod_canFeast 1 = .ok (.iconst 0, 1) := kq_3 byq_r (by decide +kernel)
theorem d_Mod_canFeast_2 : decode b_Mod_canFeast 2 = .ok (.iconst 1, 1) := kq_4 byq_r (by decide +kernel)
theorem d_Mod_canFeast_3 : decode b_Mod_canFeast 3 = .ok (.invokestatic 119, 3) := kq_184 byq_r (a := 0) (b := 119) (by decide +kernel)
theorem d_Mod_canFeast_6 : decode b_Mod_canFeast 6 = .ok (.ifCond .eq 14, 3) := kq_153 byq_r (a := 0) (b := 14) (by decide +kernel)
theorem d_Mod_canFeast_9 : decode b_Mod_canFeast 9 = .ok (.aload_n 0, 1) := kq_42 byq_r (by decide +kernel)
theorem d_Mod_canFeast_10 : decode b_Mod_canFeast 10 = .ok (.getfield 9, 3) := kq_180 byq_r (a := 0) (b := 9) (by decide +kernel)
theorem d_Mod_canFeast_13 : decode b_Mod_canFeast 13 = .ok (.bipush 94, 2) := kq_16 byq_r (b := 94) (by decide +kernel)
theorem d_Mod_canFeast_15 : decode b_Mod_canFeast 15 = .ok (.iaload, 1) := kq_46 byq_r (by decide +kernel)
theorem d_Mod_canFeast_16 : decode b_Mod_canFeast 16 = .ok (.iload_n 1, 1) := kq_27 byq_r (by decide +kernel)
theorem d_Mod_canFeast_17 : decode b_Mod_canFeast 17 = .ok (.if_icmp .ne 5, 3) := kq_160 byq_r (a := 0) (b := 5) (by decide +kernel)
theorem d_Mod_canFeast_20 : decode b_Mod_canFeast 20 = .ok (.iconst 0, 1) := kq_3 byq_r (by decide +kernel)
theorem d_Mod_canFeast_21 : decode b_Mod_canFeast 21 = .ok (.ireturn, 1) := kq_172 byq_r (by decide +kernel)
theorem d_Mod_canFeast_22 : decode b_Mod_canFeast 22 = .ok (.iload_n 1, 1) := kq_27 byq_r (by decide +kernel)
theorem d_Mod_canFeast_23 : decode b_Mod_canFeast 23 = .ok (.iconst 1, 1) := kq_4 byq_r (by decide +kernel)
theorem d_Mod_canFeast_24 : decode b_Mod_canFeast 24 = .ok (.if_icmp .ne 5, 3) := kq_160 byq_r (a := 0) (b := 5) (by decide +kernel)
theorem d_Mod_canFeast_27 : decode b_Mod_canFeast 27 = .ok (.iconst 1, 1) := kq_4 byq_r (by decide +kernel)
theorem d_Mod_canFeast_28 : decode b_Mod_canFeast 28 = .ok (.ireturn, 1) := kq_172 byq_r (by decide +kernel)
theorem d_Mod_canFeast_29 : decode b_Mod_canFeast 29 = .ok (.iconst 0, 1) := kq_3 byq_r (by decide +kernel)
theorem d_Mod_canFeast_30 : decode b_Mod_canFeast 30 = .ok (.istore_n 2, 1) := kq_61 byq_r (by decide +kernel)
theorem d_Mod_canFeast_31 : decode b_Mod_canFeast 31 = .ok (.iload_n 2, 1) := kq_28 byq_r (by decide +kernel)
theorem d_Mod_canFeast_32 : decode b_Mod_canFeast 32 = .ok (.aload_n 0, 1) := kq_42 byq_r (by decide +kernel)
theorem d_Mod_canFeast_33 : decode b_Mod_canFeast 33 = .ok (.getfield 123, 3) := kq_180 byq_r (a := 0) (b := 123) (by decide +kernel)
theorem d_Mod_canFeast_36 : decode b_Mod_canFeast 36 = .ok (.if_icmp .ge 52, 3) := kq_162 byq_r (a := 0) (b := 52) (by decide +kernel)
theorem d_Mod_canFeast_39 : decode b_Mod_canFeast 39 = .ok (.aload_n 0, 1) := kq_42 byq_r (by decide +kernel)
theorem d_Mod_canFeast_40 : decode b_Mod_canFeast 40 = .ok (.getfield 130, 3) := kq_180 byq_r (a := 0) (b := 130) (by decide +kernel)
theorem d_Mod_canFeast_43 : decode b_Mod_canFeast 43 = .ok (.iload_n 2, 1) := kq_28 byq_r (by decide +kernel)
theorem d_Mod_canFeast_44 : decode b_Mod_canFeast 44 = .ok (.invokestatic 133, 3) := kq_184 byq_r (a := 0) (b := 133) (by decide +kernel)
theorem d_Mod_canFeast_47 : decode b_Mod_canFeast 47 = .ok (.ifCond .eq 35, 3) := kq_153 byq_r (a := 0) (b := 35) (by decide +kernel)
theorem d_Mod_canFeast_50 : decode b_Mod_canFeast 50 = .ok (.aload_n 0, 1) := kq_42 byq_r (by decide +kernel)
theorem d_Mod_canFeast_51 : decode b_Mod_canFeast 51 = .ok (.getfield 9, 3) := kq_180 byq_r (a := 0) (b := 9) (by decide +kernel)
theorem d_Mod_canFeast_54 : decode b_Mod_canFeast 54 = .ok (.iload_n 2, 1) := kq_28 byq_r (by decide +kernel)
theorem d_Mod_canFeast_55 : decode b_Mod_canFeast 55 = .ok (.iaload, 1) := kq_46 byq_r (by decide +kernel)
theorem d_Mod_canFeast_56 : decode b_Mod_canFeast 56 = .ok (.invokestatic 143, 3) := kq_184 byq_r (a := 0) (b := 143) (by decide +kernel)
theorem d_Mod_canFeast_59 : decode b_Mod_canFeast 59 = .ok (.ifCond .ne 23, 3) := kq_154 byq_r (a := 0) (b := 23) (by decide +kernel)
theorem d_Mod_canFeast_62 : decode b_Mod_canFeast 62 = .ok (.aload_n 0, 1) := kq_42 byq_r (by decide +kernel)
theorem d_Mod_canFeast_63 : decode b_Mod_canFeast 63 = .ok (.getfield 13, 3) := kq_180 byq_r (a := 0) (b := 13) (by decide +kernel)
theorem d_Mod_canFeast_66 : decode b_Mod_canFeast 66 = .ok (.aload_n 0, 1) := kq_42 byq_r (by decide +kernel)
theorem d_Mod_canFeast_67 : decode b_Mod_canFeast 67 = .ok (.getfield 9, 3) := kq_180 byq_r (a := 0) (b := 9) (by decide +kernel)
theorem d_Mod_canFeast_70 : decode b_Mod_canFeast 70 = .ok (.iload_n 2, 1) := kq_28 byq_r (by decide +kernel)
theorem d_Mod_canFeast_71 : decode b_Mod_canFeast 71 = .ok (.iaload, 1) := kq_46 byq_r (by decide +kernel)
theorem d_Mod_canFeast_72 : decode b_Mod_canFeast 72 = .ok (.invokestatic 147, 3) := kq_184 byq_r (a := 0) (b := 147) (by decide +kernel)
theorem d_Mod_canFeast_75 : decode b_Mod_canFeast 75 = .ok (.iaload, 1) := kq_46 byq_r (by decide +kernel)
theorem d_Mod_canFeast_76 : decode b_Mod_canFeast 76 = .ok (.iconst 3, 1) := kq_6 byq_r (by decide +kernel)
theorem d_Mod_canFeast_77 : decode b_Mod_canFeast 77 = .ok (.if_icmp .eq 5, 3) := kq_159 byq_r (a := 0) (b := 5) (by decide +kernel)
theorem d_Mod_canFeast_80 : decode b_Mod_canFeast 80 = .ok (.iconst 0, 1) := kq_3 byq_r (by decide +kernel)
theorem d_Mod_canFeast_81 : decode b_Mod_canFeast 81 = .ok (.ireturn, 1) := kq_172 byq_r (by decide +kernel)
theorem d_Mod_canFeast_82 : decode b_Mod_canFeast 82 = .ok (.iinc 2 1, 3) := kq_132 byq_r (b := 1) (by decide +kernel)
theorem d_Mod_canFeast_85 : decode b_Mod_canFeast 85 = .ok (.goto (-54), 3) := kq_167 byq_r (a := 255) (b := 202) (by decide +kernel)
theorem d_Mod_canFeast_88 : decode b_Mod_canFeast 88 = .ok (.iconst 1, 1) := kq_4 byq_r (by decide +kernel)
theorem d_Mod_canFeast_89 : decode b_Mod_canFeast 89 = .ok (.ireturn, 1) := kq_172 byq_r (by decide +kernel)
theorem d_Mod_goFeast_0 : decode b_Mod_goFeast 0 = .ok (.aload_n 0, 1) := kq_42 byq_r (by decide +kernel)
theorem d_Mod_goFeast_1 : decode b_Mod_goFeast 1 = .ok (.getfield 9, 3) := kq_180 byq_r (a := 0) (b := 9) (by decide +kernel)
theorem d_Mod_goFeast_4 : decode b_Mod_goFeast 4 = .ok (.bipush 94, 2) := kq_16 byq_r (b := 94) (by decide +kernel)
theorem d_Mod_goFeast_6 : decode b_Mod_goFeast 6 = .ok (.iload_n 1, 1) := kq_27 byq_r (by decide +kernel)
theorem d_Mod_goFeast_7 : decode b_Mod_goFeast 7 = .ok (.iastore, 1) := kq_79 byq_r (by decide +kernel)
theorem d_Mod_goFeast_8 : decode b_Mod_goFeast 8 = .ok (.iconst 0, 1) := kq_3 byq_r (by decide +kernel)
theorem d_Mod_goFeast_9 : decode b_Mod_goFeast 9 = .ok (.istore_n 2, 1) := kq_61 byq_r (by decide +kernel)
theorem d_Mod_goFeast_10 : decode b_Mod_goFeast 10 = .ok (.iload_n 2, 1) := kq_28 byq_r (by decide +kernel)
theorem d_Mod_goFeast_11 : decode b_Mod_goFeast 11 = .ok (.aload_n 0, 1) := kq_42 byq_r (by decide +kernel)
theorem d_Mod_goFeast_12 : decode b_Mod_goFeast 12 = .ok (.getfield 123, 3) := kq_180 byq_r (a := 0) (b := 123) (by decide +kernel)
theorem d_Mod_goFeast_15 : decode b_Mod_goFeast 15 = .ok (.if_icmp .ge 59, 3) := kq_162 byq_r (a := 0) (b := 59) (by decide +kernel)
theorem d_Mod_goFeast_18 : decode b_Mod_goFeast 18 = .ok (.aload_n 0, 1) := kq_42 byq_r (by decide +kernel)
theorem d_Mod_goFeast_19 : decode b_Mod_goFeast 19 = .ok (.getfield 130, 3) := kq_180 byq_r (a := 0) (b := 130) (by decide +kernel)
theorem d_Mod_goFeast_22 : decode b_Mod_goFeast 22 = .ok (.iload_n 2, 1) := kq_28 byq_r (by decide +kernel)
theorem d_Mod_goFeast_23 : decode b_Mod_goFeast 23 = .ok (.invokestatic 133, 3) := kq_184 byq_r (a := 0) (b := 133) (by decide +kernel)
theorem d_Mod_goFeast_26 : decode b_Mod_goFeast 26 = .ok (.ifCond .eq 42, 3) := kq_153 byq_r (a := 0) (b := 42) (by decide +kernel)
theorem d_Mod_goFeast_29 : decode b_Mod_goFeast 29 = .ok (.aload_n 0, 1) := kq_42 byq_r (by decide +kernel)
theorem d_Mod_goFeast_30 : decode b_Mod_goFeast 30 = .ok (.getfield 13, 3) := kq_180 byq_r (a := 0) (b := 13) (by decide +kernel)
theorem d_Mod_goFeast_33 : decode b_Mod_goFeast 33 = .ok (.aload_n 0, 1) := kq_42 byq_r (by decide +kernel)
theorem d_Mod_goFeast_34 : decode b_Mod_goFeast 34 = .ok (.getfield 9, 3) := kq_180 byq_r (a := 0) (b := 9) (by decide +kernel)
theorem d_Mod_goFeast_37 : decode b_Mod_goFeast 37 = .ok (.iload_n 2, 1) := kq_28 byq_r (by decide +kernel)
theorem d_Mod_goFeast_38 : decode b_Mod_goFeast 38 = .ok (.iaload, 1) := kq_46 byq_r (by decide +kernel)
theorem d_Mod_goFeast_39 : decode b_Mod_goFeast 39 = .ok (.invokestatic 147, 3) := kq_184 byq_r (a := 0) (b := 147) (by decide +kernel)
theorem d_Mod_goFeast_42 : decode b_Mod_goFeast 42 = .ok (.iaload, 1) := kq_46 byq_r (by decide +kernel)
theorem d_Mod_goFeast_43 : decode b_Mod_goFeast 43 = .ok (.iconst 3, 1) := kq_6 byq_r (by decide +kernel)
theorem d_Mod_goFeast_44 : decode b_Mod_goFeast 44 = .ok (.if_icmp .ne 24, 3) := kq_160 byq_r (a := 0) (b := 24) (by decide +kernel)
theorem d_Mod_goFeast_47 : decode b_Mod_goFeast 47 = .ok (.aload_n 0, 1) := kq_42 byq_r (by decide +kernel)
theorem d_Mod_goFeast_48 : decode b_Mod_goFeast 48 = .ok (.getfield 9, 3) := kq_180 byq_r (a := 0) (b := 9) (by decide +kernel)
theorem d_Mod_goFeast_51 : decode b_Mod_goFeast 51 = .ok (.iload_n 2, 1) := kq_28 byq_r (by decide +kernel)
theorem d_Mod_goFeast_52 : decode b_Mod_goFeast 52 = .ok (.iconst 1, 1) := kq_4 byq_r (by decide +kernel)
theorem d_Mod_goFeast_53 : decode b_Mod_goFeast 53 = .ok (.iload_n 1, 1) := kq_27 byq_r (by decide +kernel)
theorem d_Mod_goFeast_54 : decode b_Mod_goFeast 54 = .ok (.isub, 1) := kq_100 byq_r (by decide +kernel)
theorem d_Mod_goFeast_55 : decode b_Mod_goFeast 55 = .ok (.aload_n 0, 1) := kq_42 byq_r (by decide +kernel)
theorem d_Mod_goFeast_56 : decode b_Mod_goFeast 56 = .ok (.getfield 9, 3) := kq_180 byq_r (a := 0) (b := 9) (by decide +kernel)
theorem d_Mod_goFeast_59 : decode b_Mod_goFeast 59 = .ok (.iload_n 2, 1) := kq_28 byq_r (by decide +kernel)
theorem d_Mod_goFeast_60 : decode b_Mod_goFeast 60 = .ok (.iaload, 1) := kq_46 byq_r (by decide +kernel)
theorem d_Mod_goFeast_61 : decode b_Mod_goFeast 61 = .ok (.invokestatic 147, 3) := kq_184 byq_r (a := 0) (b := 147) (by decide +kernel)
theorem d_Mod_goFeast_64 : decode b_Mod_goFeast 64 = .ok (.invokestatic 154, 3) := kq_184 byq_r (a := 0) (b := 154) (by decide +kernel)
theorem d_Mod_goFeast_67 : decode b_Mod_goFeast 67 = .ok (.iastore, 1) := kq_79 byq_r (by decide +kernel)
theorem d_Mod_goFeast_68 : decode b_Mod_goFeast 68 = .ok (.iinc 2 1, 3) := kq_132 byq_r (b := 1) (by decide +kernel)
theorem d_Mod_goFeast_71 : decode b_Mod_goFeast 71 = .ok (.goto (-61), 3) := kq_167 byq_r (a := 255) (b := 195) (by decide +kernel)
theorem d_Mod_goFeast_74 : decode b_Mod_goFeast 74 = .ok (.return_, 1) := kq_177 byq_r (by decide +kernel)
theorem d_Mod_feast_0 : decode b_Mod_feast 0 = .ok (.aload_n 0, 1) := kq_42 byq_r (by decide +kernel)
theorem d_Mod_feast_1 : decode b_Mod_feast 1 = .ok (.iconst 0, 1) := kq_3 byq_r (by decide +kernel)
theorem d_Mod_feast_2 : decode b_Mod_feast 2 = .ok (.putfield 109, 3) := kq_181 byq_r (a := 0) (b := 109) (by decide +kernel)
theorem d_Mod_feast_5 : decode b_Mod_feast 5 = .ok (.aload_n 0, 1) := kq_42 byq_r (by decide +kernel)
theorem d_Mod_feast_6 : decode b_Mod_feast 6 = .ok (.iload_n 1, 1) := kq_27 byq_r (by decide +kernel)
theorem d_Mod_feast_7 : decode b_Mod_feast 7 = .ok (.invokevirtual 315, 3) := kq_182 byq_r (a := 1) (b := 59) (by decide +kernel)
theorem d_Mod_feast_10 : decode b_Mod_feast 10 = .ok (.ifCond .ne 5, 3) := kq_154 byq_r (a := 0) (b := 5) (by decide +kernel)
theorem d_Mod_feast_13 : decode b_Mod_feast 13 = .ok (.iconst (-1), 1) := kq_2 byq_r (by decide +kernel)
theorem d_Mod_feast_14 : decode b_Mod_feast 14 = .ok (.ireturn, 1) := kq_172 byq_r (by decide +kernel)
theorem d_Mod_feast_15 : decode b_Mod_feast 15 = .ok (.aload_n 0, 1) := kq_42 byq_r (by decide +kernel)
theorem d_Mod_feast_16 : decode b_Mod_feast 16 = .ok (.aload_n 0, 1) := kq_42 byq_r (by decide +kernel)
theorem d_Mod_feast_17 : decode b_Mod_feast 17 = .ok (.getfield 9, 3) := kq_180 byq_r (a := 0) (b := 9) (by decide +kernel)
theorem d_Mod_feast_20 : decode b_Mod_feast 20 = .ok (.invokevirtual 293, 3) := kq_182 byq_r (a := 1) (b := 37) (by decide +kernel)
theorem d_Mod_feast_23 : decode b_Mod_feast 23 = .ok (.aload_n 0, 1) := kq_42 byq_r (by decide +kernel)
theorem d_Mod_feast_24 : decode b_Mod_feast 24 = .ok (.iload_n 1, 1) := kq_27 byq_r (by decide +kernel)
theorem d_Mod_feast_25 : decode b_Mod_feast 25 = .ok (.invokevirtual 318, 3) := kq_182 byq_r (a := 1) (b := 62) (by decide +kernel)
theorem d_Mod_feast_28 : decode b_Mod_feast 28 = .ok (.aload_n 0, 1) := kq_42 byq_r (by decide +kernel)
theorem d_Mod_feast_29 : decode b_Mod_feast 29 = .ok (.invokevirtual 321, 3) := kq_182 byq_r (a := 1) (b := 65) (by decide +kernel)
theorem d_Mod_feast_32 : decode b_Mod_feast 32 = .ok (.ireturn, 1) := kq_172 byq_r (by decide +kernel)
theorem d_Mod_areMeeting_0 : decode b_Mod_areMeeting 0 = .ok (.aload_n 1, 1) := kq_43 byq_r (by decide +kernel)
theorem d_Mod_areMeeting_1 : decode b_Mod_areMeeting 1 = .ok (.iload_n 2, 1) := kq_28 byq_r (by decide +kernel)
theorem d_Mod_areMeeting_2 : decode b_Mod_areMeeting 2 = .ok (.iaload, 1) := kq_46 byq_r (by decide +kernel)
theorem d_Mod_areMeeting_3 : decode b_Mod_areMeeting 3 = .ok (.invokestatic 147, 3) := kq_184 byq_r (a := 0) (b := 147) (by decide +kernel)
theorem d_Mod_areMeeting_6 : decode b_Mod_areMeeting 6 = .ok (.aload_n 1, 1) := kq_43 byq_r (by decide +kernel)
theorem d_Mod_areMeeting_7 : decode b_Mod_areMeeting 7 = .ok (.iload_n 3, 1) := kq_29 byq_r (by decide +kernel)
theorem d_Mod_areMeeting_8 : decode b_Mod_areMeeting 8 = .ok (.iaload, 1) := kq_46 byq_r (by decide +kernel)
theorem d_Mod_areMeeting_9 : decode b_Mod_areMeeting 9 = .ok (.invokestatic 147, 3) := kq_184 byq_r (a := 0) (b := 147) (by decide +kernel)
theorem d_Mod_areMeeting_12 : decode b_Mod_areMeeting 12 = .ok (.if_icmp .ne 22, 3) := kq_160 byq_r (a := 0) (b := 22) (by decide +kernel)
theorem d_Mod_areMeeting_15 : decode b_Mod_areMeeting 15 = .ok (.aload_n 0, 1) := kq_42 byq_r (by decide +kernel)
theorem d_Mod_areMeeting_16 : decode b_Mod_areMeeting 16 = .ok (.getfield 13, 3) := kq_180 byq_r (a := 0) (b := 13) (by decide +kernel)
theorem d_Mod_areMeeting_19 : decode b_Mod_areMeeting 19 = .ok (.aload_n 1, 1) := kq_43 byq_r (by decide +kernel)
theorem d_Mod_areMeeting_20 : decode b_Mod_areMeeting 20 = .ok (.iload_n 2, 1) := kq_28 byq_r (by decide +kernel)
theorem d_Mod_areMeeting_21 : decode b_Mod_areMeeting 21 = .ok (.iaload, 1) := kq_46 byq_r (by decide +kernel)
theorem d_Mod_areMeeting_22 : decode b_Mod_areMeeting 22 = .ok (.invokestatic 147, 3) := kq_184 byq_r (a := 0) (b := 147) (by decide +kernel)
theorem d_Mod_areMeeting_25 : decode b_Mod_areMeeting 25 = .ok (.iaload, 1) := kq_46 byq_r (by decide +kernel)
theorem d_Mod_areMeeting_26 : decode b_Mod_areMeeting 26 = .ok (.iconst 3, 1) := kq_6 byq_r (by decide +kernel)
theorem d_Mod_areMeeting_27 : decode b_Mod_areMeeting 27 = .ok (.if_icmp .ne 7, 3) := kq_160 byq_r (a := 0) (b := 7) (by decide +kernel)
theorem d_Mod_areMeeting_30 : decode b_Mod_areMeeting 30 = .ok (.iconst 1, 1) := kq_4 byq_r (by decide +kernel)
theorem d_Mod_areMeeting_31 : decode b_Mod_areMeeting 31 = .ok (.goto 4, 3) := kq_167 byq_r (a := 0) (b := 4) (by decide +kernel)
theorem d_Mod_areMeeting_34 : decode b_Mod_areMeeting 34 = .ok (.iconst 0, 1) := kq_3 byq_r (by decide +kernel)
theorem d_Mod_areMeeting_35 : decode b_Mod_areMeeting 35 = .ok (.ireturn, 1) := kq_172 byq_r (by decide +kernel)
theorem d_Mod_hears_0 : decode b_Mod_hears 0 = .ok (.aload_n 0, 1) := kq_42 byq_r (by decide +kernel)
theorem d_Mod_hears_1 : decode b_Mod_hears 1 = .ok (.aload_n 1, 1) := kq_43 byq_r (by decide +kernel)
theorem d_Mod_hears_2 : decode b_Mod_hears 2 = .ok (.aload_n 1, 1) := kq_43 byq_r (by decide +kernel)
theorem d_Mod_hears_3 : decode b_Mod_hears 3 = .ok (.iload_n 2, 1) := kq_28 byq_r (by decide +kernel)
theorem d_Mod_hears_4 : decode b_Mod_hears 4 = .ok (.iaload, 1) := kq_46 byq_r (by decide +kernel)
theorem d_Mod_hears_5 : decode b_Mod_hears 5 = .ok (.invokevirtual 259, 3) := kq_182 byq_r (a := 1) (b := 3) (by decide +kernel)
theorem d_Mod_hears_8 : decode b_Mod_hears 8 = .ok (.istore_n 3, 1) := kq_62 byq_r (by decide +kernel)
theorem d_Mod_hears_9 : decode b_Mod_hears 9 = .ok (.aload_n 1, 1) := kq_43 byq_r (by decide +kernel)
theorem d_Mod_hears_10 : decode b_Mod_hears 10 = .ok (.iload_n 2, 1) := kq_28 byq_r (by decide +kernel)
theorem d_Mod_hears_11 : decode b_Mod_hears 11 = .ok (.iaload, 1) := kq_46 byq_r (by decide +kernel)
theorem d_Mod_hears_12 : decode b_Mod_hears 12 = .ok (.invokestatic 147, 3) := kq_184 byq_r (a := 0) (b := 147) (by decide +kernel)
theorem d_Mod_hears_15 : decode b_Mod_hears 15 = .ok (.istore 4, 2) := kq_54 byq_r (by decide +kernel)
theorem d_Mod_hears_17 : decode b_Mod_hears 17 = .ok (.aload_n 0, 1) := kq_42 byq_r (by decide +kernel)
theorem d_Mod_hears_18 : decode b_Mod_hears 18 = .ok (.getfield 13, 3) := kq_180 byq_r (a := 0) (b := 13) (by decide +kernel)
theorem d_Mod_hears_21 : decode b_Mod_hears 21 = .ok (.iload 4, 2) := kq_21 byq_r (by decide +kernel)
theorem d_Mod_hears_23 : decode b_Mod_hears 23 = .ok (.iaload, 1) := kq_46 byq_r (by decide +kernel)
theorem d_Mod_hears_24 : decode b_Mod_hears 24 = .ok (.iconst 3, 1) := kq_6 byq_r (by decide +kernel)
theorem d_Mod_hears_25 : decode b_Mod_hears 25 = .ok (.if_icmp .ne 25, 3) := kq_160 byq_r (a := 0) (b := 25) (by decide +kernel)
theorem d_Mod_hears_28 : decode b_Mod_hears 28 = .ok (.iload_n 3, 1) := kq_29 byq_r (by decide +kernel)
theorem d_Mod_hears_29 : decode b_Mod_hears 29 = .ok (.aload_n 0, 1) := kq_42 byq_r (by decide +kernel)
theorem d_Mod_hears_30 : decode b_Mod_hears 30 = .ok (.aload_n 1, 1) := kq_43 byq_r (by decide +kernel)
theorem d_Mod_hears_31 : decode b_Mod_hears 31 = .ok (.iload 4, 2) := kq_21 byq_r (by decide +kernel)
theorem d_Mod_hears_33 : decode b_Mod_hears 33 = .ok (.invokevirtual 259, 3) := kq_182 byq_r (a := 1) (b := 3) (by decide +kernel)
theorem d_Mod_hears_36 : decode b_Mod_hears 36 = .ok (.aload_n 0, 1) := kq_42 byq_r (by decide +kernel)
theorem d_Mod_hears_37 : decode b_Mod_hears 37 = .ok (.aload_n 1, 1) := kq_43 byq_r (by decide +kernel)
theorem d_Mod_hears_38 : decode b_Mod_hears 38 = .ok (.iconst 1, 1) := kq_4 byq_r (by decide +kernel)
theorem d_Mod_hears_39 : decode b_Mod_hears 39 = .ok (.iload 4, 2) := kq_21 byq_r (by decide +kernel)
theorem d_Mod_hears_41 : decode b_Mod_hears 41 = .ok (.invokestatic 154, 3) := kq_184 byq_r (a := 0) (b := 154) (by decide +kernel)
theorem d_Mod_hears_44 : decode b_Mod_hears 44 = .ok (.invokevirtual 259, 3) := kq_182 byq_r (a := 1) (b := 3) (by decide +kernel)
theorem d_Mod_hears_47 : decode b_Mod_hears 47 = .ok (.ior, 1) := kq_128 byq_r (by decide +kernel)
theorem d_Mod_hears_48 : decode b_Mod_hears 48 = .ok (.ior, 1) := kq_128 byq_r (by decide +kernel)
theorem d_Mod_hears_49 : decode b_Mod_hears 49 = .ok (.istore_n 3, 1) := kq_62 byq_r (by decide +kernel)
theorem d_Mod_hears_50 : decode b_Mod_hears 50 = .ok (.aload_n 1, 1) := kq_43 byq_r (by decide +kernel)
theorem d_Mod_hears_51 : decode b_Mod_hears 51 = .ok (.iload_n 2, 1) := kq_28 byq_r (by decide +kernel)
theorem d_Mod_hears_52 : decode b_Mod_hears 52 = .ok (.iaload, 1) := kq_46 byq_r (by decide +kernel)
theorem d_Mod_hears_53 : decode b_Mod_hears 53 = .ok (.invokestatic 143, 3) := kq_184 byq_r (a := 0) (b := 143) (by decide +kernel)
theorem d_Mod_hears_56 : decode b_Mod_hears 56 = .ok (.ifCond .ne 5, 3) := kq_154 byq_r (a := 0) (b := 5) (by decide +kernel)
theorem d_Mod_hears_59 : decode b_Mod_hears 59 = .ok (.iload_n 3, 1) := kq_29 byq_r (by decide +kernel)
theorem d_Mod_hears_60 : decode b_Mod_hears 60 = .ok (.ireturn, 1) := kq_172 byq_r (by decide +kernel)
theorem d_Mod_hears_61 : decode b_Mod_hears 61 = .ok (.iconst 0, 1) := kq_3 byq_r (by decide +kernel)
theorem d_Mod_hears_62 : decode b_Mod_hears 62 = .ok (.istore 5, 2) := kq_54 byq_r (by decide +kernel)
theorem d_Mod_hears_64 : decode b_Mod_hears 64 = .ok (.iload 5, 2) := kq_21 byq_r (by decide +kernel)
theorem d_Mod_hears_66 : decode b_Mod_hears 66 = .ok (.iconst 4, 1) := kq_7 byq_r (by decide +kernel)
theorem d_Mod_hears_67 : decode b_Mod_hears 67 = .ok (.if_icmp .ge 37, 3) := kq_162 byq_r (a := 0) (b := 37) (by decide +kernel)
theorem d_Mod_hears_70 : decode b_Mod_hears 70 = .ok (.aload_n 0, 1) := kq_42 byq_r (by decide +kernel)
theorem d_Mod_hears_71 : decode b_Mod_hears 71 = .ok (.iload 4, 2) := kq_21 byq_r (by decide +kernel)
theorem d_Mod_hears_73 : decode b_Mod_hears 73 = .ok (.iload 5, 2) := kq_21 byq_r (by decide +kernel)
theorem d_Mod_hears_75 : decode b_Mod_hears 75 = .ok (.invokevirtual 150, 3) := kq_182 byq_r (a := 0) (b := 150) (by decide +kernel)
theorem d_Mod_hears_78 : decode b_Mod_hears 78 = .ok (.iconst (-1), 1) := kq_2 byq_r (by decide +kernel)
theorem d_Mod_hears_79 : decode b_Mod_hears 79 = .ok (.if_icmp .eq 19, 3) := kq_159 byq_r (a := 0) (b := 19) (by decide +kernel)
theorem d_Mod_hears_82 : decode b_Mod_hears 82 = .ok (.iload_n 3, 1) := kq_29 byq_r (by decide +kernel)
theorem d_Mod_hears_83 : decode b_Mod_hears 83 = .ok (.aload_n 0, 1) := kq_42 byq_r (by decide +kernel)
theorem d_Mod_hears_84 : decode b_Mod_hears 84 = .ok (.aload_n 1, 1) := kq_43 byq_r (by decide +kernel)
theorem d_Mod_hears_85 : decode b_Mod_hears 85 = .ok (.aload_n 0, 1) := kq_42 byq_r (by decide +kernel)
theorem d_Mod_hears_86 : decode b_Mod_hears 86 = .ok (.iload 4, 2) := kq_21 byq_r (by decide +kernel)
theorem d_Mod_hears_88 : decode b_Mod_hears 88 = .ok (.iload 5, 2) := kq_21 byq_r (by decide +kernel)
theorem d_Mod_hears_90 : decode b_Mod_hears 90 = .ok (.invokevirtual 150, 3) := kq_182 byq_r (a := 0) (b := 150) (by decide +kernel)
theorem d_Mod_hears_93 : decode b_Mod_hears 93 = .ok (.invokevirtual 259, 3) := kq_182 byq_r (a := 1) (b := 3) (by decide +kernel)
theorem d_Mod_hears_96 : decode b_Mod_hears 96 = .ok (.ior, 1) := kq_128 byq_r (by decide +kernel)
theorem d_Mod_hears_97 : decode b_Mod_hears 97 = .ok (.istore_n 3, 1) := kq_62 byq_r (by decide +kernel)
theorem d_Mod_hears_98 : decode b_Mod_hears 98 = .ok (.iinc 5 1, 3) := kq_132 byq_r (b := 1) (by decide +kernel)
theorem d_Mod_hears_101 : decode b_Mod_hears 101 = .ok (.goto (-37), 3) := kq_167 byq_r (a := 255) (b := 219) (by decide +kernel)
theorem d_Mod_hears_104 : decode b_Mod_hears 104 = .ok (.iload_n 3, 1) := kq_29 byq_r (by decide +kernel)
theorem d_Mod_hears_105 : decode b_Mod_hears 105 = .ok (.ireturn, 1) := kq_172 byq_r (by decide +kernel)
def j_Mod_between_45 (v1 : Int32) (v2 : Int32) (v3 : Int32) (v4 : Int32) (M : Mem) : Option (Int32) :=
  if v3 = 0 then
  if v4 = (2 : Int32) then
  some ((v1 + v2) / (2 : Int32))
  else
  some (-1 : Int32)
  else
  some (-1 : Int32)
theorem j_Mod_between_45_ok {E : Ev} {G : Gw} {d : Nat} {post : Int32 → Mem → Prop} (X : Cx E G b_Mod_between "WomenByTheRoofsModel" 5 d (some .int)) (hD : 1 ≤ d)  (v1 : Int32) (v2 : Int32) (v3 : Int32) (v4 : Int32)  (M : Mem)  (o : Int32) (h : j_Mod_between_45 v1 v2 v3 v4 M = some o) (kr : ∀ x9 : Int32, o = x9 → post x9 M) : V E (0, 0) G 5 (QI E G post) M 45 [(1, .int v1), (2, .int v2), (3, .int v3), (4, .int v4)] [] := by
  unfold j_Mod_between_45 at h
  refine V_iload_n (n := 2) X d_Mod_between_45 rfl rfl rfl ?_
  refine V_if_ne (tgt := 63) X d_Mod_between_46 (by decide) rfl (fun c2 => ?_) (fun c2 => ?_)
  · rw [if_neg c2] at h
    refine V_iconst (v := -1) X d_Mod_between_63 (by decide) rfl ?_
    exact V_iret X (kr (-1 : Int32) (Option.some.inj h).symm) d_Mod_between_64
  · rw [if_pos c2] at h
    refine V_iload (n := 3) X d_Mod_between_49 rfl rfl ?_
    refine V_iconst (v := 2) X d_Mod_between_51 (by decide) rfl ?_
    refine V_icmp_ne (tgt := 63) X d_Mod_between_52 (by decide) rfl (fun c1 => ?_) (fun c1 => ?_)
    · rw [if_neg c1] at h
      refine V_iconst (v := -1) X d_Mod_between_63 (by decide) rfl ?_
      exact V_iret X (kr (-1 : Int32) (Option.some.inj h).symm) d_Mod_between_64
    · rw [if_pos c1] at h
      refine V_iload_n (n := 0) X d_Mod_between_55 rfl rfl rfl ?_
      refine V_iload_n (n := 1) X d_Mod_between_56 rfl rfl rfl ?_
      refine V_iadd X d_Mod_between_57 rfl ?_
      refine V_iconst (v := 2) X d_Mod_between_58 (by decide) rfl ?_
      refine V_idiv X d_Mod_between_59 (by decide) rfl ?_
      refine V_goto (pc' := 64) X d_Mod_between_60 (by decide) ?_
      exact V_iret X (kr ((v1 + v2) / (2 : Int32)) (Option.some.inj h).symm) d_Mod_between_64
def f_Mod_between (v1 : Int32) (v2 : Int32) (M : Mem) : Option (Int32) :=
  if (M.1 162 2) = 0 then none else
  if (M.1 162 2) = 0 then none else
  if (M.1 162 2) = 0 then none else
  if (M.1 162 2) = 0 then none else
  if (if 0 ≤ ((v1 - v1 / (M.1 162 2) * (M.1 162 2)) - (v2 - v2 / (M.1 162 2) * (M.1 162 2))) then ((v1 - v1 / (M.1 162 2) * (M.1 162 2)) - (v2 - v2 / (M.1 162 2) * (M.1 162 2))) else 0 - ((v1 - v1 / (M.1 162 2) * (M.1 162 2)) - (v2 - v2 / (M.1 162 2) * (M.1 162 2)))) = (2 : Int32) then
  if (if 0 ≤ ((v1 / (M.1 162 2)) - (v2 / (M.1 162 2))) then ((v1 / (M.1 162 2)) - (v2 / (M.1 162 2))) else 0 - ((v1 / (M.1 162 2)) - (v2 / (M.1 162 2)))) = 0 then
  some ((v1 + v2) / (2 : Int32))
  else
  j_Mod_between_45 v1 v2 (if 0 ≤ ((v1 - v1 / (M.1 162 2) * (M.1 162 2)) - (v2 - v2 / (M.1 162 2) * (M.1 162 2))) then ((v1 - v1 / (M.1 162 2) * (M.1 162 2)) - (v2 - v2 / (M.1 162 2) * (M.1 162 2))) else 0 - ((v1 - v1 / (M.1 162 2) * (M.1 162 2)) - (v2 - v2 / (M.1 162 2) * (M.1 162 2)))) (if 0 ≤ ((v1 / (M.1 162 2)) - (v2 / (M.1 162 2))) then ((v1 / (M.1 162 2)) - (v2 / (M.1 162 2))) else 0 - ((v1 / (M.1 162 2)) - (v2 / (M.1 162 2)))) M
  else
  j_Mod_between_45 v1 v2 (if 0 ≤ ((v1 - v1 / (M.1 162 2) * (M.1 162 2)) - (v2 - v2 / (M.1 162 2) * (M.1 162 2))) then ((v1 - v1 / (M.1 162 2) * (M.1 162 2)) - (v2 - v2 / (M.1 162 2) * (M.1 162 2))) else 0 - ((v1 - v1 / (M.1 162 2) * (M.1 162 2)) - (v2 - v2 / (M.1 162 2) * (M.1 162 2)))) (if 0 ≤ ((v1 / (M.1 162 2)) - (v2 / (M.1 162 2))) then ((v1 / (M.1 162 2)) - (v2 / (M.1 162 2))) else 0 - ((v1 / (M.1 162 2)) - (v2 / (M.1 162 2)))) M
theorem c_Mod_between (l : Launch) (G : Gw)  (v1 : Int32) (v2 : Int32) (M : Mem) (x : Int32) (h : f_Mod_between v1 v2 M = some x) (d : Nat) (hD : 1 ≤ d) : Ci l G y_Mod_between b_Mod_between 5 (some .int) d [.ref (G.2.2 + 162), .int v1, .int v2] M (fun r9 M9 => r9 = x ∧ M9 = M) := by
  refine Ci_of (by decide) (Nat.le_of_ble_eq_true rfl) (fun E hE X => ?_)
  subst hE
  have kr : ∀ x9 : Int32, x = x9 → (fun r9 M9 => r9 = x ∧ M9 = M) x9 M := fun x9 e9 => by subst e9; exact ⟨rfl, rfl⟩
  unfold f_Mod_between at h
  refine V_iload_n (n := 1) X d_Mod_between_0 rfl rfl rfl ?_
  refine V_aload_n (n := 0) X d_Mod_between_1 rfl rfl rfl ?_
  refine V_geti X fo_Mod_16 kd_162 rfl d_Mod_between_2 rfl ?_
  obtain ⟨hq, h⟩ := ifz h
  refine V_irem X d_Mod_between_5 hq rfl ?_
  refine V_iload_n (n := 2) X d_Mod_between_6 rfl rfl rfl ?_
  refine V_aload_n (n := 0) X d_Mod_between_7 rfl rfl rfl ?_
  refine V_geti X fo_Mod_16 kd_162 rfl d_Mod_between_8 rfl ?_
  obtain ⟨hq, h⟩ := ifz h
  refine V_irem X d_Mod_between_11 hq rfl ?_
  refine V_isub X d_Mod_between_12 rfl ?_
  refine V_mabs X (Z0 E) mm_Mod_275 (by omega) (Nat.le_of_ble_eq_true rfl) d_Mod_between_13 rfl ?_
  refine V_istore_n (lv' := [(3, .int (if 0 ≤ ((v1 - v1 / (M.1 162 2) * (M.1 162 2)) - (v2 - v2 / (M.1 162 2) * (M.1 162 2))) then ((v1 - v1 / (M.1 162 2) * (M.1 162 2)) - (v2 - v2 / (M.1 162 2) * (M.1 162 2))) else 0 - ((v1 - v1 / (M.1 162 2) * (M.1 162 2)) - (v2 - v2 / (M.1 162 2) * (M.1 162 2))))), (0, .ref (G.2.2 + 162)), (1, .int v1), (2, .int v2)]) X d_Mod_between_16 rfl (by decide) rfl rfl ?_
  refine V_iload_n (n := 2) X d_Mod_between_17 rfl rfl rfl ?_
  refine V_aload_n (n := 1) X d_Mod_between_18 rfl rfl rfl ?_
  refine V_geti X fo_Mod_16 kd_162 rfl d_Mod_between_19 rfl ?_
  obtain ⟨hq, h⟩ := ifz h
  refine V_idiv X d_Mod_between_22 hq rfl ?_
  refine V_iload_n (n := 3) X d_Mod_between_23 rfl rfl rfl ?_
  refine V_aload_n (n := 1) X d_Mod_between_24 rfl rfl rfl ?_
  refine V_geti X fo_Mod_16 kd_162 rfl d_Mod_between_25 rfl ?_
  obtain ⟨hq, h⟩ := ifz h
  refine V_idiv X d_Mod_between_28 hq rfl ?_
  refine V_isub X d_Mod_between_29 rfl ?_
  refine V_mabs X (Z0 E) mm_Mod_275 (by omega) (Nat.le_of_ble_eq_true rfl) d_Mod_between_30 rfl ?_
  refine V_istore (lv' := [(4, .int (if 0 ≤ ((v1 / (M.1 162 2)) - (v2 / (M.1 162 2))) then ((v1 / (M.1 162 2)) - (v2 / (M.1 162 2))) else 0 - ((v1 / (M.1 162 2)) - (v2 / (M.1 162 2))))), (3, .int (if 0 ≤ ((v1 - v1 / (M.1 162 2) * (M.1 162 2)) - (v2 - v2 / (M.1 162 2) * (M.1 162 2))) then ((v1 - v1 / (M.1 162 2) * (M.1 162 2)) - (v2 - v2 / (M.1 162 2) * (M.1 162 2))) else 0 - ((v1 - v1 / (M.1 162 2) * (M.1 162 2)) - (v2 - v2 / (M.1 162 2) * (M.1 162 2))))), (0, .ref (G.2.2 + 162)), (1, .int v1), (2, .int v2)]) X d_Mod_between_33 (by decide) rfl rfl ?_
  refine V_iload_n (n := 1) X d_Mod_between_35 rfl rfl rfl ?_
  refine V_iconst (v := 2) X d_Mod_between_36 (by decide) rfl ?_
  refine V_icmp_ne (tgt := 45) X d_Mod_between_37 (by decide) rfl (fun c4 => ?_) (fun c4 => ?_)
  · rw [if_neg c4] at h
    refine V_sub (lv' := [(1, .int v1), (2, .int v2), (3, .int (if 0 ≤ ((v1 - v1 / (M.1 162 2) * (M.1 162 2)) - (v2 - v2 / (M.1 162 2) * (M.1 162 2))) then ((v1 - v1 / (M.1 162 2) * (M.1 162 2)) - (v2 - v2 / (M.1 162 2) * (M.1 162 2))) else 0 - ((v1 - v1 / (M.1 162 2) * (M.1 162 2)) - (v2 - v2 / (M.1 162 2) * (M.1 162 2))))), (4, .int (if 0 ≤ ((v1 / (M.1 162 2)) - (v2 / (M.1 162 2))) then ((v1 / (M.1 162 2)) - (v2 / (M.1 162 2))) else 0 - ((v1 / (M.1 162 2)) - (v2 / (M.1 162 2)))))]) [3, 4, 1, 0] rfl ?_
    exact j_Mod_between_45_ok X hD v1 v2 (if 0 ≤ ((v1 - v1 / (M.1 162 2) * (M.1 162 2)) - (v2 - v2 / (M.1 162 2) * (M.1 162 2))) then ((v1 - v1 / (M.1 162 2) * (M.1 162 2)) - (v2 - v2 / (M.1 162 2) * (M.1 162 2))) else 0 - ((v1 - v1 / (M.1 162 2) * (M.1 162 2)) - (v2 - v2 / (M.1 162 2) * (M.1 162 2)))) (if 0 ≤ ((v1 / (M.1 162 2)) - (v2 / (M.1 162 2))) then ((v1 / (M.1 162 2)) - (v2 / (M.1 162 2))) else 0 - ((v1 / (M.1 162 2)) - (v2 / (M.1 162 2)))) M _ h kr
  · rw [if_pos c4] at h
    refine V_iload (n := 0) X d_Mod_between_40 rfl rfl ?_
    refine V_if_eq (tgt := 55) X d_Mod_between_42 (by decide) rfl (fun c3 => ?_) (fun c3 => ?_)
    · rw [if_pos c3] at h
      refine V_iload_n (n := 3) X d_Mod_between_55 rfl rfl rfl ?_
      refine V_iload_n (n := 4) X d_Mod_between_56 rfl rfl rfl ?_
      refine V_iadd X d_Mod_between_57 rfl ?_
      refine V_iconst (v := 2) X d_Mod_between_58 (by decide) rfl ?_
      refine V_idiv X d_Mod_between_59 (by decide) rfl ?_
      refine V_goto (pc' := 64) X d_Mod_between_60 (by decide) ?_
      exact V_iret X (kr ((v1 + v2) / (2 : Int32)) (Option.some.inj h).symm) d_Mod_between_64
    · rw [if_neg c3] at h
      refine V_sub (lv' := [(1, .int v1), (2, .int v2), (3, .int (if 0 ≤ ((v1 - v1 / (M.1 162 2) * (M.1 162 2)) - (v2 - v2 / (M.1 162 2) * (M.1 162 2))) then ((v1 - v1 / (M.1 162 2) * (M.1 162 2)) - (v2 - v2 / (M.1 162 2) * (M.1 162 2))) else 0 - ((v1 - v1 / (M.1 162 2) * (M.1 162 2)) - (v2 - v2 / (M.1 162 2) * (M.1 162 2))))), (4, .int (if 0 ≤ ((v1 / (M.1 162 2)) - (v2 / (M.1 162 2))) then ((v1 / (M.1 162 2)) - (v2 / (M.1 162 2))) else 0 - ((v1 / (M.1 162 2)) - (v2 / (M.1 162 2)))))]) [3, 4, 1, 0] rfl ?_
      exact j_Mod_between_45_ok X hD v1 v2 (if 0 ≤ ((v1 - v1 / (M.1 162 2) * (M.1 162 2)) - (v2 - v2 / (M.1 162 2) * (M.1 162 2))) then ((v1 - v1 / (M.1 162 2) * (M.1 162 2)) - (v2 - v2 / (M.1 162 2) * (M.1 162 2))) else 0 - ((v1 - v1 / (M.1 162 2) * (M.1 162 2)) - (v2 - v2 / (M.1 162 2) * (M.1 162 2)))) (if 0 ≤ ((v1 / (M.1 162 2)) - (v2 / (M.1 162 2))) then ((v1 / (M.1 162 2)) - (v2 / (M.1 162 2))) else 0 - ((v1 / (M.1 162 2)) - (v2 / (M.1 162 2)))) M _ h kr
def f_Mod_canBridge (v1 : Int32) (v2 : Int32) (M : Mem) : Option (Int32) :=
  Option.bind (f_Mod_between v1 v2 M) fun x1 =>
  if x1 = (-1 : Int32) then
  some (0 : Int32)
  else
  Option.bind (f_Mod_isOf (1 : Int32) v1 M) fun x2 =>
  if x2 = 0 then
  some (0 : Int32)
  else
  Option.bind (f_Mod_isOf (1 : Int32) v2 M) fun x3 =>
  if x3 = 0 then
  some (0 : Int32)
  else
  Option.bind (f_Mod_isOf (1 : Int32) x1 M) fun x4 =>
  if x4 = 0 then
  some (1 : Int32)
  else
  some (0 : Int32)
theorem c_Mod_canBridge (l : Launch) (G : Gw)  (v1 : Int32) (v2 : Int32) (M : Mem) (x : Int32) (h : f_Mod_canBridge v1 v2 M = some x) (d : Nat) (hD : 4 ≤ d) : Ci l G y_Mod_canBridge b_Mod_canBridge 4 (some .boolean) d [.ref (G.2.2 + 162), .int v1, .int v2] M (fun r9 M9 => r9 = x ∧ M9 = M) := by
  refine Ci_of (by decide) (Nat.le_of_ble_eq_true rfl) (fun E hE X => ?_)
  subst hE
  have kr : ∀ x9 : Int32, x = x9 → (fun r9 M9 => r9 = x ∧ M9 = M) x9 M := fun x9 e9 => by subst e9; exact ⟨rfl, rfl⟩
  unfold f_Mod_canBridge at h
  refine V_aload_n (n := 0) X d_Mod_canBridge_0 rfl rfl rfl ?_
  refine V_iload_n (n := 1) X d_Mod_canBridge_1 rfl rfl rfl ?_
  refine V_iload_n (n := 2) X d_Mod_canBridge_2 rfl rfl rfl ?_
  obtain ⟨x1, hx1, h⟩ := ob_s h
  refine V_ci (As := [.int v1, .int v2]) X (Z0 E) ml_Mod_280 yq_Mod_between (c_Mod_between E.2.1 G v1 v2 M x1 hx1 _ (Nat.le_refl _)) kd_162 rfl rfl (by omega) rfl (Nat.le_of_ble_eq_true rfl) d_Mod_canBridge_3 rfl (fun r9 M9 hq => ?_)
  rw [hq.1, hq.2]
  refine V_istore_n (lv' := [(3, .int x1), (0, .ref (G.2.2 + 162)), (1, .int v1), (2, .int v2)]) X d_Mod_canBridge_6 rfl (by decide) rfl rfl ?_
  refine V_iload_n (n := 0) X d_Mod_canBridge_7 rfl rfl rfl ?_
  refine V_iconst (v := -1) X d_Mod_canBridge_8 (by decide) rfl ?_
  refine V_icmp_eq (tgt := 43) X d_Mod_canBridge_9 (by decide) rfl (fun c8 => ?_) (fun c8 => ?_)
  · rw [if_pos c8] at h
    refine V_iconst (v := 0) X d_Mod_canBridge_43 (by decide) rfl ?_
    exact V_zret X (kr (0 : Int32) (Option.some.inj h).symm) (by decide) d_Mod_canBridge_44
  · rw [if_neg c8] at h
    refine V_aload_n (n := 1) X d_Mod_canBridge_12 rfl rfl rfl ?_
    refine V_iconst (v := 1) X d_Mod_canBridge_13 (by decide) rfl ?_
    refine V_iload_n (n := 2) X d_Mod_canBridge_14 rfl rfl rfl ?_
    obtain ⟨x2, hx2, h⟩ := ob_s h
    refine V_ci (As := [.int (1 : Int32), .int v1]) X (Z0 E) ml_Mod_140 yq_Mod_isOf (c_Mod_isOf E.2.1 G (1 : Int32) v1 M x2 hx2 _ (Nat.le_refl _)) kd_162 rfl rfl (by omega) rfl (Nat.le_of_ble_eq_true rfl) d_Mod_canBridge_15 rfl (fun r9 M9 hq => ?_)
    rw [hq.1, hq.2]
    refine V_if_eq (tgt := 43) X d_Mod_canBridge_18 (by decide) rfl (fun c7 => ?_) (fun c7 => ?_)
    · rw [if_pos c7] at h
      refine V_iconst (v := 0) X d_Mod_canBridge_43 (by decide) rfl ?_
      exact V_zret X (kr (0 : Int32) (Option.some.inj h).symm) (by decide) d_Mod_canBridge_44
    · rw [if_neg c7] at h
      refine V_aload_n (n := 1) X d_Mod_canBridge_21 rfl rfl rfl ?_
      refine V_iconst (v := 1) X d_Mod_canBridge_22 (by decide) rfl ?_
      refine V_iload_n (n := 3) X d_Mod_canBridge_23 rfl rfl rfl ?_
      obtain ⟨x3, hx3, h⟩ := ob_s h
      refine V_ci (As := [.int (1 : Int32), .int v2]) X (Z0 E) ml_Mod_140 yq_Mod_isOf (c_Mod_isOf E.2.1 G (1 : Int32) v2 M x3 hx3 _ (Nat.le_refl _)) kd_162 rfl rfl (by omega) rfl (Nat.le_of_ble_eq_true rfl) d_Mod_canBridge_24 rfl (fun r9 M9 hq => ?_)
      rw [hq.1, hq.2]
      refine V_if_eq (tgt := 43) X d_Mod_canBridge_27 (by decide) rfl (fun c6 => ?_) (fun c6 => ?_)
      · rw [if_pos c6] at h
        refine V_iconst (v := 0) X d_Mod_canBridge_43 (by decide) rfl ?_
        exact V_zret X (kr (0 : Int32) (Option.some.inj h).symm) (by decide) d_Mod_canBridge_44
      · rw [if_neg c6] at h
        refine V_aload_n (n := 1) X d_Mod_canBridge_30 rfl rfl rfl ?_
        refine V_iconst (v := 1) X d_Mod_canBridge_31 (by decide) rfl ?_
        refine V_iload_n (n := 0) X d_Mod_canBridge_32 rfl rfl rfl ?_
        obtain ⟨x4, hx4, h⟩ := ob_s h
        refine V_ci (As := [.int (1 : Int32), .int x1]) X (Z0 E) ml_Mod_140 yq_Mod_isOf (c_Mod_isOf E.2.1 G (1 : Int32) x1 M x4 hx4 _ (Nat.le_refl _)) kd_162 rfl rfl (by omega) rfl (Nat.le_of_ble_eq_true rfl) d_Mod_canBridge_33 rfl (fun r9 M9 hq => ?_)
        rw [hq.1, hq.2]
        refine V_if_ne (tgt := 43) X d_Mod_canBridge_36 (by decide) rfl (fun c5 => ?_) (fun c5 => ?_)
        · rw [if_neg c5] at h
          refine V_iconst (v := 0) X d_Mod_canBridge_43 (by decide) rfl ?_
          exact V_zret X (kr (0 : Int32) (Option.some.inj h).symm) (by decide) d_Mod_canBridge_44
        · rw [if_pos c5] at h
          refine V_iconst (v := 1) X d_Mod_canBridge_39 (by decide) rfl ?_
          refine V_goto (pc' := 44) X d_Mod_canBridge_40 (by decide) ?_
          exact V_zret X (kr (1 : Int32) (Option.some.inj h).symm) (by decide) d_Mod_canBridge_44
def f_Mod_plankRefusal (v1 : Int32) (v2 : Int32) (M : Mem) : Option (Int32) :=
  Option.bind (f_Mod_isCell v1 M) fun x1 =>
  if x1 = 0 then
  some (-1 : Int32)
  else
  Option.bind (f_Mod_isCell v2 M) fun x2 =>
  if x2 = 0 then
  some (-1 : Int32)
  else
  Option.bind (f_Mod_canBridge v1 v2 M) fun x3 =>
  if x3 = 0 then
  some (-2 : Int32)
  else
  Option.bind (f_Mod_isPlank 163 v1 v2 M) fun x4 =>
  if x4 = 0 then
  if (M.1 163 (92 : Int32).toNatClampNeg) = (6 : Int32) then
  some (-4 : Int32)
  else
  some (0 : Int32)
  else
  some (-3 : Int32)
theorem c_Mod_plankRefusal (l : Launch) (G : Gw)  (v1 : Int32) (v2 : Int32) (M : Mem) (x : Int32) (h : f_Mod_plankRefusal v1 v2 M = some x) (d : Nat) (hD : 5 ≤ d) : Ci l G y_Mod_plankRefusal b_Mod_plankRefusal 3 (some .int) d [.ref (G.2.2 + 162), .int v1, .int v2] M (fun r9 M9 => r9 = x ∧ M9 = M) := by
  refine Ci_of (by decide) (Nat.le_of_ble_eq_true rfl) (fun E hE X => ?_)
  subst hE
  have kr : ∀ x9 : Int32, x = x9 → (fun r9 M9 => r9 = x ∧ M9 = M) x9 M := fun x9 e9 => by subst e9; exact ⟨rfl, rfl⟩
  unfold f_Mod_plankRefusal at h
  refine V_aload_n (n := 0) X d_Mod_plankRefusal_0 rfl rfl rfl ?_
  refine V_iload_n (n := 1) X d_Mod_plankRefusal_1 rfl rfl rfl ?_
  obtain ⟨x1, hx1, h⟩ := ob_s h
  refine V_ci (As := [.int v1]) X (Z0 E) ml_Mod_137 yq_Mod_isCell (c_Mod_isCell E.2.1 G v1 M x1 hx1 _ (Nat.le_refl _)) kd_162 rfl rfl (by omega) rfl (Nat.le_of_ble_eq_true rfl) d_Mod_plankRefusal_2 rfl (fun r9 M9 hq => ?_)
  rw [hq.1, hq.2]
  refine V_if_eq (tgt := 16) X d_Mod_plankRefusal_5 (by decide) rfl (fun c9 => ?_) (fun c9 => ?_)
  · rw [if_pos c9] at h
    refine V_iconst (v := -1) X d_Mod_plankRefusal_16 (by decide) rfl ?_
    exact V_iret X (kr (-1 : Int32) (Option.some.inj h).symm) d_Mod_plankRefusal_17
  · rw [if_neg c9] at h
    refine V_aload_n (n := 0) X d_Mod_plankRefusal_8 rfl rfl rfl ?_
    refine V_iload_n (n := 2) X d_Mod_plankRefusal_9 rfl rfl rfl ?_
    obtain ⟨x2, hx2, h⟩ := ob_s h
    refine V_ci (As := [.int v2]) X (Z0 E) ml_Mod_137 yq_Mod_isCell (c_Mod_isCell E.2.1 G v2 M x2 hx2 _ (Nat.le_refl _)) kd_162 rfl rfl (by omega) rfl (Nat.le_of_ble_eq_true rfl) d_Mod_plankRefusal_10 rfl (fun r9 M9 hq => ?_)
    rw [hq.1, hq.2]
    refine V_if_ne (tgt := 18) X d_Mod_plankRefusal_13 (by decide) rfl (fun c8 => ?_) (fun c8 => ?_)
    · rw [if_neg c8] at h
      refine V_aload_n (n := 0) X d_Mod_plankRefusal_18 rfl rfl rfl ?_
      refine V_iload_n (n := 1) X d_Mod_plankRefusal_19 rfl rfl rfl ?_
      refine V_iload_n (n := 2) X d_Mod_plankRefusal_20 rfl rfl rfl ?_
      obtain ⟨x3, hx3, h⟩ := ob_s h
      refine V_ci (As := [.int v1, .int v2]) X (Z0 E) ml_Mod_283 yq_Mod_canBridge (c_Mod_canBridge E.2.1 G v1 v2 M x3 hx3 _ (Nat.le_refl _)) kd_162 rfl rfl (by omega) rfl (Nat.le_of_ble_eq_true rfl) d_Mod_plankRefusal_21 rfl (fun r9 M9 hq => ?_)
      rw [hq.1, hq.2]
      refine V_if_ne (tgt := 30) X d_Mod_plankRefusal_24 (by decide) rfl (fun c7 => ?_) (fun c7 => ?_)
      · rw [if_neg c7] at h
        refine V_aload_n (n := 0) X d_Mod_plankRefusal_30 rfl rfl rfl ?_
        refine V_getr (k2 := 163) X fo_Mod_9 kd_162 rfl rf_162_0 d_Mod_plankRefusal_31 rfl ?_
        refine V_iload_n (n := 1) X d_Mod_plankRefusal_34 rfl rfl rfl ?_
        refine V_iload_n (n := 2) X d_Mod_plankRefusal_35 rfl rfl rfl ?_
        obtain ⟨x4, hx4, h⟩ := ob_s h
        refine V_si (As := [.ref (G.2.2 + 163), .int v1, .int v2]) X (Z0 E) ml_Mod_157 yq_Mod_isPlank (c_Mod_isPlank E.2.1 G 163 v1 v2 M x4 hx4 _ (Nat.le_refl _)) rfl (by omega) rfl (Nat.le_of_ble_eq_true rfl) d_Mod_plankRefusal_36 rfl (fun r9 M9 hq => ?_)
        rw [hq.1, hq.2]
        refine V_if_eq (tgt := 45) X d_Mod_plankRefusal_39 (by decide) rfl (fun c6 => ?_) (fun c6 => ?_)
        · rw [if_pos c6] at h
          refine V_aload_n (n := 0) X d_Mod_plankRefusal_45 rfl rfl rfl ?_
          refine V_getr (k2 := 163) X fo_Mod_9 kd_162 rfl rf_162_0 d_Mod_plankRefusal_46 rfl ?_
          refine V_bipush (v := 92) X d_Mod_plankRefusal_49 (by decide) rfl ?_
          refine V_iald X kd_163 (inb_in ln_163 (by decide)) d_Mod_plankRefusal_51 rfl ?_
          refine V_bipush (v := 6) X d_Mod_plankRefusal_52 (by decide) rfl ?_
          refine V_icmp_ne (tgt := 62) X d_Mod_plankRefusal_54 (by decide) rfl (fun c5 => ?_) (fun c5 => ?_)
          · rw [if_neg c5] at h
            refine V_iconst (v := 0) X d_Mod_plankRefusal_62 (by decide) rfl ?_
            exact V_iret X (kr (0 : Int32) (Option.some.inj h).symm) d_Mod_plankRefusal_63
          · rw [if_pos c5] at h
            refine V_bipush (v := -4) X d_Mod_plankRefusal_57 (by decide) rfl ?_
            refine V_goto (pc' := 63) X d_Mod_plankRefusal_59 (by decide) ?_
            exact V_iret X (kr (-4 : Int32) (Option.some.inj h).symm) d_Mod_plankRefusal_63
        · rw [if_neg c6] at h
          refine V_bipush (v := -3) X d_Mod_plankRefusal_42 (by decide) rfl ?_
          exact V_iret X (kr (-3 : Int32) (Option.some.inj h).symm) d_Mod_plankRefusal_44
      · rw [if_pos c7] at h
        refine V_bipush (v := -2) X d_Mod_plankRefusal_27 (by decide) rfl ?_
        exact V_iret X (kr (-2 : Int32) (Option.some.inj h).symm) d_Mod_plankRefusal_29
    · rw [if_pos c8] at h
      refine V_iconst (v := -1) X d_Mod_plankRefusal_16 (by decide) rfl ?_
      exact V_iret X (kr (-1 : Int32) (Option.some.inj h).symm) d_Mod_plankRefusal_17
def f_Mod_layPlank (v1 : Int32) (v2 : Int32) (M : Mem) : Option (Mem) :=
  if inb ((80 : Int32) + ((2 : Int32) * (M.1 163 (92 : Int32).toNatClampNeg))) 96 = true then
  mem_ (s_i M 163 ((80 : Int32) + ((2 : Int32) * (M.1 163 (92 : Int32).toNatClampNeg))).toNatClampNeg v1) fun M1 =>
  if inb (((80 : Int32) + ((2 : Int32) * (M.1 163 (92 : Int32).toNatClampNeg))) + (1 : Int32)) 96 = true then
  mem_ (s_i M1 163 (((80 : Int32) + ((2 : Int32) * (M.1 163 (92 : Int32).toNatClampNeg))) + (1 : Int32)).toNatClampNeg v2) fun M2 =>
  mem_ (s_i M2 163 (92 : Int32).toNatClampNeg ((M2.1 163 (92 : Int32).toNatClampNeg) + (1 : Int32))) fun M3 =>
  some M3
  else none
  else none
theorem c_Mod_layPlank (l : Launch) (G : Gw)  (v1 : Int32) (v2 : Int32) (M : Mem) (x : Mem) (h : f_Mod_layPlank v1 v2 M = some x) (d : Nat) (hD : 1 ≤ d) : Cv l G y_Mod_layPlank b_Mod_layPlank 4 none d [.ref (G.2.2 + 162), .int v1, .int v2] M (fun M9 => M9 = x) := by
  refine Cv_of (by decide) (Nat.le_of_ble_eq_true rfl) (fun E hE X => ?_)
  subst hE
  have kr : ∀ x9 : Mem, x = x9 → (fun M9 => M9 = x) x9 := fun x9 e9 => by subst e9; exact rfl
  unfold f_Mod_layPlank at h
  refine V_bipush (v := 80) X d_Mod_layPlank_0 (by decide) rfl ?_
  refine V_iconst (v := 2) X d_Mod_layPlank_2 (by decide) rfl ?_
  refine V_aload_n (n := 0) X d_Mod_layPlank_3 rfl rfl rfl ?_
  refine V_getr (k2 := 163) X fo_Mod_9 kd_162 rfl rf_162_0 d_Mod_layPlank_4 rfl ?_
  refine V_bipush (v := 92) X d_Mod_layPlank_7 (by decide) rfl ?_
  refine V_iald X kd_163 (inb_in ln_163 (by decide)) d_Mod_layPlank_9 rfl ?_
  refine V_imul X d_Mod_layPlank_10 rfl ?_
  refine V_iadd X d_Mod_layPlank_11 rfl ?_
  refine V_istore_n (lv' := [(3, .int ((80 : Int32) + ((2 : Int32) * (M.1 163 (92 : Int32).toNatClampNeg)))), (0, .ref (G.2.2 + 162)), (1, .int v1), (2, .int v2)]) X d_Mod_layPlank_12 rfl (by decide) rfl rfl ?_
  refine V_aload_n (n := 1) X d_Mod_layPlank_13 rfl rfl rfl ?_
  refine V_getr (k2 := 163) X fo_Mod_9 kd_162 rfl rf_162_0 d_Mod_layPlank_14 rfl ?_
  refine V_iload_n (n := 0) X d_Mod_layPlank_17 rfl rfl rfl ?_
  refine V_iload_n (n := 2) X d_Mod_layPlank_18 rfl rfl rfl ?_
  obtain ⟨hb, h⟩ := ifn h
  obtain ⟨M1, eM1, h⟩ := memS h
  refine V_iast X kd_163 (inb_in ln_163 hb) d_Mod_layPlank_19 rfl ?_
  rw [← eM1]
  refine V_aload_n (n := 1) X d_Mod_layPlank_20 rfl rfl rfl ?_
  refine V_getr (k2 := 163) X fo_Mod_9 kd_162 rfl rf_162_0 d_Mod_layPlank_21 rfl ?_
  refine V_iload_n (n := 0) X d_Mod_layPlank_24 rfl rfl rfl ?_
  refine V_iconst (v := 1) X d_Mod_layPlank_25 (by decide) rfl ?_
  refine V_iadd X d_Mod_layPlank_26 rfl ?_
  refine V_iload_n (n := 3) X d_Mod_layPlank_27 rfl rfl rfl ?_
  obtain ⟨hb, h⟩ := ifn h
  obtain ⟨M2, eM2, h⟩ := memS h
  refine V_iast X kd_163 (inb_in ln_163 hb) d_Mod_layPlank_28 rfl ?_
  rw [← eM2]
  refine V_aload_n (n := 1) X d_Mod_layPlank_29 rfl rfl rfl ?_
  refine V_getr (k2 := 163) X fo_Mod_9 kd_162 rfl rf_162_0 d_Mod_layPlank_30 rfl ?_
  refine V_bipush (v := 92) X d_Mod_layPlank_33 (by decide) rfl ?_
  refine V_dup2 X d_Mod_layPlank_35 rfl rfl rfl ?_
  refine V_iald X kd_163 (inb_in ln_163 (by decide)) d_Mod_layPlank_36 rfl ?_
  refine V_iconst (v := 1) X d_Mod_layPlank_37 (by decide) rfl ?_
  refine V_iadd X d_Mod_layPlank_38 rfl ?_
  obtain ⟨M3, eM3, h⟩ := memS h
  refine V_iast X kd_163 (inb_in ln_163 (by decide)) d_Mod_layPlank_39 rfl ?_
  rw [← eM3]
  exact V_vret X (kr M3 (Option.some.inj h).symm) d_Mod_layPlank_40
def lb_Mod_lay_2 (v0 : Nat) (v1 : Nat) (v2 : Int32) (s : Int32 × Mem) : Option ((Int32 × Mem) ⊕ ((Mem))) :=
  if (96 : Int32) ≤ s.1 then
  some (.inr s.2)
  else
  if inb s.1 (ln v0) = true then
  if inb (v2 + s.1) (ln v1) = true then
  mem_ (s_i s.2 v1 (v2 + s.1).toNatClampNeg (s.2.1 v0 s.1.toNatClampNeg)) fun M1 =>
  some (.inl ((s.1 + (1 : Int32)), M1))
  else none
  else none
theorem lb_Mod_lay_2_ok {E : Ev} {G : Gw} {d : Nat} {post : Mem → Prop} (X : Cx E G b_Mod_lay "WomenByTheRoofsModel" 4 d none) (hD : 1 ≤ d)  (v0 : Nat) (v1 : Nat) (v2 : Int32) (hk_v0 : kd v0 = 1) (hk_v1 : kd v1 = 1)  (s : Int32 × Mem) (o : (Int32 × Mem) ⊕ ((Mem))) (h : lb_Mod_lay_2 v0 v1 v2 s = some o) (kc : ∀ s9 : Int32 × Mem, o = .inl s9 → V E (0, 0) G 4 (QV E G post) s9.2 2 [(0, .ref (G.2.2 + v0)), (1, .ref (G.2.2 + v1)), (2, .int v2), (3, .int s9.1)] []) (kx0 : ∀ x9 : Mem, o = .inr x9 → V E (0, 0) G 4 (QV E G post) x9 22 [] []) : V E (0, 0) G 4 (QV E G post) s.2 2 [(0, .ref (G.2.2 + v0)), (1, .ref (G.2.2 + v1)), (2, .int v2), (3, .int s.1)] [] := by
  unfold lb_Mod_lay_2 at h
  refine V_iload_n (n := 3) X d_Mod_lay_2 rfl rfl rfl ?_
  refine V_bipush (v := 96) X d_Mod_lay_3 (by decide) rfl ?_
  refine V_icmp_ge (tgt := 22) X d_Mod_lay_5 (by decide) rfl (fun c2 => ?_) (fun c2 => ?_)
  · rw [if_pos c2] at h
    refine V_sub (lv' := []) [] rfl ?_
    exact kx0 s.2 (Option.some.inj h).symm
  · rw [if_neg c2] at h
    refine V_aload_n (n := 1) X d_Mod_lay_8 rfl rfl rfl ?_
    refine V_iload_n (n := 2) X d_Mod_lay_9 rfl rfl rfl ?_
    refine V_iload_n (n := 3) X d_Mod_lay_10 rfl rfl rfl ?_
    refine V_iadd X d_Mod_lay_11 rfl ?_
    refine V_aload_n (n := 0) X d_Mod_lay_12 rfl rfl rfl ?_
    refine V_iload_n (n := 3) X d_Mod_lay_13 rfl rfl rfl ?_
    obtain ⟨hb, h⟩ := ifn h
    refine V_iald X hk_v0 (inb_in rfl hb) d_Mod_lay_14 rfl ?_
    obtain ⟨hb, h⟩ := ifn h
    obtain ⟨M1, eM1, h⟩ := memS h
    refine V_iast X hk_v1 (inb_in rfl hb) d_Mod_lay_15 rfl ?_
    rw [← eM1]
    refine V_iinc (n := 3) (v := (s.1 + (1 : Int32))) (lv' := [(3, .int (s.1 + (1 : Int32))), (0, .ref (G.2.2 + v0)), (1, .ref (G.2.2 + v1)), (2, .int v2)]) X d_Mod_lay_16 rfl rfl (by decide) rfl rfl ?_
    refine V_goto (pc' := 2) X d_Mod_lay_19 (by decide) ?_
    refine V_sub (lv' := [(0, .ref (G.2.2 + v0)), (1, .ref (G.2.2 + v1)), (2, .int v2), (3, .int (s.1 + (1 : Int32)))]) [1, 2, 3, 0] rfl ?_
    exact kc ((s.1 + (1 : Int32)), M1) (Option.some.inj h).symm
theorem lp_Mod_lay_2_ok {E : Ev} {G : Gw} {d : Nat} {post : Mem → Prop} (X : Cx E G b_Mod_lay "WomenByTheRoofsModel" 4 d none) (hD : 1 ≤ d)  (v0 : Nat) (v1 : Nat) (v2 : Int32) (hk_v0 : kd v0 = 1) (hk_v1 : kd v1 = 1)  (n9 : Nat) (s : Int32 × Mem) (x : (Mem)) (h : iter (lb_Mod_lay_2 v0 v1 v2) n9 s = some x) (kx0 : ∀ x9 : Mem, x = x9 → V E (0, 0) G 4 (QV E G post) x9 22 [] []) : V E (0, 0) G 4 (QV E G post) s.2 2 [(0, .ref (G.2.2 + v0)), (1, .ref (G.2.2 + v1)), (2, .int v2), (3, .int s.1)] [] :=
  iter_P (P := fun s : Int32 × Mem => V E (0, 0) G 4 (QV E G post) s.2 2 [(0, .ref (G.2.2 + v0)), (1, .ref (G.2.2 + v1)), (2, .int v2), (3, .int s.1)] []) (fun s o hb kc ky => lb_Mod_lay_2_ok X hD v0 v1 v2 hk_v0 hk_v1 s o hb kc (fun x9 e9 => kx0 x9 (ky _ e9).symm)) n9 s h
def f_Mod_lay (v0 : Nat) (v1 : Nat) (v2 : Int32) (M : Mem) : Option (Mem) :=
  if kd v0 = 1 then
  if kd v1 = 1 then
  Option.bind (iter (lb_Mod_lay_2 v0 v1 v2) FU ((0 : Int32), M)) fun x3 =>
  some x3
  else none
  else none
theorem c_Mod_lay (l : Launch) (G : Gw)  (v0 : Nat) (v1 : Nat) (v2 : Int32) (M : Mem) (x : Mem) (h : f_Mod_lay v0 v1 v2 M = some x) (d : Nat) (hD : 1 ≤ d) : Cv l G y_Mod_lay b_Mod_lay 4 none d [.ref (G.2.2 + v0), .ref (G.2.2 + v1), .int v2] M (fun M9 => M9 = x) := by
  refine Cv_of (by decide) (Nat.le_of_ble_eq_true rfl) (fun E hE X => ?_)
  subst hE
  have kr : ∀ x9 : Mem, x = x9 → (fun M9 => M9 = x) x9 := fun x9 e9 => by subst e9; exact rfl
  unfold f_Mod_lay at h
  obtain ⟨hk_v0, h⟩ := ifn h
  obtain ⟨hk_v1, h⟩ := ifn h
  refine V_iconst (v := 0) X d_Mod_lay_0 (by decide) rfl ?_
  refine V_istore_n (lv' := [(3, .int (0 : Int32)), (0, .ref (G.2.2 + v0)), (1, .ref (G.2.2 + v1)), (2, .int v2)]) X d_Mod_lay_1 rfl (by decide) rfl rfl ?_
  refine V_sub (lv' := [(0, .ref (G.2.2 + v0)), (1, .ref (G.2.2 + v1)), (2, .int v2), (3, .int (0 : Int32))]) [1, 2, 3, 0] rfl ?_
  obtain ⟨x3, hx3, h⟩ := ob_s h
  refine lp_Mod_lay_2_ok X hD v0 v1 v2 hk_v0 hk_v1 _ _ _ hx3 (fun x9 e9 => ?_)
  subst e9
  exact V_vret X (kr x3 (Option.some.inj h).symm) d_Mod_lay_22
def j_Mod_remember_49 (v1 : Nat) (M : Mem) : Option (Mem) :=
  Option.bind (f_Mod_lay v1 173 ((96 : Int32) * (M.1 162 27)) M) fun x1 =>
  mem_ (s_i x1 162 27 ((x1.1 162 27) + (1 : Int32))) fun M2 =>
  some M2
theorem j_Mod_remember_49_ok {E : Ev} {G : Gw} {d : Nat} {post : Mem → Prop} (X : Cx E G b_Mod_remember "WomenByTheRoofsModel" 3 d none) (hD : 2 ≤ d)  (v1 : Nat) (hk_v1 : kd v1 = 1)  (M : Mem)  (o : Mem) (h : j_Mod_remember_49 v1 M = some o) (kr : ∀ x9 : Mem, o = x9 → post x9) : V E (0, 0) G 3 (QV E G post) M 49 [(0, .ref (G.2.2 + 162)), (1, .ref (G.2.2 + v1))] [] := by
  unfold j_Mod_remember_49 at h
  refine V_aload_n (n := 1) X d_Mod_remember_49 rfl rfl rfl ?_
  refine V_aload_n (n := 0) X d_Mod_remember_50 rfl rfl rfl ?_
  refine V_getr (k2 := 173) X fo_Mod_51 kd_162 rfl rf_162_26 d_Mod_remember_51 rfl ?_
  refine V_bipush (v := 96) X d_Mod_remember_54 (by decide) rfl ?_
  refine V_aload_n (n := 0) X d_Mod_remember_56 rfl rfl rfl ?_
  refine V_geti X fo_Mod_201 kd_162 rfl d_Mod_remember_57 rfl ?_
  refine V_imul X d_Mod_remember_60 rfl ?_
  obtain ⟨x1, hx1, h⟩ := ob_s h
  refine V_sv (As := [.ref (G.2.2 + v1), .ref (G.2.2 + 173), .int ((96 : Int32) * (M.1 162 27))]) X (Z0 E) ml_Mod_286 yq_Mod_lay (c_Mod_lay E.2.1 G v1 173 ((96 : Int32) * (M.1 162 27)) M x1 hx1 _ (Nat.le_refl _)) rfl (by omega) rfl (Nat.le_of_ble_eq_true rfl) d_Mod_remember_61 rfl (fun M9 hq => ?_)
  rw [hq]
  refine V_aload_n (n := 0) X d_Mod_remember_64 rfl rfl rfl ?_
  refine V_dup X d_Mod_remember_65 rfl rfl ?_
  refine V_geti X fo_Mod_201 kd_162 rfl d_Mod_remember_66 rfl ?_
  refine V_iconst (v := 1) X d_Mod_remember_69 (by decide) rfl ?_
  refine V_iadd X d_Mod_remember_70 rfl ?_
  obtain ⟨M2, eM2, h⟩ := memS h
  refine V_putI X fp_Mod_201 kd_162 rfl d_Mod_remember_71 rfl ?_
  rw [← eM2]
  exact V_vret X (kr M2 (Option.some.inj h).symm) d_Mod_remember_74
def lb_Mod_remember_11 (v1 : Nat) (s : Int32 × Mem) : Option ((Int32 × Mem) ⊕ ((Mem))) :=
  if (1056 : Int32) ≤ s.1 then
  some (.inr s.2)
  else
  if inb (s.1 + (96 : Int32)) 1152 = true then
  if inb s.1 1152 = true then
  mem_ (s_i s.2 173 s.1.toNatClampNeg (s.2.1 173 (s.1 + (96 : Int32)).toNatClampNeg)) fun M3 =>
  some (.inl ((s.1 + (1 : Int32)), M3))
  else none
  else none
theorem lb_Mod_remember_11_ok {E : Ev} {G : Gw} {d : Nat} {post : Mem → Prop} (X : Cx E G b_Mod_remember "WomenByTheRoofsModel" 3 d none) (hD : 2 ≤ d)  (v1 : Nat) (hk_v1 : kd v1 = 1)  (s : Int32 × Mem) (o : (Int32 × Mem) ⊕ ((Mem))) (h : lb_Mod_remember_11 v1 s = some o) (kc : ∀ s9 : Int32 × Mem, o = .inl s9 → V E (0, 0) G 3 (QV E G post) s9.2 11 [(0, .ref (G.2.2 + 162)), (1, .ref (G.2.2 + v1)), (2, .int s9.1)] []) (kx0 : ∀ x9 : Mem, o = .inr x9 → V E (0, 0) G 3 (QV E G post) x9 39 [(0, .ref (G.2.2 + 162)), (1, .ref (G.2.2 + v1))] []) : V E (0, 0) G 3 (QV E G post) s.2 11 [(0, .ref (G.2.2 + 162)), (1, .ref (G.2.2 + v1)), (2, .int s.1)] [] := by
  unfold lb_Mod_remember_11 at h
  refine V_iload_n (n := 2) X d_Mod_remember_11 rfl rfl rfl ?_
  refine V_sipush (v := 1056) X d_Mod_remember_12 (by decide) rfl ?_
  refine V_icmp_ge (tgt := 39) X d_Mod_remember_15 (by decide) rfl (fun c4 => ?_) (fun c4 => ?_)
  · rw [if_pos c4] at h
    refine V_sub (lv' := [(0, .ref (G.2.2 + 162)), (1, .ref (G.2.2 + v1))]) [0, 1] rfl ?_
    exact kx0 s.2 (Option.some.inj h).symm
  · rw [if_neg c4] at h
    refine V_aload_n (n := 0) X d_Mod_remember_18 rfl rfl rfl ?_
    refine V_getr (k2 := 173) X fo_Mod_51 kd_162 rfl rf_162_26 d_Mod_remember_19 rfl ?_
    refine V_iload_n (n := 2) X d_Mod_remember_22 rfl rfl rfl ?_
    refine V_aload_n (n := 0) X d_Mod_remember_23 rfl rfl rfl ?_
    refine V_getr (k2 := 173) X fo_Mod_51 kd_162 rfl rf_162_26 d_Mod_remember_24 rfl ?_
    refine V_iload_n (n := 2) X d_Mod_remember_27 rfl rfl rfl ?_
    refine V_bipush (v := 96) X d_Mod_remember_28 (by decide) rfl ?_
    refine V_iadd X d_Mod_remember_30 rfl ?_
    obtain ⟨hb, h⟩ := ifn h
    refine V_iald X kd_173 (inb_in ln_173 hb) d_Mod_remember_31 rfl ?_
    obtain ⟨hb, h⟩ := ifn h
    obtain ⟨M3, eM3, h⟩ := memS h
    refine V_iast X kd_173 (inb_in ln_173 hb) d_Mod_remember_32 rfl ?_
    rw [← eM3]
    refine V_iinc (n := 2) (v := (s.1 + (1 : Int32))) (lv' := [(2, .int (s.1 + (1 : Int32))), (0, .ref (G.2.2 + 162)), (1, .ref (G.2.2 + v1))]) X d_Mod_remember_33 rfl rfl (by decide) rfl rfl ?_
    refine V_goto (pc' := 11) X d_Mod_remember_36 (by decide) ?_
    refine V_sub (lv' := [(0, .ref (G.2.2 + 162)), (1, .ref (G.2.2 + v1)), (2, .int (s.1 + (1 : Int32)))]) [1, 2, 0] rfl ?_
    exact kc ((s.1 + (1 : Int32)), M3) (Option.some.inj h).symm
theorem lp_Mod_remember_11_ok {E : Ev} {G : Gw} {d : Nat} {post : Mem → Prop} (X : Cx E G b_Mod_remember "WomenByTheRoofsModel" 3 d none) (hD : 2 ≤ d)  (v1 : Nat) (hk_v1 : kd v1 = 1)  (n9 : Nat) (s : Int32 × Mem) (x : (Mem)) (h : iter (lb_Mod_remember_11 v1) n9 s = some x) (kx0 : ∀ x9 : Mem, x = x9 → V E (0, 0) G 3 (QV E G post) x9 39 [(0, .ref (G.2.2 + 162)), (1, .ref (G.2.2 + v1))] []) : V E (0, 0) G 3 (QV E G post) s.2 11 [(0, .ref (G.2.2 + 162)), (1, .ref (G.2.2 + v1)), (2, .int s.1)] [] :=
  iter_P (P := fun s : Int32 × Mem => V E (0, 0) G 3 (QV E G post) s.2 11 [(0, .ref (G.2.2 + 162)), (1, .ref (G.2.2 + v1)), (2, .int s.1)] []) (fun s o hb kc ky => lb_Mod_remember_11_ok X hD v1 hk_v1 s o hb kc (fun x9 e9 => kx0 x9 (ky _ e9).symm)) n9 s h
def f_Mod_remember (v1 : Nat) (M : Mem) : Option (Mem) :=
  if kd v1 = 1 then
  if (M.1 162 27) = (12 : Int32) then
  Option.bind (iter (lb_Mod_remember_11 v1) FU ((0 : Int32), M)) fun x5 =>
  mem_ (s_i x5 162 27 ((x5.1 162 27) - (1 : Int32))) fun M6 =>
  j_Mod_remember_49 v1 M6
  else
  j_Mod_remember_49 v1 M
  else none
theorem c_Mod_remember (l : Launch) (G : Gw)  (v1 : Nat) (M : Mem) (x : Mem) (h : f_Mod_remember v1 M = some x) (d : Nat) (hD : 2 ≤ d) : Cv l G y_Mod_remember b_Mod_remember 3 none d [.ref (G.2.2 + 162), .ref (G.2.2 + v1)] M (fun M9 => M9 = x) := by
  refine Cv_of (by decide) (Nat.le_of_ble_eq_true rfl) (fun E hE X => ?_)
  subst hE
  have kr : ∀ x9 : Mem, x = x9 → (fun M9 => M9 = x) x9 := fun x9 e9 => by subst e9; exact rfl
  unfold f_Mod_remember at h
  obtain ⟨hk_v1, h⟩ := ifn h
  refine V_aload_n (n := 0) X d_Mod_remember_0 rfl rfl rfl ?_
  refine V_geti X fo_Mod_201 kd_162 rfl d_Mod_remember_1 rfl ?_
  refine V_bipush (v := 12) X d_Mod_remember_4 (by decide) rfl ?_
  refine V_icmp_ne (tgt := 49) X d_Mod_remember_6 (by decide) rfl (fun c7 => ?_) (fun c7 => ?_)
  · rw [if_neg c7] at h
    exact j_Mod_remember_49_ok X hD v1 hk_v1 M _ h kr
  · rw [if_pos c7] at h
    refine V_iconst (v := 0) X d_Mod_remember_9 (by decide) rfl ?_
    refine V_istore_n (lv' := [(2, .int (0 : Int32)), (0, .ref (G.2.2 + 162)), (1, .ref (G.2.2 + v1))]) X d_Mod_remember_10 rfl (by decide) rfl rfl ?_
    refine V_sub (lv' := [(0, .ref (G.2.2 + 162)), (1, .ref (G.2.2 + v1)), (2, .int (0 : Int32))]) [1, 2, 0] rfl ?_
    obtain ⟨x5, hx5, h⟩ := ob_s h
    refine lp_Mod_remember_11_ok X hD v1 hk_v1 _ _ _ hx5 (fun x9 e9 => ?_)
    subst e9
    refine V_aload_n (n := 0) X d_Mod_remember_39 rfl rfl rfl ?_
    refine V_dup X d_Mod_remember_40 rfl rfl ?_
    refine V_geti X fo_Mod_201 kd_162 rfl d_Mod_remember_41 rfl ?_
    refine V_iconst (v := 1) X d_Mod_remember_44 (by decide) rfl ?_
    refine V_isub X d_Mod_remember_45 rfl ?_
    obtain ⟨M6, eM6, h⟩ := memS h
    refine V_putI X fp_Mod_201 kd_162 rfl d_Mod_remember_46 rfl ?_
    rw [← eM6]
    exact j_Mod_remember_49_ok X hD v1 hk_v1 M6 _ h kr
def f_Mod_plank (v1 : Int32) (v2 : Int32) (M : Mem) : Option (Int32 × Mem) :=
  mem_ (s_i M 162 13 (0 : Int32)) fun M1 =>
  Option.bind (f_Mod_plankRefusal v1 v2 M1) fun x2 =>
  if 0 ≤ x2 then
  Option.bind (f_Mod_remember 163 M1) fun x3 =>
  Option.bind (f_Mod_layPlank v1 v2 x3) fun x4 =>
  some (((x4.1 163 (92 : Int32).toNatClampNeg) - (1 : Int32)), x4)
  else
  some (x2, M1)
theorem c_Mod_plank (l : Launch) (G : Gw)  (v1 : Int32) (v2 : Int32) (M : Mem) (x : Int32 × Mem) (h : f_Mod_plank v1 v2 M = some x) (d : Nat) (hD : 6 ≤ d) : Ci l G y_Mod_plank b_Mod_plank 4 (some .int) d [.ref (G.2.2 + 162), .int v1, .int v2] M (fun r9 M9 => r9 = x.1 ∧ M9 = x.2) := by
  refine Ci_of (by decide) (Nat.le_of_ble_eq_true rfl) (fun E hE X => ?_)
  subst hE
  have kr : ∀ x9 : Int32 × Mem, x = x9 → (fun r9 M9 => r9 = x.1 ∧ M9 = x.2) x9.1 x9.2 := fun x9 e9 => by subst e9; exact ⟨rfl, rfl⟩
  unfold f_Mod_plank at h
  refine V_aload_n (n := 0) X d_Mod_plank_0 rfl rfl rfl ?_
  refine V_iconst (v := 0) X d_Mod_plank_1 (by decide) rfl ?_
  obtain ⟨M1, eM1, h⟩ := memS h
  refine V_putI X fp_Mod_109 kd_162 rfl d_Mod_plank_2 rfl ?_
  rw [← eM1]
  refine V_aload_n (n := 0) X d_Mod_plank_5 rfl rfl rfl ?_
  refine V_iload_n (n := 1) X d_Mod_plank_6 rfl rfl rfl ?_
  refine V_iload_n (n := 2) X d_Mod_plank_7 rfl rfl rfl ?_
  obtain ⟨x2, hx2, h⟩ := ob_s h
  refine V_ci (As := [.int v1, .int v2]) X (Z0 E) ml_Mod_290 yq_Mod_plankRefusal (c_Mod_plankRefusal E.2.1 G v1 v2 M1 x2 hx2 _ (Nat.le_refl _)) kd_162 rfl rfl (by omega) rfl (Nat.le_of_ble_eq_true rfl) d_Mod_plank_8 rfl (fun r9 M9 hq => ?_)
  rw [hq.1, hq.2]
  refine V_istore_n (lv' := [(3, .int x2), (0, .ref (G.2.2 + 162)), (1, .int v1), (2, .int v2)]) X d_Mod_plank_11 rfl (by decide) rfl rfl ?_
  refine V_iload_n (n := 0) X d_Mod_plank_12 rfl rfl rfl ?_
  refine V_if_ge (tgt := 18) X d_Mod_plank_13 (by decide) rfl (fun c5 => ?_) (fun c5 => ?_)
  · rw [if_pos c5] at h
    refine V_aload_n (n := 1) X d_Mod_plank_18 rfl rfl rfl ?_
    refine V_aload_n (n := 1) X d_Mod_plank_19 rfl rfl rfl ?_
    refine V_getr (k2 := 163) X fo_Mod_9 kd_162 rfl rf_162_0 d_Mod_plank_20 rfl ?_
    obtain ⟨x3, hx3, h⟩ := ob_s h
    refine V_cv (As := [.ref (G.2.2 + 163)]) X (Z0 E) ml_Mod_293 yq_Mod_remember (c_Mod_remember E.2.1 G 163 M1 x3 hx3 _ (Nat.le_refl _)) kd_162 rfl rfl (by omega) rfl (Nat.le_of_ble_eq_true rfl) d_Mod_plank_23 rfl (fun M9 hq => ?_)
    rw [hq]
    refine V_aload_n (n := 1) X d_Mod_plank_26 rfl rfl rfl ?_
    refine V_iload_n (n := 2) X d_Mod_plank_27 rfl rfl rfl ?_
    refine V_iload_n (n := 3) X d_Mod_plank_28 rfl rfl rfl ?_
    obtain ⟨x4, hx4, h⟩ := ob_s h
    refine V_cv (As := [.int v1, .int v2]) X (Z0 E) ml_Mod_297 yq_Mod_layPlank (c_Mod_layPlank E.2.1 G v1 v2 x3 x4 hx4 _ (Nat.le_refl _)) kd_162 rfl rfl (by omega) rfl (Nat.le_of_ble_eq_true rfl) d_Mod_plank_29 rfl (fun M9 hq => ?_)
    rw [hq]
    refine V_aload_n (n := 1) X d_Mod_plank_32 rfl rfl rfl ?_
    refine V_getr (k2 := 163) X fo_Mod_9 kd_162 rfl rf_162_0 d_Mod_plank_33 rfl ?_
    refine V_bipush (v := 92) X d_Mod_plank_36 (by decide) rfl ?_
    refine V_iald X kd_163 (inb_in ln_163 (by decide)) d_Mod_plank_38 rfl ?_
    refine V_iconst (v := 1) X d_Mod_plank_39 (by decide) rfl ?_
    refine V_isub X d_Mod_plank_40 rfl ?_
    exact V_iret X (kr (((x4.1 163 (92 : Int32).toNatClampNeg) - (1 : Int32)), x4) (Option.some.inj h).symm) d_Mod_plank_41
  · rw [if_neg c5] at h
    refine V_iload_n (n := 0) X d_Mod_plank_16 rfl rfl rfl ?_
    exact V_iret X (kr (x2, M1) (Option.some.inj h).symm) d_Mod_plank_17
def f_Mod_take (M : Mem) : Option (Int32 × Mem) :=
  mem_ (s_i M 162 13 (0 : Int32)) fun M1 =>
  if (M1.1 163 (92 : Int32).toNatClampNeg) = 0 then
  some ((-1 : Int32), M1)
  else
  Option.bind (f_Mod_remember 163 M1) fun x2 =>
  mem_ (s_i x2 163 (92 : Int32).toNatClampNeg ((x2.1 163 (92 : Int32).toNatClampNeg) - (1 : Int32))) fun M3 =>
  some ((M3.1 163 (92 : Int32).toNatClampNeg), M3)
theorem c_Mod_take (l : Launch) (G : Gw)   (M : Mem) (x : Int32 × Mem) (h : f_Mod_take M = some x) (d : Nat) (hD : 3 ≤ d) : Ci l G y_Mod_take b_Mod_take 1 (some .int) d [.ref (G.2.2 + 162)] M (fun r9 M9 => r9 = x.1 ∧ M9 = x.2) := by
  refine Ci_of (by decide) (Nat.le_of_ble_eq_true rfl) (fun E hE X => ?_)
  subst hE
  have kr : ∀ x9 : Int32 × Mem, x = x9 → (fun r9 M9 => r9 = x.1 ∧ M9 = x.2) x9.1 x9.2 := fun x9 e9 => by subst e9; exact ⟨rfl, rfl⟩
  unfold f_Mod_take at h
  refine V_aload_n (n := 0) X d_Mod_take_0 rfl rfl rfl ?_
  refine V_iconst (v := 0) X d_Mod_take_1 (by decide) rfl ?_
  obtain ⟨M1, eM1, h⟩ := memS h
  refine V_putI X fp_Mod_109 kd_162 rfl d_Mod_take_2 rfl ?_
  rw [← eM1]
  refine V_aload_n (n := 0) X d_Mod_take_5 rfl rfl rfl ?_
  refine V_getr (k2 := 163) X fo_Mod_9 kd_162 rfl rf_162_0 d_Mod_take_6 rfl ?_
  refine V_bipush (v := 92) X d_Mod_take_9 (by decide) rfl ?_
  refine V_iald X kd_163 (inb_in ln_163 (by decide)) d_Mod_take_11 rfl ?_
  refine V_if_ne (tgt := 17) X d_Mod_take_12 (by decide) rfl (fun c4 => ?_) (fun c4 => ?_)
  · rw [if_neg c4] at h
    refine V_aload_n (n := 0) X d_Mod_take_17 rfl rfl rfl ?_
    refine V_aload_n (n := 0) X d_Mod_take_18 rfl rfl rfl ?_
    refine V_getr (k2 := 163) X fo_Mod_9 kd_162 rfl rf_162_0 d_Mod_take_19 rfl ?_
    obtain ⟨x2, hx2, h⟩ := ob_s h
    refine V_cv (As := [.ref (G.2.2 + 163)]) X (Z0 E) ml_Mod_293 yq_Mod_remember (c_Mod_remember E.2.1 G 163 M1 x2 hx2 _ (Nat.le_refl _)) kd_162 rfl rfl (by omega) rfl (Nat.le_of_ble_eq_true rfl) d_Mod_take_22 rfl (fun M9 hq => ?_)
    rw [hq]
    refine V_aload_n (n := 0) X d_Mod_take_25 rfl rfl rfl ?_
    refine V_getr (k2 := 163) X fo_Mod_9 kd_162 rfl rf_162_0 d_Mod_take_26 rfl ?_
    refine V_bipush (v := 92) X d_Mod_take_29 (by decide) rfl ?_
    refine V_dup2 X d_Mod_take_31 rfl rfl rfl ?_
    refine V_iald X kd_163 (inb_in ln_163 (by decide)) d_Mod_take_32 rfl ?_
    refine V_iconst (v := 1) X d_Mod_take_33 (by decide) rfl ?_
    refine V_isub X d_Mod_take_34 rfl ?_
    obtain ⟨M3, eM3, h⟩ := memS h
    refine V_iast X kd_163 (inb_in ln_163 (by decide)) d_Mod_take_35 rfl ?_
    rw [← eM3]
    refine V_aload_n (n := 0) X d_Mod_take_36 rfl rfl rfl ?_
    refine V_getr (k2 := 163) X fo_Mod_9 kd_162 rfl rf_162_0 d_Mod_take_37 rfl ?_
    refine V_bipush (v := 92) X d_Mod_take_40 (by decide) rfl ?_
    refine V_iald X kd_163 (inb_in ln_163 (by decide)) d_Mod_take_42 rfl ?_
    exact V_iret X (kr ((M3.1 163 (92 : Int32).toNatClampNeg), M3) (Option.some.inj h).symm) d_Mod_take_43
  · rw [if_pos c4] at h
    refine V_iconst (v := -1) X d_Mod_take_15 (by decide) rfl ?_
    exact V_iret X (kr ((-1 : Int32), M1) (Option.some.inj h).symm) d_Mod_take_16
def j_Mod_sheet_119_43 (v1 : Int32) (v2 : Int32) (v4 : Int32) (v5 : Int32) (v6 : Int32) (v7 : Int32) (w0 : Int32) (w1 : Int32) (M : Mem) : Option ((Int32 × Int32 × Int32 × Mem) ⊕ ((Int32 × Mem))) :=
  if inb w1 96 = true then
  mem_ (s_i M 163 w1.toNatClampNeg w0) fun M3 =>
  if inb ((8 : Int32) + v7) 96 = true then
  some (.inl ((v5 + (M3.1 163 ((8 : Int32) + v7).toNatClampNeg)), (v6 + v4), (v7 + (1 : Int32)), M3))
  else none
  else none
theorem j_Mod_sheet_119_43_ok {E : Ev} {G : Gw} {d : Nat} {post : Int32 → Mem → Prop} (X : Cx E G b_Mod_sheet "WomenByTheRoofsModel" 9 d (some .int)) (hD : 2 ≤ d)  (v1 : Int32) (v2 : Int32) (v4 : Int32) (v5 : Int32) (v6 : Int32) (v7 : Int32) (w0 : Int32) (w1 : Int32)  (M : Mem)  (o : (Int32 × Int32 × Int32 × Mem) ⊕ ((Int32 × Mem))) (h : j_Mod_sheet_119_43 v1 v2 v4 v5 v6 v7 w0 w1 M = some o) (kc : ∀ s9 : Int32 × Int32 × Int32 × Mem, o = .inl s9 → V E (0, 0) G 9 (QI E G post) s9.2.2.2 43 [(0, .ref (G.2.2 + 162)), (1, .int v1), (2, .int v2), (4, .int v4), (5, .int s9.1), (6, .int s9.2.1), (7, .int s9.2.2.1)] []) (kx0 : ∀ x9 : Int32 × Mem, o = .inr x9 → V E (0, 0) G 9 (QI E G post) x9.2 148 [(1, .int v1), (5, .int x9.1)] []) : V E (0, 0) G 9 (QI E G post) M 119 [(0, .ref (G.2.2 + 162)), (1, .int v1), (2, .int v2), (4, .int v4), (5, .int v5), (6, .int v6), (7, .int v7)] [.int w0, .int w1, .ref (G.2.2 + 163)] := by
  unfold j_Mod_sheet_119_43 at h
  obtain ⟨hb, h⟩ := ifn h
  obtain ⟨M3, eM3, h⟩ := memS h
  refine V_iast X kd_163 (inb_in ln_163 hb) d_Mod_sheet_119 rfl ?_
  rw [← eM3]
  refine V_iload (n := 4) X d_Mod_sheet_120 rfl rfl ?_
  refine V_aload_n (n := 0) X d_Mod_sheet_122 rfl rfl rfl ?_
  refine V_getr (k2 := 163) X fo_Mod_9 kd_162 rfl rf_162_0 d_Mod_sheet_123 rfl ?_
  refine V_bipush (v := 8) X d_Mod_sheet_126 (by decide) rfl ?_
  refine V_iload (n := 6) X d_Mod_sheet_128 rfl rfl ?_
  refine V_iadd X d_Mod_sheet_130 rfl ?_
  obtain ⟨hb, h⟩ := ifn h
  refine V_iald X kd_163 (inb_in ln_163 hb) d_Mod_sheet_131 rfl ?_
  refine V_iadd X d_Mod_sheet_132 rfl ?_
  refine V_istore (lv' := [(5, .int (v5 + (M3.1 163 ((8 : Int32) + v7).toNatClampNeg))), (0, .ref (G.2.2 + 162)), (1, .int v1), (2, .int v2), (4, .int v4), (6, .int v6), (7, .int v7)]) X d_Mod_sheet_133 (by decide) rfl rfl ?_
  refine V_iload (n := 5) X d_Mod_sheet_135 rfl rfl ?_
  refine V_iload (n := 4) X d_Mod_sheet_137 rfl rfl ?_
  refine V_iadd X d_Mod_sheet_139 rfl ?_
  refine V_istore (lv' := [(6, .int (v6 + v4)), (5, .int (v5 + (M3.1 163 ((8 : Int32) + v7).toNatClampNeg))), (0, .ref (G.2.2 + 162)), (1, .int v1), (2, .int v2), (4, .int v4), (7, .int v7)]) X d_Mod_sheet_140 (by decide) rfl rfl ?_
  refine V_iinc (n := 6) (v := (v7 + (1 : Int32))) (lv' := [(7, .int (v7 + (1 : Int32))), (6, .int (v6 + v4)), (5, .int (v5 + (M3.1 163 ((8 : Int32) + v7).toNatClampNeg))), (0, .ref (G.2.2 + 162)), (1, .int v1), (2, .int v2), (4, .int v4)]) X d_Mod_sheet_142 rfl rfl (by decide) rfl rfl ?_
  refine V_goto (pc' := 43) X d_Mod_sheet_145 (by decide) ?_
  refine V_sub (lv' := [(0, .ref (G.2.2 + 162)), (1, .int v1), (2, .int v2), (4, .int v4), (5, .int (v5 + (M3.1 163 ((8 : Int32) + v7).toNatClampNeg))), (6, .int (v6 + v4)), (7, .int (v7 + (1 : Int32)))]) [3, 4, 5, 6, 2, 1, 0] rfl ?_
  exact kc ((v5 + (M3.1 163 ((8 : Int32) + v7).toNatClampNeg)), (v6 + v4), (v7 + (1 : Int32)), M3) (Option.some.inj h).symm
def j_Mod_sheet_75_43 (v1 : Int32) (v2 : Int32) (v4 : Int32) (v5 : Int32) (v6 : Int32) (v7 : Int32) (w0 : Int32) (M : Mem) : Option ((Int32 × Int32 × Int32 × Mem) ⊕ ((Int32 × Mem))) :=
  if v1 = (3 : Int32) then
  j_Mod_sheet_119_43 v1 v2 v4 v5 v6 v7 (0 : Int32) ((8 : Int32) + v7) M
  else
  if v7 < v2 then
  if inb v7 8 = true then
  j_Mod_sheet_119_43 v1 v2 v4 v5 v6 v7 (if (0 : Int32) < (if w0 < ((M.1 166 v7.toNatClampNeg) - (1 : Int32)) then w0 else ((M.1 166 v7.toNatClampNeg) - (1 : Int32))) then (if w0 < ((M.1 166 v7.toNatClampNeg) - (1 : Int32)) then w0 else ((M.1 166 v7.toNatClampNeg) - (1 : Int32))) else (0 : Int32)) ((8 : Int32) + v7) M
  else none
  else
  j_Mod_sheet_119_43 v1 v2 v4 v5 v6 v7 (0 : Int32) ((8 : Int32) + v7) M
theorem j_Mod_sheet_75_43_ok {E : Ev} {G : Gw} {d : Nat} {post : Int32 → Mem → Prop} (X : Cx E G b_Mod_sheet "WomenByTheRoofsModel" 9 d (some .int)) (hD : 2 ≤ d)  (v1 : Int32) (v2 : Int32) (v4 : Int32) (v5 : Int32) (v6 : Int32) (v7 : Int32) (w0 : Int32)  (M : Mem)  (o : (Int32 × Int32 × Int32 × Mem) ⊕ ((Int32 × Mem))) (h : j_Mod_sheet_75_43 v1 v2 v4 v5 v6 v7 w0 M = some o) (kc : ∀ s9 : Int32 × Int32 × Int32 × Mem, o = .inl s9 → V E (0, 0) G 9 (QI E G post) s9.2.2.2 43 [(0, .ref (G.2.2 + 162)), (1, .int v1), (2, .int v2), (4, .int v4), (5, .int s9.1), (6, .int s9.2.1), (7, .int s9.2.2.1)] []) (kx0 : ∀ x9 : Int32 × Mem, o = .inr x9 → V E (0, 0) G 9 (QI E G post) x9.2 148 [(1, .int v1), (5, .int x9.1)] []) : V E (0, 0) G 9 (QI E G post) M 75 [(0, .ref (G.2.2 + 162)), (1, .int v1), (2, .int v2), (4, .int v4), (5, .int v5), (6, .int v6), (7, .int v7)] [.int w0] := by
  unfold j_Mod_sheet_75_43 at h
  refine V_istore (lv' := [(8, .int w0), (0, .ref (G.2.2 + 162)), (1, .int v1), (2, .int v2), (4, .int v4), (5, .int v5), (6, .int v6), (7, .int v7)]) X d_Mod_sheet_75 (by decide) rfl rfl ?_
  refine V_aload_n (n := 1) X d_Mod_sheet_77 rfl rfl rfl ?_
  refine V_getr (k2 := 163) X fo_Mod_9 kd_162 rfl rf_162_0 d_Mod_sheet_78 rfl ?_
  refine V_bipush (v := 8) X d_Mod_sheet_81 (by decide) rfl ?_
  refine V_iload (n := 7) X d_Mod_sheet_83 rfl rfl ?_
  refine V_iadd X d_Mod_sheet_85 rfl ?_
  refine V_iload_n (n := 2) X d_Mod_sheet_86 rfl rfl rfl ?_
  refine V_iconst (v := 3) X d_Mod_sheet_87 (by decide) rfl ?_
  refine V_icmp_eq (tgt := 97) X d_Mod_sheet_88 (by decide) rfl (fun c5 => ?_) (fun c5 => ?_)
  · rw [if_pos c5] at h
    refine V_iconst (v := 0) X d_Mod_sheet_97 (by decide) rfl ?_
    refine V_goto (pc' := 119) X d_Mod_sheet_98 (by decide) ?_
    refine V_sub (lv' := [(0, .ref (G.2.2 + 162)), (1, .int v1), (2, .int v2), (4, .int v4), (5, .int v5), (6, .int v6), (7, .int v7)]) [1, 2, 3, 4, 5, 6, 7] rfl ?_
    exact j_Mod_sheet_119_43_ok X hD v1 v2 v4 v5 v6 v7 (0 : Int32) ((8 : Int32) + v7) M _ h kc kx0
  · rw [if_neg c5] at h
    refine V_iload (n := 7) X d_Mod_sheet_91 rfl rfl ?_
    refine V_iload_n (n := 3) X d_Mod_sheet_93 rfl rfl rfl ?_
    refine V_icmp_lt (tgt := 101) X d_Mod_sheet_94 (by decide) rfl (fun c4 => ?_) (fun c4 => ?_)
    · rw [if_pos c4] at h
      refine V_iconst (v := 0) X d_Mod_sheet_101 (by decide) rfl ?_
      refine V_aload_n (n := 1) X d_Mod_sheet_102 rfl rfl rfl ?_
      refine V_getr (k2 := 166) X fo_Mod_26 kd_162 rfl rf_162_7 d_Mod_sheet_103 rfl ?_
      refine V_iload (n := 7) X d_Mod_sheet_106 rfl rfl ?_
      obtain ⟨hb, h⟩ := ifn h
      refine V_iald X kd_166 (inb_in ln_166 hb) d_Mod_sheet_108 rfl ?_
      refine V_iconst (v := 1) X d_Mod_sheet_109 (by decide) rfl ?_
      refine V_isub X d_Mod_sheet_110 rfl ?_
      refine V_iload (n := 0) X d_Mod_sheet_111 rfl rfl ?_
      refine V_mmin X (Z0 E) mm_Mod_301 (by omega) (Nat.le_of_ble_eq_true rfl) d_Mod_sheet_113 rfl ?_
      refine V_mmax X (Z0 E) mm_Mod_304 (by omega) (Nat.le_of_ble_eq_true rfl) d_Mod_sheet_116 rfl ?_
      refine V_sub (lv' := [(0, .ref (G.2.2 + 162)), (1, .int v1), (2, .int v2), (4, .int v4), (5, .int v5), (6, .int v6), (7, .int v7)]) [1, 2, 3, 4, 5, 6, 7] rfl ?_
      exact j_Mod_sheet_119_43_ok X hD v1 v2 v4 v5 v6 v7 (if (0 : Int32) < (if w0 < ((M.1 166 v7.toNatClampNeg) - (1 : Int32)) then w0 else ((M.1 166 v7.toNatClampNeg) - (1 : Int32))) then (if w0 < ((M.1 166 v7.toNatClampNeg) - (1 : Int32)) then w0 else ((M.1 166 v7.toNatClampNeg) - (1 : Int32))) else (0 : Int32)) ((8 : Int32) + v7) M _ h kc kx0
    · rw [if_neg c4] at h
      refine V_iconst (v := 0) X d_Mod_sheet_97 (by decide) rfl ?_
      refine V_goto (pc' := 119) X d_Mod_sheet_98 (by decide) ?_
      refine V_sub (lv' := [(0, .ref (G.2.2 + 162)), (1, .int v1), (2, .int v2), (4, .int v4), (5, .int v5), (6, .int v6), (7, .int v7)]) [1, 2, 3, 4, 5, 6, 7] rfl ?_
      exact j_Mod_sheet_119_43_ok X hD v1 v2 v4 v5 v6 v7 (0 : Int32) ((8 : Int32) + v7) M _ h kc kx0
def lb_Mod_sheet_43 (v1 : Int32) (v2 : Int32) (v4 : Int32) (s : Int32 × Int32 × Int32 × Mem) : Option ((Int32 × Int32 × Int32 × Mem) ⊕ ((Int32 × Mem))) :=
  if (s.2.2.2.1 162 4) ≤ s.2.2.1 then
  some (.inr (s.1, s.2.2.2))
  else
  if v1 = 0 then
  j_Mod_sheet_75_43 v1 v2 v4 s.1 s.2.1 s.2.2.1 s.2.1.toInt8.toInt32 s.2.2.2
  else
  if v1 = (1 : Int32) then
  j_Mod_sheet_75_43 v1 v2 v4 s.1 s.2.1 s.2.2.1 s.2.1.toInt16.toInt32 s.2.2.2
  else
  j_Mod_sheet_75_43 v1 v2 v4 s.1 s.2.1 s.2.2.1 s.2.1 s.2.2.2
theorem lb_Mod_sheet_43_ok {E : Ev} {G : Gw} {d : Nat} {post : Int32 → Mem → Prop} (X : Cx E G b_Mod_sheet "WomenByTheRoofsModel" 9 d (some .int)) (hD : 2 ≤ d)  (v1 : Int32) (v2 : Int32) (v4 : Int32)   (s : Int32 × Int32 × Int32 × Mem) (o : (Int32 × Int32 × Int32 × Mem) ⊕ ((Int32 × Mem))) (h : lb_Mod_sheet_43 v1 v2 v4 s = some o) (kc : ∀ s9 : Int32 × Int32 × Int32 × Mem, o = .inl s9 → V E (0, 0) G 9 (QI E G post) s9.2.2.2 43 [(0, .ref (G.2.2 + 162)), (1, .int v1), (2, .int v2), (4, .int v4), (5, .int s9.1), (6, .int s9.2.1), (7, .int s9.2.2.1)] []) (kx0 : ∀ x9 : Int32 × Mem, o = .inr x9 → V E (0, 0) G 9 (QI E G post) x9.2 148 [(1, .int v1), (5, .int x9.1)] []) : V E (0, 0) G 9 (QI E G post) s.2.2.2 43 [(0, .ref (G.2.2 + 162)), (1, .int v1), (2, .int v2), (4, .int v4), (5, .int s.1), (6, .int s.2.1), (7, .int s.2.2.1)] [] := by
  unfold lb_Mod_sheet_43 at h
  refine V_iload (n := 6) X d_Mod_sheet_43 rfl rfl ?_
  refine V_aload_n (n := 0) X d_Mod_sheet_45 rfl rfl rfl ?_
  refine V_geti X fo_Mod_123 kd_162 rfl d_Mod_sheet_46 rfl ?_
  refine V_icmp_ge (tgt := 148) X d_Mod_sheet_49 (by decide) rfl (fun c8 => ?_) (fun c8 => ?_)
  · rw [if_pos c8] at h
    refine V_sub (lv' := [(1, .int v1), (5, .int s.1)]) [1, 4] rfl ?_
    exact kx0 (s.1, s.2.2.2) (Option.some.inj h).symm
  · rw [if_neg c8] at h
    refine V_iload_n (n := 1) X d_Mod_sheet_52 rfl rfl rfl ?_
    refine V_if_ne (tgt := 62) X d_Mod_sheet_53 (by decide) rfl (fun c7 => ?_) (fun c7 => ?_)
    · rw [if_neg c7] at h
      refine V_iload_n (n := 1) X d_Mod_sheet_62 rfl rfl rfl ?_
      refine V_iconst (v := 1) X d_Mod_sheet_63 (by decide) rfl ?_
      refine V_icmp_ne (tgt := 73) X d_Mod_sheet_64 (by decide) rfl (fun c6 => ?_) (fun c6 => ?_)
      · rw [if_neg c6] at h
        refine V_iload (n := 5) X d_Mod_sheet_73 rfl rfl ?_
        exact j_Mod_sheet_75_43_ok X hD v1 v2 v4 s.1 s.2.1 s.2.2.1 s.2.1 s.2.2.2 _ h kc kx0
      · rw [if_pos c6] at h
        refine V_iload (n := 5) X d_Mod_sheet_67 rfl rfl ?_
        refine V_i2s X d_Mod_sheet_69 rfl ?_
        refine V_goto (pc' := 75) X d_Mod_sheet_70 (by decide) ?_
        exact j_Mod_sheet_75_43_ok X hD v1 v2 v4 s.1 s.2.1 s.2.2.1 s.2.1.toInt16.toInt32 s.2.2.2 _ h kc kx0
    · rw [if_pos c7] at h
      refine V_iload (n := 5) X d_Mod_sheet_56 rfl rfl ?_
      refine V_i2b X d_Mod_sheet_58 rfl ?_
      refine V_goto (pc' := 75) X d_Mod_sheet_59 (by decide) ?_
      exact j_Mod_sheet_75_43_ok X hD v1 v2 v4 s.1 s.2.1 s.2.2.1 s.2.1.toInt8.toInt32 s.2.2.2 _ h kc kx0
theorem lp_Mod_sheet_43_ok {E : Ev} {G : Gw} {d : Nat} {post : Int32 → Mem → Prop} (X : Cx E G b_Mod_sheet "WomenByTheRoofsModel" 9 d (some .int)) (hD : 2 ≤ d)  (v1 : Int32) (v2 : Int32) (v4 : Int32)   (n9 : Nat) (s : Int32 × Int32 × Int32 × Mem) (x : (Int32 × Mem)) (h : iter (lb_Mod_sheet_43 v1 v2 v4) n9 s = some x) (kx0 : ∀ x9 : Int32 × Mem, x = x9 → V E (0, 0) G 9 (QI E G post) x9.2 148 [(1, .int v1), (5, .int x9.1)] []) : V E (0, 0) G 9 (QI E G post) s.2.2.2 43 [(0, .ref (G.2.2 + 162)), (1, .int v1), (2, .int v2), (4, .int v4), (5, .int s.1), (6, .int s.2.1), (7, .int s.2.2.1)] [] :=
  iter_P (P := fun s : Int32 × Int32 × Int32 × Mem => V E (0, 0) G 9 (QI E G post) s.2.2.2 43 [(0, .ref (G.2.2 + 162)), (1, .int v1), (2, .int v2), (4, .int v4), (5, .int s.1), (6, .int s.2.1), (7, .int s.2.2.1)] []) (fun s o hb kc ky => lb_Mod_sheet_43_ok X hD v1 v2 v4 s o hb kc (fun x9 e9 => kx0 x9 (ky _ e9).symm)) n9 s h
def f_Mod_sheet (v1 : Int32) (v2 : Int32) (v3 : Int32) (v4 : Int32) (M : Mem) : Option (Int32 × Mem) :=
  mem_ (s_i M 162 13 (0 : Int32)) fun M1 =>
  Option.bind (f_Mod_in v1 (0 : Int32) (3 : Int32)) fun x2 =>
  if x2 = 0 then
  some ((-1 : Int32), M1)
  else
  if v2 ≤ (8 : Int32) then
  if (3 : Int32) ≤ v1 then
  Option.bind (iter (lb_Mod_sheet_43 v1 v2 v4) FU ((0 : Int32), v3, (0 : Int32), M1)) fun x9 =>
  if v1 = (3 : Int32) then
  some ((-3 : Int32), x9.2)
  else
  some (x9.1, x9.2)
  else
  if 0 ≤ v2 then
  Option.bind (iter (lb_Mod_sheet_43 v1 v2 v4) FU ((0 : Int32), v3, (0 : Int32), M1)) fun x11 =>
  if v1 = (3 : Int32) then
  some ((-3 : Int32), x11.2)
  else
  some (x11.1, x11.2)
  else
  some ((-2 : Int32), M1)
  else
  some ((-1 : Int32), M1)
theorem c_Mod_sheet (l : Launch) (G : Gw)  (v1 : Int32) (v2 : Int32) (v3 : Int32) (v4 : Int32) (M : Mem) (x : Int32 × Mem) (h : f_Mod_sheet v1 v2 v3 v4 M = some x) (d : Nat) (hD : 2 ≤ d) : Ci l G y_Mod_sheet b_Mod_sheet 9 (some .int) d [.ref (G.2.2 + 162), .int v1, .int v2, .int v3, .int v4] M (fun r9 M9 => r9 = x.1 ∧ M9 = x.2) := by
  refine Ci_of (by decide) (Nat.le_of_ble_eq_true rfl) (fun E hE X => ?_)
  subst hE
  have kr : ∀ x9 : Int32 × Mem, x = x9 → (fun r9 M9 => r9 = x.1 ∧ M9 = x.2) x9.1 x9.2 := fun x9 e9 => by subst e9; exact ⟨rfl, rfl⟩
  unfold f_Mod_sheet at h
  refine V_aload_n (n := 0) X d_Mod_sheet_0 rfl rfl rfl ?_
  refine V_iconst (v := 0) X d_Mod_sheet_1 (by decide) rfl ?_
  obtain ⟨M1, eM1, h⟩ := memS h
  refine V_putI X fp_Mod_109 kd_162 rfl d_Mod_sheet_2 rfl ?_
  rw [← eM1]
  refine V_iload_n (n := 1) X d_Mod_sheet_5 rfl rfl rfl ?_
  refine V_iconst (v := 0) X d_Mod_sheet_6 (by decide) rfl ?_
  refine V_iconst (v := 3) X d_Mod_sheet_7 (by decide) rfl ?_
  obtain ⟨x2, hx2, h⟩ := ob_s h
  refine V_si (As := [.int v1, .int (0 : Int32), .int (3 : Int32)]) X (Z0 E) ml_Mod_119 yq_Mod_in (c_Mod_in E.2.1 G v1 (0 : Int32) (3 : Int32) M1 x2 hx2 _ (Nat.le_refl _)) rfl (by omega) rfl (Nat.le_of_ble_eq_true rfl) d_Mod_sheet_8 rfl (fun r9 M9 hq => ?_)
  rw [hq.1, hq.2]
  refine V_if_eq (tgt := 20) X d_Mod_sheet_11 (by decide) rfl (fun c16 => ?_) (fun c16 => ?_)
  · rw [if_pos c16] at h
    refine V_iconst (v := -1) X d_Mod_sheet_20 (by decide) rfl ?_
    exact V_iret X (kr ((-1 : Int32), M1) (Option.some.inj h).symm) d_Mod_sheet_21
  · rw [if_neg c16] at h
    refine V_iload_n (n := 2) X d_Mod_sheet_14 rfl rfl rfl ?_
    refine V_bipush (v := 8) X d_Mod_sheet_15 (by decide) rfl ?_
    refine V_icmp_le (tgt := 22) X d_Mod_sheet_17 (by decide) rfl (fun c15 => ?_) (fun c15 => ?_)
    · rw [if_pos c15] at h
      refine V_iload_n (n := 1) X d_Mod_sheet_22 rfl rfl rfl ?_
      refine V_iconst (v := 3) X d_Mod_sheet_23 (by decide) rfl ?_
      refine V_icmp_ge (tgt := 34) X d_Mod_sheet_24 (by decide) rfl (fun c14 => ?_) (fun c14 => ?_)
      · rw [if_pos c14] at h
        refine V_iconst (v := 0) X d_Mod_sheet_34 (by decide) rfl ?_
        refine V_istore (lv' := [(5, .int (0 : Int32)), (0, .ref (G.2.2 + 162)), (1, .int v1), (2, .int v2), (3, .int v3), (4, .int v4)]) X d_Mod_sheet_35 (by decide) rfl rfl ?_
        refine V_iload_n (n := 4) X d_Mod_sheet_37 rfl rfl rfl ?_
        refine V_istore (lv' := [(6, .int v3), (5, .int (0 : Int32)), (0, .ref (G.2.2 + 162)), (1, .int v1), (2, .int v2), (3, .int v3), (4, .int v4)]) X d_Mod_sheet_38 (by decide) rfl rfl ?_
        refine V_iconst (v := 0) X d_Mod_sheet_40 (by decide) rfl ?_
        refine V_istore (lv' := [(7, .int (0 : Int32)), (6, .int v3), (5, .int (0 : Int32)), (0, .ref (G.2.2 + 162)), (1, .int v1), (2, .int v2), (3, .int v3), (4, .int v4)]) X d_Mod_sheet_41 (by decide) rfl rfl ?_
        refine V_sub (lv' := [(0, .ref (G.2.2 + 162)), (1, .int v1), (2, .int v2), (4, .int v4), (5, .int (0 : Int32)), (6, .int v3), (7, .int (0 : Int32))]) [3, 4, 5, 7, 2, 1, 0] rfl ?_
        obtain ⟨x9, hx9, h⟩ := ob_s h
        refine lp_Mod_sheet_43_ok X hD v1 v2 v4 _ _ _ hx9 (fun x9 e9 => ?_)
        subst e9
        refine V_iload_n (n := 0) X d_Mod_sheet_148 rfl rfl rfl ?_
        refine V_iconst (v := 3) X d_Mod_sheet_149 (by decide) rfl ?_
        refine V_icmp_ne (tgt := 158) X d_Mod_sheet_150 (by decide) rfl (fun c10 => ?_) (fun c10 => ?_)
        · rw [if_neg c10] at h
          refine V_iload (n := 1) X d_Mod_sheet_158 rfl rfl ?_
          exact V_iret X (kr (x9.1, x9.2) (Option.some.inj h).symm) d_Mod_sheet_160
        · rw [if_pos c10] at h
          refine V_bipush (v := -3) X d_Mod_sheet_153 (by decide) rfl ?_
          refine V_goto (pc' := 160) X d_Mod_sheet_155 (by decide) ?_
          exact V_iret X (kr ((-3 : Int32), x9.2) (Option.some.inj h).symm) d_Mod_sheet_160
      · rw [if_neg c14] at h
        refine V_iload_n (n := 2) X d_Mod_sheet_27 rfl rfl rfl ?_
        refine V_if_ge (tgt := 34) X d_Mod_sheet_28 (by decide) rfl (fun c13 => ?_) (fun c13 => ?_)
        · rw [if_pos c13] at h
          refine V_iconst (v := 0) X d_Mod_sheet_34 (by decide) rfl ?_
          refine V_istore (lv' := [(5, .int (0 : Int32)), (0, .ref (G.2.2 + 162)), (1, .int v1), (2, .int v2), (3, .int v3), (4, .int v4)]) X d_Mod_sheet_35 (by decide) rfl rfl ?_
          refine V_iload_n (n := 4) X d_Mod_sheet_37 rfl rfl rfl ?_
          refine V_istore (lv' := [(6, .int v3), (5, .int (0 : Int32)), (0, .ref (G.2.2 + 162)), (1, .int v1), (2, .int v2), (3, .int v3), (4, .int v4)]) X d_Mod_sheet_38 (by decide) rfl rfl ?_
          refine V_iconst (v := 0) X d_Mod_sheet_40 (by decide) rfl ?_
          refine V_istore (lv' := [(7, .int (0 : Int32)), (6, .int v3), (5, .int (0 : Int32)), (0, .ref (G.2.2 + 162)), (1, .int v1), (2, .int v2), (3, .int v3), (4, .int v4)]) X d_Mod_sheet_41 (by decide) rfl rfl ?_
          refine V_sub (lv' := [(0, .ref (G.2.2 + 162)), (1, .int v1), (2, .int v2), (4, .int v4), (5, .int (0 : Int32)), (6, .int v3), (7, .int (0 : Int32))]) [3, 4, 5, 7, 2, 1, 0] rfl ?_
          obtain ⟨x11, hx11, h⟩ := ob_s h
          refine lp_Mod_sheet_43_ok X hD v1 v2 v4 _ _ _ hx11 (fun x9 e9 => ?_)
          subst e9
          refine V_iload_n (n := 0) X d_Mod_sheet_148 rfl rfl rfl ?_
          refine V_iconst (v := 3) X d_Mod_sheet_149 (by decide) rfl ?_
          refine V_icmp_ne (tgt := 158) X d_Mod_sheet_150 (by decide) rfl (fun c12 => ?_) (fun c12 => ?_)
          · rw [if_neg c12] at h
            refine V_iload (n := 1) X d_Mod_sheet_158 rfl rfl ?_
            exact V_iret X (kr (x11.1, x11.2) (Option.some.inj h).symm) d_Mod_sheet_160
          · rw [if_pos c12] at h
            refine V_bipush (v := -3) X d_Mod_sheet_153 (by decide) rfl ?_
            refine V_goto (pc' := 160) X d_Mod_sheet_155 (by decide) ?_
            exact V_iret X (kr ((-3 : Int32), x11.2) (Option.some.inj h).symm) d_Mod_sheet_160
        · rw [if_neg c13] at h
          refine V_bipush (v := -2) X d_Mod_sheet_31 (by decide) rfl ?_
          exact V_iret X (kr ((-2 : Int32), M1) (Option.some.inj h).symm) d_Mod_sheet_33
    · rw [if_neg c15] at h
      refine V_iconst (v := -1) X d_Mod_sheet_20 (by decide) rfl ?_
      exact V_iret X (kr ((-1 : Int32), M1) (Option.some.inj h).symm) d_Mod_sheet_21
def f_Mod_canTell (v1 : Int32) (M : Mem) : Option (Int32) :=
  Option.bind (f_Mod_isOne v1 M) fun x1 =>
  if x1 = 0 then
  some (0 : Int32)
  else
  Option.bind (f_Mod_has (M.1 163 (93 : Int32).toNatClampNeg) v1) fun x2 =>
  if x2 = 0 then
  some (1 : Int32)
  else
  some (0 : Int32)
theorem c_Mod_canTell (l : Launch) (G : Gw)  (v1 : Int32) (M : Mem) (x : Int32) (h : f_Mod_canTell v1 M = some x) (d : Nat) (hD : 3 ≤ d) : Ci l G y_Mod_canTell b_Mod_canTell 2 (some .boolean) d [.ref (G.2.2 + 162), .int v1] M (fun r9 M9 => r9 = x ∧ M9 = M) := by
  refine Ci_of (by decide) (Nat.le_of_ble_eq_true rfl) (fun E hE X => ?_)
  subst hE
  have kr : ∀ x9 : Int32, x = x9 → (fun r9 M9 => r9 = x ∧ M9 = M) x9 M := fun x9 e9 => by subst e9; exact ⟨rfl, rfl⟩
  unfold f_Mod_canTell at h
  refine V_aload_n (n := 0) X d_Mod_canTell_0 rfl rfl rfl ?_
  refine V_iload_n (n := 1) X d_Mod_canTell_1 rfl rfl rfl ?_
  obtain ⟨x1, hx1, h⟩ := ob_s h
  refine V_ci (As := [.int v1]) X (Z0 E) ml_Mod_126 yq_Mod_isOne (c_Mod_isOne E.2.1 G v1 M x1 hx1 _ (Nat.le_refl _)) kd_162 rfl rfl (by omega) rfl (Nat.le_of_ble_eq_true rfl) d_Mod_canTell_2 rfl (fun r9 M9 hq => ?_)
  rw [hq.1, hq.2]
  refine V_if_eq (tgt := 26) X d_Mod_canTell_5 (by decide) rfl (fun c4 => ?_) (fun c4 => ?_)
  · rw [if_pos c4] at h
    refine V_iconst (v := 0) X d_Mod_canTell_26 (by decide) rfl ?_
    exact V_zret X (kr (0 : Int32) (Option.some.inj h).symm) (by decide) d_Mod_canTell_27
  · rw [if_neg c4] at h
    refine V_aload_n (n := 0) X d_Mod_canTell_8 rfl rfl rfl ?_
    refine V_getr (k2 := 163) X fo_Mod_9 kd_162 rfl rf_162_0 d_Mod_canTell_9 rfl ?_
    refine V_bipush (v := 93) X d_Mod_canTell_12 (by decide) rfl ?_
    refine V_iald X kd_163 (inb_in ln_163 (by decide)) d_Mod_canTell_14 rfl ?_
    refine V_iload_n (n := 1) X d_Mod_canTell_15 rfl rfl rfl ?_
    obtain ⟨x2, hx2, h⟩ := ob_s h
    refine V_si (As := [.int (M.1 163 (93 : Int32).toNatClampNeg), .int v1]) X (Z0 E) ml_Mod_133 yq_Mod_has (c_Mod_has E.2.1 G (M.1 163 (93 : Int32).toNatClampNeg) v1 M x2 hx2 _ (Nat.le_refl _)) rfl (by omega) rfl (Nat.le_of_ble_eq_true rfl) d_Mod_canTell_16 rfl (fun r9 M9 hq => ?_)
    rw [hq.1, hq.2]
    refine V_if_ne (tgt := 26) X d_Mod_canTell_19 (by decide) rfl (fun c3 => ?_) (fun c3 => ?_)
    · rw [if_neg c3] at h
      refine V_iconst (v := 0) X d_Mod_canTell_26 (by decide) rfl ?_
      exact V_zret X (kr (0 : Int32) (Option.some.inj h).symm) (by decide) d_Mod_canTell_27
    · rw [if_pos c3] at h
      refine V_iconst (v := 1) X d_Mod_canTell_22 (by decide) rfl ?_
      refine V_goto (pc' := 27) X d_Mod_canTell_23 (by decide) ?_
      exact V_zret X (kr (1 : Int32) (Option.some.inj h).symm) (by decide) d_Mod_canTell_27
def f_Mod_tell (v1 : Int32) (M : Mem) : Option (Int32 × Mem) :=
  mem_ (s_i M 162 13 (0 : Int32)) fun M1 =>
  Option.bind (f_Mod_canTell v1 M1) fun x2 =>
  if x2 = 0 then
  some ((-1 : Int32), M1)
  else
  Option.bind (f_Mod_remember 163 M1) fun x3 =>
  mem_ (s_i x3 163 (93 : Int32).toNatClampNeg ((x3.1 163 (93 : Int32).toNatClampNeg) ||| ((1 : Int32) <<< (v1 &&& 31)))) fun M4 =>
  Option.bind (f_JInteger_bitCount (M4.1 163 (93 : Int32).toNatClampNeg)) fun x5 =>
  some (x5, M4)
theorem c_Mod_tell (l : Launch) (G : Gw)  (v1 : Int32) (M : Mem) (x : Int32 × Mem) (h : f_Mod_tell v1 M = some x) (d : Nat) (hD : 4 ≤ d) : Ci l G y_Mod_tell b_Mod_tell 2 (some .int) d [.ref (G.2.2 + 162), .int v1] M (fun r9 M9 => r9 = x.1 ∧ M9 = x.2) := by
  refine Ci_of (by decide) (Nat.le_of_ble_eq_true rfl) (fun E hE X => ?_)
  subst hE
  have kr : ∀ x9 : Int32 × Mem, x = x9 → (fun r9 M9 => r9 = x.1 ∧ M9 = x.2) x9.1 x9.2 := fun x9 e9 => by subst e9; exact ⟨rfl, rfl⟩
  unfold f_Mod_tell at h
  refine V_aload_n (n := 0) X d_Mod_tell_0 rfl rfl rfl ?_
  refine V_iconst (v := 0) X d_Mod_tell_1 (by decide) rfl ?_
  obtain ⟨M1, eM1, h⟩ := memS h
  refine V_putI X fp_Mod_109 kd_162 rfl d_Mod_tell_2 rfl ?_
  rw [← eM1]
  refine V_aload_n (n := 0) X d_Mod_tell_5 rfl rfl rfl ?_
  refine V_iload_n (n := 1) X d_Mod_tell_6 rfl rfl rfl ?_
  obtain ⟨x2, hx2, h⟩ := ob_s h
  refine V_ci (As := [.int v1]) X (Z0 E) ml_Mod_307 yq_Mod_canTell (c_Mod_canTell E.2.1 G v1 M1 x2 hx2 _ (Nat.le_refl _)) kd_162 rfl rfl (by omega) rfl (Nat.le_of_ble_eq_true rfl) d_Mod_tell_7 rfl (fun r9 M9 hq => ?_)
  rw [hq.1, hq.2]
  refine V_if_ne (tgt := 15) X d_Mod_tell_10 (by decide) rfl (fun c6 => ?_) (fun c6 => ?_)
  · rw [if_neg c6] at h
    refine V_aload_n (n := 0) X d_Mod_tell_15 rfl rfl rfl ?_
    refine V_aload_n (n := 0) X d_Mod_tell_16 rfl rfl rfl ?_
    refine V_getr (k2 := 163) X fo_Mod_9 kd_162 rfl rf_162_0 d_Mod_tell_17 rfl ?_
    obtain ⟨x3, hx3, h⟩ := ob_s h
    refine V_cv (As := [.ref (G.2.2 + 163)]) X (Z0 E) ml_Mod_293 yq_Mod_remember (c_Mod_remember E.2.1 G 163 M1 x3 hx3 _ (Nat.le_refl _)) kd_162 rfl rfl (by omega) rfl (Nat.le_of_ble_eq_true rfl) d_Mod_tell_20 rfl (fun M9 hq => ?_)
    rw [hq]
    refine V_aload_n (n := 0) X d_Mod_tell_23 rfl rfl rfl ?_
    refine V_getr (k2 := 163) X fo_Mod_9 kd_162 rfl rf_162_0 d_Mod_tell_24 rfl ?_
    refine V_bipush (v := 93) X d_Mod_tell_27 (by decide) rfl ?_
    refine V_dup2 X d_Mod_tell_29 rfl rfl rfl ?_
    refine V_iald X kd_163 (inb_in ln_163 (by decide)) d_Mod_tell_30 rfl ?_
    refine V_iconst (v := 1) X d_Mod_tell_31 (by decide) rfl ?_
    refine V_iload_n (n := 1) X d_Mod_tell_32 rfl rfl rfl ?_
    refine V_ishl X d_Mod_tell_33 rfl ?_
    refine V_ior X d_Mod_tell_34 rfl ?_
    obtain ⟨M4, eM4, h⟩ := memS h
    refine V_iast X kd_163 (inb_in ln_163 (by decide)) d_Mod_tell_35 rfl ?_
    rw [← eM4]
    refine V_aload_n (n := 0) X d_Mod_tell_36 rfl rfl rfl ?_
    refine V_getr (k2 := 163) X fo_Mod_9 kd_162 rfl rf_162_0 d_Mod_tell_37 rfl ?_
    refine V_bipush (v := 93) X d_Mod_tell_40 (by decide) rfl ?_
    refine V_iald X kd_163 (inb_in ln_163 (by decide)) d_Mod_tell_42 rfl ?_
    obtain ⟨x5, hx5, h⟩ := ob_s h
    refine V_si (As := [.int (M4.1 163 (93 : Int32).toNatClampNeg)]) X (Z0 E) ml_Mod_310 yq_JInteger_bitCount (c_JInteger_bitCount E.2.1 G (M4.1 163 (93 : Int32).toNatClampNeg) M4 x5 hx5 _ (Nat.le_refl _)) rfl (by omega) rfl (Nat.le_of_ble_eq_true rfl) d_Mod_tell_43 rfl (fun r9 M9 hq => ?_)
    rw [hq.1, hq.2]
    exact V_iret X (kr (x5, M4) (Option.some.inj h).symm) d_Mod_tell_46
  · rw [if_pos c6] at h
    refine V_iconst (v := -1) X d_Mod_tell_13 (by decide) rfl ?_
    exact V_iret X (kr ((-1 : Int32), M1) (Option.some.inj h).symm) d_Mod_tell_14
def lb_Mod_womenBelow_4 (M : Mem) (s : Int32 × Int32) : Option ((Int32 × Int32) ⊕ ((Int32))) :=
  if (M.1 162 4) ≤ s.2 then
  some (.inr s.1)
  else
  Option.bind (f_Mod_has (M.1 162 5) s.2) fun x1 =>
  if x1 = 0 then
  some (.inl ((s.1 + (0 : Int32)), (s.2 + (1 : Int32))))
  else
  if inb s.2 96 = true then
  Option.bind (f_Mod_levelOf (M.1 163 s.2.toNatClampNeg)) fun x2 =>
  if x2 = 0 then
  some (.inl ((s.1 + (1 : Int32)), (s.2 + (1 : Int32))))
  else
  some (.inl ((s.1 + (0 : Int32)), (s.2 + (1 : Int32))))
  else none
theorem lb_Mod_womenBelow_4_ok {E : Ev} {G : Gw} {d : Nat} {post : Int32 → Mem → Prop} (X : Cx E G b_Mod_womenBelow "WomenByTheRoofsModel" 3 d (some .int)) (hD : 2 ≤ d)    (M : Mem) (s : Int32 × Int32) (o : (Int32 × Int32) ⊕ ((Int32))) (h : lb_Mod_womenBelow_4 M s = some o) (kc : ∀ s9 : Int32 × Int32, o = .inl s9 → V E (0, 0) G 3 (QI E G post) M 4 [(0, .ref (G.2.2 + 162)), (1, .int s9.1), (2, .int s9.2)] []) (kx0 : ∀ x9 : Int32, o = .inr x9 → V E (0, 0) G 3 (QI E G post) M 49 [(1, .int x9)] []) : V E (0, 0) G 3 (QI E G post) M 4 [(0, .ref (G.2.2 + 162)), (1, .int s.1), (2, .int s.2)] [] := by
  unfold lb_Mod_womenBelow_4 at h
  refine V_iload_n (n := 2) X d_Mod_womenBelow_4 rfl rfl rfl ?_
  refine V_aload_n (n := 0) X d_Mod_womenBelow_5 rfl rfl rfl ?_
  refine V_geti X fo_Mod_123 kd_162 rfl d_Mod_womenBelow_6 rfl ?_
  refine V_icmp_ge (tgt := 49) X d_Mod_womenBelow_9 (by decide) rfl (fun c5 => ?_) (fun c5 => ?_)
  · rw [if_pos c5] at h
    refine V_sub (lv' := [(1, .int s.1)]) [1] rfl ?_
    exact kx0 s.1 (Option.some.inj h).symm
  · rw [if_neg c5] at h
    refine V_iload_n (n := 1) X d_Mod_womenBelow_12 rfl rfl rfl ?_
    refine V_aload_n (n := 0) X d_Mod_womenBelow_13 rfl rfl rfl ?_
    refine V_geti X fo_Mod_130 kd_162 rfl d_Mod_womenBelow_14 rfl ?_
    refine V_iload_n (n := 2) X d_Mod_womenBelow_17 rfl rfl rfl ?_
    obtain ⟨x1, hx1, h⟩ := ob_s h
    refine V_si (As := [.int (M.1 162 5), .int s.2]) X (Z0 E) ml_Mod_133 yq_Mod_has (c_Mod_has E.2.1 G (M.1 162 5) s.2 M x1 hx1 _ (Nat.le_refl _)) rfl (by omega) rfl (Nat.le_of_ble_eq_true rfl) d_Mod_womenBelow_18 rfl (fun r9 M9 hq => ?_)
    rw [hq.1, hq.2]
    refine V_if_eq (tgt := 40) X d_Mod_womenBelow_21 (by decide) rfl (fun c4 => ?_) (fun c4 => ?_)
    · rw [if_pos c4] at h
      refine V_iconst (v := 0) X d_Mod_womenBelow_40 (by decide) rfl ?_
      refine V_iadd X d_Mod_womenBelow_41 rfl ?_
      refine V_istore_n (lv' := [(1, .int (s.1 + (0 : Int32))), (0, .ref (G.2.2 + 162)), (2, .int s.2)]) X d_Mod_womenBelow_42 rfl (by decide) rfl rfl ?_
      refine V_iinc (n := 2) (v := (s.2 + (1 : Int32))) (lv' := [(2, .int (s.2 + (1 : Int32))), (1, .int (s.1 + (0 : Int32))), (0, .ref (G.2.2 + 162))]) X d_Mod_womenBelow_43 rfl rfl (by decide) rfl rfl ?_
      refine V_goto (pc' := 4) X d_Mod_womenBelow_46 (by decide) ?_
      refine V_sub (lv' := [(0, .ref (G.2.2 + 162)), (1, .int (s.1 + (0 : Int32))), (2, .int (s.2 + (1 : Int32)))]) [2, 1, 0] rfl ?_
      exact kc ((s.1 + (0 : Int32)), (s.2 + (1 : Int32))) (Option.some.inj h).symm
    · rw [if_neg c4] at h
      refine V_aload_n (n := 0) X d_Mod_womenBelow_24 rfl rfl rfl ?_
      refine V_getr (k2 := 163) X fo_Mod_9 kd_162 rfl rf_162_0 d_Mod_womenBelow_25 rfl ?_
      refine V_iload_n (n := 2) X d_Mod_womenBelow_28 rfl rfl rfl ?_
      obtain ⟨hb, h⟩ := ifn h
      refine V_iald X kd_163 (inb_in ln_163 hb) d_Mod_womenBelow_29 rfl ?_
      obtain ⟨x2, hx2, h⟩ := ob_s h
      refine V_si (As := [.int (M.1 163 s.2.toNatClampNeg)]) X (Z0 E) ml_Mod_143 yq_Mod_levelOf (c_Mod_levelOf E.2.1 G (M.1 163 s.2.toNatClampNeg) M x2 hx2 _ (Nat.le_refl _)) rfl (by omega) rfl (Nat.le_of_ble_eq_true rfl) d_Mod_womenBelow_30 rfl (fun r9 M9 hq => ?_)
      rw [hq.1, hq.2]
      refine V_if_ne (tgt := 40) X d_Mod_womenBelow_33 (by decide) rfl (fun c3 => ?_) (fun c3 => ?_)
      · rw [if_neg c3] at h
        refine V_iconst (v := 0) X d_Mod_womenBelow_40 (by decide) rfl ?_
        refine V_iadd X d_Mod_womenBelow_41 rfl ?_
        refine V_istore_n (lv' := [(1, .int (s.1 + (0 : Int32))), (0, .ref (G.2.2 + 162)), (2, .int s.2)]) X d_Mod_womenBelow_42 rfl (by decide) rfl rfl ?_
        refine V_iinc (n := 2) (v := (s.2 + (1 : Int32))) (lv' := [(2, .int (s.2 + (1 : Int32))), (1, .int (s.1 + (0 : Int32))), (0, .ref (G.2.2 + 162))]) X d_Mod_womenBelow_43 rfl rfl (by decide) rfl rfl ?_
        refine V_goto (pc' := 4) X d_Mod_womenBelow_46 (by decide) ?_
        refine V_sub (lv' := [(0, .ref (G.2.2 + 162)), (1, .int (s.1 + (0 : Int32))), (2, .int (s.2 + (1 : Int32)))]) [2, 1, 0] rfl ?_
        exact kc ((s.1 + (0 : Int32)), (s.2 + (1 : Int32))) (Option.some.inj h).symm
      · rw [if_pos c3] at h
        refine V_iconst (v := 1) X d_Mod_womenBelow_36 (by decide) rfl ?_
        refine V_goto (pc' := 41) X d_Mod_womenBelow_37 (by decide) ?_
        refine V_iadd X d_Mod_womenBelow_41 rfl ?_
        refine V_istore_n (lv' := [(1, .int (s.1 + (1 : Int32))), (0, .ref (G.2.2 + 162)), (2, .int s.2)]) X d_Mod_womenBelow_42 rfl (by decide) rfl rfl ?_
        refine V_iinc (n := 2) (v := (s.2 + (1 : Int32))) (lv' := [(2, .int (s.2 + (1 : Int32))), (1, .int (s.1 + (1 : Int32))), (0, .ref (G.2.2 + 162))]) X d_Mod_womenBelow_43 rfl rfl (by decide) rfl rfl ?_
        refine V_goto (pc' := 4) X d_Mod_womenBelow_46 (by decide) ?_
        refine V_sub (lv' := [(0, .ref (G.2.2 + 162)), (1, .int (s.1 + (1 : Int32))), (2, .int (s.2 + (1 : Int32)))]) [2, 1, 0] rfl ?_
        exact kc ((s.1 + (1 : Int32)), (s.2 + (1 : Int32))) (Option.some.inj h).symm
theorem lp_Mod_womenBelow_4_ok {E : Ev} {G : Gw} {d : Nat} {post : Int32 → Mem → Prop} (X : Cx E G b_Mod_womenBelow "WomenByTheRoofsModel" 3 d (some .int)) (hD : 2 ≤ d)    (M : Mem) (n9 : Nat) (s : Int32 × Int32) (x : (Int32)) (h : iter (lb_Mod_womenBelow_4 M) n9 s = some x) (kx0 : ∀ x9 : Int32, x = x9 → V E (0, 0) G 3 (QI E G post) M 49 [(1, .int x9)] []) : V E (0, 0) G 3 (QI E G post) M 4 [(0, .ref (G.2.2 + 162)), (1, .int s.1), (2, .int s.2)] [] :=
  iter_P (P := fun s : Int32 × Int32 => V E (0, 0) G 3 (QI E G post) M 4 [(0, .ref (G.2.2 + 162)), (1, .int s.1), (2, .int s.2)] []) (fun s o hb kc ky => lb_Mod_womenBelow_4_ok X hD M s o hb kc (fun x9 e9 => kx0 x9 (ky _ e9).symm)) n9 s h
def f_Mod_womenBelow (M : Mem) : Option (Int32) :=
  Option.bind (iter (lb_Mod_womenBelow_4 M) FU ((0 : Int32), (0 : Int32))) fun x6 =>
  some x6
theorem c_Mod_womenBelow (l : Launch) (G : Gw)   (M : Mem) (x : Int32) (h : f_Mod_womenBelow M = some x) (d : Nat) (hD : 2 ≤ d) : Ci l G y_Mod_womenBelow b_Mod_womenBelow 3 (some .int) d [.ref (G.2.2 + 162)] M (fun r9 M9 => r9 = x ∧ M9 = M) := by
  refine Ci_of (by decide) (Nat.le_of_ble_eq_true rfl) (fun E hE X => ?_)
  subst hE
  have kr : ∀ x9 : Int32, x = x9 → (fun r9 M9 => r9 = x ∧ M9 = M) x9 M := fun x9 e9 => by subst e9; exact ⟨rfl, rfl⟩
  unfold f_Mod_womenBelow at h
  refine V_iconst (v := 0) X d_Mod_womenBelow_0 (by decide) rfl ?_
  refine V_istore_n (lv' := [(1, .int (0 : Int32)), (0, .ref (G.2.2 + 162))]) X d_Mod_womenBelow_1 rfl (by decide) rfl rfl ?_
  refine V_iconst (v := 0) X d_Mod_womenBelow_2 (by decide) rfl ?_
  refine V_istore_n (lv' := [(2, .int (0 : Int32)), (1, .int (0 : Int32)), (0, .ref (G.2.2 + 162))]) X d_Mod_womenBelow_3 rfl (by decide) rfl rfl ?_
  refine V_sub (lv' := [(0, .ref (G.2.2 + 162)), (1, .int (0 : Int32)), (2, .int (0 : Int32))]) [2, 1, 0] rfl ?_
  obtain ⟨x6, hx6, h⟩ := ob_s h
  refine lp_Mod_womenBelow_4_ok X hD M _ _ _ hx6 (fun x9 e9 => ?_)
  subst e9
  refine V_iload_n (n := 0) X d_Mod_womenBelow_49 rfl rfl rfl ?_
  exact V_iret X (kr x6 (Option.some.inj h).symm) d_Mod_womenBelow_50
def lb_Mod_canFeast_31 (M : Mem) (s : Int32) : Option ((Int32) ⊕ ((Unit) ⊕ (Unit))) :=
  if (M.1 162 4) ≤ s then
  some (.inr (Sum.inl ()))
  else
  Option.bind (f_Mod_has (M.1 162 5) s) fun x2 =>
  if x2 = 0 then
  some (.inl (s + (1 : Int32)))
  else
  if inb s 96 = true then
  Option.bind (f_Mod_levelOf (M.1 163 s.toNatClampNeg)) fun x3 =>
  if x3 = 0 then
  if inb s 96 = true then
  Option.bind (f_Mod_cellOf (M.1 163 s.toNatClampNeg)) fun x4 =>
  if inb x4 36 = true then
  if (M.1 164 x4.toNatClampNeg) = (3 : Int32) then
  some (.inl (s + (1 : Int32)))
  else
  some (.inr (Sum.inr ()))
  else none
  else none
  else
  some (.inl (s + (1 : Int32)))
  else none
theorem lb_Mod_canFeast_31_ok {E : Ev} {G : Gw} {d : Nat} {post : Int32 → Mem → Prop} (X : Cx E G b_Mod_canFeast "WomenByTheRoofsModel" 3 d (some .boolean)) (hD : 2 ≤ d)    (M : Mem) (s : Int32) (o : (Int32) ⊕ ((Unit) ⊕ (Unit))) (h : lb_Mod_canFeast_31 M s = some o) (kc : ∀ s9 : Int32, o = .inl s9 → V E (0, 0) G 3 (QI E G post) M 31 [(0, .ref (G.2.2 + 162)), (2, .int s9)] []) (kx0 : ∀ x9 : Unit, o = .inr (Sum.inl x9) → V E (0, 0) G 3 (QI E G post) M 88 [] []) (kx1 : ∀ x9 : Unit, o = .inr (Sum.inr x9) → V E (0, 0) G 3 (QI E G post) M 80 [] []) : V E (0, 0) G 3 (QI E G post) M 31 [(0, .ref (G.2.2 + 162)), (2, .int s)] [] := by
  unfold lb_Mod_canFeast_31 at h
  refine V_iload_n (n := 1) X d_Mod_canFeast_31 rfl rfl rfl ?_
  refine V_aload_n (n := 0) X d_Mod_canFeast_32 rfl rfl rfl ?_
  refine V_geti X fo_Mod_123 kd_162 rfl d_Mod_canFeast_33 rfl ?_
  refine V_icmp_ge (tgt := 88) X d_Mod_canFeast_36 (by decide) rfl (fun c8 => ?_) (fun c8 => ?_)
  · rw [if_pos c8] at h
    refine V_sub (lv' := []) [] rfl ?_
    exact kx0 () (Option.some.inj h).symm
  · rw [if_neg c8] at h
    refine V_aload_n (n := 0) X d_Mod_canFeast_39 rfl rfl rfl ?_
    refine V_geti X fo_Mod_130 kd_162 rfl d_Mod_canFeast_40 rfl ?_
    refine V_iload_n (n := 1) X d_Mod_canFeast_43 rfl rfl rfl ?_
    obtain ⟨x2, hx2, h⟩ := ob_s h
    refine V_si (As := [.int (M.1 162 5), .int s]) X (Z0 E) ml_Mod_133 yq_Mod_has (c_Mod_has E.2.1 G (M.1 162 5) s M x2 hx2 _ (Nat.le_refl _)) rfl (by omega) rfl (Nat.le_of_ble_eq_true rfl) d_Mod_canFeast_44 rfl (fun r9 M9 hq => ?_)
    rw [hq.1, hq.2]
    refine V_if_eq (tgt := 82) X d_Mod_canFeast_47 (by decide) rfl (fun c7 => ?_) (fun c7 => ?_)
    · rw [if_pos c7] at h
      refine V_iinc (n := 1) (v := (s + (1 : Int32))) (lv' := [(2, .int (s + (1 : Int32))), (0, .ref (G.2.2 + 162))]) X d_Mod_canFeast_82 rfl rfl (by decide) rfl rfl ?_
      refine V_goto (pc' := 31) X d_Mod_canFeast_85 (by decide) ?_
      refine V_sub (lv' := [(0, .ref (G.2.2 + 162)), (2, .int (s + (1 : Int32)))]) [1, 0] rfl ?_
      exact kc (s + (1 : Int32)) (Option.some.inj h).symm
    · rw [if_neg c7] at h
      refine V_aload_n (n := 0) X d_Mod_canFeast_50 rfl rfl rfl ?_
      refine V_getr (k2 := 163) X fo_Mod_9 kd_162 rfl rf_162_0 d_Mod_canFeast_51 rfl ?_
      refine V_iload_n (n := 1) X d_Mod_canFeast_54 rfl rfl rfl ?_
      obtain ⟨hb, h⟩ := ifn h
      refine V_iald X kd_163 (inb_in ln_163 hb) d_Mod_canFeast_55 rfl ?_
      obtain ⟨x3, hx3, h⟩ := ob_s h
      refine V_si (As := [.int (M.1 163 s.toNatClampNeg)]) X (Z0 E) ml_Mod_143 yq_Mod_levelOf (c_Mod_levelOf E.2.1 G (M.1 163 s.toNatClampNeg) M x3 hx3 _ (Nat.le_refl _)) rfl (by omega) rfl (Nat.le_of_ble_eq_true rfl) d_Mod_canFeast_56 rfl (fun r9 M9 hq => ?_)
      rw [hq.1, hq.2]
      refine V_if_ne (tgt := 82) X d_Mod_canFeast_59 (by decide) rfl (fun c6 => ?_) (fun c6 => ?_)
      · rw [if_neg c6] at h
        refine V_iinc (n := 1) (v := (s + (1 : Int32))) (lv' := [(2, .int (s + (1 : Int32))), (0, .ref (G.2.2 + 162))]) X d_Mod_canFeast_82 rfl rfl (by decide) rfl rfl ?_
        refine V_goto (pc' := 31) X d_Mod_canFeast_85 (by decide) ?_
        refine V_sub (lv' := [(0, .ref (G.2.2 + 162)), (2, .int (s + (1 : Int32)))]) [1, 0] rfl ?_
        exact kc (s + (1 : Int32)) (Option.some.inj h).symm
      · rw [if_pos c6] at h
        refine V_aload_n (n := 0) X d_Mod_canFeast_62 rfl rfl rfl ?_
        refine V_getr (k2 := 164) X fo_Mod_13 kd_162 rfl rf_162_1 d_Mod_canFeast_63 rfl ?_
        refine V_aload_n (n := 0) X d_Mod_canFeast_66 rfl rfl rfl ?_
        refine V_getr (k2 := 163) X fo_Mod_9 kd_162 rfl rf_162_0 d_Mod_canFeast_67 rfl ?_
        refine V_iload_n (n := 1) X d_Mod_canFeast_70 rfl rfl rfl ?_
        obtain ⟨hb, h⟩ := ifn h
        refine V_iald X kd_163 (inb_in ln_163 hb) d_Mod_canFeast_71 rfl ?_
        obtain ⟨x4, hx4, h⟩ := ob_s h
        refine V_si (As := [.int (M.1 163 s.toNatClampNeg)]) X (Z0 E) ml_Mod_147 yq_Mod_cellOf (c_Mod_cellOf E.2.1 G (M.1 163 s.toNatClampNeg) M x4 hx4 _ (Nat.le_refl _)) rfl (by omega) rfl (Nat.le_of_ble_eq_true rfl) d_Mod_canFeast_72 rfl (fun r9 M9 hq => ?_)
        rw [hq.1, hq.2]
        obtain ⟨hb, h⟩ := ifn h
        refine V_iald X kd_164 (inb_in ln_164 hb) d_Mod_canFeast_75 rfl ?_
        refine V_iconst (v := 3) X d_Mod_canFeast_76 (by decide) rfl ?_
        refine V_icmp_eq (tgt := 82) X d_Mod_canFeast_77 (by decide) rfl (fun c5 => ?_) (fun c5 => ?_)
        · rw [if_pos c5] at h
          refine V_iinc (n := 1) (v := (s + (1 : Int32))) (lv' := [(2, .int (s + (1 : Int32))), (0, .ref (G.2.2 + 162))]) X d_Mod_canFeast_82 rfl rfl (by decide) rfl rfl ?_
          refine V_goto (pc' := 31) X d_Mod_canFeast_85 (by decide) ?_
          refine V_sub (lv' := [(0, .ref (G.2.2 + 162)), (2, .int (s + (1 : Int32)))]) [1, 0] rfl ?_
          exact kc (s + (1 : Int32)) (Option.some.inj h).symm
        · rw [if_neg c5] at h
          refine V_sub (lv' := []) [] rfl ?_
          exact kx1 () (Option.some.inj h).symm
theorem lp_Mod_canFeast_31_ok {E : Ev} {G : Gw} {d : Nat} {post : Int32 → Mem → Prop} (X : Cx E G b_Mod_canFeast "WomenByTheRoofsModel" 3 d (some .boolean)) (hD : 2 ≤ d)    (M : Mem) (n9 : Nat) (s : Int32) (x : (Unit) ⊕ (Unit)) (h : iter (lb_Mod_canFeast_31 M) n9 s = some x) (kx0 : ∀ x9 : Unit, x = (Sum.inl x9) → V E (0, 0) G 3 (QI E G post) M 88 [] []) (kx1 : ∀ x9 : Unit, x = (Sum.inr x9) → V E (0, 0) G 3 (QI E G post) M 80 [] []) : V E (0, 0) G 3 (QI E G post) M 31 [(0, .ref (G.2.2 + 162)), (2, .int s)] [] :=
  iter_P (P := fun s : Int32 => V E (0, 0) G 3 (QI E G post) M 31 [(0, .ref (G.2.2 + 162)), (2, .int s)] []) (fun s o hb kc ky => lb_Mod_canFeast_31_ok X hD M s o hb kc (fun x9 e9 => kx0 x9 (ky _ e9).symm) (fun x9 e9 => kx1 x9 (ky _ e9).symm)) n9 s h
def f_Mod_canFeast (v1 : Int32) (M : Mem) : Option (Int32) :=
  Option.bind (f_Mod_in v1 (0 : Int32) (1 : Int32)) fun x1 =>
  if x1 = 0 then
  some (0 : Int32)
  else
  if (M.1 163 (94 : Int32).toNatClampNeg) = v1 then
  some (0 : Int32)
  else
  if v1 = (1 : Int32) then
  some (1 : Int32)
  else
  Option.bind (iter (lb_Mod_canFeast_31 M) FU (0 : Int32)) (Sum.elim (fun y10 => some (1 : Int32)) (fun y11 => some (0 : Int32)))
theorem c_Mod_canFeast (l : Launch) (G : Gw)  (v1 : Int32) (M : Mem) (x : Int32) (h : f_Mod_canFeast v1 M = some x) (d : Nat) (hD : 2 ≤ d) : Ci l G y_Mod_canFeast b_Mod_canFeast 3 (some .boolean) d [.ref (G.2.2 + 162), .int v1] M (fun r9 M9 => r9 = x ∧ M9 = M) := by
  refine Ci_of (by decide) (Nat.le_of_ble_eq_true rfl) (fun E hE X => ?_)
  subst hE
  have kr : ∀ x9 : Int32, x = x9 → (fun r9 M9 => r9 = x ∧ M9 = M) x9 M := fun x9 e9 => by subst e9; exact ⟨rfl, rfl⟩
  unfold f_Mod_canFeast at h
  refine V_iload_n (n := 1) X d_Mod_canFeast_0 rfl rfl rfl ?_
  refine V_iconst (v := 0) X d_Mod_canFeast_1 (by decide) rfl ?_
  refine V_iconst (v := 1) X d_Mod_canFeast_2 (by decide) rfl ?_
  obtain ⟨x1, hx1, h⟩ := ob_s h
  refine V_si (As := [.int v1, .int (0 : Int32), .int (1 : Int32)]) X (Z0 E) ml_Mod_119 yq_Mod_in (c_Mod_in E.2.1 G v1 (0 : Int32) (1 : Int32) M x1 hx1 _ (Nat.le_refl _)) rfl (by omega) rfl (Nat.le_of_ble_eq_true rfl) d_Mod_canFeast_3 rfl (fun r9 M9 hq => ?_)
  rw [hq.1, hq.2]
  refine V_if_eq (tgt := 20) X d_Mod_canFeast_6 (by decide) rfl (fun c14 => ?_) (fun c14 => ?_)
  · rw [if_pos c14] at h
    refine V_iconst (v := 0) X d_Mod_canFeast_20 (by decide) rfl ?_
    exact V_zret X (kr (0 : Int32) (Option.some.inj h).symm) (by decide) d_Mod_canFeast_21
  · rw [if_neg c14] at h
    refine V_aload_n (n := 0) X d_Mod_canFeast_9 rfl rfl rfl ?_
    refine V_getr (k2 := 163) X fo_Mod_9 kd_162 rfl rf_162_0 d_Mod_canFeast_10 rfl ?_
    refine V_bipush (v := 94) X d_Mod_canFeast_13 (by decide) rfl ?_
    refine V_iald X kd_163 (inb_in ln_163 (by decide)) d_Mod_canFeast_15 rfl ?_
    refine V_iload_n (n := 1) X d_Mod_canFeast_16 rfl rfl rfl ?_
    refine V_icmp_ne (tgt := 22) X d_Mod_canFeast_17 (by decide) rfl (fun c13 => ?_) (fun c13 => ?_)
    · rw [if_neg c13] at h
      refine V_iload_n (n := 1) X d_Mod_canFeast_22 rfl rfl rfl ?_
      refine V_iconst (v := 1) X d_Mod_canFeast_23 (by decide) rfl ?_
      refine V_icmp_ne (tgt := 29) X d_Mod_canFeast_24 (by decide) rfl (fun c12 => ?_) (fun c12 => ?_)
      · rw [if_neg c12] at h
        refine V_iconst (v := 0) X d_Mod_canFeast_29 (by decide) rfl ?_
        refine V_istore_n (lv' := [(2, .int (0 : Int32)), (0, .ref (G.2.2 + 162)), (1, .int v1)]) X d_Mod_canFeast_30 rfl (by decide) rfl rfl ?_
        refine V_sub (lv' := [(0, .ref (G.2.2 + 162)), (2, .int (0 : Int32))]) [1, 0] rfl ?_
        obtain ⟨x9, hx9, h⟩ := ob_s h
        rcases x9 with y10 | y11
        · simp only [Sum.elim_inl, Sum.elim_inr] at h
          refine lp_Mod_canFeast_31_ok X hD M _ _ _ hx9 (fun x9 e9 => ?_) (fun x9 e9 => by cases e9)
          cases e9
          refine V_iconst (v := 1) X d_Mod_canFeast_88 (by decide) rfl ?_
          exact V_zret X (kr (1 : Int32) (Option.some.inj h).symm) (by decide) d_Mod_canFeast_89
        · simp only [Sum.elim_inl, Sum.elim_inr] at h
          refine lp_Mod_canFeast_31_ok X hD M _ _ _ hx9 (fun x9 e9 => by cases e9) (fun x9 e9 => ?_)
          cases e9
          refine V_iconst (v := 0) X d_Mod_canFeast_80 (by decide) rfl ?_
          exact V_zret X (kr (0 : Int32) (Option.some.inj h).symm) (by decide) d_Mod_canFeast_81
      · rw [if_pos c12] at h
        refine V_iconst (v := 1) X d_Mod_canFeast_27 (by decide) rfl ?_
        exact V_zret X (kr (1 : Int32) (Option.some.inj h).symm) (by decide) d_Mod_canFeast_28
    · rw [if_pos c13] at h
      refine V_iconst (v := 0) X d_Mod_canFeast_20 (by decide) rfl ?_
      exact V_zret X (kr (0 : Int32) (Option.some.inj h).symm) (by decide) d_Mod_canFeast_21
def lb_Mod_goFeast_10 (v1 : Int32) (s : Int32 × Mem) : Option ((Int32 × Mem) ⊕ ((Mem))) :=
  if (s.2.1 162 4) ≤ s.1 then
  some (.inr s.2)
  else
  Option.bind (f_Mod_has (s.2.1 162 5) s.1) fun x2 =>
  if x2 = 0 then
  some (.inl ((s.1 + (1 : Int32)), s.2))
  else
  if inb s.1 96 = true then
  Option.bind (f_Mod_cellOf (s.2.1 163 s.1.toNatClampNeg)) fun x3 =>
  if inb x3 36 = true then
  if (s.2.1 164 x3.toNatClampNeg) = (3 : Int32) then
  if inb s.1 96 = true then
  Option.bind (f_Mod_cellOf (s.2.1 163 s.1.toNatClampNeg)) fun x4 =>
  Option.bind (f_Mod_placeOf ((1 : Int32) - v1) x4) fun x5 =>
  if inb s.1 96 = true then
  mem_ (s_i s.2 163 s.1.toNatClampNeg x5) fun M6 =>
  some (.inl ((s.1 + (1 : Int32)), M6))
  else none
  else none
  else
  some (.inl ((s.1 + (1 : Int32)), s.2))
  else none
  else none
theorem lb_Mod_goFeast_10_ok {E : Ev} {G : Gw} {d : Nat} {post : Mem → Prop} (X : Cx E G b_Mod_goFeast "WomenByTheRoofsModel" 3 d none) (hD : 2 ≤ d)  (v1 : Int32)   (s : Int32 × Mem) (o : (Int32 × Mem) ⊕ ((Mem))) (h : lb_Mod_goFeast_10 v1 s = some o) (kc : ∀ s9 : Int32 × Mem, o = .inl s9 → V E (0, 0) G 3 (QV E G post) s9.2 10 [(0, .ref (G.2.2 + 162)), (1, .int v1), (2, .int s9.1)] []) (kx0 : ∀ x9 : Mem, o = .inr x9 → V E (0, 0) G 3 (QV E G post) x9 74 [] []) : V E (0, 0) G 3 (QV E G post) s.2 10 [(0, .ref (G.2.2 + 162)), (1, .int v1), (2, .int s.1)] [] := by
  unfold lb_Mod_goFeast_10 at h
  refine V_iload_n (n := 2) X d_Mod_goFeast_10 rfl rfl rfl ?_
  refine V_aload_n (n := 0) X d_Mod_goFeast_11 rfl rfl rfl ?_
  refine V_geti X fo_Mod_123 kd_162 rfl d_Mod_goFeast_12 rfl ?_
  refine V_icmp_ge (tgt := 74) X d_Mod_goFeast_15 (by decide) rfl (fun c9 => ?_) (fun c9 => ?_)
  · rw [if_pos c9] at h
    refine V_sub (lv' := []) [] rfl ?_
    exact kx0 s.2 (Option.some.inj h).symm
  · rw [if_neg c9] at h
    refine V_aload_n (n := 0) X d_Mod_goFeast_18 rfl rfl rfl ?_
    refine V_geti X fo_Mod_130 kd_162 rfl d_Mod_goFeast_19 rfl ?_
    refine V_iload_n (n := 2) X d_Mod_goFeast_22 rfl rfl rfl ?_
    obtain ⟨x2, hx2, h⟩ := ob_s h
    refine V_si (As := [.int (s.2.1 162 5), .int s.1]) X (Z0 E) ml_Mod_133 yq_Mod_has (c_Mod_has E.2.1 G (s.2.1 162 5) s.1 s.2 x2 hx2 _ (Nat.le_refl _)) rfl (by omega) rfl (Nat.le_of_ble_eq_true rfl) d_Mod_goFeast_23 rfl (fun r9 M9 hq => ?_)
    rw [hq.1, hq.2]
    refine V_if_eq (tgt := 68) X d_Mod_goFeast_26 (by decide) rfl (fun c8 => ?_) (fun c8 => ?_)
    · rw [if_pos c8] at h
      refine V_iinc (n := 2) (v := (s.1 + (1 : Int32))) (lv' := [(2, .int (s.1 + (1 : Int32))), (0, .ref (G.2.2 + 162)), (1, .int v1)]) X d_Mod_goFeast_68 rfl rfl (by decide) rfl rfl ?_
      refine V_goto (pc' := 10) X d_Mod_goFeast_71 (by decide) ?_
      refine V_sub (lv' := [(0, .ref (G.2.2 + 162)), (1, .int v1), (2, .int (s.1 + (1 : Int32)))]) [1, 2, 0] rfl ?_
      exact kc ((s.1 + (1 : Int32)), s.2) (Option.some.inj h).symm
    · rw [if_neg c8] at h
      refine V_aload_n (n := 0) X d_Mod_goFeast_29 rfl rfl rfl ?_
      refine V_getr (k2 := 164) X fo_Mod_13 kd_162 rfl rf_162_1 d_Mod_goFeast_30 rfl ?_
      refine V_aload_n (n := 0) X d_Mod_goFeast_33 rfl rfl rfl ?_
      refine V_getr (k2 := 163) X fo_Mod_9 kd_162 rfl rf_162_0 d_Mod_goFeast_34 rfl ?_
      refine V_iload_n (n := 2) X d_Mod_goFeast_37 rfl rfl rfl ?_
      obtain ⟨hb, h⟩ := ifn h
      refine V_iald X kd_163 (inb_in ln_163 hb) d_Mod_goFeast_38 rfl ?_
      obtain ⟨x3, hx3, h⟩ := ob_s h
      refine V_si (As := [.int (s.2.1 163 s.1.toNatClampNeg)]) X (Z0 E) ml_Mod_147 yq_Mod_cellOf (c_Mod_cellOf E.2.1 G (s.2.1 163 s.1.toNatClampNeg) s.2 x3 hx3 _ (Nat.le_refl _)) rfl (by omega) rfl (Nat.le_of_ble_eq_true rfl) d_Mod_goFeast_39 rfl (fun r9 M9 hq => ?_)
      rw [hq.1, hq.2]
      obtain ⟨hb, h⟩ := ifn h
      refine V_iald X kd_164 (inb_in ln_164 hb) d_Mod_goFeast_42 rfl ?_
      refine V_iconst (v := 3) X d_Mod_goFeast_43 (by decide) rfl ?_
      refine V_icmp_ne (tgt := 68) X d_Mod_goFeast_44 (by decide) rfl (fun c7 => ?_) (fun c7 => ?_)
      · rw [if_neg c7] at h
        refine V_iinc (n := 2) (v := (s.1 + (1 : Int32))) (lv' := [(2, .int (s.1 + (1 : Int32))), (0, .ref (G.2.2 + 162)), (1, .int v1)]) X d_Mod_goFeast_68 rfl rfl (by decide) rfl rfl ?_
        refine V_goto (pc' := 10) X d_Mod_goFeast_71 (by decide) ?_
        refine V_sub (lv' := [(0, .ref (G.2.2 + 162)), (1, .int v1), (2, .int (s.1 + (1 : Int32)))]) [1, 2, 0] rfl ?_
        exact kc ((s.1 + (1 : Int32)), s.2) (Option.some.inj h).symm
      · rw [if_pos c7] at h
        refine V_aload_n (n := 0) X d_Mod_goFeast_47 rfl rfl rfl ?_
        refine V_getr (k2 := 163) X fo_Mod_9 kd_162 rfl rf_162_0 d_Mod_goFeast_48 rfl ?_
        refine V_iload_n (n := 2) X d_Mod_goFeast_51 rfl rfl rfl ?_
        refine V_iconst (v := 1) X d_Mod_goFeast_52 (by decide) rfl ?_
        refine V_iload_n (n := 1) X d_Mod_goFeast_53 rfl rfl rfl ?_
        refine V_isub X d_Mod_goFeast_54 rfl ?_
        refine V_aload_n (n := 0) X d_Mod_goFeast_55 rfl rfl rfl ?_
        refine V_getr (k2 := 163) X fo_Mod_9 kd_162 rfl rf_162_0 d_Mod_goFeast_56 rfl ?_
        refine V_iload_n (n := 2) X d_Mod_goFeast_59 rfl rfl rfl ?_
        obtain ⟨hb, h⟩ := ifn h
        refine V_iald X kd_163 (inb_in ln_163 hb) d_Mod_goFeast_60 rfl ?_
        obtain ⟨x4, hx4, h⟩ := ob_s h
        refine V_si (As := [.int (s.2.1 163 s.1.toNatClampNeg)]) X (Z0 E) ml_Mod_147 yq_Mod_cellOf (c_Mod_cellOf E.2.1 G (s.2.1 163 s.1.toNatClampNeg) s.2 x4 hx4 _ (Nat.le_refl _)) rfl (by omega) rfl (Nat.le_of_ble_eq_true rfl) d_Mod_goFeast_61 rfl (fun r9 M9 hq => ?_)
        rw [hq.1, hq.2]
        obtain ⟨x5, hx5, h⟩ := ob_s h
        refine V_si (As := [.int ((1 : Int32) - v1), .int x4]) X (Z0 E) ml_Mod_154 yq_Mod_placeOf (c_Mod_placeOf E.2.1 G ((1 : Int32) - v1) x4 s.2 x5 hx5 _ (Nat.le_refl _)) rfl (by omega) rfl (Nat.le_of_ble_eq_true rfl) d_Mod_goFeast_64 rfl (fun r9 M9 hq => ?_)
        rw [hq.1, hq.2]
        obtain ⟨hb, h⟩ := ifn h
        obtain ⟨M6, eM6, h⟩ := memS h
        refine V_iast X kd_163 (inb_in ln_163 hb) d_Mod_goFeast_67 rfl ?_
        rw [← eM6]
        refine V_iinc (n := 2) (v := (s.1 + (1 : Int32))) (lv' := [(2, .int (s.1 + (1 : Int32))), (0, .ref (G.2.2 + 162)), (1, .int v1)]) X d_Mod_goFeast_68 rfl rfl (by decide) rfl rfl ?_
        refine V_goto (pc' := 10) X d_Mod_goFeast_71 (by decide) ?_
        refine V_sub (lv' := [(0, .ref (G.2.2 + 162)), (1, .int v1), (2, .int (s.1 + (1 : Int32)))]) [1, 2, 0] rfl ?_
        exact kc ((s.1 + (1 : Int32)), M6) (Option.some.inj h).symm
theorem lp_Mod_goFeast_10_ok {E : Ev} {G : Gw} {d : Nat} {post : Mem → Prop} (X : Cx E G b_Mod_goFeast "WomenByTheRoofsModel" 3 d none) (hD : 2 ≤ d)  (v1 : Int32)   (n9 : Nat) (s : Int32 × Mem) (x : (Mem)) (h : iter (lb_Mod_goFeast_10 v1) n9 s = some x) (kx0 : ∀ x9 : Mem, x = x9 → V E (0, 0) G 3 (QV E G post) x9 74 [] []) : V E (0, 0) G 3 (QV E G post) s.2 10 [(0, .ref (G.2.2 + 162)), (1, .int v1), (2, .int s.1)] [] :=
  iter_P (P := fun s : Int32 × Mem => V E (0, 0) G 3 (QV E G post) s.2 10 [(0, .ref (G.2.2 + 162)), (1, .int v1), (2, .int s.1)] []) (fun s o hb kc ky => lb_Mod_goFeast_10_ok X hD v1 s o hb kc (fun x9 e9 => kx0 x9 (ky _ e9).symm)) n9 s h
def f_Mod_goFeast (v1 : Int32) (M : Mem) : Option (Mem) :=
  mem_ (s_i M 163 (94 : Int32).toNatClampNeg v1) fun M1 =>
  Option.bind (iter (lb_Mod_goFeast_10 v1) FU ((0 : Int32), M1)) fun x10 =>
  some x10
theorem c_Mod_goFeast (l : Launch) (G : Gw)  (v1 : Int32) (M : Mem) (x : Mem) (h : f_Mod_goFeast v1 M = some x) (d : Nat) (hD : 2 ≤ d) : Cv l G y_Mod_goFeast b_Mod_goFeast 3 none d [.ref (G.2.2 + 162), .int v1] M (fun M9 => M9 = x) := by
  refine Cv_of (by decide) (Nat.le_of_ble_eq_true rfl) (fun E hE X => ?_)
  subst hE
  have kr : ∀ x9 : Mem, x = x9 → (fun M9 => M9 = x) x9 := fun x9 e9 => by subst e9; exact rfl
  unfold f_Mod_goFeast at h
  refine V_aload_n (n := 0) X d_Mod_goFeast_0 rfl rfl rfl ?_
  refine V_getr (k2 := 163) X fo_Mod_9 kd_162 rfl rf_162_0 d_Mod_goFeast_1 rfl ?_
  refine V_bipush (v := 94) X d_Mod_goFeast_4 (by decide) rfl ?_
  refine V_iload_n (n := 1) X d_Mod_goFeast_6 rfl rfl rfl ?_
  obtain ⟨M1, eM1, h⟩ := memS h
  refine V_iast X kd_163 (inb_in ln_163 (by decide)) d_Mod_goFeast_7 rfl ?_
  rw [← eM1]
  refine V_iconst (v := 0) X d_Mod_goFeast_8 (by decide) rfl ?_
  refine V_istore_n (lv' := [(2, .int (0 : Int32)), (0, .ref (G.2.2 + 162)), (1, .int v1)]) X d_Mod_goFeast_9 rfl (by decide) rfl rfl ?_
  refine V_sub (lv' := [(0, .ref (G.2.2 + 162)), (1, .int v1), (2, .int (0 : Int32))]) [1, 2, 0] rfl ?_
  obtain ⟨x10, hx10, h⟩ := ob_s h
  refine lp_Mod_goFeast_10_ok X hD v1 _ _ _ hx10 (fun x9 e9 => ?_)
  subst e9
  exact V_vret X (kr x10 (Option.some.inj h).symm) d_Mod_goFeast_74
def f_Mod_feast (v1 : Int32) (M : Mem) : Option (Int32 × Mem) :=
  mem_ (s_i M 162 13 (0 : Int32)) fun M1 =>
  Option.bind (f_Mod_canFeast v1 M1) fun x2 =>
  if x2 = 0 then
  some ((-1 : Int32), M1)
  else
  Option.bind (f_Mod_remember 163 M1) fun x3 =>
  Option.bind (f_Mod_goFeast v1 x3) fun x4 =>
  Option.bind (f_Mod_womenBelow x4) fun x5 =>
  some (x5, x4)
theorem c_Mod_feast (l : Launch) (G : Gw)  (v1 : Int32) (M : Mem) (x : Int32 × Mem) (h : f_Mod_feast v1 M = some x) (d : Nat) (hD : 3 ≤ d) : Ci l G y_Mod_feast b_Mod_feast 2 (some .int) d [.ref (G.2.2 + 162), .int v1] M (fun r9 M9 => r9 = x.1 ∧ M9 = x.2) := by
  refine Ci_of (by decide) (Nat.le_of_ble_eq_true rfl) (fun E hE X => ?_)
  subst hE
  have kr : ∀ x9 : Int32 × Mem, x = x9 → (fun r9 M9 => r9 = x.1 ∧ M9 = x.2) x9.1 x9.2 := fun x9 e9 => by subst e9; exact ⟨rfl, rfl⟩
  unfold f_Mod_feast at h
  refine V_aload_n (n := 0) X d_Mod_feast_0 rfl rfl rfl ?_
  refine V_iconst (v := 0) X d_Mod_feast_1 (by decide) rfl ?_
  obtain ⟨M1, eM1, h⟩ := memS h
  refine V_putI X fp_Mod_109 kd_162 rfl d_Mod_feast_2 rfl ?_
  rw [← eM1]
  refine V_aload_n (n := 0) X d_Mod_feast_5 rfl rfl rfl ?_
  refine V_iload_n (n := 1) X d_Mod_feast_6 rfl rfl rfl ?_
  obtain ⟨x2, hx2, h⟩ := ob_s h
  refine V_ci (As := [.int v1]) X (Z0 E) ml_Mod_315 yq_Mod_canFeast (c_Mod_canFeast E.2.1 G v1 M1 x2 hx2 _ (Nat.le_refl _)) kd_162 rfl rfl (by omega) rfl (Nat.le_of_ble_eq_true rfl) d_Mod_feast_7 rfl (fun r9 M9 hq => ?_)
  rw [hq.1, hq.2]
  refine V_if_ne (tgt := 15) X d_Mod_feast_10 (by decide) rfl (fun c6 => ?_) (fun c6 => ?_)
  · rw [if_neg c6] at h
    refine V_aload_n (n := 0) X d_Mod_feast_15 rfl rfl rfl ?_
    refine V_aload_n (n := 0) X d_Mod_feast_16 rfl rfl rfl ?_
    refine V_getr (k2 := 163) X fo_Mod_9 kd_162 rfl rf_162_0 d_Mod_feast_17 rfl ?_
    obtain ⟨x3, hx3, h⟩ := ob_s h
    refine V_cv (As := [.ref (G.2.2 + 163)]) X (Z0 E) ml_Mod_293 yq_Mod_remember (c_Mod_remember E.2.1 G 163 M1 x3 hx3 _ (Nat.le_refl _)) kd_162 rfl rfl (by omega) rfl (Nat.le_of_ble_eq_true rfl) d_Mod_feast_20 rfl (fun M9 hq => ?_)
    rw [hq]
    refine V_aload_n (n := 0) X d_Mod_feast_23 rfl rfl rfl ?_
    refine V_iload_n (n := 1) X d_Mod_feast_24 rfl rfl rfl ?_
    obtain ⟨x4, hx4, h⟩ := ob_s h
    refine V_cv (As := [.int v1]) X (Z0 E) ml_Mod_318 yq_Mod_goFeast (c_Mod_goFeast E.2.1 G v1 x3 x4 hx4 _ (Nat.le_refl _)) kd_162 rfl rfl (by omega) rfl (Nat.le_of_ble_eq_true rfl) d_Mod_feast_25 rfl (fun M9 hq => ?_)
    rw [hq]
    refine V_aload_n (n := 0) X d_Mod_feast_28 rfl rfl rfl ?_
    obtain ⟨x5, hx5, h⟩ := ob_s h
    refine V_ci (As := []) X (Z0 E) ml_Mod_321 yq_Mod_womenBelow (c_Mod_womenBelow E.2.1 G  x4 x5 hx5 _ (Nat.le_refl _)) kd_162 rfl rfl (by omega) rfl (Nat.le_of_ble_eq_true rfl) d_Mod_feast_29 rfl (fun r9 M9 hq => ?_)
    rw [hq.1, hq.2]
    exact V_iret X (kr (x5, x4) (Option.some.inj h).symm) d_Mod_feast_32
  · rw [if_pos c6] at h
    refine V_iconst (v := -1) X d_Mod_feast_13 (by decide) rfl ?_
    exact V_iret X (kr ((-1 : Int32), M1) (Option.some.inj h).symm) d_Mod_feast_14
def f_Mod_areMeeting (v1 : Nat) (v2 : Int32) (v3 : Int32) (M : Mem) : Option (Int32) :=
  if kd v1 = 1 then
  if inb v2 (ln v1) = true then
  Option.bind (f_Mod_cellOf (M.1 v1 v2.toNatClampNeg)) fun x1 =>
  if inb v3 (ln v1) = true then
  Option.bind (f_Mod_cellOf (M.1 v1 v3.toNatClampNeg)) fun x2 =>
  if x1 = x2 then
  if inb v2 (ln v1) = true then
  Option.bind (f_Mod_cellOf (M.1 v1 v2.toNatClampNeg)) fun x3 =>
  if inb x3 36 = true then
  if (M.1 164 x3.toNatClampNeg) = (3 : Int32) then
  some (1 : Int32)
  else
  some (0 : Int32)
  else none
  else none
  else
  some (0 : Int32)
  else none
  else none
  else none
theorem c_Mod_areMeeting (l : Launch) (G : Gw)  (v1 : Nat) (v2 : Int32) (v3 : Int32) (M : Mem) (x : Int32) (h : f_Mod_areMeeting v1 v2 v3 M = some x) (d : Nat) (hD : 2 ≤ d) : Ci l G y_Mod_areMeeting b_Mod_areMeeting 4 (some .boolean) d [.ref (G.2.2 + 162), .ref (G.2.2 + v1), .int v2, .int v3] M (fun r9 M9 => r9 = x ∧ M9 = M) := by
  refine Ci_of (by decide) (Nat.le_of_ble_eq_true rfl) (fun E hE X => ?_)
  subst hE
  have kr : ∀ x9 : Int32, x = x9 → (fun r9 M9 => r9 = x ∧ M9 = M) x9 M := fun x9 e9 => by subst e9; exact ⟨rfl, rfl⟩
  unfold f_Mod_areMeeting at h
  obtain ⟨hk_v1, h⟩ := ifn h
  refine V_aload_n (n := 1) X d_Mod_areMeeting_0 rfl rfl rfl ?_
  refine V_iload_n (n := 2) X d_Mod_areMeeting_1 rfl rfl rfl ?_
  obtain ⟨hb, h⟩ := ifn h
  refine V_iald X hk_v1 (inb_in rfl hb) d_Mod_areMeeting_2 rfl ?_
  obtain ⟨x1, hx1, h⟩ := ob_s h
  refine V_si (As := [.int (M.1 v1 v2.toNatClampNeg)]) X (Z0 E) ml_Mod_147 yq_Mod_cellOf (c_Mod_cellOf E.2.1 G (M.1 v1 v2.toNatClampNeg) M x1 hx1 _ (Nat.le_refl _)) rfl (by omega) rfl (Nat.le_of_ble_eq_true rfl) d_Mod_areMeeting_3 rfl (fun r9 M9 hq => ?_)
  rw [hq.1, hq.2]
  refine V_aload_n (n := 1) X d_Mod_areMeeting_6 rfl rfl rfl ?_
  refine V_iload_n (n := 3) X d_Mod_areMeeting_7 rfl rfl rfl ?_
  obtain ⟨hb, h⟩ := ifn h
  refine V_iald X hk_v1 (inb_in rfl hb) d_Mod_areMeeting_8 rfl ?_
  obtain ⟨x2, hx2, h⟩ := ob_s h
  refine V_si (As := [.int (M.1 v1 v3.toNatClampNeg)]) X (Z0 E) ml_Mod_147 yq_Mod_cellOf (c_Mod_cellOf E.2.1 G (M.1 v1 v3.toNatClampNeg) M x2 hx2 _ (Nat.le_refl _)) rfl (by omega) rfl (Nat.le_of_ble_eq_true rfl) d_Mod_areMeeting_9 rfl (fun r9 M9 hq => ?_)
  rw [hq.1, hq.2]
  refine V_icmp_ne (tgt := 34) X d_Mod_areMeeting_12 (by decide) rfl (fun c5 => ?_) (fun c5 => ?_)
  · rw [if_neg c5] at h
    refine V_iconst (v := 0) X d_Mod_areMeeting_34 (by decide) rfl ?_
    exact V_zret X (kr (0 : Int32) (Option.some.inj h).symm) (by decide) d_Mod_areMeeting_35
  · rw [if_pos c5] at h
    refine V_aload_n (n := 0) X d_Mod_areMeeting_15 rfl rfl rfl ?_
    refine V_getr (k2 := 164) X fo_Mod_13 kd_162 rfl rf_162_1 d_Mod_areMeeting_16 rfl ?_
    refine V_aload_n (n := 1) X d_Mod_areMeeting_19 rfl rfl rfl ?_
    refine V_iload_n (n := 2) X d_Mod_areMeeting_20 rfl rfl rfl ?_
    obtain ⟨hb, h⟩ := ifn h
    refine V_iald X hk_v1 (inb_in rfl hb) d_Mod_areMeeting_21 rfl ?_
    obtain ⟨x3, hx3, h⟩ := ob_s h
    refine V_si (As := [.int (M.1 v1 v2.toNatClampNeg)]) X (Z0 E) ml_Mod_147 yq_Mod_cellOf (c_Mod_cellOf E.2.1 G (M.1 v1 v2.toNatClampNeg) M x3 hx3 _ (Nat.le_refl _)) rfl (by omega) rfl (Nat.le_of_ble_eq_true rfl) d_Mod_areMeeting_22 rfl (fun r9 M9 hq => ?_)
    rw [hq.1, hq.2]
    obtain ⟨hb, h⟩ := ifn h
    refine V_iald X kd_164 (inb_in ln_164 hb) d_Mod_areMeeting_25 rfl ?_
    refine V_iconst (v := 3) X d_Mod_areMeeting_26 (by decide) rfl ?_
    refine V_icmp_ne (tgt := 34) X d_Mod_areMeeting_27 (by decide) rfl (fun c4 => ?_) (fun c4 => ?_)
    · rw [if_neg c4] at h
      refine V_iconst (v := 0) X d_Mod_areMeeting_34 (by decide) rfl ?_
      exact V_zret X (kr (0 : Int32) (Option.some.inj h).symm) (by decide) d_Mod_areMeeting_35
    · rw [if_pos c4] at h
      refine V_iconst (v := 1) X d_Mod_areMeeting_30 (by decide) rfl ?_
      refine V_goto (pc' := 35) X d_Mod_areMeeting_31 (by decide) ?_
      exact V_zret X (kr (1 : Int32) (Option.some.inj h).symm) (by decide) d_Mod_areMeeting_35
def lb_Mod_hears_64 (v1 : Nat) (v4 : Int32) (M : Mem) (s : Int32 × Int32) : Option ((Int32 × Int32) ⊕ ((Int32))) :=
  if (4 : Int32) ≤ s.2 then
  some (.inr s.1)
  else
  Option.bind (f_Mod_beside v4 s.2 M) fun x4 =>
  if x4 = (-1 : Int32) then
  some (.inl (s.1, (s.2 + (1 : Int32))))
  else
  Option.bind (f_Mod_beside v4 s.2 M) fun x5 =>
  Option.bind (f_Mod_onPlace v1 x5 M) fun x6 =>
  some (.inl ((s.1 ||| x6), (s.2 + (1 : Int32))))
theorem lb_Mod_hears_64_ok {E : Ev} {G : Gw} {d : Nat} {post : Int32 → Mem → Prop} (X : Cx E G b_Mod_hears "WomenByTheRoofsModel" 6 d (some .int)) (hD : 3 ≤ d)  (v1 : Nat) (v4 : Int32) (hk_v1 : kd v1 = 1) (M : Mem) (s : Int32 × Int32) (o : (Int32 × Int32) ⊕ ((Int32))) (h : lb_Mod_hears_64 v1 v4 M s = some o) (kc : ∀ s9 : Int32 × Int32, o = .inl s9 → V E (0, 0) G 6 (QI E G post) M 64 [(0, .ref (G.2.2 + 162)), (1, .ref (G.2.2 + v1)), (3, .int s9.1), (4, .int v4), (5, .int s9.2)] []) (kx0 : ∀ x9 : Int32, o = .inr x9 → V E (0, 0) G 6 (QI E G post) M 104 [(3, .int x9)] []) : V E (0, 0) G 6 (QI E G post) M 64 [(0, .ref (G.2.2 + 162)), (1, .ref (G.2.2 + v1)), (3, .int s.1), (4, .int v4), (5, .int s.2)] [] := by
  unfold lb_Mod_hears_64 at h
  refine V_iload (n := 4) X d_Mod_hears_64 rfl rfl ?_
  refine V_iconst (v := 4) X d_Mod_hears_66 (by decide) rfl ?_
  refine V_icmp_ge (tgt := 104) X d_Mod_hears_67 (by decide) rfl (fun c8 => ?_) (fun c8 => ?_)
  · rw [if_pos c8] at h
    refine V_sub (lv' := [(3, .int s.1)]) [2] rfl ?_
    exact kx0 s.1 (Option.some.inj h).symm
  · rw [if_neg c8] at h
    refine V_aload_n (n := 0) X d_Mod_hears_70 rfl rfl rfl ?_
    refine V_iload (n := 3) X d_Mod_hears_71 rfl rfl ?_
    refine V_iload (n := 4) X d_Mod_hears_73 rfl rfl ?_
    obtain ⟨x4, hx4, h⟩ := ob_s h
    refine V_ci (As := [.int v4, .int s.2]) X (Z0 E) ml_Mod_150 yq_Mod_beside (c_Mod_beside E.2.1 G v4 s.2 M x4 hx4 _ (Nat.le_refl _)) kd_162 rfl rfl (by omega) rfl (Nat.le_of_ble_eq_true rfl) d_Mod_hears_75 rfl (fun r9 M9 hq => ?_)
    rw [hq.1, hq.2]
    refine V_iconst (v := -1) X d_Mod_hears_78 (by decide) rfl ?_
    refine V_icmp_eq (tgt := 98) X d_Mod_hears_79 (by decide) rfl (fun c7 => ?_) (fun c7 => ?_)
    · rw [if_pos c7] at h
      refine V_iinc (n := 4) (v := (s.2 + (1 : Int32))) (lv' := [(5, .int (s.2 + (1 : Int32))), (0, .ref (G.2.2 + 162)), (1, .ref (G.2.2 + v1)), (3, .int s.1), (4, .int v4)]) X d_Mod_hears_98 rfl rfl (by decide) rfl rfl ?_
      refine V_goto (pc' := 64) X d_Mod_hears_101 (by decide) ?_
      refine V_sub (lv' := [(0, .ref (G.2.2 + 162)), (1, .ref (G.2.2 + v1)), (3, .int s.1), (4, .int v4), (5, .int (s.2 + (1 : Int32)))]) [1, 2, 3, 4, 0] rfl ?_
      exact kc (s.1, (s.2 + (1 : Int32))) (Option.some.inj h).symm
    · rw [if_neg c7] at h
      refine V_iload_n (n := 2) X d_Mod_hears_82 rfl rfl rfl ?_
      refine V_aload_n (n := 0) X d_Mod_hears_83 rfl rfl rfl ?_
      refine V_aload_n (n := 1) X d_Mod_hears_84 rfl rfl rfl ?_
      refine V_aload_n (n := 0) X d_Mod_hears_85 rfl rfl rfl ?_
      refine V_iload (n := 3) X d_Mod_hears_86 rfl rfl ?_
      refine V_iload (n := 4) X d_Mod_hears_88 rfl rfl ?_
      obtain ⟨x5, hx5, h⟩ := ob_s h
      refine V_ci (As := [.int v4, .int s.2]) X (Z0 E) ml_Mod_150 yq_Mod_beside (c_Mod_beside E.2.1 G v4 s.2 M x5 hx5 _ (Nat.le_refl _)) kd_162 rfl rfl (by omega) rfl (Nat.le_of_ble_eq_true rfl) d_Mod_hears_90 rfl (fun r9 M9 hq => ?_)
      rw [hq.1, hq.2]
      obtain ⟨x6, hx6, h⟩ := ob_s h
      refine V_ci (As := [.ref (G.2.2 + v1), .int x5]) X (Z0 E) ml_Mod_259 yq_Mod_onPlace (c_Mod_onPlace E.2.1 G v1 x5 M x6 hx6 _ (Nat.le_refl _)) kd_162 rfl rfl (by omega) rfl (Nat.le_of_ble_eq_true rfl) d_Mod_hears_93 rfl (fun r9 M9 hq => ?_)
      rw [hq.1, hq.2]
      refine V_ior X d_Mod_hears_96 rfl ?_
      refine V_istore_n (lv' := [(3, .int (s.1 ||| x6)), (0, .ref (G.2.2 + 162)), (1, .ref (G.2.2 + v1)), (4, .int v4), (5, .int s.2)]) X d_Mod_hears_97 rfl (by decide) rfl rfl ?_
      refine V_iinc (n := 4) (v := (s.2 + (1 : Int32))) (lv' := [(5, .int (s.2 + (1 : Int32))), (3, .int (s.1 ||| x6)), (0, .ref (G.2.2 + 162)), (1, .ref (G.2.2 + v1)), (4, .int v4)]) X d_Mod_hears_98 rfl rfl (by decide) rfl rfl ?_
      refine V_goto (pc' := 64) X d_Mod_hears_101 (by decide) ?_
      refine V_sub (lv' := [(0, .ref (G.2.2 + 162)), (1, .ref (G.2.2 + v1)), (3, .int (s.1 ||| x6)), (4, .int v4), (5, .int (s.2 + (1 : Int32)))]) [2, 3, 1, 4, 0] rfl ?_
      exact kc ((s.1 ||| x6), (s.2 + (1 : Int32))) (Option.some.inj h).symm
theorem lp_Mod_hears_64_ok {E : Ev} {G : Gw} {d : Nat} {post : Int32 → Mem → Prop} (X : Cx E G b_Mod_hears "WomenByTheRoofsModel" 6 d (some .int)) (hD : 3 ≤ d)  (v1 : Nat) (v4 : Int32) (hk_v1 : kd v1 = 1) (M : Mem) (n9 : Nat) (s : Int32 × Int32) (x : (Int32)) (h : iter (lb_Mod_hears_64 v1 v4 M) n9 s = some x) (kx0 : ∀ x9 : Int32, x = x9 → V E (0, 0) G 6 (QI E G post) M 104 [(3, .int x9)] []) : V E (0, 0) G 6 (QI E G post) M 64 [(0, .ref (G.2.2 + 162)), (1, .ref (G.2.2 + v1)), (3, .int s.1), (4, .int v4), (5, .int s.2)] [] :=
  iter_P (P := fun s : Int32 × Int32 => V E (0, 0) G 6 (QI E G post) M 64 [(0, .ref (G.2.2 + 162)), (1, .ref (G.2.2 + v1)), (3, .int s.1), (4, .int v4), (5, .int s.2)] []) (fun s o hb kc ky => lb_Mod_hears_64_ok X hD v1 v4 hk_v1 M s o hb kc (fun x9 e9 => kx0 x9 (ky _ e9).symm)) n9 s h
def j_Mod_hears_50 (v1 : Nat) (v2 : Int32) (v3 : Int32) (v4 : Int32) (M : Mem) : Option (Int32) :=
  if inb v2 (ln v1) = true then
  Option.bind (f_Mod_levelOf (M.1 v1 v2.toNatClampNeg)) fun x3 =>
  if x3 = 0 then
  some v3
  else
  Option.bind (iter (lb_Mod_hears_64 v1 v4 M) FU (v3, (0 : Int32))) fun x9 =>
  some x9
  else none
theorem j_Mod_hears_50_ok {E : Ev} {G : Gw} {d : Nat} {post : Int32 → Mem → Prop} (X : Cx E G b_Mod_hears "WomenByTheRoofsModel" 6 d (some .int)) (hD : 3 ≤ d)  (v1 : Nat) (v2 : Int32) (v3 : Int32) (v4 : Int32) (hk_v1 : kd v1 = 1)  (M : Mem)  (o : Int32) (h : j_Mod_hears_50 v1 v2 v3 v4 M = some o) (kr : ∀ x9 : Int32, o = x9 → post x9 M) : V E (0, 0) G 6 (QI E G post) M 50 [(0, .ref (G.2.2 + 162)), (1, .ref (G.2.2 + v1)), (2, .int v2), (3, .int v3), (4, .int v4)] [] := by
  unfold j_Mod_hears_50 at h
  refine V_aload_n (n := 1) X d_Mod_hears_50 rfl rfl rfl ?_
  refine V_iload_n (n := 2) X d_Mod_hears_51 rfl rfl rfl ?_
  obtain ⟨hb, h⟩ := ifn h
  refine V_iald X hk_v1 (inb_in rfl hb) d_Mod_hears_52 rfl ?_
  obtain ⟨x3, hx3, h⟩ := ob_s h
  refine V_si (As := [.int (M.1 v1 v2.toNatClampNeg)]) X (Z0 E) ml_Mod_143 yq_Mod_levelOf (c_Mod_levelOf E.2.1 G (M.1 v1 v2.toNatClampNeg) M x3 hx3 _ (Nat.le_refl _)) rfl (by omega) rfl (Nat.le_of_ble_eq_true rfl) d_Mod_hears_53 rfl (fun r9 M9 hq => ?_)
  rw [hq.1, hq.2]
  refine V_if_ne (tgt := 61) X d_Mod_hears_56 (by decide) rfl (fun c10 => ?_) (fun c10 => ?_)
  · rw [if_neg c10] at h
    refine V_iconst (v := 0) X d_Mod_hears_61 (by decide) rfl ?_
    refine V_istore (lv' := [(5, .int (0 : Int32)), (0, .ref (G.2.2 + 162)), (1, .ref (G.2.2 + v1)), (2, .int v2), (3, .int v3), (4, .int v4)]) X d_Mod_hears_62 (by decide) rfl rfl ?_
    refine V_sub (lv' := [(0, .ref (G.2.2 + 162)), (1, .ref (G.2.2 + v1)), (3, .int v3), (4, .int v4), (5, .int (0 : Int32))]) [1, 2, 4, 5, 0] rfl ?_
    obtain ⟨x9, hx9, h⟩ := ob_s h
    refine lp_Mod_hears_64_ok X hD v1 v4 hk_v1 M _ _ _ hx9 (fun x9 e9 => ?_)
    subst e9
    refine V_iload_n (n := 0) X d_Mod_hears_104 rfl rfl rfl ?_
    exact V_iret X (kr x9 (Option.some.inj h).symm) d_Mod_hears_105
  · rw [if_pos c10] at h
    refine V_iload_n (n := 3) X d_Mod_hears_59 rfl rfl rfl ?_
    exact V_iret X (kr v3 (Option.some.inj h).symm) d_Mod_hears_60
def f_Mod_hears (v1 : Nat) (v2 : Int32) (M : Mem) : Option (Int32) :=
  if kd v1 = 1 then
  if inb v2 (ln v1) = true then
  Option.bind (f_Mod_onPlace v1 (M.1 v1 v2.toNatClampNeg) M) fun x1 =>
  if inb v2 (ln v1) = true then
  Option.bind (f_Mod_cellOf (M.1 v1 v2.toNatClampNeg)) fun x2 =>
  if inb x2 36 = true then
  if (M.1 164 x2.toNatClampNeg) = (3 : Int32) then
  Option.bind (f_Mod_onPlace v1 x2 M) fun x11 =>
  Option.bind (f_Mod_placeOf (1 : Int32) x2) fun x12 =>
  Option.bind (f_Mod_onPlace v1 x12 M) fun x13 =>
  j_Mod_hears_50 v1 v2 (x1 ||| (x11 ||| x13)) x2 M
  else
  j_Mod_hears_50 v1 v2 x1 x2 M
  else none
  else none
  else none
  else none
theorem c_Mod_hears (l : Launch) (G : Gw)  (v1 : Nat) (v2 : Int32) (M : Mem) (x : Int32) (h : f_Mod_hears v1 v2 M = some x) (d : Nat) (hD : 3 ≤ d) : Ci l G y_Mod_hears b_Mod_hears 6 (some .int) d [.ref (G.2.2 + 162), .ref (G.2.2 + v1), .int v2] M (fun r9 M9 => r9 = x ∧ M9 = M) := by
  refine Ci_of (by decide) (Nat.le_of_ble_eq_true rfl) (fun E hE X => ?_)
  subst hE
  have kr : ∀ x9 : Int32, x = x9 → (fun r9 M9 => r9 = x ∧ M9 = M) x9 M := fun x9 e9 => by subst e9; exact ⟨rfl, rfl⟩
  unfold f_Mod_hears at h
  obtain ⟨hk_v1, h⟩ := ifn h
  refine V_aload_n (n := 0) X d_Mod_hears_0 rfl rfl rfl ?_
  refine V_aload_n (n := 1) X d_Mod_hears_1 rfl rfl rfl ?_
  refine V_aload_n (n := 1) X d_Mod_hears_2 rfl rfl rfl ?_
  refine V_iload_n (n := 2) X d_Mod_hears_3 rfl rfl rfl ?_
  obtain ⟨hb, h⟩ := ifn h
  refine V_iald X hk_v1 (inb_in rfl hb) d_Mod_hears_4 rfl ?_
  obtain ⟨x1, hx1, h⟩ := ob_s h
  refine V_ci (As := [.ref (G.2.2 + v1), .int (M.1 v1 v2.toNatClampNeg)]) X (Z0 E) ml_Mod_259 yq_Mod_onPlace (c_Mod_onPlace E.2.1 G v1 (M.1 v1 v2.toNatClampNeg) M x1 hx1 _ (Nat.le_refl _)) kd_162 rfl rfl (by omega) rfl (Nat.le_of_ble_eq_true rfl) d_Mod_hears_5 rfl (fun r9 M9 hq => ?_)
  rw [hq.1, hq.2]
  refine V_istore_n (lv' := [(3, .int x1), (0, .ref (G.2.2 + 162)), (1, .ref (G.2.2 + v1)), (2, .int v2)]) X d_Mod_hears_8 rfl (by decide) rfl rfl ?_
  refine V_aload_n (n := 2) X d_Mod_hears_9 rfl rfl rfl ?_
  refine V_iload_n (n := 3) X d_Mod_hears_10 rfl rfl rfl ?_
  obtain ⟨hb, h⟩ := ifn h
  refine V_iald X hk_v1 (inb_in rfl hb) d_Mod_hears_11 rfl ?_
  obtain ⟨x2, hx2, h⟩ := ob_s h
  refine V_si (As := [.int (M.1 v1 v2.toNatClampNeg)]) X (Z0 E) ml_Mod_147 yq_Mod_cellOf (c_Mod_cellOf E.2.1 G (M.1 v1 v2.toNatClampNeg) M x2 hx2 _ (Nat.le_refl _)) rfl (by omega) rfl (Nat.le_of_ble_eq_true rfl) d_Mod_hears_12 rfl (fun r9 M9 hq => ?_)
  rw [hq.1, hq.2]
  refine V_istore (lv' := [(4, .int x2), (3, .int x1), (0, .ref (G.2.2 + 162)), (1, .ref (G.2.2 + v1)), (2, .int v2)]) X d_Mod_hears_15 (by decide) rfl rfl ?_
  refine V_aload_n (n := 2) X d_Mod_hears_17 rfl rfl rfl ?_
  refine V_getr (k2 := 164) X fo_Mod_13 kd_162 rfl rf_162_1 d_Mod_hears_18 rfl ?_
  refine V_iload (n := 0) X d_Mod_hears_21 rfl rfl ?_
  obtain ⟨hb, h⟩ := ifn h
  refine V_iald X kd_164 (inb_in ln_164 hb) d_Mod_hears_23 rfl ?_
  refine V_iconst (v := 3) X d_Mod_hears_24 (by decide) rfl ?_
  refine V_icmp_ne (tgt := 50) X d_Mod_hears_25 (by decide) rfl (fun c14 => ?_) (fun c14 => ?_)
  · rw [if_neg c14] at h
    refine V_sub (lv' := [(0, .ref (G.2.2 + 162)), (1, .ref (G.2.2 + v1)), (2, .int v2), (3, .int x1), (4, .int x2)]) [2, 3, 4, 1, 0] rfl ?_
    exact j_Mod_hears_50_ok X hD v1 v2 x1 x2 hk_v1 M _ h kr
  · rw [if_pos c14] at h
    refine V_iload_n (n := 1) X d_Mod_hears_28 rfl rfl rfl ?_
    refine V_aload_n (n := 2) X d_Mod_hears_29 rfl rfl rfl ?_
    refine V_aload_n (n := 3) X d_Mod_hears_30 rfl rfl rfl ?_
    refine V_iload (n := 0) X d_Mod_hears_31 rfl rfl ?_
    obtain ⟨x11, hx11, h⟩ := ob_s h
    refine V_ci (As := [.ref (G.2.2 + v1), .int x2]) X (Z0 E) ml_Mod_259 yq_Mod_onPlace (c_Mod_onPlace E.2.1 G v1 x2 M x11 hx11 _ (Nat.le_refl _)) kd_162 rfl rfl (by omega) rfl (Nat.le_of_ble_eq_true rfl) d_Mod_hears_33 rfl (fun r9 M9 hq => ?_)
    rw [hq.1, hq.2]
    refine V_aload_n (n := 2) X d_Mod_hears_36 rfl rfl rfl ?_
    refine V_aload_n (n := 3) X d_Mod_hears_37 rfl rfl rfl ?_
    refine V_iconst (v := 1) X d_Mod_hears_38 (by decide) rfl ?_
    refine V_iload (n := 0) X d_Mod_hears_39 rfl rfl ?_
    obtain ⟨x12, hx12, h⟩ := ob_s h
    refine V_si (As := [.int (1 : Int32), .int x2]) X (Z0 E) ml_Mod_154 yq_Mod_placeOf (c_Mod_placeOf E.2.1 G (1 : Int32) x2 M x12 hx12 _ (Nat.le_refl _)) rfl (by omega) rfl (Nat.le_of_ble_eq_true rfl) d_Mod_hears_41 rfl (fun r9 M9 hq => ?_)
    rw [hq.1, hq.2]
    obtain ⟨x13, hx13, h⟩ := ob_s h
    refine V_ci (As := [.ref (G.2.2 + v1), .int x12]) X (Z0 E) ml_Mod_259 yq_Mod_onPlace (c_Mod_onPlace E.2.1 G v1 x12 M x13 hx13 _ (Nat.le_refl _)) kd_162 rfl rfl (by omega) rfl (Nat.le_of_ble_eq_true rfl) d_Mod_hears_44 rfl (fun r9 M9 hq => ?_)
    rw [hq.1, hq.2]
    refine V_ior X d_Mod_hears_47 rfl ?_
    refine V_ior X d_Mod_hears_48 rfl ?_
    refine V_istore_n (lv' := [(3, .int (x1 ||| (x11 ||| x13))), (4, .int x2), (0, .ref (G.2.2 + 162)), (1, .ref (G.2.2 + v1)), (2, .int v2)]) X d_Mod_hears_49 rfl (by decide) rfl rfl ?_
    refine V_sub (lv' := [(0, .ref (G.2.2 + 162)), (1, .ref (G.2.2 + v1)), (2, .int v2), (3, .int (x1 ||| (x11 ||| x13))), (4, .int x2)]) [2, 3, 4, 0, 1] rfl ?_
    exact j_Mod_hears_50_ok X hD v1 v2 (x1 ||| (x11 ||| x13)) x2 hk_v1 M _ h kr
