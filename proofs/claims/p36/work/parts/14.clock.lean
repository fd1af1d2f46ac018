theorem d_Clock_move_0 : decode b_Clock_move 0 = .ok (.aload_n 3, 1) := kq_45 byq_r (by decide +kernel)
theorem d_Clock_move_1 : decode b_Clock_move 1 = .ok (.iload_n 1, 1) := kq_27 byq_r (by decide +kernel)
theorem d_Clock_move_2 : decode b_Clock_move 2 = .ok (.aload_n 2, 1) := kq_44 byq_r (by decide +kernel)
theorem d_Clock_move_3 : decode b_Clock_move 3 = .ok (.getfield 64, 3) := kq_180 byq_r (a := 0) (b := 64) (by decide +kernel)
theorem d_Clock_move_6 : decode b_Clock_move 6 = .ok (.iload_n 1, 1) := kq_27 byq_r (by decide +kernel)
theorem d_Clock_move_7 : decode b_Clock_move 7 = .ok (.iaload, 1) := kq_46 byq_r (by decide +kernel)
theorem d_Clock_move_8 : decode b_Clock_move 8 = .ok (.invokevirtual 68, 3) := kq_182 byq_r (a := 0) (b := 68) (by decide +kernel)
theorem d_Clock_move_11 : decode b_Clock_move 11 = .ok (.istore 5, 2) := kq_54 byq_r (by decide +kernel)
theorem d_Clock_move_13 : decode b_Clock_move 13 = .ok (.aload 4, 2) := kq_25 byq_r (by decide +kernel)
theorem d_Clock_move_15 : decode b_Clock_move 15 = .ok (.aload_n 2, 1) := kq_44 byq_r (by decide +kernel)
theorem d_Clock_move_16 : decode b_Clock_move 16 = .ok (.getfield 72, 3) := kq_180 byq_r (a := 0) (b := 72) (by decide +kernel)
theorem d_Clock_move_19 : decode b_Clock_move 19 = .ok (.iload_n 1, 1) := kq_27 byq_r (by decide +kernel)
theorem d_Clock_move_20 : decode b_Clock_move 20 = .ok (.iaload, 1) := kq_46 byq_r (by decide +kernel)
theorem d_Clock_move_21 : decode b_Clock_move 21 = .ok (.aload_n 2, 1) := kq_44 byq_r (by decide +kernel)
theorem d_Clock_move_22 : decode b_Clock_move 22 = .ok (.getfield 75, 3) := kq_180 byq_r (a := 0) (b := 75) (by decide +kernel)
theorem d_Clock_move_25 : decode b_Clock_move 25 = .ok (.iload_n 1, 1) := kq_27 byq_r (by decide +kernel)
theorem d_Clock_move_26 : decode b_Clock_move 26 = .ok (.iaload, 1) := kq_46 byq_r (by decide +kernel)
theorem d_Clock_move_27 : decode b_Clock_move 27 = .ok (.iload 5, 2) := kq_21 byq_r (by decide +kernel)
theorem d_Clock_move_29 : decode b_Clock_move 29 = .ok (.invokevirtual 78, 3) := kq_182 byq_r (a := 0) (b := 78) (by decide +kernel)
theorem d_Clock_move_32 : decode b_Clock_move 32 = .ok (.istore 6, 2) := kq_54 byq_r (by decide +kernel)
theorem d_Clock_move_34 : decode b_Clock_move 34 = .ok (.iload 6, 2) := kq_21 byq_r (by decide +kernel)
theorem d_Clock_move_36 : decode b_Clock_move 36 = .ok (.iconst (-1), 1) := kq_2 byq_r (by decide +kernel)
theorem d_Clock_move_37 : decode b_Clock_move 37 = .ok (.if_icmp .eq 34, 3) := kq_159 byq_r (a := 0) (b := 34) (by decide +kernel)
theorem d_Clock_move_40 : decode b_Clock_move 40 = .ok (.iload 6, 2) := kq_21 byq_r (by decide +kernel)
theorem d_Clock_move_42 : decode b_Clock_move 42 = .ok (.aload_n 2, 1) := kq_44 byq_r (by decide +kernel)
theorem d_Clock_move_43 : decode b_Clock_move 43 = .ok (.getfield 75, 3) := kq_180 byq_r (a := 0) (b := 75) (by decide +kernel)
theorem d_Clock_move_46 : decode b_Clock_move 46 = .ok (.iload_n 1, 1) := kq_27 byq_r (by decide +kernel)
theorem d_Clock_move_47 : decode b_Clock_move 47 = .ok (.iaload, 1) := kq_46 byq_r (by decide +kernel)
theorem d_Clock_move_48 : decode b_Clock_move 48 = .ok (.if_icmp .eq 23, 3) := kq_159 byq_r (a := 0) (b := 23) (by decide +kernel)
theorem d_Clock_move_51 : decode b_Clock_move 51 = .ok (.aload_n 2, 1) := kq_44 byq_r (by decide +kernel)
theorem d_Clock_move_52 : decode b_Clock_move 52 = .ok (.getfield 75, 3) := kq_180 byq_r (a := 0) (b := 75) (by decide +kernel)
theorem d_Clock_move_55 : decode b_Clock_move 55 = .ok (.iload_n 1, 1) := kq_27 byq_r (by decide +kernel)
theorem d_Clock_move_56 : decode b_Clock_move 56 = .ok (.iload 6, 2) := kq_21 byq_r (by decide +kernel)
theorem d_Clock_move_58 : decode b_Clock_move 58 = .ok (.iastore, 1) := kq_79 byq_r (by decide +kernel)
theorem d_Clock_move_59 : decode b_Clock_move 59 = .ok (.aload_n 0, 1) := kq_42 byq_r (by decide +kernel)
theorem d_Clock_move_60 : decode b_Clock_move 60 = .ok (.dup, 1) := kq_89 byq_r (by decide +kernel)
theorem d_Clock_move_61 : decode b_Clock_move 61 = .ok (.getfield 18, 3) := kq_180 byq_r (a := 0) (b := 18) (by decide +kernel)
theorem d_Clock_move_64 : decode b_Clock_move 64 = .ok (.iconst 1, 1) := kq_4 byq_r (by decide +kernel)
theorem d_Clock_move_65 : decode b_Clock_move 65 = .ok (.iload_n 1, 1) := kq_27 byq_r (by decide +kernel)
theorem d_Clock_move_66 : decode b_Clock_move 66 = .ok (.ishl, 1) := kq_120 byq_r (by decide +kernel)
theorem d_Clock_move_67 : decode b_Clock_move 67 = .ok (.ior, 1) := kq_128 byq_r (by decide +kernel)
theorem d_Clock_move_68 : decode b_Clock_move 68 = .ok (.putfield 18, 3) := kq_181 byq_r (a := 0) (b := 18) (by decide +kernel)
theorem d_Clock_move_71 : decode b_Clock_move 71 = .ok (.aload_n 2, 1) := kq_44 byq_r (by decide +kernel)
theorem d_Clock_move_72 : decode b_Clock_move 72 = .ok (.getfield 64, 3) := kq_180 byq_r (a := 0) (b := 64) (by decide +kernel)
theorem d_Clock_move_75 : decode b_Clock_move 75 = .ok (.iload_n 1, 1) := kq_27 byq_r (by decide +kernel)
theorem d_Clock_move_76 : decode b_Clock_move 76 = .ok (.aload_n 3, 1) := kq_45 byq_r (by decide +kernel)
theorem d_Clock_move_77 : decode b_Clock_move 77 = .ok (.iload_n 1, 1) := kq_27 byq_r (by decide +kernel)
theorem d_Clock_move_78 : decode b_Clock_move 78 = .ok (.aload_n 2, 1) := kq_44 byq_r (by decide +kernel)
theorem d_Clock_move_79 : decode b_Clock_move 79 = .ok (.getfield 64, 3) := kq_180 byq_r (a := 0) (b := 64) (by decide +kernel)
theorem d_Clock_move_82 : decode b_Clock_move 82 = .ok (.iload_n 1, 1) := kq_27 byq_r (by decide +kernel)
theorem d_Clock_move_83 : decode b_Clock_move 83 = .ok (.iaload, 1) := kq_46 byq_r (by decide +kernel)
theorem d_Clock_move_84 : decode b_Clock_move 84 = .ok (.invokevirtual 84, 3) := kq_182 byq_r (a := 0) (b := 84) (by decide +kernel)
theorem d_Clock_move_87 : decode b_Clock_move 87 = .ok (.iastore, 1) := kq_79 byq_r (by decide +kernel)
theorem d_Clock_move_88 : decode b_Clock_move 88 = .ok (.return_, 1) := kq_177 byq_r (by decide +kernel)
theorem d_Clock_greet_0 : decode b_Clock_greet 0 = .ok (.aload_n 3, 1) := kq_45 byq_r (by decide +kernel)
theorem d_Clock_greet_1 : decode b_Clock_greet 1 = .ok (.iload_n 1, 1) := kq_27 byq_r (by decide +kernel)
theorem d_Clock_greet_2 : decode b_Clock_greet 2 = .ok (.invokevirtual 87, 3) := kq_182 byq_r (a := 0) (b := 87) (by decide +kernel)
theorem d_Clock_greet_5 : decode b_Clock_greet 5 = .ok (.ifCond .ne 17, 3) := kq_154 byq_r (a := 0) (b := 17) (by decide +kernel)
theorem d_Clock_greet_8 : decode b_Clock_greet 8 = .ok (.aload 4, 2) := kq_25 byq_r (by decide +kernel)
theorem d_Clock_greet_10 : decode b_Clock_greet 10 = .ok (.aload_n 2, 1) := kq_44 byq_r (by decide +kernel)
theorem d_Clock_greet_11 : decode b_Clock_greet 11 = .ok (.getfield 75, 3) := kq_180 byq_r (a := 0) (b := 75) (by decide +kernel)
theorem d_Clock_greet_14 : decode b_Clock_greet 14 = .ok (.iload_n 1, 1) := kq_27 byq_r (by decide +kernel)
theorem d_Clock_greet_15 : decode b_Clock_greet 15 = .ok (.iaload, 1) := kq_46 byq_r (by decide +kernel)
theorem d_Clock_greet_16 : decode b_Clock_greet 16 = .ok (.invokevirtual 91, 3) := kq_182 byq_r (a := 0) (b := 91) (by decide +kernel)
theorem d_Clock_greet_19 : decode b_Clock_greet 19 = .ok (.ifCond .ne 4, 3) := kq_154 byq_r (a := 0) (b := 4) (by decide +kernel)
theorem d_Clock_greet_22 : decode b_Clock_greet 22 = .ok (.return_, 1) := kq_177 byq_r (by decide +kernel)
theorem d_Clock_greet_23 : decode b_Clock_greet 23 = .ok (.iconst 0, 1) := kq_3 byq_r (by decide +kernel)
theorem d_Clock_greet_24 : decode b_Clock_greet 24 = .ok (.istore 5, 2) := kq_54 byq_r (by decide +kernel)
theorem d_Clock_greet_26 : decode b_Clock_greet 26 = .ok (.iload 5, 2) := kq_21 byq_r (by decide +kernel)
theorem d_Clock_greet_28 : decode b_Clock_greet 28 = .ok (.aload_n 3, 1) := kq_45 byq_r (by decide +kernel)
theorem d_Clock_greet_29 : decode b_Clock_greet 29 = .ok (.getfield 21, 3) := kq_180 byq_r (a := 0) (b := 21) (by decide +kernel)
theorem d_Clock_greet_32 : decode b_Clock_greet 32 = .ok (.if_icmp .ge 51, 3) := kq_162 byq_r (a := 0) (b := 51) (by decide +kernel)
theorem d_Clock_greet_35 : decode b_Clock_greet 35 = .ok (.aload_n 3, 1) := kq_45 byq_r (by decide +kernel)
theorem d_Clock_greet_36 : decode b_Clock_greet 36 = .ok (.iload 5, 2) := kq_21 byq_r (by decide +kernel)
theorem d_Clock_greet_38 : decode b_Clock_greet 38 = .ok (.invokevirtual 87, 3) := kq_182 byq_r (a := 0) (b := 87) (by decide +kernel)
theorem d_Clock_greet_41 : decode b_Clock_greet 41 = .ok (.ifCond .eq 36, 3) := kq_153 byq_r (a := 0) (b := 36) (by decide +kernel)
theorem d_Clock_greet_44 : decode b_Clock_greet 44 = .ok (.aload_n 2, 1) := kq_44 byq_r (by decide +kernel)
theorem d_Clock_greet_45 : decode b_Clock_greet 45 = .ok (.getfield 75, 3) := kq_180 byq_r (a := 0) (b := 75) (by decide +kernel)
theorem d_Clock_greet_48 : decode b_Clock_greet 48 = .ok (.iload 5, 2) := kq_21 byq_r (by decide +kernel)
theorem d_Clock_greet_50 : decode b_Clock_greet 50 = .ok (.iaload, 1) := kq_46 byq_r (by decide +kernel)
theorem d_Clock_greet_51 : decode b_Clock_greet 51 = .ok (.aload_n 2, 1) := kq_44 byq_r (by decide +kernel)
theorem d_Clock_greet_52 : decode b_Clock_greet 52 = .ok (.getfield 75, 3) := kq_180 byq_r (a := 0) (b := 75) (by decide +kernel)
theorem d_Clock_greet_55 : decode b_Clock_greet 55 = .ok (.iload_n 1, 1) := kq_27 byq_r (by decide +kernel)
theorem d_Clock_greet_56 : decode b_Clock_greet 56 = .ok (.iaload, 1) := kq_46 byq_r (by decide +kernel)
theorem d_Clock_greet_57 : decode b_Clock_greet 57 = .ok (.if_icmp .ne 20, 3) := kq_160 byq_r (a := 0) (b := 20) (by decide +kernel)
theorem d_Clock_greet_60 : decode b_Clock_greet 60 = .ok (.aload_n 2, 1) := kq_44 byq_r (by decide +kernel)
theorem d_Clock_greet_61 : decode b_Clock_greet 61 = .ok (.iload_n 1, 1) := kq_27 byq_r (by decide +kernel)
theorem d_Clock_greet_62 : decode b_Clock_greet 62 = .ok (.iload 5, 2) := kq_21 byq_r (by decide +kernel)
theorem d_Clock_greet_64 : decode b_Clock_greet 64 = .ok (.invokevirtual 96, 3) := kq_182 byq_r (a := 0) (b := 96) (by decide +kernel)
theorem d_Clock_greet_67 : decode b_Clock_greet 67 = .ok (.aload_n 0, 1) := kq_42 byq_r (by decide +kernel)
theorem d_Clock_greet_68 : decode b_Clock_greet 68 = .ok (.dup, 1) := kq_89 byq_r (by decide +kernel)
theorem d_Clock_greet_69 : decode b_Clock_greet 69 = .ok (.getfield 36, 3) := kq_180 byq_r (a := 0) (b := 36) (by decide +kernel)
theorem d_Clock_greet_72 : decode b_Clock_greet 72 = .ok (.iconst 1, 1) := kq_4 byq_r (by decide +kernel)
theorem d_Clock_greet_73 : decode b_Clock_greet 73 = .ok (.iadd, 1) := kq_96 byq_r (by decide +kernel)
theorem d_Clock_greet_74 : decode b_Clock_greet 74 = .ok (.putfield 36, 3) := kq_181 byq_r (a := 0) (b := 36) (by decide +kernel)
theorem d_Clock_greet_77 : decode b_Clock_greet 77 = .ok (.iinc 5 1, 3) := kq_132 byq_r (b := 1) (by decide +kernel)
theorem d_Clock_greet_80 : decode b_Clock_greet 80 = .ok (.goto (-54), 3) := kq_167 byq_r (a := 255) (b := 202) (by decide +kernel)
theorem d_Clock_greet_83 : decode b_Clock_greet 83 = .ok (.return_, 1) := kq_177 byq_r (by decide +kernel)
theorem d_Clock_hearers_0 : decode b_Clock_hearers 0 = .ok (.aload_n 2, 1) := kq_44 byq_r (by decide +kernel)
theorem d_Clock_hearers_1 : decode b_Clock_hearers 1 = .ok (.getfield 75, 3) := kq_180 byq_r (a := 0) (b := 75) (by decide +kernel)
theorem d_Clock_hearers_4 : decode b_Clock_hearers 4 = .ok (.iload_n 1, 1) := kq_27 byq_r (by decide +kernel)
theorem d_Clock_hearers_5 : decode b_Clock_hearers 5 = .ok (.iaload, 1) := kq_46 byq_r (by decide +kernel)
theorem d_Clock_hearers_6 : decode b_Clock_hearers 6 = .ok (.istore 5, 2) := kq_54 byq_r (by decide +kernel)
theorem d_Clock_hearers_8 : decode b_Clock_hearers 8 = .ok (.aload_n 2, 1) := kq_44 byq_r (by decide +kernel)
theorem d_Clock_hearers_9 : decode b_Clock_hearers 9 = .ok (.getfield 72, 3) := kq_180 byq_r (a := 0) (b := 72) (by decide +kernel)
theorem d_Clock_hearers_12 : decode b_Clock_hearers 12 = .ok (.iload_n 1, 1) := kq_27 byq_r (by decide +kernel)
theorem d_Clock_hearers_13 : decode b_Clock_hearers 13 = .ok (.iaload, 1) := kq_46 byq_r (by decide +kernel)
theorem d_Clock_hearers_14 : decode b_Clock_hearers 14 = .ok (.istore 6, 2) := kq_54 byq_r (by decide +kernel)
theorem d_Clock_hearers_16 : decode b_Clock_hearers 16 = .ok (.aload_n 2, 1) := kq_44 byq_r (by decide +kernel)
theorem d_Clock_hearers_17 : decode b_Clock_hearers 17 = .ok (.iload 6, 2) := kq_21 byq_r (by decide +kernel)
theorem d_Clock_hearers_19 : decode b_Clock_hearers 19 = .ok (.iload 5, 2) := kq_21 byq_r (by decide +kernel)
theorem d_Clock_hearers_21 : decode b_Clock_hearers 21 = .ok (.aload_n 3, 1) := kq_45 byq_r (by decide +kernel)
theorem d_Clock_hearers_22 : decode b_Clock_hearers 22 = .ok (.getfield 21, 3) := kq_180 byq_r (a := 0) (b := 21) (by decide +kernel)
theorem d_Clock_hearers_25 : decode b_Clock_hearers 25 = .ok (.invokevirtual 100, 3) := kq_182 byq_r (a := 0) (b := 100) (by decide +kernel)
theorem d_Clock_hearers_28 : decode b_Clock_hearers 28 = .ok (.istore 7, 2) := kq_54 byq_r (by decide +kernel)
theorem d_Clock_hearers_30 : decode b_Clock_hearers 30 = .ok (.aload 4, 2) := kq_25 byq_r (by decide +kernel)
theorem d_Clock_hearers_32 : decode b_Clock_hearers 32 = .ok (.iload 5, 2) := kq_21 byq_r (by decide +kernel)
theorem d_Clock_hearers_34 : decode b_Clock_hearers 34 = .ok (.invokevirtual 91, 3) := kq_182 byq_r (a := 0) (b := 91) (by decide +kernel)
theorem d_Clock_hearers_37 : decode b_Clock_hearers 37 = .ok (.ifCond .eq 22, 3) := kq_153 byq_r (a := 0) (b := 22) (by decide +kernel)
theorem d_Clock_hearers_40 : decode b_Clock_hearers 40 = .ok (.iload 7, 2) := kq_21 byq_r (by decide +kernel)
theorem d_Clock_hearers_42 : decode b_Clock_hearers 42 = .ok (.aload_n 2, 1) := kq_44 byq_r (by decide +kernel)
theorem d_Clock_hearers_43 : decode b_Clock_hearers 43 = .ok (.iconst 1, 1) := kq_4 byq_r (by decide +kernel)
theorem d_Clock_hearers_44 : decode b_Clock_hearers 44 = .ok (.iload 6, 2) := kq_21 byq_r (by decide +kernel)
theorem d_Clock_hearers_46 : decode b_Clock_hearers 46 = .ok (.isub, 1) := kq_100 byq_r (by decide +kernel)
theorem d_Clock_hearers_47 : decode b_Clock_hearers 47 = .ok (.iload 5, 2) := kq_21 byq_r (by decide +kernel)
theorem d_Clock_hearers_49 : decode b_Clock_hearers 49 = .ok (.aload_n 3, 1) := kq_45 byq_r (by decide +kernel)
theorem d_Clock_hearers_50 : decode b_Clock_hearers 50 = .ok (.getfield 21, 3) := kq_180 byq_r (a := 0) (b := 21) (by decide +kernel)
theorem d_Clock_hearers_53 : decode b_Clock_hearers 53 = .ok (.invokevirtual 100, 3) := kq_182 byq_r (a := 0) (b := 100) (by decide +kernel)
theorem d_Clock_hearers_56 : decode b_Clock_hearers 56 = .ok (.ior, 1) := kq_128 byq_r (by decide +kernel)
theorem d_Clock_hearers_57 : decode b_Clock_hearers 57 = .ok (.istore 7, 2) := kq_54 byq_r (by decide +kernel)
theorem d_Clock_hearers_59 : decode b_Clock_hearers 59 = .ok (.iload 6, 2) := kq_21 byq_r (by decide +kernel)
theorem d_Clock_hearers_61 : decode b_Clock_hearers 61 = .ok (.iconst 1, 1) := kq_4 byq_r (by decide +kernel)
theorem d_Clock_hearers_62 : decode b_Clock_hearers 62 = .ok (.if_icmp .ne 41, 3) := kq_160 byq_r (a := 0) (b := 41) (by decide +kernel)
theorem d_Clock_hearers_65 : decode b_Clock_hearers 65 = .ok (.iconst 0, 1) := kq_3 byq_r (by decide +kernel)
theorem d_Clock_hearers_66 : decode b_Clock_hearers 66 = .ok (.istore 8, 2) := kq_54 byq_r (by decide +kernel)
theorem d_Clock_hearers_68 : decode b_Clock_hearers 68 = .ok (.iload 8, 2) := kq_21 byq_r (by decide +kernel)
theorem d_Clock_hearers_70 : decode b_Clock_hearers 70 = .ok (.iconst 4, 1) := kq_7 byq_r (by decide +kernel)
theorem d_Clock_hearers_71 : decode b_Clock_hearers 71 = .ok (.if_icmp .ge 32, 3) := kq_162 byq_r (a := 0) (b := 32) (by decide +kernel)
theorem d_Clock_hearers_74 : decode b_Clock_hearers 74 = .ok (.iload 7, 2) := kq_21 byq_r (by decide +kernel)
theorem d_Clock_hearers_76 : decode b_Clock_hearers 76 = .ok (.aload_n 2, 1) := kq_44 byq_r (by decide +kernel)
theorem d_Clock_hearers_77 : decode b_Clock_hearers 77 = .ok (.iconst 0, 1) := kq_3 byq_r (by decide +kernel)
theorem d_Clock_hearers_78 : decode b_Clock_hearers 78 = .ok (.aload 4, 2) := kq_25 byq_r (by decide +kernel)
theorem d_Clock_hearers_80 : decode b_Clock_hearers 80 = .ok (.iload 5, 2) := kq_21 byq_r (by decide +kernel)
theorem d_Clock_hearers_82 : decode b_Clock_hearers 82 = .ok (.iload 8, 2) := kq_21 byq_r (by decide +kernel)
theorem d_Clock_hearers_84 : decode b_Clock_hearers 84 = .ok (.invokevirtual 103, 3) := kq_182 byq_r (a := 0) (b := 103) (by decide +kernel)
theorem d_Clock_hearers_87 : decode b_Clock_hearers 87 = .ok (.aload_n 3, 1) := kq_45 byq_r (by decide +kernel)
theorem d_Clock_hearers_88 : decode b_Clock_hearers 88 = .ok (.getfield 21, 3) := kq_180 byq_r (a := 0) (b := 21) (by decide +kernel)
theorem d_Clock_hearers_91 : decode b_Clock_hearers 91 = .ok (.invokevirtual 100, 3) := kq_182 byq_r (a := 0) (b := 100) (by decide +kernel)
theorem d_Clock_hearers_94 : decode b_Clock_hearers 94 = .ok (.ior, 1) := kq_128 byq_r (by decide +kernel)
theorem d_Clock_hearers_95 : decode b_Clock_hearers 95 = .ok (.istore 7, 2) := kq_54 byq_r (by decide +kernel)
theorem d_Clock_hearers_97 : decode b_Clock_hearers 97 = .ok (.iinc 8 1, 3) := kq_132 byq_r (b := 1) (by decide +kernel)
theorem d_Clock_hearers_100 : decode b_Clock_hearers 100 = .ok (.goto (-32), 3) := kq_167 byq_r (a := 255) (b := 224) (by decide +kernel)
theorem d_Clock_hearers_103 : decode b_Clock_hearers 103 = .ok (.iload 7, 2) := kq_21 byq_r (by decide +kernel)
theorem d_Clock_hearers_105 : decode b_Clock_hearers 105 = .ok (.ireturn, 1) := kq_172 byq_r (by decide +kernel)
theorem d_Clock_pass_0 : decode b_Clock_pass 0 = .ok (.aload_n 0, 1) := kq_42 byq_r (by decide +kernel)
theorem d_Clock_pass_1 : decode b_Clock_pass 1 = .ok (.iconst 0, 1) := kq_3 byq_r (by decide +kernel)
theorem d_Clock_pass_2 : decode b_Clock_pass 2 = .ok (.putfield 18, 3) := kq_181 byq_r (a := 0) (b := 18) (by decide +kernel)
theorem d_Clock_pass_5 : decode b_Clock_pass 5 = .ok (.iconst 0, 1) := kq_3 byq_r (by decide +kernel)
theorem d_Clock_pass_6 : decode b_Clock_pass 6 = .ok (.istore 6, 2) := kq_54 byq_r (by decide +kernel)
theorem d_Clock_pass_8 : decode b_Clock_pass 8 = .ok (.iload 6, 2) := kq_21 byq_r (by decide +kernel)
theorem d_Clock_pass_10 : decode b_Clock_pass 10 = .ok (.aload_n 2, 1) := kq_44 byq_r (by decide +kernel)
theorem d_Clock_pass_11 : decode b_Clock_pass 11 = .ok (.getfield 21, 3) := kq_180 byq_r (a := 0) (b := 21) (by decide +kernel)
theorem d_Clock_pass_14 : decode b_Clock_pass 14 = .ok (.if_icmp .ge 32, 3) := kq_162 byq_r (a := 0) (b := 32) (by decide +kernel)
theorem d_Clock_pass_17 : decode b_Clock_pass 17 = .ok (.aload 4, 2) := kq_25 byq_r (by decide +kernel)
theorem d_Clock_pass_19 : decode b_Clock_pass 19 = .ok (.iload 6, 2) := kq_21 byq_r (by decide +kernel)
theorem d_Clock_pass_21 : decode b_Clock_pass 21 = .ok (.aload_n 1, 1) := kq_43 byq_r (by decide +kernel)
theorem d_Clock_pass_22 : decode b_Clock_pass 22 = .ok (.aload_n 2, 1) := kq_44 byq_r (by decide +kernel)
theorem d_Clock_pass_23 : decode b_Clock_pass 23 = .ok (.aload_n 3, 1) := kq_45 byq_r (by decide +kernel)
theorem d_Clock_pass_24 : decode b_Clock_pass 24 = .ok (.invokevirtual 26, 3) := kq_182 byq_r (a := 0) (b := 26) (by decide +kernel)
theorem d_Clock_pass_27 : decode b_Clock_pass 27 = .ok (.ifCond .eq 13, 3) := kq_153 byq_r (a := 0) (b := 13) (by decide +kernel)
theorem d_Clock_pass_30 : decode b_Clock_pass 30 = .ok (.aload_n 0, 1) := kq_42 byq_r (by decide +kernel)
theorem d_Clock_pass_31 : decode b_Clock_pass 31 = .ok (.iload 6, 2) := kq_21 byq_r (by decide +kernel)
theorem d_Clock_pass_33 : decode b_Clock_pass 33 = .ok (.aload_n 1, 1) := kq_43 byq_r (by decide +kernel)
theorem d_Clock_pass_34 : decode b_Clock_pass 34 = .ok (.aload_n 2, 1) := kq_44 byq_r (by decide +kernel)
theorem d_Clock_pass_35 : decode b_Clock_pass 35 = .ok (.aload 5, 2) := kq_25 byq_r (by decide +kernel)
theorem d_Clock_pass_37 : decode b_Clock_pass 37 = .ok (.invokevirtual 32, 3) := kq_182 byq_r (a := 0) (b := 32) (by decide +kernel)
theorem d_Clock_pass_40 : decode b_Clock_pass 40 = .ok (.iinc 6 1, 3) := kq_132 byq_r (b := 1) (by decide +kernel)
theorem d_Clock_pass_43 : decode b_Clock_pass 43 = .ok (.goto (-35), 3) := kq_167 byq_r (a := 255) (b := 221) (by decide +kernel)
theorem d_Clock_pass_46 : decode b_Clock_pass 46 = .ok (.aload_n 0, 1) := kq_42 byq_r (by decide +kernel)
theorem d_Clock_pass_47 : decode b_Clock_pass 47 = .ok (.iconst 0, 1) := kq_3 byq_r (by decide +kernel)
theorem d_Clock_pass_48 : decode b_Clock_pass 48 = .ok (.putfield 36, 3) := kq_181 byq_r (a := 0) (b := 36) (by decide +kernel)
theorem d_Clock_pass_51 : decode b_Clock_pass 51 = .ok (.iconst 0, 1) := kq_3 byq_r (by decide +kernel)
theorem d_Clock_pass_52 : decode b_Clock_pass 52 = .ok (.istore 6, 2) := kq_54 byq_r (by decide +kernel)
theorem d_Clock_pass_54 : decode b_Clock_pass 54 = .ok (.iload 6, 2) := kq_21 byq_r (by decide +kernel)
theorem d_Clock_pass_56 : decode b_Clock_pass 56 = .ok (.aload_n 2, 1) := kq_44 byq_r (by decide +kernel)
theorem d_Clock_pass_57 : decode b_Clock_pass 57 = .ok (.getfield 21, 3) := kq_180 byq_r (a := 0) (b := 21) (by decide +kernel)
theorem d_Clock_pass_60 : decode b_Clock_pass 60 = .ok (.if_icmp .ge 18, 3) := kq_162 byq_r (a := 0) (b := 18) (by decide +kernel)
theorem d_Clock_pass_63 : decode b_Clock_pass 63 = .ok (.aload_n 0, 1) := kq_42 byq_r (by decide +kernel)
theorem d_Clock_pass_64 : decode b_Clock_pass 64 = .ok (.iload 6, 2) := kq_21 byq_r (by decide +kernel)
theorem d_Clock_pass_66 : decode b_Clock_pass 66 = .ok (.aload_n 1, 1) := kq_43 byq_r (by decide +kernel)
theorem d_Clock_pass_67 : decode b_Clock_pass 67 = .ok (.aload_n 2, 1) := kq_44 byq_r (by decide +kernel)
theorem d_Clock_pass_68 : decode b_Clock_pass 68 = .ok (.aload_n 3, 1) := kq_45 byq_r (by decide +kernel)
theorem d_Clock_pass_69 : decode b_Clock_pass 69 = .ok (.invokevirtual 39, 3) := kq_182 byq_r (a := 0) (b := 39) (by decide +kernel)
theorem d_Clock_pass_72 : decode b_Clock_pass 72 = .ok (.iinc 6 1, 3) := kq_132 byq_r (b := 1) (by decide +kernel)
theorem d_Clock_pass_75 : decode b_Clock_pass 75 = .ok (.goto (-21), 3) := kq_167 byq_r (a := 255) (b := 235) (by decide +kernel)
theorem d_Clock_pass_78 : decode b_Clock_pass 78 = .ok (.aload_n 1, 1) := kq_43 byq_r (by decide +kernel)
theorem d_Clock_pass_79 : decode b_Clock_pass 79 = .ok (.getfield 43, 3) := kq_180 byq_r (a := 0) (b := 43) (by decide +kernel)
theorem d_Clock_pass_82 : decode b_Clock_pass 82 = .ok (.istore 6, 2) := kq_54 byq_r (by decide +kernel)
theorem d_Clock_pass_84 : decode b_Clock_pass 84 = .ok (.iconst 0, 1) := kq_3 byq_r (by decide +kernel)
theorem d_Clock_pass_85 : decode b_Clock_pass 85 = .ok (.istore 7, 2) := kq_54 byq_r (by decide +kernel)
theorem d_Clock_pass_87 : decode b_Clock_pass 87 = .ok (.iload 7, 2) := kq_21 byq_r (by decide +kernel)
theorem d_Clock_pass_89 : decode b_Clock_pass 89 = .ok (.aload_n 2, 1) := kq_44 byq_r (by decide +kernel)
theorem d_Clock_pass_90 : decode b_Clock_pass 90 = .ok (.getfield 21, 3) := kq_180 byq_r (a := 0) (b := 21) (by decide +kernel)
theorem d_Clock_pass_93 : decode b_Clock_pass 93 = .ok (.if_icmp .ge 37, 3) := kq_162 byq_r (a := 0) (b := 37) (by decide +kernel)
theorem d_Clock_pass_96 : decode b_Clock_pass 96 = .ok (.iload 6, 2) := kq_21 byq_r (by decide +kernel)
theorem d_Clock_pass_98 : decode b_Clock_pass 98 = .ok (.iload 7, 2) := kq_21 byq_r (by decide +kernel)
theorem d_Clock_pass_100 : decode b_Clock_pass 100 = .ok (.ishr, 1) := kq_122 byq_r (by decide +kernel)
theorem d_Clock_pass_101 : decode b_Clock_pass 101 = .ok (.iconst 1, 1) := kq_4 byq_r (by decide +kernel)
theorem d_Clock_pass_102 : decode b_Clock_pass 102 = .ok (.iand, 1) := kq_126 byq_r (by decide +kernel)
theorem d_Clock_pass_103 : decode b_Clock_pass 103 = .ok (.ifCond .eq 21, 3) := kq_153 byq_r (a := 0) (b := 21) (by decide +kernel)
theorem d_Clock_pass_106 : decode b_Clock_pass 106 = .ok (.aload_n 1, 1) := kq_43 byq_r (by decide +kernel)
theorem d_Clock_pass_107 : decode b_Clock_pass 107 = .ok (.dup, 1) := kq_89 byq_r (by decide +kernel)
theorem d_Clock_pass_108 : decode b_Clock_pass 108 = .ok (.getfield 43, 3) := kq_180 byq_r (a := 0) (b := 43) (by decide +kernel)
theorem d_Clock_pass_111 : decode b_Clock_pass 111 = .ok (.aload_n 0, 1) := kq_42 byq_r (by decide +kernel)
theorem d_Clock_pass_112 : decode b_Clock_pass 112 = .ok (.iload 7, 2) := kq_21 byq_r (by decide +kernel)
theorem d_Clock_pass_114 : decode b_Clock_pass 114 = .ok (.aload_n 1, 1) := kq_43 byq_r (by decide +kernel)
theorem d_Clock_pass_115 : decode b_Clock_pass 115 = .ok (.aload_n 2, 1) := kq_44 byq_r (by decide +kernel)
theorem d_Clock_pass_116 : decode b_Clock_pass 116 = .ok (.aload_n 3, 1) := kq_45 byq_r (by decide +kernel)
theorem d_Clock_pass_117 : decode b_Clock_pass 117 = .ok (.invokevirtual 48, 3) := kq_182 byq_r (a := 0) (b := 48) (by decide +kernel)
theorem d_Clock_pass_120 : decode b_Clock_pass 120 = .ok (.ior, 1) := kq_128 byq_r (by decide +kernel)
theorem d_Clock_pass_121 : decode b_Clock_pass 121 = .ok (.putfield 43, 3) := kq_181 byq_r (a := 0) (b := 43) (by decide +kernel)
theorem d_Clock_pass_124 : decode b_Clock_pass 124 = .ok (.iinc 7 1, 3) := kq_132 byq_r (b := 1) (by decide +kernel)
theorem d_Clock_pass_127 : decode b_Clock_pass 127 = .ok (.goto (-40), 3) := kq_167 byq_r (a := 255) (b := 216) (by decide +kernel)
theorem d_Clock_pass_130 : decode b_Clock_pass 130 = .ok (.aload_n 0, 1) := kq_42 byq_r (by decide +kernel)
theorem d_Clock_pass_131 : decode b_Clock_pass 131 = .ok (.aload_n 1, 1) := kq_43 byq_r (by decide +kernel)
theorem d_Clock_pass_132 : decode b_Clock_pass 132 = .ok (.getfield 43, 3) := kq_180 byq_r (a := 0) (b := 43) (by decide +kernel)
theorem d_Clock_pass_135 : decode b_Clock_pass 135 = .ok (.iload 6, 2) := kq_21 byq_r (by decide +kernel)
theorem d_Clock_pass_137 : decode b_Clock_pass 137 = .ok (.iconst (-1), 1) := kq_2 byq_r (by decide +kernel)
theorem d_Clock_pass_138 : decode b_Clock_pass 138 = .ok (.ixor, 1) := kq_130 byq_r (by decide +kernel)
theorem d_Clock_pass_139 : decode b_Clock_pass 139 = .ok (.iand, 1) := kq_126 byq_r (by decide +kernel)
theorem d_Clock_pass_140 : decode b_Clock_pass 140 = .ok (.putfield 52, 3) := kq_181 byq_r (a := 0) (b := 52) (by decide +kernel)
theorem d_Clock_pass_143 : decode b_Clock_pass 143 = .ok (.aload_n 1, 1) := kq_43 byq_r (by decide +kernel)
theorem d_Clock_pass_144 : decode b_Clock_pass 144 = .ok (.dup, 1) := kq_89 byq_r (by decide +kernel)
theorem d_Clock_pass_145 : decode b_Clock_pass 145 = .ok (.getfield 55, 3) := kq_180 byq_r (a := 0) (b := 55) (by decide +kernel)
theorem d_Clock_pass_148 : decode b_Clock_pass 148 = .ok (.iconst 1, 1) := kq_4 byq_r (by decide +kernel)
theorem d_Clock_pass_149 : decode b_Clock_pass 149 = .ok (.iadd, 1) := kq_96 byq_r (by decide +kernel)
theorem d_Clock_pass_150 : decode b_Clock_pass 150 = .ok (.putfield 55, 3) := kq_181 byq_r (a := 0) (b := 55) (by decide +kernel)
theorem d_Clock_pass_153 : decode b_Clock_pass 153 = .ok (.aload_n 0, 1) := kq_42 byq_r (by decide +kernel)
theorem d_Clock_pass_154 : decode b_Clock_pass 154 = .ok (.dup, 1) := kq_89 byq_r (by decide +kernel)
theorem d_Clock_pass_155 : decode b_Clock_pass 155 = .ok (.getfield 9, 3) := kq_180 byq_r (a := 0) (b := 9) (by decide +kernel)
theorem d_Clock_pass_158 : decode b_Clock_pass 158 = .ok (.aload_n 0, 1) := kq_42 byq_r (by decide +kernel)
theorem d_Clock_pass_159 : decode b_Clock_pass 159 = .ok (.getfield 18, 3) := kq_180 byq_r (a := 0) (b := 18) (by decide +kernel)
theorem d_Clock_pass_162 : decode b_Clock_pass 162 = .ok (.invokestatic 58, 3) := kq_184 byq_r (a := 0) (b := 58) (by decide +kernel)
theorem d_Clock_pass_165 : decode b_Clock_pass 165 = .ok (.iadd, 1) := kq_96 byq_r (by decide +kernel)
theorem d_Clock_pass_166 : decode b_Clock_pass 166 = .ok (.putfield 9, 3) := kq_181 byq_r (a := 0) (b := 9) (by decide +kernel)
theorem d_Clock_pass_169 : decode b_Clock_pass 169 = .ok (.aload_n 0, 1) := kq_42 byq_r (by decide +kernel)
theorem d_Clock_pass_170 : decode b_Clock_pass 170 = .ok (.dup, 1) := kq_89 byq_r (by decide +kernel)
theorem d_Clock_pass_171 : decode b_Clock_pass 171 = .ok (.getfield 15, 3) := kq_180 byq_r (a := 0) (b := 15) (by decide +kernel)
theorem d_Clock_pass_174 : decode b_Clock_pass 174 = .ok (.aload_n 0, 1) := kq_42 byq_r (by decide +kernel)
theorem d_Clock_pass_175 : decode b_Clock_pass 175 = .ok (.getfield 36, 3) := kq_180 byq_r (a := 0) (b := 36) (by decide +kernel)
theorem d_Clock_pass_178 : decode b_Clock_pass 178 = .ok (.iadd, 1) := kq_96 byq_r (by decide +kernel)
theorem d_Clock_pass_179 : decode b_Clock_pass 179 = .ok (.putfield 15, 3) := kq_181 byq_r (a := 0) (b := 15) (by decide +kernel)
theorem d_Clock_pass_182 : decode b_Clock_pass 182 = .ok (.return_, 1) := kq_177 byq_r (by decide +kernel)
theorem d_Clock_reset_0 : decode b_Clock_reset 0 = .ok (.aload_n 0, 1) := kq_42 byq_r (by decide +kernel)
theorem d_Clock_reset_1 : decode b_Clock_reset 1 = .ok (.iconst 0, 1) := kq_3 byq_r (by decide +kernel)
theorem d_Clock_reset_2 : decode b_Clock_reset 2 = .ok (.putfield 9, 3) := kq_181 byq_r (a := 0) (b := 9) (by decide +kernel)
theorem d_Clock_reset_5 : decode b_Clock_reset 5 = .ok (.aload_n 0, 1) := kq_42 byq_r (by decide +kernel)
theorem d_Clock_reset_6 : decode b_Clock_reset 6 = .ok (.iconst 0, 1) := kq_3 byq_r (by decide +kernel)
theorem d_Clock_reset_7 : decode b_Clock_reset 7 = .ok (.putfield 15, 3) := kq_181 byq_r (a := 0) (b := 15) (by decide +kernel)
theorem d_Clock_reset_10 : decode b_Clock_reset 10 = .ok (.return_, 1) := kq_177 byq_r (by decide +kernel)
theorem d_Acts_add_0 : decode b_Acts_add 0 = .ok (.aload_n 0, 1) := kq_42 byq_r (by decide +kernel)
theorem d_Acts_add_1 : decode b_Acts_add 1 = .ok (.getfield 21, 3) := kq_180 byq_r (a := 0) (b := 21) (by decide +kernel)
theorem d_Acts_add_4 : decode b_Acts_add 4 = .ok (.ifCond .lt 52, 3) := kq_155 byq_r (a := 0) (b := 52) (by decide +kernel)
theorem d_Acts_add_7 : decode b_Acts_add 7 = .ok (.aload_n 0, 1) := kq_42 byq_r (by decide +kernel)
theorem d_Acts_add_8 : decode b_Acts_add 8 = .ok (.getfield 21, 3) := kq_180 byq_r (a := 0) (b := 21) (by decide +kernel)
theorem d_Acts_add_11 : decode b_Acts_add 11 = .ok (.bipush 32, 2) := kq_16 byq_r (b := 32) (by decide +kernel)
theorem d_Acts_add_13 : decode b_Acts_add 13 = .ok (.if_icmp .ge 43, 3) := kq_162 byq_r (a := 0) (b := 43) (by decide +kernel)
theorem d_Acts_add_16 : decode b_Acts_add 16 = .ok (.aload_n 0, 1) := kq_42 byq_r (by decide +kernel)
theorem d_Acts_add_17 : decode b_Acts_add 17 = .ok (.getfield 11, 3) := kq_180 byq_r (a := 0) (b := 11) (by decide +kernel)
theorem d_Acts_add_20 : decode b_Acts_add 20 = .ok (.aload_n 0, 1) := kq_42 byq_r (by decide +kernel)
theorem d_Acts_add_21 : decode b_Acts_add 21 = .ok (.getfield 21, 3) := kq_180 byq_r (a := 0) (b := 21) (by decide +kernel)
theorem d_Acts_add_24 : decode b_Acts_add 24 = .ok (.iload_n 1, 1) := kq_27 byq_r (by decide +kernel)
theorem d_Acts_add_25 : decode b_Acts_add 25 = .ok (.iastore, 1) := kq_79 byq_r (by decide +kernel)
theorem d_Acts_add_26 : decode b_Acts_add 26 = .ok (.aload_n 0, 1) := kq_42 byq_r (by decide +kernel)
theorem d_Acts_add_27 : decode b_Acts_add 27 = .ok (.getfield 15, 3) := kq_180 byq_r (a := 0) (b := 15) (by decide +kernel)
theorem d_Acts_add_30 : decode b_Acts_add 30 = .ok (.aload_n 0, 1) := kq_42 byq_r (by decide +kernel)
theorem d_Acts_add_31 : decode b_Acts_add 31 = .ok (.getfield 21, 3) := kq_180 byq_r (a := 0) (b := 21) (by decide +kernel)
theorem d_Acts_add_34 : decode b_Acts_add 34 = .ok (.iload_n 2, 1) := kq_28 byq_r (by decide +kernel)
theorem d_Acts_add_35 : decode b_Acts_add 35 = .ok (.iastore, 1) := kq_79 byq_r (by decide +kernel)
theorem d_Acts_add_36 : decode b_Acts_add 36 = .ok (.aload_n 0, 1) := kq_42 byq_r (by decide +kernel)
theorem d_Acts_add_37 : decode b_Acts_add 37 = .ok (.getfield 18, 3) := kq_180 byq_r (a := 0) (b := 18) (by decide +kernel)
theorem d_Acts_add_40 : decode b_Acts_add 40 = .ok (.aload_n 0, 1) := kq_42 byq_r (by decide +kernel)
theorem d_Acts_add_41 : decode b_Acts_add 41 = .ok (.getfield 21, 3) := kq_180 byq_r (a := 0) (b := 21) (by decide +kernel)
theorem d_Acts_add_44 : decode b_Acts_add 44 = .ok (.iload_n 3, 1) := kq_29 byq_r (by decide +kernel)
theorem d_Acts_add_45 : decode b_Acts_add 45 = .ok (.iastore, 1) := kq_79 byq_r (by decide +kernel)
theorem d_Acts_add_46 : decode b_Acts_add 46 = .ok (.aload_n 0, 1) := kq_42 byq_r (by decide +kernel)
theorem d_Acts_add_47 : decode b_Acts_add 47 = .ok (.dup, 1) := kq_89 byq_r (by decide +kernel)
theorem d_Acts_add_48 : decode b_Acts_add 48 = .ok (.getfield 21, 3) := kq_180 byq_r (a := 0) (b := 21) (by decide +kernel)
theorem d_Acts_add_51 : decode b_Acts_add 51 = .ok (.iconst 1, 1) := kq_4 byq_r (by decide +kernel)
theorem d_Acts_add_52 : decode b_Acts_add 52 = .ok (.iadd, 1) := kq_96 byq_r (by decide +kernel)
theorem d_Acts_add_53 : decode b_Acts_add 53 = .ok (.putfield 21, 3) := kq_181 byq_r (a := 0) (b := 21) (by decide +kernel)
theorem d_Acts_add_56 : decode b_Acts_add 56 = .ok (.return_, 1) := kq_177 byq_r (by decide +kernel)
theorem d_Acts_readLetter_0 : decode b_Acts_readLetter 0 = .ok (.aload_n 1, 1) := kq_43 byq_r (by decide +kernel)
theorem d_Acts_readLetter_1 : decode b_Acts_readLetter 1 = .ok (.iload_n 2, 1) := kq_28 byq_r (by decide +kernel)
theorem d_Acts_readLetter_2 : decode b_Acts_readLetter 2 = .ok (.bipush 60, 2) := kq_16 byq_r (b := 60) (by decide +kernel)
theorem d_Acts_readLetter_4 : decode b_Acts_readLetter 4 = .ok (.invokevirtual 34, 3) := kq_182 byq_r (a := 0) (b := 34) (by decide +kernel)
theorem d_Acts_readLetter_7 : decode b_Acts_readLetter 7 = .ok (.istore_n 3, 1) := kq_62 byq_r (by decide +kernel)
theorem d_Acts_readLetter_8 : decode b_Acts_readLetter 8 = .ok (.iload_n 3, 1) := kq_29 byq_r (by decide +kernel)
theorem d_Acts_readLetter_9 : decode b_Acts_readLetter 9 = .ok (.bipush 97, 2) := kq_16 byq_r (b := 97) (by decide +kernel)
theorem d_Acts_readLetter_11 : decode b_Acts_readLetter 11 = .ok (.if_icmp .lt 9, 3) := kq_161 byq_r (a := 0) (b := 9) (by decide +kernel)
theorem d_Acts_readLetter_14 : decode b_Acts_readLetter 14 = .ok (.iload_n 3, 1) := kq_29 byq_r (by decide +kernel)
theorem d_Acts_readLetter_15 : decode b_Acts_readLetter 15 = .ok (.bipush 104, 2) := kq_16 byq_r (b := 104) (by decide +kernel)
theorem d_Acts_readLetter_17 : decode b_Acts_readLetter 17 = .ok (.if_icmp .le 7, 3) := kq_164 byq_r (a := 0) (b := 7) (by decide +kernel)
theorem d_Acts_readLetter_20 : decode b_Acts_readLetter 20 = .ok (.iconst (-1), 1) := kq_2 byq_r (by decide +kernel)
theorem d_Acts_readLetter_21 : decode b_Acts_readLetter 21 = .ok (.iload_n 2, 1) := kq_28 byq_r (by decide +kernel)
theorem d_Acts_readLetter_22 : decode b_Acts_readLetter 22 = .ok (.isub, 1) := kq_100 byq_r (by decide +kernel)
theorem d_Acts_readLetter_23 : decode b_Acts_readLetter 23 = .ok (.ireturn, 1) := kq_172 byq_r (by decide +kernel)
theorem d_Acts_readLetter_24 : decode b_Acts_readLetter 24 = .ok (.aload_n 0, 1) := kq_42 byq_r (by decide +kernel)
theorem d_Acts_readLetter_25 : decode b_Acts_readLetter 25 = .ok (.bipush 110, 2) := kq_16 byq_r (b := 110) (by decide +kernel)
theorem d_Acts_readLetter_27 : decode b_Acts_readLetter 27 = .ok (.iload_n 3, 1) := kq_29 byq_r (by decide +kernel)
theorem d_Acts_readLetter_28 : decode b_Acts_readLetter 28 = .ok (.bipush 97, 2) := kq_16 byq_r (b := 97) (by decide +kernel)
theorem d_Acts_readLetter_30 : decode b_Acts_readLetter 30 = .ok (.isub, 1) := kq_100 byq_r (by decide +kernel)
theorem d_Acts_readLetter_31 : decode b_Acts_readLetter 31 = .ok (.iconst 0, 1) := kq_3 byq_r (by decide +kernel)
theorem d_Acts_readLetter_32 : decode b_Acts_readLetter 32 = .ok (.invokevirtual 38, 3) := kq_182 byq_r (a := 0) (b := 38) (by decide +kernel)
theorem d_Acts_readLetter_35 : decode b_Acts_readLetter 35 = .ok (.iload_n 2, 1) := kq_28 byq_r (by decide +kernel)
theorem d_Acts_readLetter_36 : decode b_Acts_readLetter 36 = .ok (.iconst 1, 1) := kq_4 byq_r (by decide +kernel)
theorem d_Acts_readLetter_37 : decode b_Acts_readLetter 37 = .ok (.iadd, 1) := kq_96 byq_r (by decide +kernel)
theorem d_Acts_readLetter_38 : decode b_Acts_readLetter 38 = .ok (.ireturn, 1) := kq_172 byq_r (by decide +kernel)
theorem d_Acts_readNumber_0 : decode b_Acts_readNumber 0 = .ok (.aload_n 1, 1) := kq_43 byq_r (by decide +kernel)
theorem d_Acts_readNumber_1 : decode b_Acts_readNumber 1 = .ok (.iload_n 2, 1) := kq_28 byq_r (by decide +kernel)
theorem d_Acts_readNumber_2 : decode b_Acts_readNumber 2 = .ok (.bipush 60, 2) := kq_16 byq_r (b := 60) (by decide +kernel)
theorem d_Acts_readNumber_4 : decode b_Acts_readNumber 4 = .ok (.iconst 2, 1) := kq_5 byq_r (by decide +kernel)
theorem d_Acts_readNumber_5 : decode b_Acts_readNumber 5 = .ok (.invokevirtual 51, 3) := kq_182 byq_r (a := 0) (b := 51) (by decide +kernel)
theorem d_Acts_readNumber_8 : decode b_Acts_readNumber 8 = .ok (.istore_n 3, 1) := kq_62 byq_r (by decide +kernel)
theorem d_Acts_readNumber_9 : decode b_Acts_readNumber 9 = .ok (.iload_n 3, 1) := kq_29 byq_r (by decide +kernel)
theorem d_Acts_readNumber_10 : decode b_Acts_readNumber 10 = .ok (.ifCond .ne 7, 3) := kq_154 byq_r (a := 0) (b := 7) (by decide +kernel)
theorem d_Acts_readNumber_13 : decode b_Acts_readNumber 13 = .ok (.iconst (-1), 1) := kq_2 byq_r (by decide +kernel)
theorem d_Acts_readNumber_14 : decode b_Acts_readNumber 14 = .ok (.iload_n 2, 1) := kq_28 byq_r (by decide +kernel)
theorem d_Acts_readNumber_15 : decode b_Acts_readNumber 15 = .ok (.isub, 1) := kq_100 byq_r (by decide +kernel)
theorem d_Acts_readNumber_16 : decode b_Acts_readNumber 16 = .ok (.ireturn, 1) := kq_172 byq_r (by decide +kernel)
theorem d_Acts_readNumber_17 : decode b_Acts_readNumber 17 = .ok (.aload_n 0, 1) := kq_42 byq_r (by decide +kernel)
theorem d_Acts_readNumber_18 : decode b_Acts_readNumber 18 = .ok (.bipush 109, 2) := kq_16 byq_r (b := 109) (by decide +kernel)
theorem d_Acts_readNumber_20 : decode b_Acts_readNumber 20 = .ok (.aload_n 1, 1) := kq_43 byq_r (by decide +kernel)
theorem d_Acts_readNumber_21 : decode b_Acts_readNumber 21 = .ok (.getfield 55, 3) := kq_180 byq_r (a := 0) (b := 55) (by decide +kernel)
theorem d_Acts_readNumber_24 : decode b_Acts_readNumber 24 = .ok (.iconst 0, 1) := kq_3 byq_r (by decide +kernel)
theorem d_Acts_readNumber_25 : decode b_Acts_readNumber 25 = .ok (.invokevirtual 38, 3) := kq_182 byq_r (a := 0) (b := 38) (by decide +kernel)
theorem d_Acts_readNumber_28 : decode b_Acts_readNumber 28 = .ok (.iload_n 2, 1) := kq_28 byq_r (by decide +kernel)
theorem d_Acts_readNumber_29 : decode b_Acts_readNumber 29 = .ok (.iload_n 3, 1) := kq_29 byq_r (by decide +kernel)
theorem d_Acts_readNumber_30 : decode b_Acts_readNumber 30 = .ok (.iadd, 1) := kq_96 byq_r (by decide +kernel)
theorem d_Acts_readNumber_31 : decode b_Acts_readNumber 31 = .ok (.ireturn, 1) := kq_172 byq_r (by decide +kernel)
theorem d_Acts_readPlank_0 : decode b_Acts_readPlank 0 = .ok (.aload_n 1, 1) := kq_43 byq_r (by decide +kernel)
theorem d_Acts_readPlank_1 : decode b_Acts_readPlank 1 = .ok (.iload_n 2, 1) := kq_28 byq_r (by decide +kernel)
theorem d_Acts_readPlank_2 : decode b_Acts_readPlank 2 = .ok (.bipush 60, 2) := kq_16 byq_r (b := 60) (by decide +kernel)
theorem d_Acts_readPlank_4 : decode b_Acts_readPlank 4 = .ok (.iconst 2, 1) := kq_5 byq_r (by decide +kernel)
theorem d_Acts_readPlank_5 : decode b_Acts_readPlank 5 = .ok (.invokevirtual 51, 3) := kq_182 byq_r (a := 0) (b := 51) (by decide +kernel)
theorem d_Acts_readPlank_8 : decode b_Acts_readPlank 8 = .ok (.istore_n 3, 1) := kq_62 byq_r (by decide +kernel)
theorem d_Acts_readPlank_9 : decode b_Acts_readPlank 9 = .ok (.aload_n 1, 1) := kq_43 byq_r (by decide +kernel)
theorem d_Acts_readPlank_10 : decode b_Acts_readPlank 10 = .ok (.getfield 55, 3) := kq_180 byq_r (a := 0) (b := 55) (by decide +kernel)
theorem d_Acts_readPlank_13 : decode b_Acts_readPlank 13 = .ok (.istore 4, 2) := kq_54 byq_r (by decide +kernel)
theorem d_Acts_readPlank_15 : decode b_Acts_readPlank 15 = .ok (.iload_n 2, 1) := kq_28 byq_r (by decide +kernel)
theorem d_Acts_readPlank_16 : decode b_Acts_readPlank 16 = .ok (.iload_n 3, 1) := kq_29 byq_r (by decide +kernel)
theorem d_Acts_readPlank_17 : decode b_Acts_readPlank 17 = .ok (.iadd, 1) := kq_96 byq_r (by decide +kernel)
theorem d_Acts_readPlank_18 : decode b_Acts_readPlank 18 = .ok (.istore 5, 2) := kq_54 byq_r (by decide +kernel)
theorem d_Acts_readPlank_20 : decode b_Acts_readPlank 20 = .ok (.iload_n 3, 1) := kq_29 byq_r (by decide +kernel)
theorem d_Acts_readPlank_21 : decode b_Acts_readPlank 21 = .ok (.ifCond .eq 16, 3) := kq_153 byq_r (a := 0) (b := 16) (by decide +kernel)
theorem d_Acts_readPlank_24 : decode b_Acts_readPlank 24 = .ok (.aload_n 1, 1) := kq_43 byq_r (by decide +kernel)
theorem d_Acts_readPlank_25 : decode b_Acts_readPlank 25 = .ok (.iload 5, 2) := kq_21 byq_r (by decide +kernel)
theorem d_Acts_readPlank_27 : decode b_Acts_readPlank 27 = .ok (.bipush 60, 2) := kq_16 byq_r (b := 60) (by decide +kernel)
theorem d_Acts_readPlank_29 : decode b_Acts_readPlank 29 = .ok (.invokevirtual 34, 3) := kq_182 byq_r (a := 0) (b := 34) (by decide +kernel)
theorem d_Acts_readPlank_32 : decode b_Acts_readPlank 32 = .ok (.bipush 45, 2) := kq_16 byq_r (b := 45) (by decide +kernel)
theorem d_Acts_readPlank_34 : decode b_Acts_readPlank 34 = .ok (.if_icmp .eq 8, 3) := kq_159 byq_r (a := 0) (b := 8) (by decide +kernel)
theorem d_Acts_readPlank_37 : decode b_Acts_readPlank 37 = .ok (.iconst (-1), 1) := kq_2 byq_r (by decide +kernel)
theorem d_Acts_readPlank_38 : decode b_Acts_readPlank 38 = .ok (.iload 5, 2) := kq_21 byq_r (by decide +kernel)
theorem d_Acts_readPlank_40 : decode b_Acts_readPlank 40 = .ok (.isub, 1) := kq_100 byq_r (by decide +kernel)
theorem d_Acts_readPlank_41 : decode b_Acts_readPlank 41 = .ok (.ireturn, 1) := kq_172 byq_r (by decide +kernel)
theorem d_Acts_readPlank_42 : decode b_Acts_readPlank 42 = .ok (.aload_n 1, 1) := kq_43 byq_r (by decide +kernel)
theorem d_Acts_readPlank_43 : decode b_Acts_readPlank 43 = .ok (.iload 5, 2) := kq_21 byq_r (by decide +kernel)
theorem d_Acts_readPlank_45 : decode b_Acts_readPlank 45 = .ok (.iconst 1, 1) := kq_4 byq_r (by decide +kernel)
theorem d_Acts_readPlank_46 : decode b_Acts_readPlank 46 = .ok (.iadd, 1) := kq_96 byq_r (by decide +kernel)
theorem d_Acts_readPlank_47 : decode b_Acts_readPlank 47 = .ok (.bipush 60, 2) := kq_16 byq_r (b := 60) (by decide +kernel)
theorem d_Acts_readPlank_49 : decode b_Acts_readPlank 49 = .ok (.iconst 2, 1) := kq_5 byq_r (by decide +kernel)
theorem d_Acts_readPlank_50 : decode b_Acts_readPlank 50 = .ok (.invokevirtual 51, 3) := kq_182 byq_r (a := 0) (b := 51) (by decide +kernel)
theorem d_Acts_readPlank_53 : decode b_Acts_readPlank 53 = .ok (.istore_n 3, 1) := kq_62 byq_r (by decide +kernel)
theorem d_Acts_readPlank_54 : decode b_Acts_readPlank 54 = .ok (.iload_n 3, 1) := kq_29 byq_r (by decide +kernel)
theorem d_Acts_readPlank_55 : decode b_Acts_readPlank 55 = .ok (.ifCond .ne 9, 3) := kq_154 byq_r (a := 0) (b := 9) (by decide +kernel)
theorem d_Acts_readPlank_58 : decode b_Acts_readPlank 58 = .ok (.bipush (-2), 2) := kq_16 byq_r (b := 254) (by decide +kernel)
theorem d_Acts_readPlank_60 : decode b_Acts_readPlank 60 = .ok (.iload 5, 2) := kq_21 byq_r (by decide +kernel)
theorem d_Acts_readPlank_62 : decode b_Acts_readPlank 62 = .ok (.isub, 1) := kq_100 byq_r (by decide +kernel)
theorem d_Acts_readPlank_63 : decode b_Acts_readPlank 63 = .ok (.ireturn, 1) := kq_172 byq_r (by decide +kernel)
theorem d_Acts_readPlank_64 : decode b_Acts_readPlank 64 = .ok (.aload_n 0, 1) := kq_42 byq_r (by decide +kernel)
theorem d_Acts_readPlank_65 : decode b_Acts_readPlank 65 = .ok (.bipush 112, 2) := kq_16 byq_r (b := 112) (by decide +kernel)
theorem d_Acts_readPlank_67 : decode b_Acts_readPlank 67 = .ok (.iload 4, 2) := kq_21 byq_r (by decide +kernel)
theorem d_Acts_readPlank_69 : decode b_Acts_readPlank 69 = .ok (.aload_n 1, 1) := kq_43 byq_r (by decide +kernel)
theorem d_Acts_readPlank_70 : decode b_Acts_readPlank 70 = .ok (.getfield 55, 3) := kq_180 byq_r (a := 0) (b := 55) (by decide +kernel)
theorem d_Acts_readPlank_73 : decode b_Acts_readPlank 73 = .ok (.invokevirtual 38, 3) := kq_182 byq_r (a := 0) (b := 38) (by decide +kernel)
theorem d_Acts_readPlank_76 : decode b_Acts_readPlank 76 = .ok (.iload 5, 2) := kq_21 byq_r (by decide +kernel)
theorem d_Acts_readPlank_78 : decode b_Acts_readPlank 78 = .ok (.iconst 1, 1) := kq_4 byq_r (by decide +kernel)
theorem d_Acts_readPlank_79 : decode b_Acts_readPlank 79 = .ok (.iadd, 1) := kq_96 byq_r (by decide +kernel)
theorem d_Acts_readPlank_80 : decode b_Acts_readPlank 80 = .ok (.iload_n 3, 1) := kq_29 byq_r (by decide +kernel)
theorem d_Acts_readPlank_81 : decode b_Acts_readPlank 81 = .ok (.iadd, 1) := kq_96 byq_r (by decide +kernel)
theorem d_Acts_readPlank_82 : decode b_Acts_readPlank 82 = .ok (.ireturn, 1) := kq_172 byq_r (by decide +kernel)
theorem d_Acts_readAct_0 : decode b_Acts_readAct 0 = .ok (.aload_n 1, 1) := kq_43 byq_r (by decide +kernel)
theorem d_Acts_readAct_1 : decode b_Acts_readAct 1 = .ok (.iload_n 2, 1) := kq_28 byq_r (by decide +kernel)
theorem d_Acts_readAct_2 : decode b_Acts_readAct 2 = .ok (.bipush 60, 2) := kq_16 byq_r (b := 60) (by decide +kernel)
theorem d_Acts_readAct_4 : decode b_Acts_readAct 4 = .ok (.invokevirtual 34, 3) := kq_182 byq_r (a := 0) (b := 34) (by decide +kernel)
theorem d_Acts_readAct_7 : decode b_Acts_readAct 7 = .ok (.istore_n 3, 1) := kq_62 byq_r (by decide +kernel)
theorem d_Acts_readAct_8 : decode b_Acts_readAct 8 = .ok (.iload_n 3, 1) := kq_29 byq_r (by decide +kernel)
theorem d_Acts_readAct_9 : decode b_Acts_readAct 9 = .ok (.lookupswitch 89 #[(102, 51), (109, 71), (110, 62), (112, 80), (120, 51)], 51) := by decide +kernel
theorem d_Acts_readAct_60 : decode b_Acts_readAct 60 = .ok (.aload_n 0, 1) := kq_42 byq_r (by decide +kernel)
theorem d_Acts_readAct_61 : decode b_Acts_readAct 61 = .ok (.iload_n 3, 1) := kq_29 byq_r (by decide +kernel)
theorem d_Acts_readAct_62 : decode b_Acts_readAct 62 = .ok (.iconst 0, 1) := kq_3 byq_r (by decide +kernel)
theorem d_Acts_readAct_63 : decode b_Acts_readAct 63 = .ok (.iconst 0, 1) := kq_3 byq_r (by decide +kernel)
theorem d_Acts_readAct_64 : decode b_Acts_readAct 64 = .ok (.invokevirtual 38, 3) := kq_182 byq_r (a := 0) (b := 38) (by decide +kernel)
theorem d_Acts_readAct_67 : decode b_Acts_readAct 67 = .ok (.iload_n 2, 1) := kq_28 byq_r (by decide +kernel)
theorem d_Acts_readAct_68 : decode b_Acts_readAct 68 = .ok (.iconst 1, 1) := kq_4 byq_r (by decide +kernel)
theorem d_Acts_readAct_69 : decode b_Acts_readAct 69 = .ok (.iadd, 1) := kq_96 byq_r (by decide +kernel)
theorem d_Acts_readAct_70 : decode b_Acts_readAct 70 = .ok (.ireturn, 1) := kq_172 byq_r (by decide +kernel)
theorem d_Acts_readAct_71 : decode b_Acts_readAct 71 = .ok (.aload_n 0, 1) := kq_42 byq_r (by decide +kernel)
theorem d_Acts_readAct_72 : decode b_Acts_readAct 72 = .ok (.aload_n 1, 1) := kq_43 byq_r (by decide +kernel)
theorem d_Acts_readAct_73 : decode b_Acts_readAct 73 = .ok (.iload_n 2, 1) := kq_28 byq_r (by decide +kernel)
theorem d_Acts_readAct_74 : decode b_Acts_readAct 74 = .ok (.iconst 1, 1) := kq_4 byq_r (by decide +kernel)
theorem d_Acts_readAct_75 : decode b_Acts_readAct 75 = .ok (.iadd, 1) := kq_96 byq_r (by decide +kernel)
theorem d_Acts_readAct_76 : decode b_Acts_readAct 76 = .ok (.invokevirtual 42, 3) := kq_182 byq_r (a := 0) (b := 42) (by decide +kernel)
theorem d_Acts_readAct_79 : decode b_Acts_readAct 79 = .ok (.ireturn, 1) := kq_172 byq_r (by decide +kernel)
theorem d_Acts_readAct_80 : decode b_Acts_readAct 80 = .ok (.aload_n 0, 1) := kq_42 byq_r (by decide +kernel)
theorem d_Acts_readAct_81 : decode b_Acts_readAct 81 = .ok (.aload_n 1, 1) := kq_43 byq_r (by decide +kernel)
theorem d_Acts_readAct_82 : decode b_Acts_readAct 82 = .ok (.iload_n 2, 1) := kq_28 byq_r (by decide +kernel)
theorem d_Acts_readAct_83 : decode b_Acts_readAct 83 = .ok (.iconst 1, 1) := kq_4 byq_r (by decide +kernel)
theorem d_Acts_readAct_84 : decode b_Acts_readAct 84 = .ok (.iadd, 1) := kq_96 byq_r (by decide +kernel)
theorem d_Acts_readAct_85 : decode b_Acts_readAct 85 = .ok (.invokevirtual 45, 3) := kq_182 byq_r (a := 0) (b := 45) (by decide +kernel)
theorem d_Acts_readAct_88 : decode b_Acts_readAct 88 = .ok (.ireturn, 1) := kq_172 byq_r (by decide +kernel)
theorem d_Acts_readAct_89 : decode b_Acts_readAct 89 = .ok (.aload_n 0, 1) := kq_42 byq_r (by decide +kernel)
theorem d_Acts_readAct_90 : decode b_Acts_readAct 90 = .ok (.aload_n 1, 1) := kq_43 byq_r (by decide +kernel)
theorem d_Acts_readAct_91 : decode b_Acts_readAct 91 = .ok (.iload_n 2, 1) := kq_28 byq_r (by decide +kernel)
theorem d_Acts_readAct_92 : decode b_Acts_readAct 92 = .ok (.iconst 1, 1) := kq_4 byq_r (by decide +kernel)
theorem d_Acts_readAct_93 : decode b_Acts_readAct 93 = .ok (.iadd, 1) := kq_96 byq_r (by decide +kernel)
theorem d_Acts_readAct_94 : decode b_Acts_readAct 94 = .ok (.invokevirtual 48, 3) := kq_182 byq_r (a := 0) (b := 48) (by decide +kernel)
theorem d_Acts_readAct_97 : decode b_Acts_readAct 97 = .ok (.ireturn, 1) := kq_172 byq_r (by decide +kernel)
theorem d_Acts_readAct_98 : decode b_Acts_readAct 98 = .ok (.iconst (-1), 1) := kq_2 byq_r (by decide +kernel)
theorem d_Acts_readAct_99 : decode b_Acts_readAct 99 = .ok (.iload_n 2, 1) := kq_28 byq_r (by decide +kernel)
theorem d_Acts_readAct_100 : decode b_Acts_readAct 100 = .ok (.isub, 1) := kq_100 byq_r (by decide +kernel)
theorem d_Acts_readAct_101 : decode b_Acts_readAct 101 = .ok (.ireturn, 1) := kq_172 byq_r (by decide +kernel)
theorem d_Acts_read_0 : decode b_Acts_read 0 = .ok (.aload_n 0, 1) := kq_42 byq_r (by decide +kernel)
theorem d_Acts_read_1 : decode b_Acts_read 1 = .ok (.iconst 0, 1) := kq_3 byq_r (by decide +kernel)
theorem d_Acts_read_2 : decode b_Acts_read 2 = .ok (.putfield 21, 3) := kq_181 byq_r (a := 0) (b := 21) (by decide +kernel)
theorem d_Acts_read_5 : decode b_Acts_read 5 = .ok (.aload_n 1, 1) := kq_43 byq_r (by decide +kernel)
theorem d_Acts_read_6 : decode b_Acts_read 6 = .ok (.getfield 25, 3) := kq_180 byq_r (a := 0) (b := 25) (by decide +kernel)
theorem d_Acts_read_9 : decode b_Acts_read 9 = .ok (.ifCond .ne 5, 3) := kq_154 byq_r (a := 0) (b := 5) (by decide +kernel)
theorem d_Acts_read_12 : decode b_Acts_read 12 = .ok (.iconst 0, 1) := kq_3 byq_r (by decide +kernel)
theorem d_Acts_read_13 : decode b_Acts_read 13 = .ok (.ireturn, 1) := kq_172 byq_r (by decide +kernel)
theorem d_Acts_read_14 : decode b_Acts_read 14 = .ok (.iconst 0, 1) := kq_3 byq_r (by decide +kernel)
theorem d_Acts_read_15 : decode b_Acts_read 15 = .ok (.istore_n 2, 1) := kq_61 byq_r (by decide +kernel)
theorem d_Acts_read_16 : decode b_Acts_read 16 = .ok (.iconst 0, 1) := kq_3 byq_r (by decide +kernel)
theorem d_Acts_read_17 : decode b_Acts_read 17 = .ok (.istore_n 3, 1) := kq_62 byq_r (by decide +kernel)
theorem d_Acts_read_18 : decode b_Acts_read 18 = .ok (.iload_n 3, 1) := kq_29 byq_r (by decide +kernel)
theorem d_Acts_read_19 : decode b_Acts_read 19 = .ok (.bipush 32, 2) := kq_16 byq_r (b := 32) (by decide +kernel)
theorem d_Acts_read_21 : decode b_Acts_read 21 = .ok (.if_icmp .ge 70, 3) := kq_162 byq_r (a := 0) (b := 70) (by decide +kernel)
theorem d_Acts_read_24 : decode b_Acts_read 24 = .ok (.aload_n 0, 1) := kq_42 byq_r (by decide +kernel)
theorem d_Acts_read_25 : decode b_Acts_read 25 = .ok (.aload_n 1, 1) := kq_43 byq_r (by decide +kernel)
theorem d_Acts_read_26 : decode b_Acts_read 26 = .ok (.iload_n 2, 1) := kq_28 byq_r (by decide +kernel)
theorem d_Acts_read_27 : decode b_Acts_read 27 = .ok (.invokevirtual 30, 3) := kq_182 byq_r (a := 0) (b := 30) (by decide +kernel)
theorem d_Acts_read_30 : decode b_Acts_read 30 = .ok (.istore_n 2, 1) := kq_61 byq_r (by decide +kernel)
theorem d_Acts_read_31 : decode b_Acts_read 31 = .ok (.iload_n 2, 1) := kq_28 byq_r (by decide +kernel)
theorem d_Acts_read_32 : decode b_Acts_read 32 = .ok (.ifCond .ge 5, 3) := kq_156 byq_r (a := 0) (b := 5) (by decide +kernel)
theorem d_Acts_read_35 : decode b_Acts_read 35 = .ok (.iload_n 2, 1) := kq_28 byq_r (by decide +kernel)
theorem d_Acts_read_36 : decode b_Acts_read 36 = .ok (.ireturn, 1) := kq_172 byq_r (by decide +kernel)
theorem d_Acts_read_37 : decode b_Acts_read 37 = .ok (.aload_n 1, 1) := kq_43 byq_r (by decide +kernel)
theorem d_Acts_read_38 : decode b_Acts_read 38 = .ok (.iload_n 2, 1) := kq_28 byq_r (by decide +kernel)
theorem d_Acts_read_39 : decode b_Acts_read 39 = .ok (.bipush 60, 2) := kq_16 byq_r (b := 60) (by decide +kernel)
theorem d_Acts_read_41 : decode b_Acts_read 41 = .ok (.invokevirtual 34, 3) := kq_182 byq_r (a := 0) (b := 34) (by decide +kernel)
theorem d_Acts_read_44 : decode b_Acts_read 44 = .ok (.istore 4, 2) := kq_54 byq_r (by decide +kernel)
theorem d_Acts_read_46 : decode b_Acts_read 46 = .ok (.iload 4, 2) := kq_21 byq_r (by decide +kernel)
theorem d_Acts_read_48 : decode b_Acts_read 48 = .ok (.iconst (-1), 1) := kq_2 byq_r (by decide +kernel)
theorem d_Acts_read_49 : decode b_Acts_read 49 = .ok (.if_icmp .ne 22, 3) := kq_160 byq_r (a := 0) (b := 22) (by decide +kernel)
theorem d_Acts_read_52 : decode b_Acts_read 52 = .ok (.aload_n 1, 1) := kq_43 byq_r (by decide +kernel)
theorem d_Acts_read_53 : decode b_Acts_read 53 = .ok (.getfield 25, 3) := kq_180 byq_r (a := 0) (b := 25) (by decide +kernel)
theorem d_Acts_read_56 : decode b_Acts_read 56 = .ok (.bipush 60, 2) := kq_16 byq_r (b := 60) (by decide +kernel)
theorem d_Acts_read_58 : decode b_Acts_read 58 = .ok (.if_icmp .le 8, 3) := kq_164 byq_r (a := 0) (b := 8) (by decide +kernel)
theorem d_Acts_read_61 : decode b_Acts_read 61 = .ok (.bipush (-61), 2) := kq_16 byq_r (b := 195) (by decide +kernel)
theorem d_Acts_read_63 : decode b_Acts_read 63 = .ok (.goto 7, 3) := kq_167 byq_r (a := 0) (b := 7) (by decide +kernel)
theorem d_Acts_read_66 : decode b_Acts_read 66 = .ok (.aload_n 0, 1) := kq_42 byq_r (by decide +kernel)
theorem d_Acts_read_67 : decode b_Acts_read 67 = .ok (.getfield 21, 3) := kq_180 byq_r (a := 0) (b := 21) (by decide +kernel)
theorem d_Acts_read_70 : decode b_Acts_read 70 = .ok (.ireturn, 1) := kq_172 byq_r (by decide +kernel)
theorem d_Acts_read_71 : decode b_Acts_read 71 = .ok (.iload 4, 2) := kq_21 byq_r (by decide +kernel)
theorem d_Acts_read_73 : decode b_Acts_read 73 = .ok (.bipush 59, 2) := kq_16 byq_r (b := 59) (by decide +kernel)
theorem d_Acts_read_75 : decode b_Acts_read 75 = .ok (.if_icmp .eq 7, 3) := kq_159 byq_r (a := 0) (b := 7) (by decide +kernel)
theorem d_Acts_read_78 : decode b_Acts_read 78 = .ok (.iconst (-1), 1) := kq_2 byq_r (by decide +kernel)
theorem d_Acts_read_79 : decode b_Acts_read 79 = .ok (.iload_n 2, 1) := kq_28 byq_r (by decide +kernel)
theorem d_Acts_read_80 : decode b_Acts_read 80 = .ok (.isub, 1) := kq_100 byq_r (by decide +kernel)
theorem d_Acts_read_81 : decode b_Acts_read 81 = .ok (.ireturn, 1) := kq_172 byq_r (by decide +kernel)
theorem d_Acts_read_82 : decode b_Acts_read 82 = .ok (.iinc 2 1, 3) := kq_132 byq_r (b := 1) (by decide +kernel)
theorem d_Acts_read_85 : decode b_Acts_read 85 = .ok (.iinc 3 1, 3) := kq_132 byq_r (b := 1) (by decide +kernel)
theorem d_Acts_read_88 : decode b_Acts_read 88 = .ok (.goto (-70), 3) := kq_167 byq_r (a := 255) (b := 186) (by decide +kernel)
theorem d_Acts_read_91 : decode b_Acts_read 91 = .ok (.iconst (-1), 1) := kq_2 byq_r (by decide +kernel)
theorem d_Acts_read_92 : decode b_Acts_read 92 = .ok (.iload_n 2, 1) := kq_28 byq_r (by decide +kernel)
theorem d_Acts_read_93 : decode b_Acts_read 93 = .ok (.isub, 1) := kq_100 byq_r (by decide +kernel)
theorem d_Acts_read_94 : decode b_Acts_read 94 = .ok (.ireturn, 1) := kq_172 byq_r (by decide +kernel)
def j_Clock_move_71 (v1 : Int32) (v2 : Nat) (M : Mem) : Option (Mem) :=
  if inb v1 8 = true then
  Option.bind (f_Crowd_placeBehind v1 (M.1 (rf v2 2) v1.toNatClampNeg) M) fun x3 =>
  if inb v1 8 = true then
  mem_ (s_i M (rf v2 2) v1.toNatClampNeg x3) fun M4 =>
  some M4
  else none
  else none
theorem j_Clock_move_71_ok {E : Ev} {G : Gw} {d : Nat} {post : Mem → Prop} (X : Cx E G b_Clock_move "WomenByTheRoofs$Clock" 7 d none) (hD : 3 ≤ d)  (v1 : Int32) (v2 : Nat) (hk_v2 : kd v2 = 10 + 7)  (M : Mem)  (o : Mem) (h : j_Clock_move_71 v1 v2 M = some o) (kr : ∀ x9 : Mem, o = x9 → post x9) : V E (0, 0) G 7 (QV E G post) M 71 [(1, .int v1), (2, .ref (G.2.2 + v2)), (3, .ref (G.2.2 + 6))] [] := by
  unfold j_Clock_move_71 at h
  refine V_aload_n (n := 1) X d_Clock_move_71 rfl rfl rfl ?_
  refine V_getr X fo_Clock_64 hk_v2 rfl rfl d_Clock_move_72 rfl ?_
  refine V_iload_n (n := 0) X d_Clock_move_75 rfl rfl rfl ?_
  refine V_aload_n (n := 2) X d_Clock_move_76 rfl rfl rfl ?_
  refine V_iload_n (n := 0) X d_Clock_move_77 rfl rfl rfl ?_
  refine V_aload_n (n := 1) X d_Clock_move_78 rfl rfl rfl ?_
  refine V_getr X fo_Clock_64 hk_v2 rfl rfl d_Clock_move_79 rfl ?_
  refine V_iload_n (n := 0) X d_Clock_move_82 rfl rfl rfl ?_
  obtain ⟨hb, h⟩ := ifn h
  refine V_iald X (kdScene_2 hk_v2) (inb_in (lnScene_2 hk_v2) hb) d_Clock_move_83 rfl ?_
  obtain ⟨x3, hx3, h⟩ := ob_s h
  refine V_ci (As := [.int v1, .int (M.1 (rf v2 2) v1.toNatClampNeg)]) X (Z0 E) ml_Clock_84 yq_Crowd_placeBehind (c_Crowd_placeBehind E.2.1 G v1 (M.1 (rf v2 2) v1.toNatClampNeg) M x3 hx3 _ (Nat.le_refl _)) kd_6 rfl rfl (by omega) rfl (Nat.le_of_ble_eq_true rfl) d_Clock_move_84 rfl (fun r9 M9 hq => ?_)
  rw [hq.1, hq.2]
  obtain ⟨hb, h⟩ := ifn h
  obtain ⟨M4, eM4, h⟩ := memS h
  refine V_iast X (kdScene_2 hk_v2) (inb_in (lnScene_2 hk_v2) hb) d_Clock_move_87 rfl ?_
  rw [← eM4]
  exact V_vret X (kr M4 (Option.some.inj h).symm) d_Clock_move_88
def f_Clock_move (v1 : Int32) (v2 : Nat) (v4 : Nat) (M : Mem) : Option (Mem) :=
  if kd v2 = 10 + 7 then
  if kd v4 = 10 + 6 then
  if inb v1 8 = true then
  Option.bind (f_Crowd_stepAt v1 (M.1 (rf v2 2) v1.toNatClampNeg) M) fun x1 =>
  if inb v1 8 = true then
  if inb v1 8 = true then
  Option.bind (f_Nets_toward v4 (M.1 (rf v2 1) v1.toNatClampNeg) (M.1 (rf v2 0) v1.toNatClampNeg) x1 M) fun x2 =>
  if x2 = (-1 : Int32) then
  j_Clock_move_71 v1 v2 M
  else
  if inb v1 8 = true then
  if x2 = (M.1 (rf v2 0) v1.toNatClampNeg) then
  j_Clock_move_71 v1 v2 M
  else
  if inb v1 8 = true then
  mem_ (s_i M (rf v2 0) v1.toNatClampNeg x2) fun M5 =>
  mem_ (s_i M5 45 0 ((M5.1 45 0) ||| ((1 : Int32) <<< (v1 &&& 31)))) fun M6 =>
  j_Clock_move_71 v1 v2 M6
  else none
  else none
  else none
  else none
  else none
  else none
  else none
theorem c_Clock_move (l : Launch) (G : Gw)  (v1 : Int32) (v2 : Nat) (v4 : Nat) (M : Mem) (x : Mem) (h : f_Clock_move v1 v2 v4 M = some x) (d : Nat) (hD : 3 ≤ d) : Cv l G y_Clock_move b_Clock_move 7 none d [.ref (G.2.2 + 45), .int v1, .ref (G.2.2 + v2), .ref (G.2.2 + 6), .ref (G.2.2 + v4)] M (fun M9 => M9 = x) := by
  refine Cv_of (by decide) (Nat.le_of_ble_eq_true rfl) (fun E hE X => ?_)
  subst hE
  have kr : ∀ x9 : Mem, x = x9 → (fun M9 => M9 = x) x9 := fun x9 e9 => by subst e9; exact rfl
  unfold f_Clock_move at h
  obtain ⟨hk_v2, h⟩ := ifn h
  obtain ⟨hk_v4, h⟩ := ifn h
  refine V_aload_n (n := 3) X d_Clock_move_0 rfl rfl rfl ?_
  refine V_iload_n (n := 1) X d_Clock_move_1 rfl rfl rfl ?_
  refine V_aload_n (n := 2) X d_Clock_move_2 rfl rfl rfl ?_
  refine V_getr X fo_Clock_64 hk_v2 rfl rfl d_Clock_move_3 rfl ?_
  refine V_iload_n (n := 1) X d_Clock_move_6 rfl rfl rfl ?_
  obtain ⟨hb, h⟩ := ifn h
  refine V_iald X (kdScene_2 hk_v2) (inb_in (lnScene_2 hk_v2) hb) d_Clock_move_7 rfl ?_
  obtain ⟨x1, hx1, h⟩ := ob_s h
  refine V_ci (As := [.int v1, .int (M.1 (rf v2 2) v1.toNatClampNeg)]) X (Z0 E) ml_Clock_68 yq_Crowd_stepAt (c_Crowd_stepAt E.2.1 G v1 (M.1 (rf v2 2) v1.toNatClampNeg) M x1 hx1 _ (Nat.le_refl _)) kd_6 rfl rfl (by omega) rfl (Nat.le_of_ble_eq_true rfl) d_Clock_move_8 rfl (fun r9 M9 hq => ?_)
  rw [hq.1, hq.2]
  refine V_istore (lv' := [(5, .int x1), (0, .ref (G.2.2 + 45)), (1, .int v1), (2, .ref (G.2.2 + v2)), (3, .ref (G.2.2 + 6)), (4, .ref (G.2.2 + v4))]) X d_Clock_move_11 (by decide) rfl rfl ?_
  refine V_aload (n := 5) X d_Clock_move_13 rfl rfl ?_
  refine V_aload_n (n := 3) X d_Clock_move_15 rfl rfl rfl ?_
  refine V_getr X fo_Clock_72 hk_v2 rfl rfl d_Clock_move_16 rfl ?_
  refine V_iload_n (n := 2) X d_Clock_move_19 rfl rfl rfl ?_
  obtain ⟨hb, h⟩ := ifn h
  refine V_iald X (kdScene_1 hk_v2) (inb_in (lnScene_1 hk_v2) hb) d_Clock_move_20 rfl ?_
  refine V_aload_n (n := 3) X d_Clock_move_21 rfl rfl rfl ?_
  refine V_getr X fo_Clock_75 hk_v2 rfl rfl d_Clock_move_22 rfl ?_
  refine V_iload_n (n := 2) X d_Clock_move_25 rfl rfl rfl ?_
  obtain ⟨hb, h⟩ := ifn h
  refine V_iald X (kdScene_0 hk_v2) (inb_in (lnScene_0 hk_v2) hb) d_Clock_move_26 rfl ?_
  refine V_iload (n := 0) X d_Clock_move_27 rfl rfl ?_
  obtain ⟨x2, hx2, h⟩ := ob_s h
  refine V_ci (As := [.int (M.1 (rf v2 1) v1.toNatClampNeg), .int (M.1 (rf v2 0) v1.toNatClampNeg), .int x1]) X (Z0 E) ml_Clock_78 yq_Nets_toward (c_Nets_toward E.2.1 G v4 (M.1 (rf v2 1) v1.toNatClampNeg) (M.1 (rf v2 0) v1.toNatClampNeg) x1 M x2 hx2 _ (Nat.le_refl _)) hk_v4 rfl rfl (by omega) rfl (Nat.le_of_ble_eq_true rfl) d_Clock_move_29 rfl (fun r9 M9 hq => ?_)
  rw [hq.1, hq.2]
  refine V_istore (lv' := [(6, .int x2), (5, .int x1), (0, .ref (G.2.2 + 45)), (1, .int v1), (2, .ref (G.2.2 + v2)), (3, .ref (G.2.2 + 6)), (4, .ref (G.2.2 + v4))]) X d_Clock_move_32 (by decide) rfl rfl ?_
  refine V_iload (n := 0) X d_Clock_move_34 rfl rfl ?_
  refine V_iconst (v := -1) X d_Clock_move_36 (by decide) rfl ?_
  refine V_icmp_eq (tgt := 71) X d_Clock_move_37 (by decide) rfl (fun c8 => ?_) (fun c8 => ?_)
  · rw [if_pos c8] at h
    refine V_sub (lv' := [(1, .int v1), (2, .ref (G.2.2 + v2)), (3, .ref (G.2.2 + 6))]) [3, 4, 5] rfl ?_
    exact j_Clock_move_71_ok X hD v1 v2 hk_v2 M _ h kr
  · rw [if_neg c8] at h
    refine V_iload (n := 0) X d_Clock_move_40 rfl rfl ?_
    refine V_aload_n (n := 4) X d_Clock_move_42 rfl rfl rfl ?_
    refine V_getr X fo_Clock_75 hk_v2 rfl rfl d_Clock_move_43 rfl ?_
    refine V_iload_n (n := 3) X d_Clock_move_46 rfl rfl rfl ?_
    obtain ⟨hb, h⟩ := ifn h
    refine V_iald X (kdScene_0 hk_v2) (inb_in (lnScene_0 hk_v2) hb) d_Clock_move_47 rfl ?_
    refine V_icmp_eq (tgt := 71) X d_Clock_move_48 (by decide) rfl (fun c7 => ?_) (fun c7 => ?_)
    · rw [if_pos c7] at h
      refine V_sub (lv' := [(1, .int v1), (2, .ref (G.2.2 + v2)), (3, .ref (G.2.2 + 6))]) [3, 4, 5] rfl ?_
      exact j_Clock_move_71_ok X hD v1 v2 hk_v2 M _ h kr
    · rw [if_neg c7] at h
      refine V_aload_n (n := 4) X d_Clock_move_51 rfl rfl rfl ?_
      refine V_getr X fo_Clock_75 hk_v2 rfl rfl d_Clock_move_52 rfl ?_
      refine V_iload_n (n := 3) X d_Clock_move_55 rfl rfl rfl ?_
      refine V_iload (n := 0) X d_Clock_move_56 rfl rfl ?_
      obtain ⟨hb, h⟩ := ifn h
      obtain ⟨M5, eM5, h⟩ := memS h
      refine V_iast X (kdScene_0 hk_v2) (inb_in (lnScene_0 hk_v2) hb) d_Clock_move_58 rfl ?_
      rw [← eM5]
      refine V_aload_n (n := 2) X d_Clock_move_59 rfl rfl rfl ?_
      refine V_dup X d_Clock_move_60 rfl rfl ?_
      refine V_geti X fo_Clock_18 kd_45 rfl d_Clock_move_61 rfl ?_
      refine V_iconst (v := 1) X d_Clock_move_64 (by decide) rfl ?_
      refine V_iload_n (n := 3) X d_Clock_move_65 rfl rfl rfl ?_
      refine V_ishl X d_Clock_move_66 rfl ?_
      refine V_ior X d_Clock_move_67 rfl ?_
      obtain ⟨M6, eM6, h⟩ := memS h
      refine V_putI X fp_Clock_18 kd_45 rfl d_Clock_move_68 rfl ?_
      rw [← eM6]
      refine V_sub (lv' := [(1, .int v1), (2, .ref (G.2.2 + v2)), (3, .ref (G.2.2 + 6))]) [3, 4, 5] rfl ?_
      exact j_Clock_move_71_ok X hD v1 v2 hk_v2 M6 _ h kr
def lb_Clock_greet_26 (v1 : Int32) (v2 : Nat) (s : Int32 × Mem) : Option ((Int32 × Mem) ⊕ ((Mem))) :=
  if (s.2.1 6 4) ≤ s.1 then
  some (.inr s.2)
  else
  Option.bind (f_Crowd_woman s.1 s.2) fun x3 =>
  if x3 = 0 then
  some (.inl ((s.1 + (1 : Int32)), s.2))
  else
  if inb s.1 8 = true then
  if inb v1 8 = true then
  if (s.2.1 (rf v2 0) s.1.toNatClampNeg) = (s.2.1 (rf v2 0) v1.toNatClampNeg) then
  Option.bind (f_Scene_addMeeting v2 v1 s.1 s.2) fun x4 =>
  mem_ (s_i x4 45 2 ((x4.1 45 2) + (1 : Int32))) fun M5 =>
  some (.inl ((s.1 + (1 : Int32)), M5))
  else
  some (.inl ((s.1 + (1 : Int32)), s.2))
  else none
  else none
theorem lb_Clock_greet_26_ok {E : Ev} {G : Gw} {d : Nat} {post : Mem → Prop} (X : Cx E G b_Clock_greet "WomenByTheRoofs$Clock" 6 d none) (hD : 2 ≤ d)  (v1 : Int32) (v2 : Nat) (hk_v2 : kd v2 = 10 + 7)  (s : Int32 × Mem) (o : (Int32 × Mem) ⊕ ((Mem))) (h : lb_Clock_greet_26 v1 v2 s = some o) (kc : ∀ s9 : Int32 × Mem, o = .inl s9 → V E (0, 0) G 6 (QV E G post) s9.2 26 [(0, .ref (G.2.2 + 45)), (1, .int v1), (2, .ref (G.2.2 + v2)), (3, .ref (G.2.2 + 6)), (5, .int s9.1)] []) (kx0 : ∀ x9 : Mem, o = .inr x9 → V E (0, 0) G 6 (QV E G post) x9 83 [] []) : V E (0, 0) G 6 (QV E G post) s.2 26 [(0, .ref (G.2.2 + 45)), (1, .int v1), (2, .ref (G.2.2 + v2)), (3, .ref (G.2.2 + 6)), (5, .int s.1)] [] := by
  unfold lb_Clock_greet_26 at h
  refine V_iload (n := 4) X d_Clock_greet_26 rfl rfl ?_
  refine V_aload_n (n := 3) X d_Clock_greet_28 rfl rfl rfl ?_
  refine V_geti X fo_Clock_21 kd_6 rfl d_Clock_greet_29 rfl ?_
  refine V_icmp_ge (tgt := 83) X d_Clock_greet_32 (by decide) rfl (fun c8 => ?_) (fun c8 => ?_)
  · rw [if_pos c8] at h
    refine V_sub (lv' := []) [] rfl ?_
    exact kx0 s.2 (Option.some.inj h).symm
  · rw [if_neg c8] at h
    refine V_aload_n (n := 3) X d_Clock_greet_35 rfl rfl rfl ?_
    refine V_iload (n := 4) X d_Clock_greet_36 rfl rfl ?_
    obtain ⟨x3, hx3, h⟩ := ob_s h
    refine V_ci (As := [.int s.1]) X (Z0 E) ml_Clock_87 yq_Crowd_woman (c_Crowd_woman E.2.1 G s.1 s.2 x3 hx3 _ (Nat.le_refl _)) kd_6 rfl rfl (by omega) rfl (Nat.le_of_ble_eq_true rfl) d_Clock_greet_38 rfl (fun r9 M9 hq => ?_)
    rw [hq.1, hq.2]
    refine V_if_eq (tgt := 77) X d_Clock_greet_41 (by decide) rfl (fun c7 => ?_) (fun c7 => ?_)
    · rw [if_pos c7] at h
      refine V_iinc (n := 4) (v := (s.1 + (1 : Int32))) (lv' := [(5, .int (s.1 + (1 : Int32))), (0, .ref (G.2.2 + 45)), (1, .int v1), (2, .ref (G.2.2 + v2)), (3, .ref (G.2.2 + 6))]) X d_Clock_greet_77 rfl rfl (by decide) rfl rfl ?_
      refine V_goto (pc' := 26) X d_Clock_greet_80 (by decide) ?_
      refine V_sub (lv' := [(0, .ref (G.2.2 + 45)), (1, .int v1), (2, .ref (G.2.2 + v2)), (3, .ref (G.2.2 + 6)), (5, .int (s.1 + (1 : Int32)))]) [1, 2, 3, 4, 0] rfl ?_
      exact kc ((s.1 + (1 : Int32)), s.2) (Option.some.inj h).symm
    · rw [if_neg c7] at h
      refine V_aload_n (n := 2) X d_Clock_greet_44 rfl rfl rfl ?_
      refine V_getr X fo_Clock_75 hk_v2 rfl rfl d_Clock_greet_45 rfl ?_
      refine V_iload (n := 4) X d_Clock_greet_48 rfl rfl ?_
      obtain ⟨hb, h⟩ := ifn h
      refine V_iald X (kdScene_0 hk_v2) (inb_in (lnScene_0 hk_v2) hb) d_Clock_greet_50 rfl ?_
      refine V_aload_n (n := 2) X d_Clock_greet_51 rfl rfl rfl ?_
      refine V_getr X fo_Clock_75 hk_v2 rfl rfl d_Clock_greet_52 rfl ?_
      refine V_iload_n (n := 1) X d_Clock_greet_55 rfl rfl rfl ?_
      obtain ⟨hb, h⟩ := ifn h
      refine V_iald X (kdScene_0 hk_v2) (inb_in (lnScene_0 hk_v2) hb) d_Clock_greet_56 rfl ?_
      refine V_icmp_ne (tgt := 77) X d_Clock_greet_57 (by decide) rfl (fun c6 => ?_) (fun c6 => ?_)
      · rw [if_neg c6] at h
        refine V_iinc (n := 4) (v := (s.1 + (1 : Int32))) (lv' := [(5, .int (s.1 + (1 : Int32))), (0, .ref (G.2.2 + 45)), (1, .int v1), (2, .ref (G.2.2 + v2)), (3, .ref (G.2.2 + 6))]) X d_Clock_greet_77 rfl rfl (by decide) rfl rfl ?_
        refine V_goto (pc' := 26) X d_Clock_greet_80 (by decide) ?_
        refine V_sub (lv' := [(0, .ref (G.2.2 + 45)), (1, .int v1), (2, .ref (G.2.2 + v2)), (3, .ref (G.2.2 + 6)), (5, .int (s.1 + (1 : Int32)))]) [1, 2, 3, 4, 0] rfl ?_
        exact kc ((s.1 + (1 : Int32)), s.2) (Option.some.inj h).symm
      · rw [if_pos c6] at h
        refine V_aload_n (n := 2) X d_Clock_greet_60 rfl rfl rfl ?_
        refine V_iload_n (n := 1) X d_Clock_greet_61 rfl rfl rfl ?_
        refine V_iload (n := 4) X d_Clock_greet_62 rfl rfl ?_
        obtain ⟨x4, hx4, h⟩ := ob_s h
        refine V_cv (As := [.int v1, .int s.1]) X (Z0 E) ml_Clock_96 yq_Scene_addMeeting (c_Scene_addMeeting E.2.1 G v2 v1 s.1 s.2 x4 hx4 _ (Nat.le_refl _)) hk_v2 rfl rfl (by omega) rfl (Nat.le_of_ble_eq_true rfl) d_Clock_greet_64 rfl (fun M9 hq => ?_)
        rw [hq]
        refine V_aload_n (n := 0) X d_Clock_greet_67 rfl rfl rfl ?_
        refine V_dup X d_Clock_greet_68 rfl rfl ?_
        refine V_geti X fo_Clock_36 kd_45 rfl d_Clock_greet_69 rfl ?_
        refine V_iconst (v := 1) X d_Clock_greet_72 (by decide) rfl ?_
        refine V_iadd X d_Clock_greet_73 rfl ?_
        obtain ⟨M5, eM5, h⟩ := memS h
        refine V_putI X fp_Clock_36 kd_45 rfl d_Clock_greet_74 rfl ?_
        rw [← eM5]
        refine V_iinc (n := 4) (v := (s.1 + (1 : Int32))) (lv' := [(5, .int (s.1 + (1 : Int32))), (0, .ref (G.2.2 + 45)), (1, .int v1), (2, .ref (G.2.2 + v2)), (3, .ref (G.2.2 + 6))]) X d_Clock_greet_77 rfl rfl (by decide) rfl rfl ?_
        refine V_goto (pc' := 26) X d_Clock_greet_80 (by decide) ?_
        refine V_sub (lv' := [(0, .ref (G.2.2 + 45)), (1, .int v1), (2, .ref (G.2.2 + v2)), (3, .ref (G.2.2 + 6)), (5, .int (s.1 + (1 : Int32)))]) [1, 2, 3, 4, 0] rfl ?_
        exact kc ((s.1 + (1 : Int32)), M5) (Option.some.inj h).symm
theorem lp_Clock_greet_26_ok {E : Ev} {G : Gw} {d : Nat} {post : Mem → Prop} (X : Cx E G b_Clock_greet "WomenByTheRoofs$Clock" 6 d none) (hD : 2 ≤ d)  (v1 : Int32) (v2 : Nat) (hk_v2 : kd v2 = 10 + 7)  (n9 : Nat) (s : Int32 × Mem) (x : (Mem)) (h : iter (lb_Clock_greet_26 v1 v2) n9 s = some x) (kx0 : ∀ x9 : Mem, x = x9 → V E (0, 0) G 6 (QV E G post) x9 83 [] []) : V E (0, 0) G 6 (QV E G post) s.2 26 [(0, .ref (G.2.2 + 45)), (1, .int v1), (2, .ref (G.2.2 + v2)), (3, .ref (G.2.2 + 6)), (5, .int s.1)] [] :=
  iter_P (P := fun s : Int32 × Mem => V E (0, 0) G 6 (QV E G post) s.2 26 [(0, .ref (G.2.2 + 45)), (1, .int v1), (2, .ref (G.2.2 + v2)), (3, .ref (G.2.2 + 6)), (5, .int s.1)] []) (fun s o hb kc ky => lb_Clock_greet_26_ok X hD v1 v2 hk_v2 s o hb kc (fun x9 e9 => kx0 x9 (ky _ e9).symm)) n9 s h
def f_Clock_greet (v1 : Int32) (v2 : Nat) (M : Mem) : Option (Mem) :=
  if kd v2 = 10 + 7 then
  Option.bind (f_Crowd_woman v1 M) fun x1 =>
  if x1 = 0 then
  if inb v1 8 = true then
  Option.bind (f_Ground_isStair (M.1 (rf v2 0) v1.toNatClampNeg) M) fun x2 =>
  if x2 = 0 then
  some M
  else
  Option.bind (iter (lb_Clock_greet_26 v1 v2) FU ((0 : Int32), M)) fun x9 =>
  some x9
  else none
  else
  some M
  else none
theorem c_Clock_greet (l : Launch) (G : Gw)  (v1 : Int32) (v2 : Nat) (M : Mem) (x : Mem) (h : f_Clock_greet v1 v2 M = some x) (d : Nat) (hD : 2 ≤ d) : Cv l G y_Clock_greet b_Clock_greet 6 none d [.ref (G.2.2 + 45), .int v1, .ref (G.2.2 + v2), .ref (G.2.2 + 6), .ref (G.2.2 + 3)] M (fun M9 => M9 = x) := by
  refine Cv_of (by decide) (Nat.le_of_ble_eq_true rfl) (fun E hE X => ?_)
  subst hE
  have kr : ∀ x9 : Mem, x = x9 → (fun M9 => M9 = x) x9 := fun x9 e9 => by subst e9; exact rfl
  unfold f_Clock_greet at h
  obtain ⟨hk_v2, h⟩ := ifn h
  refine V_aload_n (n := 3) X d_Clock_greet_0 rfl rfl rfl ?_
  refine V_iload_n (n := 1) X d_Clock_greet_1 rfl rfl rfl ?_
  obtain ⟨x1, hx1, h⟩ := ob_s h
  refine V_ci (As := [.int v1]) X (Z0 E) ml_Clock_87 yq_Crowd_woman (c_Crowd_woman E.2.1 G v1 M x1 hx1 _ (Nat.le_refl _)) kd_6 rfl rfl (by omega) rfl (Nat.le_of_ble_eq_true rfl) d_Clock_greet_2 rfl (fun r9 M9 hq => ?_)
  rw [hq.1, hq.2]
  refine V_if_ne (tgt := 22) X d_Clock_greet_5 (by decide) rfl (fun c11 => ?_) (fun c11 => ?_)
  · rw [if_neg c11] at h
    exact V_vret X (kr M (Option.some.inj h).symm) d_Clock_greet_22
  · rw [if_pos c11] at h
    refine V_aload (n := 4) X d_Clock_greet_8 rfl rfl ?_
    refine V_aload_n (n := 2) X d_Clock_greet_10 rfl rfl rfl ?_
    refine V_getr X fo_Clock_75 hk_v2 rfl rfl d_Clock_greet_11 rfl ?_
    refine V_iload_n (n := 1) X d_Clock_greet_14 rfl rfl rfl ?_
    obtain ⟨hb, h⟩ := ifn h
    refine V_iald X (kdScene_0 hk_v2) (inb_in (lnScene_0 hk_v2) hb) d_Clock_greet_15 rfl ?_
    obtain ⟨x2, hx2, h⟩ := ob_s h
    refine V_ci (As := [.int (M.1 (rf v2 0) v1.toNatClampNeg)]) X (Z0 E) ml_Clock_91 yq_Ground_isStair (c_Ground_isStair E.2.1 G (M.1 (rf v2 0) v1.toNatClampNeg) M x2 hx2 _ (Nat.le_refl _)) kd_3 rfl rfl (by omega) rfl (Nat.le_of_ble_eq_true rfl) d_Clock_greet_16 rfl (fun r9 M9 hq => ?_)
    rw [hq.1, hq.2]
    refine V_if_ne (tgt := 23) X d_Clock_greet_19 (by decide) rfl (fun c10 => ?_) (fun c10 => ?_)
    · rw [if_neg c10] at h
      refine V_iconst (v := 0) X d_Clock_greet_23 (by decide) rfl ?_
      refine V_istore (lv' := [(5, .int (0 : Int32)), (0, .ref (G.2.2 + 45)), (1, .int v1), (2, .ref (G.2.2 + v2)), (3, .ref (G.2.2 + 6)), (4, .ref (G.2.2 + 3))]) X d_Clock_greet_24 (by decide) rfl rfl ?_
      refine V_sub (lv' := [(0, .ref (G.2.2 + 45)), (1, .int v1), (2, .ref (G.2.2 + v2)), (3, .ref (G.2.2 + 6)), (5, .int (0 : Int32))]) [1, 2, 3, 4, 0] rfl ?_
      obtain ⟨x9, hx9, h⟩ := ob_s h
      refine (lp_Clock_greet_26_ok X hD v1 v2 hk_v2 _ _ _ hx9 (fun x9 e9 => ?_) :)
      subst e9
      exact V_vret X (kr x9 (Option.some.inj h).symm) d_Clock_greet_83
    · rw [if_pos c10] at h
      exact V_vret X (kr M (Option.some.inj h).symm) d_Clock_greet_22
def lb_Clock_hearers_68 (v2 : Nat) (v5 : Int32) (M : Mem) (s : Int32 × Int32) : Option ((Int32 × Int32) ⊕ ((Int32))) :=
  if (4 : Int32) ≤ s.2 then
  some (.inr s.1)
  else
  Option.bind (f_Ground_beside v5 s.2 M) fun x3 =>
  Option.bind (f_Scene_standing v2 (0 : Int32) x3 (M.1 6 4) M) fun x4 =>
  some (.inl ((s.1 ||| x4), (s.2 + (1 : Int32))))
theorem lb_Clock_hearers_68_ok {E : Ev} {G : Gw} {d : Nat} {post : Int32 → Mem → Prop} (X : Cx E G b_Clock_hearers "WomenByTheRoofs$Clock" 9 d (some .int)) (hD : 2 ≤ d)  (v2 : Nat) (v5 : Int32) (hk_v2 : kd v2 = 10 + 7) (M : Mem) (s : Int32 × Int32) (o : (Int32 × Int32) ⊕ ((Int32))) (h : lb_Clock_hearers_68 v2 v5 M s = some o) (kc : ∀ s9 : Int32 × Int32, o = .inl s9 → V E (0, 0) G 9 (QI E G post) M 68 [(2, .ref (G.2.2 + v2)), (3, .ref (G.2.2 + 6)), (4, .ref (G.2.2 + 3)), (5, .int v5), (7, .int s9.1), (8, .int s9.2)] []) (kx0 : ∀ x9 : Int32, o = .inr x9 → V E (0, 0) G 9 (QI E G post) M 103 [(7, .int x9)] []) : V E (0, 0) G 9 (QI E G post) M 68 [(2, .ref (G.2.2 + v2)), (3, .ref (G.2.2 + 6)), (4, .ref (G.2.2 + 3)), (5, .int v5), (7, .int s.1), (8, .int s.2)] [] := by
  unfold lb_Clock_hearers_68 at h
  refine V_iload (n := 5) X d_Clock_hearers_68 rfl rfl ?_
  refine V_iconst (v := 4) X d_Clock_hearers_70 (by decide) rfl ?_
  refine V_icmp_ge (tgt := 103) X d_Clock_hearers_71 (by decide) rfl (fun c5 => ?_) (fun c5 => ?_)
  · rw [if_pos c5] at h
    refine V_sub (lv' := [(7, .int s.1)]) [4] rfl ?_
    exact kx0 s.1 (Option.some.inj h).symm
  · rw [if_neg c5] at h
    refine V_iload (n := 4) X d_Clock_hearers_74 rfl rfl ?_
    refine V_aload_n (n := 0) X d_Clock_hearers_76 rfl rfl rfl ?_
    refine V_iconst (v := 0) X d_Clock_hearers_77 (by decide) rfl ?_
    refine V_aload (n := 2) X d_Clock_hearers_78 rfl rfl ?_
    refine V_iload (n := 3) X d_Clock_hearers_80 rfl rfl ?_
    refine V_iload (n := 5) X d_Clock_hearers_82 rfl rfl ?_
    obtain ⟨x3, hx3, h⟩ := ob_s h
    refine V_ci (As := [.int v5, .int s.2]) X (Z0 E) ml_Clock_103 yq_Ground_beside (c_Ground_beside E.2.1 G v5 s.2 M x3 hx3 _ (Nat.le_refl _)) kd_3 rfl rfl (by omega) rfl (Nat.le_of_ble_eq_true rfl) d_Clock_hearers_84 rfl (fun r9 M9 hq => ?_)
    rw [hq.1, hq.2]
    refine V_aload_n (n := 1) X d_Clock_hearers_87 rfl rfl rfl ?_
    refine V_geti X fo_Clock_21 kd_6 rfl d_Clock_hearers_88 rfl ?_
    obtain ⟨x4, hx4, h⟩ := ob_s h
    refine V_ci (As := [.int (0 : Int32), .int x3, .int (M.1 6 4)]) X (Z0 E) ml_Clock_100 yq_Scene_standing (c_Scene_standing E.2.1 G v2 (0 : Int32) x3 (M.1 6 4) M x4 hx4 _ (Nat.le_refl _)) hk_v2 rfl rfl (by omega) rfl (Nat.le_of_ble_eq_true rfl) d_Clock_hearers_91 rfl (fun r9 M9 hq => ?_)
    rw [hq.1, hq.2]
    refine V_ior X d_Clock_hearers_94 rfl ?_
    refine V_istore (lv' := [(7, .int (s.1 ||| x4)), (2, .ref (G.2.2 + v2)), (3, .ref (G.2.2 + 6)), (4, .ref (G.2.2 + 3)), (5, .int v5), (8, .int s.2)]) X d_Clock_hearers_95 (by decide) rfl rfl ?_
    refine V_iinc (n := 5) (v := (s.2 + (1 : Int32))) (lv' := [(8, .int (s.2 + (1 : Int32))), (7, .int (s.1 ||| x4)), (2, .ref (G.2.2 + v2)), (3, .ref (G.2.2 + 6)), (4, .ref (G.2.2 + 3)), (5, .int v5)]) X d_Clock_hearers_97 rfl rfl (by decide) rfl rfl ?_
    refine V_goto (pc' := 68) X d_Clock_hearers_100 (by decide) ?_
    refine V_sub (lv' := [(2, .ref (G.2.2 + v2)), (3, .ref (G.2.2 + 6)), (4, .ref (G.2.2 + 3)), (5, .int v5), (7, .int (s.1 ||| x4)), (8, .int (s.2 + (1 : Int32)))]) [2, 3, 4, 5, 1, 0] rfl ?_
    exact kc ((s.1 ||| x4), (s.2 + (1 : Int32))) (Option.some.inj h).symm
theorem lp_Clock_hearers_68_ok {E : Ev} {G : Gw} {d : Nat} {post : Int32 → Mem → Prop} (X : Cx E G b_Clock_hearers "WomenByTheRoofs$Clock" 9 d (some .int)) (hD : 2 ≤ d)  (v2 : Nat) (v5 : Int32) (hk_v2 : kd v2 = 10 + 7) (M : Mem) (n9 : Nat) (s : Int32 × Int32) (x : (Int32)) (h : iter (lb_Clock_hearers_68 v2 v5 M) n9 s = some x) (kx0 : ∀ x9 : Int32, x = x9 → V E (0, 0) G 9 (QI E G post) M 103 [(7, .int x9)] []) : V E (0, 0) G 9 (QI E G post) M 68 [(2, .ref (G.2.2 + v2)), (3, .ref (G.2.2 + 6)), (4, .ref (G.2.2 + 3)), (5, .int v5), (7, .int s.1), (8, .int s.2)] [] :=
  iter_P (P := fun s : Int32 × Int32 => V E (0, 0) G 9 (QI E G post) M 68 [(2, .ref (G.2.2 + v2)), (3, .ref (G.2.2 + 6)), (4, .ref (G.2.2 + 3)), (5, .int v5), (7, .int s.1), (8, .int s.2)] []) (fun s o hb kc ky => lb_Clock_hearers_68_ok X hD v2 v5 hk_v2 M s o hb kc (fun x9 e9 => kx0 x9 (ky _ e9).symm)) n9 s h
def j_Clock_hearers_59 (v2 : Nat) (v5 : Int32) (v6 : Int32) (v7 : Int32) (M : Mem) : Option (Int32) :=
  if v6 = (1 : Int32) then
  Option.bind (iter (lb_Clock_hearers_68 v2 v5 M) FU (v7, (0 : Int32))) fun x6 =>
  some x6
  else
  some v7
theorem j_Clock_hearers_59_ok {E : Ev} {G : Gw} {d : Nat} {post : Int32 → Mem → Prop} (X : Cx E G b_Clock_hearers "WomenByTheRoofs$Clock" 9 d (some .int)) (hD : 2 ≤ d)  (v2 : Nat) (v5 : Int32) (v6 : Int32) (v7 : Int32) (hk_v2 : kd v2 = 10 + 7)  (M : Mem)  (o : Int32) (h : j_Clock_hearers_59 v2 v5 v6 v7 M = some o) (kr : ∀ x9 : Int32, o = x9 → post x9 M) : V E (0, 0) G 9 (QI E G post) M 59 [(2, .ref (G.2.2 + v2)), (3, .ref (G.2.2 + 6)), (4, .ref (G.2.2 + 3)), (5, .int v5), (6, .int v6), (7, .int v7)] [] := by
  unfold j_Clock_hearers_59 at h
  refine V_iload (n := 4) X d_Clock_hearers_59 rfl rfl ?_
  refine V_iconst (v := 1) X d_Clock_hearers_61 (by decide) rfl ?_
  refine V_icmp_ne (tgt := 103) X d_Clock_hearers_62 (by decide) rfl (fun c7 => ?_) (fun c7 => ?_)
  · rw [if_neg c7] at h
    refine V_iload (n := 5) X d_Clock_hearers_103 rfl rfl ?_
    exact V_iret X (kr v7 (Option.some.inj h).symm) d_Clock_hearers_105
  · rw [if_pos c7] at h
    refine V_iconst (v := 0) X d_Clock_hearers_65 (by decide) rfl ?_
    refine V_istore (lv' := [(8, .int (0 : Int32)), (2, .ref (G.2.2 + v2)), (3, .ref (G.2.2 + 6)), (4, .ref (G.2.2 + 3)), (5, .int v5), (6, .int v6), (7, .int v7)]) X d_Clock_hearers_66 (by decide) rfl rfl ?_
    refine V_sub (lv' := [(2, .ref (G.2.2 + v2)), (3, .ref (G.2.2 + 6)), (4, .ref (G.2.2 + 3)), (5, .int v5), (7, .int v7), (8, .int (0 : Int32))]) [1, 2, 3, 4, 6, 0] rfl ?_
    obtain ⟨x6, hx6, h⟩ := ob_s h
    refine (lp_Clock_hearers_68_ok X hD v2 v5 hk_v2 M _ _ _ hx6 (fun x9 e9 => ?_) :)
    subst e9
    refine V_iload (n := 0) X d_Clock_hearers_103 rfl rfl ?_
    exact V_iret X (kr x6 (Option.some.inj h).symm) d_Clock_hearers_105
def f_Clock_hearers (v1 : Int32) (v2 : Nat) (M : Mem) : Option (Int32) :=
  if kd v2 = 10 + 7 then
  if inb v1 8 = true then
  if inb v1 8 = true then
  Option.bind (f_Scene_standing v2 (M.1 (rf v2 1) v1.toNatClampNeg) (M.1 (rf v2 0) v1.toNatClampNeg) (M.1 6 4) M) fun x1 =>
  Option.bind (f_Ground_isStair (M.1 (rf v2 0) v1.toNatClampNeg) M) fun x2 =>
  if x2 = 0 then
  j_Clock_hearers_59 v2 (M.1 (rf v2 0) v1.toNatClampNeg) (M.1 (rf v2 1) v1.toNatClampNeg) x1 M
  else
  Option.bind (f_Scene_standing v2 ((1 : Int32) - (M.1 (rf v2 1) v1.toNatClampNeg)) (M.1 (rf v2 0) v1.toNatClampNeg) (M.1 6 4) M) fun x8 =>
  j_Clock_hearers_59 v2 (M.1 (rf v2 0) v1.toNatClampNeg) (M.1 (rf v2 1) v1.toNatClampNeg) (x1 ||| x8) M
  else none
  else none
  else none
theorem c_Clock_hearers (l : Launch) (G : Gw)  (v1 : Int32) (v2 : Nat) (M : Mem) (x : Int32) (h : f_Clock_hearers v1 v2 M = some x) (d : Nat) (hD : 2 ≤ d) : Ci l G y_Clock_hearers b_Clock_hearers 9 (some .int) d [.ref (G.2.2 + 45), .int v1, .ref (G.2.2 + v2), .ref (G.2.2 + 6), .ref (G.2.2 + 3)] M (fun r9 M9 => r9 = x ∧ M9 = M) := by
  refine Ci_of (by decide) (Nat.le_of_ble_eq_true rfl) (fun E hE X => ?_)
  subst hE
  have kr : ∀ x9 : Int32, x = x9 → (fun r9 M9 => r9 = x ∧ M9 = M) x9 M := fun x9 e9 => by subst e9; exact ⟨rfl, rfl⟩
  unfold f_Clock_hearers at h
  obtain ⟨hk_v2, h⟩ := ifn h
  refine V_aload_n (n := 2) X d_Clock_hearers_0 rfl rfl rfl ?_
  refine V_getr X fo_Clock_75 hk_v2 rfl rfl d_Clock_hearers_1 rfl ?_
  refine V_iload_n (n := 1) X d_Clock_hearers_4 rfl rfl rfl ?_
  obtain ⟨hb, h⟩ := ifn h
  refine V_iald X (kdScene_0 hk_v2) (inb_in (lnScene_0 hk_v2) hb) d_Clock_hearers_5 rfl ?_
  refine V_istore (lv' := [(5, .int (M.1 (rf v2 0) v1.toNatClampNeg)), (0, .ref (G.2.2 + 45)), (1, .int v1), (2, .ref (G.2.2 + v2)), (3, .ref (G.2.2 + 6)), (4, .ref (G.2.2 + 3))]) X d_Clock_hearers_6 (by decide) rfl rfl ?_
  refine V_aload_n (n := 3) X d_Clock_hearers_8 rfl rfl rfl ?_
  refine V_getr X fo_Clock_72 hk_v2 rfl rfl d_Clock_hearers_9 rfl ?_
  refine V_iload_n (n := 2) X d_Clock_hearers_12 rfl rfl rfl ?_
  obtain ⟨hb, h⟩ := ifn h
  refine V_iald X (kdScene_1 hk_v2) (inb_in (lnScene_1 hk_v2) hb) d_Clock_hearers_13 rfl ?_
  refine V_istore (lv' := [(6, .int (M.1 (rf v2 1) v1.toNatClampNeg)), (5, .int (M.1 (rf v2 0) v1.toNatClampNeg)), (0, .ref (G.2.2 + 45)), (1, .int v1), (2, .ref (G.2.2 + v2)), (3, .ref (G.2.2 + 6)), (4, .ref (G.2.2 + 3))]) X d_Clock_hearers_14 (by decide) rfl rfl ?_
  refine V_aload_n (n := 4) X d_Clock_hearers_16 rfl rfl rfl ?_
  refine V_iload (n := 0) X d_Clock_hearers_17 rfl rfl ?_
  refine V_iload (n := 1) X d_Clock_hearers_19 rfl rfl ?_
  refine V_aload_n (n := 5) X d_Clock_hearers_21 rfl rfl rfl ?_
  refine V_geti X fo_Clock_21 kd_6 rfl d_Clock_hearers_22 rfl ?_
  obtain ⟨x1, hx1, h⟩ := ob_s h
  refine V_ci (As := [.int (M.1 (rf v2 1) v1.toNatClampNeg), .int (M.1 (rf v2 0) v1.toNatClampNeg), .int (M.1 6 4)]) X (Z0 E) ml_Clock_100 yq_Scene_standing (c_Scene_standing E.2.1 G v2 (M.1 (rf v2 1) v1.toNatClampNeg) (M.1 (rf v2 0) v1.toNatClampNeg) (M.1 6 4) M x1 hx1 _ (Nat.le_refl _)) hk_v2 rfl rfl (by omega) rfl (Nat.le_of_ble_eq_true rfl) d_Clock_hearers_25 rfl (fun r9 M9 hq => ?_)
  rw [hq.1, hq.2]
  refine V_istore (lv' := [(7, .int x1), (6, .int (M.1 (rf v2 1) v1.toNatClampNeg)), (5, .int (M.1 (rf v2 0) v1.toNatClampNeg)), (0, .ref (G.2.2 + 45)), (1, .int v1), (2, .ref (G.2.2 + v2)), (3, .ref (G.2.2 + 6)), (4, .ref (G.2.2 + 3))]) X d_Clock_hearers_28 (by decide) rfl rfl ?_
  refine V_aload (n := 7) X d_Clock_hearers_30 rfl rfl ?_
  refine V_iload (n := 2) X d_Clock_hearers_32 rfl rfl ?_
  obtain ⟨x2, hx2, h⟩ := ob_s h
  refine V_ci (As := [.int (M.1 (rf v2 0) v1.toNatClampNeg)]) X (Z0 E) ml_Clock_91 yq_Ground_isStair (c_Ground_isStair E.2.1 G (M.1 (rf v2 0) v1.toNatClampNeg) M x2 hx2 _ (Nat.le_refl _)) kd_3 rfl rfl (by omega) rfl (Nat.le_of_ble_eq_true rfl) d_Clock_hearers_34 rfl (fun r9 M9 hq => ?_)
  rw [hq.1, hq.2]
  refine V_if_eq (tgt := 59) X d_Clock_hearers_37 (by decide) rfl (fun c9 => ?_) (fun c9 => ?_)
  · rw [if_pos c9] at h
    refine V_sub (lv' := [(2, .ref (G.2.2 + v2)), (3, .ref (G.2.2 + 6)), (4, .ref (G.2.2 + 3)), (5, .int (M.1 (rf v2 0) v1.toNatClampNeg)), (6, .int (M.1 (rf v2 1) v1.toNatClampNeg)), (7, .int x1)]) [5, 6, 7, 2, 1, 0] rfl ?_
    exact j_Clock_hearers_59_ok X hD v2 (M.1 (rf v2 0) v1.toNatClampNeg) (M.1 (rf v2 1) v1.toNatClampNeg) x1 hk_v2 M _ h kr
  · rw [if_neg c9] at h
    refine V_iload (n := 0) X d_Clock_hearers_40 rfl rfl ?_
    refine V_aload_n (n := 5) X d_Clock_hearers_42 rfl rfl rfl ?_
    refine V_iconst (v := 1) X d_Clock_hearers_43 (by decide) rfl ?_
    refine V_iload (n := 1) X d_Clock_hearers_44 rfl rfl ?_
    refine V_isub X d_Clock_hearers_46 rfl ?_
    refine V_iload (n := 2) X d_Clock_hearers_47 rfl rfl ?_
    refine V_aload_n (n := 6) X d_Clock_hearers_49 rfl rfl rfl ?_
    refine V_geti X fo_Clock_21 kd_6 rfl d_Clock_hearers_50 rfl ?_
    obtain ⟨x8, hx8, h⟩ := ob_s h
    refine V_ci (As := [.int ((1 : Int32) - (M.1 (rf v2 1) v1.toNatClampNeg)), .int (M.1 (rf v2 0) v1.toNatClampNeg), .int (M.1 6 4)]) X (Z0 E) ml_Clock_100 yq_Scene_standing (c_Scene_standing E.2.1 G v2 ((1 : Int32) - (M.1 (rf v2 1) v1.toNatClampNeg)) (M.1 (rf v2 0) v1.toNatClampNeg) (M.1 6 4) M x8 hx8 _ (Nat.le_refl _)) hk_v2 rfl rfl (by omega) rfl (Nat.le_of_ble_eq_true rfl) d_Clock_hearers_53 rfl (fun r9 M9 hq => ?_)
    rw [hq.1, hq.2]
    refine V_ior X d_Clock_hearers_56 rfl ?_
    refine V_istore (lv' := [(7, .int (x1 ||| x8)), (6, .int (M.1 (rf v2 1) v1.toNatClampNeg)), (5, .int (M.1 (rf v2 0) v1.toNatClampNeg)), (0, .ref (G.2.2 + 45)), (1, .int v1), (2, .ref (G.2.2 + v2)), (3, .ref (G.2.2 + 6)), (4, .ref (G.2.2 + 3))]) X d_Clock_hearers_57 (by decide) rfl rfl ?_
    refine V_sub (lv' := [(2, .ref (G.2.2 + v2)), (3, .ref (G.2.2 + 6)), (4, .ref (G.2.2 + 3)), (5, .int (M.1 (rf v2 0) v1.toNatClampNeg)), (6, .int (M.1 (rf v2 1) v1.toNatClampNeg)), (7, .int (x1 ||| x8))]) [5, 6, 7, 2, 1, 0] rfl ?_
    exact j_Clock_hearers_59_ok X hD v2 (M.1 (rf v2 0) v1.toNatClampNeg) (M.1 (rf v2 1) v1.toNatClampNeg) (x1 ||| x8) hk_v2 M _ h kr
def lb_Clock_pass_8 (v1 : Nat) (v5 : Nat) (s : Int32 × Mem) : Option ((Int32 × Mem) ⊕ ((Mem))) :=
  if (s.2.1 6 4) ≤ s.1 then
  some (.inr s.2)
  else
  Option.bind (f_Law_goes s.1 v1 s.2) fun x2 =>
  if x2.1 = 0 then
  some (.inl ((s.1 + (1 : Int32)), x2.2))
  else
  Option.bind (f_Clock_move s.1 v1 v5 x2.2) fun x3 =>
  some (.inl ((s.1 + (1 : Int32)), x3))
theorem lb_Clock_pass_8_ok {E : Ev} {G : Gw} {d : Nat} {post : Mem → Prop} (X : Cx E G b_Clock_pass "WomenByTheRoofs$Clock" 8 d none) (hD : 4 ≤ d)  (v1 : Nat) (v5 : Nat) (hk_v1 : kd v1 = 10 + 7) (hk_v5 : kd v5 = 10 + 6)  (s : Int32 × Mem) (o : (Int32 × Mem) ⊕ ((Mem))) (h : lb_Clock_pass_8 v1 v5 s = some o) (kc : ∀ s9 : Int32 × Mem, o = .inl s9 → V E (0, 0) G 8 (QV E G post) s9.2 8 [(0, .ref (G.2.2 + 45)), (1, .ref (G.2.2 + v1)), (2, .ref (G.2.2 + 6)), (3, .ref (G.2.2 + 3)), (4, .ref (G.2.2 + 40)), (5, .ref (G.2.2 + v5)), (6, .int s9.1)] []) (kx0 : ∀ x9 : Mem, o = .inr x9 → V E (0, 0) G 8 (QV E G post) x9 46 [(0, .ref (G.2.2 + 45)), (1, .ref (G.2.2 + v1)), (2, .ref (G.2.2 + 6)), (3, .ref (G.2.2 + 3))] []) : V E (0, 0) G 8 (QV E G post) s.2 8 [(0, .ref (G.2.2 + 45)), (1, .ref (G.2.2 + v1)), (2, .ref (G.2.2 + 6)), (3, .ref (G.2.2 + 3)), (4, .ref (G.2.2 + 40)), (5, .ref (G.2.2 + v5)), (6, .int s.1)] [] := by
  unfold lb_Clock_pass_8 at h
  refine V_iload (n := 6) X d_Clock_pass_8 rfl rfl ?_
  refine V_aload_n (n := 2) X d_Clock_pass_10 rfl rfl rfl ?_
  refine V_geti X fo_Clock_21 kd_6 rfl d_Clock_pass_11 rfl ?_
  refine V_icmp_ge (tgt := 46) X d_Clock_pass_14 (by decide) rfl (fun c5 => ?_) (fun c5 => ?_)
  · rw [if_pos c5] at h
    refine V_sub (lv' := [(0, .ref (G.2.2 + 45)), (1, .ref (G.2.2 + v1)), (2, .ref (G.2.2 + 6)), (3, .ref (G.2.2 + 3))]) [0, 1, 2, 3] rfl ?_
    exact kx0 s.2 (Option.some.inj h).symm
  · rw [if_neg c5] at h
    refine V_aload (n := 4) X d_Clock_pass_17 rfl rfl ?_
    refine V_iload (n := 6) X d_Clock_pass_19 rfl rfl ?_
    refine V_aload_n (n := 1) X d_Clock_pass_21 rfl rfl rfl ?_
    refine V_aload_n (n := 2) X d_Clock_pass_22 rfl rfl rfl ?_
    refine V_aload_n (n := 3) X d_Clock_pass_23 rfl rfl rfl ?_
    obtain ⟨x2, hx2, h⟩ := ob_s h
    refine V_ci (As := [.int s.1, .ref (G.2.2 + v1), .ref (G.2.2 + 6), .ref (G.2.2 + 3)]) X (Z0 E) ml_Clock_26 yq_Law_goes (c_Law_goes E.2.1 G s.1 v1 s.2 x2 hx2 _ (Nat.le_refl _)) kd_40 rfl rfl (by omega) rfl (Nat.le_of_ble_eq_true rfl) d_Clock_pass_24 rfl (fun r9 M9 hq => ?_)
    rw [hq.1, hq.2]
    refine V_if_eq (tgt := 40) X d_Clock_pass_27 (by decide) rfl (fun c4 => ?_) (fun c4 => ?_)
    · rw [if_pos c4] at h
      refine V_iinc (n := 6) (v := (s.1 + (1 : Int32))) (lv' := [(6, .int (s.1 + (1 : Int32))), (0, .ref (G.2.2 + 45)), (1, .ref (G.2.2 + v1)), (2, .ref (G.2.2 + 6)), (3, .ref (G.2.2 + 3)), (4, .ref (G.2.2 + 40)), (5, .ref (G.2.2 + v5))]) X d_Clock_pass_40 rfl rfl (by decide) rfl rfl ?_
      refine V_goto (pc' := 8) X d_Clock_pass_43 (by decide) ?_
      refine V_sub (lv' := [(0, .ref (G.2.2 + 45)), (1, .ref (G.2.2 + v1)), (2, .ref (G.2.2 + 6)), (3, .ref (G.2.2 + 3)), (4, .ref (G.2.2 + 40)), (5, .ref (G.2.2 + v5)), (6, .int (s.1 + (1 : Int32)))]) [1, 2, 3, 4, 5, 6, 0] rfl ?_
      exact kc ((s.1 + (1 : Int32)), x2.2) (Option.some.inj h).symm
    · rw [if_neg c4] at h
      refine V_aload_n (n := 0) X d_Clock_pass_30 rfl rfl rfl ?_
      refine V_iload (n := 6) X d_Clock_pass_31 rfl rfl ?_
      refine V_aload_n (n := 1) X d_Clock_pass_33 rfl rfl rfl ?_
      refine V_aload_n (n := 2) X d_Clock_pass_34 rfl rfl rfl ?_
      refine V_aload (n := 5) X d_Clock_pass_35 rfl rfl ?_
      obtain ⟨x3, hx3, h⟩ := ob_s h
      refine V_cv (As := [.int s.1, .ref (G.2.2 + v1), .ref (G.2.2 + 6), .ref (G.2.2 + v5)]) X (Z0 E) ml_Clock_32 yq_Clock_move (c_Clock_move E.2.1 G s.1 v1 v5 x2.2 x3 hx3 _ (Nat.le_refl _)) kd_45 rfl rfl (by omega) rfl (Nat.le_of_ble_eq_true rfl) d_Clock_pass_37 rfl (fun M9 hq => ?_)
      rw [hq]
      refine V_iinc (n := 6) (v := (s.1 + (1 : Int32))) (lv' := [(6, .int (s.1 + (1 : Int32))), (0, .ref (G.2.2 + 45)), (1, .ref (G.2.2 + v1)), (2, .ref (G.2.2 + 6)), (3, .ref (G.2.2 + 3)), (4, .ref (G.2.2 + 40)), (5, .ref (G.2.2 + v5))]) X d_Clock_pass_40 rfl rfl (by decide) rfl rfl ?_
      refine V_goto (pc' := 8) X d_Clock_pass_43 (by decide) ?_
      refine V_sub (lv' := [(0, .ref (G.2.2 + 45)), (1, .ref (G.2.2 + v1)), (2, .ref (G.2.2 + 6)), (3, .ref (G.2.2 + 3)), (4, .ref (G.2.2 + 40)), (5, .ref (G.2.2 + v5)), (6, .int (s.1 + (1 : Int32)))]) [1, 2, 3, 4, 5, 6, 0] rfl ?_
      exact kc ((s.1 + (1 : Int32)), x3) (Option.some.inj h).symm
theorem lp_Clock_pass_8_ok {E : Ev} {G : Gw} {d : Nat} {post : Mem → Prop} (X : Cx E G b_Clock_pass "WomenByTheRoofs$Clock" 8 d none) (hD : 4 ≤ d)  (v1 : Nat) (v5 : Nat) (hk_v1 : kd v1 = 10 + 7) (hk_v5 : kd v5 = 10 + 6)  (n9 : Nat) (s : Int32 × Mem) (x : (Mem)) (h : iter (lb_Clock_pass_8 v1 v5) n9 s = some x) (kx0 : ∀ x9 : Mem, x = x9 → V E (0, 0) G 8 (QV E G post) x9 46 [(0, .ref (G.2.2 + 45)), (1, .ref (G.2.2 + v1)), (2, .ref (G.2.2 + 6)), (3, .ref (G.2.2 + 3))] []) : V E (0, 0) G 8 (QV E G post) s.2 8 [(0, .ref (G.2.2 + 45)), (1, .ref (G.2.2 + v1)), (2, .ref (G.2.2 + 6)), (3, .ref (G.2.2 + 3)), (4, .ref (G.2.2 + 40)), (5, .ref (G.2.2 + v5)), (6, .int s.1)] [] :=
  iter_P (P := fun s : Int32 × Mem => V E (0, 0) G 8 (QV E G post) s.2 8 [(0, .ref (G.2.2 + 45)), (1, .ref (G.2.2 + v1)), (2, .ref (G.2.2 + 6)), (3, .ref (G.2.2 + 3)), (4, .ref (G.2.2 + 40)), (5, .ref (G.2.2 + v5)), (6, .int s.1)] []) (fun s o hb kc ky => lb_Clock_pass_8_ok X hD v1 v5 hk_v1 hk_v5 s o hb kc (fun x9 e9 => kx0 x9 (ky _ e9).symm)) n9 s h
def lb_Clock_pass_54 (v1 : Nat) (s : Int32 × Mem) : Option ((Int32 × Mem) ⊕ ((Mem))) :=
  if (s.2.1 6 4) ≤ s.1 then
  some (.inr s.2)
  else
  Option.bind (f_Clock_greet s.1 v1 s.2) fun x8 =>
  some (.inl ((s.1 + (1 : Int32)), x8))
theorem lb_Clock_pass_54_ok {E : Ev} {G : Gw} {d : Nat} {post : Mem → Prop} (X : Cx E G b_Clock_pass "WomenByTheRoofs$Clock" 8 d none) (hD : 4 ≤ d)  (v1 : Nat) (hk_v1 : kd v1 = 10 + 7)  (s : Int32 × Mem) (o : (Int32 × Mem) ⊕ ((Mem))) (h : lb_Clock_pass_54 v1 s = some o) (kc : ∀ s9 : Int32 × Mem, o = .inl s9 → V E (0, 0) G 8 (QV E G post) s9.2 54 [(0, .ref (G.2.2 + 45)), (1, .ref (G.2.2 + v1)), (2, .ref (G.2.2 + 6)), (3, .ref (G.2.2 + 3)), (6, .int s9.1)] []) (kx0 : ∀ x9 : Mem, o = .inr x9 → V E (0, 0) G 8 (QV E G post) x9 78 [(0, .ref (G.2.2 + 45)), (1, .ref (G.2.2 + v1)), (2, .ref (G.2.2 + 6)), (3, .ref (G.2.2 + 3))] []) : V E (0, 0) G 8 (QV E G post) s.2 54 [(0, .ref (G.2.2 + 45)), (1, .ref (G.2.2 + v1)), (2, .ref (G.2.2 + 6)), (3, .ref (G.2.2 + 3)), (6, .int s.1)] [] := by
  unfold lb_Clock_pass_54 at h
  refine V_iload (n := 4) X d_Clock_pass_54 rfl rfl ?_
  refine V_aload_n (n := 2) X d_Clock_pass_56 rfl rfl rfl ?_
  refine V_geti X fo_Clock_21 kd_6 rfl d_Clock_pass_57 rfl ?_
  refine V_icmp_ge (tgt := 78) X d_Clock_pass_60 (by decide) rfl (fun c9 => ?_) (fun c9 => ?_)
  · rw [if_pos c9] at h
    refine V_sub (lv' := [(0, .ref (G.2.2 + 45)), (1, .ref (G.2.2 + v1)), (2, .ref (G.2.2 + 6)), (3, .ref (G.2.2 + 3))]) [0, 1, 2, 3] rfl ?_
    exact kx0 s.2 (Option.some.inj h).symm
  · rw [if_neg c9] at h
    refine V_aload_n (n := 0) X d_Clock_pass_63 rfl rfl rfl ?_
    refine V_iload (n := 4) X d_Clock_pass_64 rfl rfl ?_
    refine V_aload_n (n := 1) X d_Clock_pass_66 rfl rfl rfl ?_
    refine V_aload_n (n := 2) X d_Clock_pass_67 rfl rfl rfl ?_
    refine V_aload_n (n := 3) X d_Clock_pass_68 rfl rfl rfl ?_
    obtain ⟨x8, hx8, h⟩ := ob_s h
    refine V_cv (As := [.int s.1, .ref (G.2.2 + v1), .ref (G.2.2 + 6), .ref (G.2.2 + 3)]) X (Z0 E) ml_Clock_39 yq_Clock_greet (c_Clock_greet E.2.1 G s.1 v1 s.2 x8 hx8 _ (Nat.le_refl _)) kd_45 rfl rfl (by omega) rfl (Nat.le_of_ble_eq_true rfl) d_Clock_pass_69 rfl (fun M9 hq => ?_)
    rw [hq]
    refine V_iinc (n := 4) (v := (s.1 + (1 : Int32))) (lv' := [(6, .int (s.1 + (1 : Int32))), (0, .ref (G.2.2 + 45)), (1, .ref (G.2.2 + v1)), (2, .ref (G.2.2 + 6)), (3, .ref (G.2.2 + 3))]) X d_Clock_pass_72 rfl rfl (by decide) rfl rfl ?_
    refine V_goto (pc' := 54) X d_Clock_pass_75 (by decide) ?_
    refine V_sub (lv' := [(0, .ref (G.2.2 + 45)), (1, .ref (G.2.2 + v1)), (2, .ref (G.2.2 + 6)), (3, .ref (G.2.2 + 3)), (6, .int (s.1 + (1 : Int32)))]) [1, 2, 3, 4, 0] rfl ?_
    exact kc ((s.1 + (1 : Int32)), x8) (Option.some.inj h).symm
theorem lp_Clock_pass_54_ok {E : Ev} {G : Gw} {d : Nat} {post : Mem → Prop} (X : Cx E G b_Clock_pass "WomenByTheRoofs$Clock" 8 d none) (hD : 4 ≤ d)  (v1 : Nat) (hk_v1 : kd v1 = 10 + 7)  (n9 : Nat) (s : Int32 × Mem) (x : (Mem)) (h : iter (lb_Clock_pass_54 v1) n9 s = some x) (kx0 : ∀ x9 : Mem, x = x9 → V E (0, 0) G 8 (QV E G post) x9 78 [(0, .ref (G.2.2 + 45)), (1, .ref (G.2.2 + v1)), (2, .ref (G.2.2 + 6)), (3, .ref (G.2.2 + 3))] []) : V E (0, 0) G 8 (QV E G post) s.2 54 [(0, .ref (G.2.2 + 45)), (1, .ref (G.2.2 + v1)), (2, .ref (G.2.2 + 6)), (3, .ref (G.2.2 + 3)), (6, .int s.1)] [] :=
  iter_P (P := fun s : Int32 × Mem => V E (0, 0) G 8 (QV E G post) s.2 54 [(0, .ref (G.2.2 + 45)), (1, .ref (G.2.2 + v1)), (2, .ref (G.2.2 + 6)), (3, .ref (G.2.2 + 3)), (6, .int s.1)] []) (fun s o hb kc ky => lb_Clock_pass_54_ok X hD v1 hk_v1 s o hb kc (fun x9 e9 => kx0 x9 (ky _ e9).symm)) n9 s h
def lb_Clock_pass_87 (v1 : Nat) (v6 : Int32) (s : Int32 × Mem) : Option ((Int32 × Mem) ⊕ ((Mem))) :=
  if (s.2.1 6 4) ≤ s.1 then
  some (.inr s.2)
  else
  if ((v6 >>> (s.1 &&& 31)) &&& (1 : Int32)) = 0 then
  some (.inl ((s.1 + (1 : Int32)), s.2))
  else
  Option.bind (f_Clock_hearers s.1 v1 s.2) fun x11 =>
  mem_ (s_i s.2 v1 8 ((s.2.1 v1 8) ||| x11)) fun M12 =>
  some (.inl ((s.1 + (1 : Int32)), M12))
theorem lb_Clock_pass_87_ok {E : Ev} {G : Gw} {d : Nat} {post : Mem → Prop} (X : Cx E G b_Clock_pass "WomenByTheRoofs$Clock" 8 d none) (hD : 4 ≤ d)  (v1 : Nat) (v6 : Int32) (hk_v1 : kd v1 = 10 + 7)  (s : Int32 × Mem) (o : (Int32 × Mem) ⊕ ((Mem))) (h : lb_Clock_pass_87 v1 v6 s = some o) (kc : ∀ s9 : Int32 × Mem, o = .inl s9 → V E (0, 0) G 8 (QV E G post) s9.2 87 [(0, .ref (G.2.2 + 45)), (1, .ref (G.2.2 + v1)), (2, .ref (G.2.2 + 6)), (3, .ref (G.2.2 + 3)), (6, .int v6), (7, .int s9.1)] []) (kx0 : ∀ x9 : Mem, o = .inr x9 → V E (0, 0) G 8 (QV E G post) x9 130 [(0, .ref (G.2.2 + 45)), (1, .ref (G.2.2 + v1)), (6, .int v6)] []) : V E (0, 0) G 8 (QV E G post) s.2 87 [(0, .ref (G.2.2 + 45)), (1, .ref (G.2.2 + v1)), (2, .ref (G.2.2 + 6)), (3, .ref (G.2.2 + 3)), (6, .int v6), (7, .int s.1)] [] := by
  unfold lb_Clock_pass_87 at h
  refine V_iload (n := 5) X d_Clock_pass_87 rfl rfl ?_
  refine V_aload_n (n := 2) X d_Clock_pass_89 rfl rfl rfl ?_
  refine V_geti X fo_Clock_21 kd_6 rfl d_Clock_pass_90 rfl ?_
  refine V_icmp_ge (tgt := 130) X d_Clock_pass_93 (by decide) rfl (fun c14 => ?_) (fun c14 => ?_)
  · rw [if_pos c14] at h
    refine V_sub (lv' := [(0, .ref (G.2.2 + 45)), (1, .ref (G.2.2 + v1)), (6, .int v6)]) [0, 1, 4] rfl ?_
    exact kx0 s.2 (Option.some.inj h).symm
  · rw [if_neg c14] at h
    refine V_iload (n := 4) X d_Clock_pass_96 rfl rfl ?_
    refine V_iload (n := 5) X d_Clock_pass_98 rfl rfl ?_
    refine V_ishr X d_Clock_pass_100 rfl ?_
    refine V_iconst (v := 1) X d_Clock_pass_101 (by decide) rfl ?_
    refine V_iand X d_Clock_pass_102 rfl ?_
    refine V_if_eq (tgt := 124) X d_Clock_pass_103 (by decide) rfl (fun c13 => ?_) (fun c13 => ?_)
    · rw [if_pos c13] at h
      refine V_iinc (n := 5) (v := (s.1 + (1 : Int32))) (lv' := [(7, .int (s.1 + (1 : Int32))), (0, .ref (G.2.2 + 45)), (1, .ref (G.2.2 + v1)), (2, .ref (G.2.2 + 6)), (3, .ref (G.2.2 + 3)), (6, .int v6)]) X d_Clock_pass_124 rfl rfl (by decide) rfl rfl ?_
      refine V_goto (pc' := 87) X d_Clock_pass_127 (by decide) ?_
      refine V_sub (lv' := [(0, .ref (G.2.2 + 45)), (1, .ref (G.2.2 + v1)), (2, .ref (G.2.2 + 6)), (3, .ref (G.2.2 + 3)), (6, .int v6), (7, .int (s.1 + (1 : Int32)))]) [1, 2, 3, 4, 5, 0] rfl ?_
      exact kc ((s.1 + (1 : Int32)), s.2) (Option.some.inj h).symm
    · rw [if_neg c13] at h
      refine V_aload_n (n := 1) X d_Clock_pass_106 rfl rfl rfl ?_
      refine V_dup X d_Clock_pass_107 rfl rfl ?_
      refine V_geti X fo_Clock_43 hk_v1 rfl d_Clock_pass_108 rfl ?_
      refine V_aload_n (n := 0) X d_Clock_pass_111 rfl rfl rfl ?_
      refine V_iload (n := 5) X d_Clock_pass_112 rfl rfl ?_
      refine V_aload_n (n := 1) X d_Clock_pass_114 rfl rfl rfl ?_
      refine V_aload_n (n := 2) X d_Clock_pass_115 rfl rfl rfl ?_
      refine V_aload_n (n := 3) X d_Clock_pass_116 rfl rfl rfl ?_
      obtain ⟨x11, hx11, h⟩ := ob_s h
      refine V_ci (As := [.int s.1, .ref (G.2.2 + v1), .ref (G.2.2 + 6), .ref (G.2.2 + 3)]) X (Z0 E) ml_Clock_48 yq_Clock_hearers (c_Clock_hearers E.2.1 G s.1 v1 s.2 x11 hx11 _ (Nat.le_refl _)) kd_45 rfl rfl (by omega) rfl (Nat.le_of_ble_eq_true rfl) d_Clock_pass_117 rfl (fun r9 M9 hq => ?_)
      rw [hq.1, hq.2]
      refine V_ior X d_Clock_pass_120 rfl ?_
      obtain ⟨M12, eM12, h⟩ := memS h
      refine V_putI X fp_Clock_43 hk_v1 rfl d_Clock_pass_121 rfl ?_
      rw [← eM12]
      refine V_iinc (n := 5) (v := (s.1 + (1 : Int32))) (lv' := [(7, .int (s.1 + (1 : Int32))), (0, .ref (G.2.2 + 45)), (1, .ref (G.2.2 + v1)), (2, .ref (G.2.2 + 6)), (3, .ref (G.2.2 + 3)), (6, .int v6)]) X d_Clock_pass_124 rfl rfl (by decide) rfl rfl ?_
      refine V_goto (pc' := 87) X d_Clock_pass_127 (by decide) ?_
      refine V_sub (lv' := [(0, .ref (G.2.2 + 45)), (1, .ref (G.2.2 + v1)), (2, .ref (G.2.2 + 6)), (3, .ref (G.2.2 + 3)), (6, .int v6), (7, .int (s.1 + (1 : Int32)))]) [1, 2, 3, 4, 5, 0] rfl ?_
      exact kc ((s.1 + (1 : Int32)), M12) (Option.some.inj h).symm
theorem lp_Clock_pass_87_ok {E : Ev} {G : Gw} {d : Nat} {post : Mem → Prop} (X : Cx E G b_Clock_pass "WomenByTheRoofs$Clock" 8 d none) (hD : 4 ≤ d)  (v1 : Nat) (v6 : Int32) (hk_v1 : kd v1 = 10 + 7)  (n9 : Nat) (s : Int32 × Mem) (x : (Mem)) (h : iter (lb_Clock_pass_87 v1 v6) n9 s = some x) (kx0 : ∀ x9 : Mem, x = x9 → V E (0, 0) G 8 (QV E G post) x9 130 [(0, .ref (G.2.2 + 45)), (1, .ref (G.2.2 + v1)), (6, .int v6)] []) : V E (0, 0) G 8 (QV E G post) s.2 87 [(0, .ref (G.2.2 + 45)), (1, .ref (G.2.2 + v1)), (2, .ref (G.2.2 + 6)), (3, .ref (G.2.2 + 3)), (6, .int v6), (7, .int s.1)] [] :=
  iter_P (P := fun s : Int32 × Mem => V E (0, 0) G 8 (QV E G post) s.2 87 [(0, .ref (G.2.2 + 45)), (1, .ref (G.2.2 + v1)), (2, .ref (G.2.2 + 6)), (3, .ref (G.2.2 + 3)), (6, .int v6), (7, .int s.1)] []) (fun s o hb kc ky => lb_Clock_pass_87_ok X hD v1 v6 hk_v1 s o hb kc (fun x9 e9 => kx0 x9 (ky _ e9).symm)) n9 s h
def f_Clock_pass (v1 : Nat) (v5 : Nat) (M : Mem) : Option (Mem) :=
  if kd v1 = 10 + 7 then
  if kd v5 = 10 + 6 then
  mem_ (s_i M 45 0 (0 : Int32)) fun M1 =>
  Option.bind (iter (lb_Clock_pass_8 v1 v5) FU ((0 : Int32), M1)) fun x6 =>
  mem_ (s_i x6 45 2 (0 : Int32)) fun M7 =>
  Option.bind (iter (lb_Clock_pass_54 v1) FU ((0 : Int32), M7)) fun x10 =>
  Option.bind (iter (lb_Clock_pass_87 v1 (x10.1 v1 8)) FU ((0 : Int32), x10)) fun x15 =>
  mem_ (s_i x15 45 1 ((x15.1 v1 8) &&& ((x10.1 v1 8) ^^^ (-1 : Int32)))) fun M16 =>
  mem_ (s_i M16 v1 7 ((M16.1 v1 7) + (1 : Int32))) fun M17 =>
  Option.bind (f_JInteger_bitCount (M17.1 45 0)) fun x18 =>
  mem_ (s_i M17 45 3 ((M17.1 45 3) + x18)) fun M19 =>
  mem_ (s_i M19 45 4 ((M19.1 45 4) + (M19.1 45 2))) fun M20 =>
  some M20
  else none
  else none
theorem c_Clock_pass (l : Launch) (G : Gw)  (v1 : Nat) (v5 : Nat) (M : Mem) (x : Mem) (h : f_Clock_pass v1 v5 M = some x) (d : Nat) (hD : 4 ≤ d) : Cv l G y_Clock_pass b_Clock_pass 8 none d [.ref (G.2.2 + 45), .ref (G.2.2 + v1), .ref (G.2.2 + 6), .ref (G.2.2 + 3), .ref (G.2.2 + 40), .ref (G.2.2 + v5)] M (fun M9 => M9 = x) := by
  refine Cv_of (by decide) (Nat.le_of_ble_eq_true rfl) (fun E hE X => ?_)
  subst hE
  have kr : ∀ x9 : Mem, x = x9 → (fun M9 => M9 = x) x9 := fun x9 e9 => by subst e9; exact rfl
  unfold f_Clock_pass at h
  obtain ⟨hk_v1, h⟩ := ifn h
  obtain ⟨hk_v5, h⟩ := ifn h
  refine V_aload_n (n := 0) X d_Clock_pass_0 rfl rfl rfl ?_
  refine V_iconst (v := 0) X d_Clock_pass_1 (by decide) rfl ?_
  obtain ⟨M1, eM1, h⟩ := memS h
  refine V_putI X fp_Clock_18 kd_45 rfl d_Clock_pass_2 rfl ?_
  rw [← eM1]
  refine V_iconst (v := 0) X d_Clock_pass_5 (by decide) rfl ?_
  refine V_istore (lv' := [(6, .int (0 : Int32)), (0, .ref (G.2.2 + 45)), (1, .ref (G.2.2 + v1)), (2, .ref (G.2.2 + 6)), (3, .ref (G.2.2 + 3)), (4, .ref (G.2.2 + 40)), (5, .ref (G.2.2 + v5))]) X d_Clock_pass_6 (by decide) rfl rfl ?_
  refine V_sub (lv' := [(0, .ref (G.2.2 + 45)), (1, .ref (G.2.2 + v1)), (2, .ref (G.2.2 + 6)), (3, .ref (G.2.2 + 3)), (4, .ref (G.2.2 + 40)), (5, .ref (G.2.2 + v5)), (6, .int (0 : Int32))]) [1, 2, 3, 4, 5, 6, 0] rfl ?_
  obtain ⟨x6, hx6, h⟩ := ob_s h
  refine (lp_Clock_pass_8_ok X hD v1 v5 hk_v1 hk_v5 _ _ _ hx6 (fun x9 e9 => ?_) :)
  subst e9
  refine V_aload_n (n := 0) X d_Clock_pass_46 rfl rfl rfl ?_
  refine V_iconst (v := 0) X d_Clock_pass_47 (by decide) rfl ?_
  obtain ⟨M7, eM7, h⟩ := memS h
  refine V_putI X fp_Clock_36 kd_45 rfl d_Clock_pass_48 rfl ?_
  rw [← eM7]
  refine V_iconst (v := 0) X d_Clock_pass_51 (by decide) rfl ?_
  refine V_istore (lv' := [(6, .int (0 : Int32)), (0, .ref (G.2.2 + 45)), (1, .ref (G.2.2 + v1)), (2, .ref (G.2.2 + 6)), (3, .ref (G.2.2 + 3))]) X d_Clock_pass_52 (by decide) rfl rfl ?_
  refine V_sub (lv' := [(0, .ref (G.2.2 + 45)), (1, .ref (G.2.2 + v1)), (2, .ref (G.2.2 + 6)), (3, .ref (G.2.2 + 3)), (6, .int (0 : Int32))]) [1, 2, 3, 4, 0] rfl ?_
  obtain ⟨x10, hx10, h⟩ := ob_s h
  refine (lp_Clock_pass_54_ok X hD v1 hk_v1 _ _ _ hx10 (fun x9 e9 => ?_) :)
  subst e9
  refine V_aload_n (n := 1) X d_Clock_pass_78 rfl rfl rfl ?_
  refine V_geti X fo_Clock_43 hk_v1 rfl d_Clock_pass_79 rfl ?_
  refine V_istore (lv' := [(6, .int (x10.1 v1 8)), (0, .ref (G.2.2 + 45)), (1, .ref (G.2.2 + v1)), (2, .ref (G.2.2 + 6)), (3, .ref (G.2.2 + 3))]) X d_Clock_pass_82 (by decide) rfl rfl ?_
  refine V_iconst (v := 0) X d_Clock_pass_84 (by decide) rfl ?_
  refine V_istore (lv' := [(7, .int (0 : Int32)), (6, .int (x10.1 v1 8)), (0, .ref (G.2.2 + 45)), (1, .ref (G.2.2 + v1)), (2, .ref (G.2.2 + 6)), (3, .ref (G.2.2 + 3))]) X d_Clock_pass_85 (by decide) rfl rfl ?_
  refine V_sub (lv' := [(0, .ref (G.2.2 + 45)), (1, .ref (G.2.2 + v1)), (2, .ref (G.2.2 + 6)), (3, .ref (G.2.2 + 3)), (6, .int (x10.1 v1 8)), (7, .int (0 : Int32))]) [2, 3, 4, 5, 1, 0] rfl ?_
  obtain ⟨x15, hx15, h⟩ := ob_s h
  refine (lp_Clock_pass_87_ok X hD v1 (x10.1 v1 8) hk_v1 _ _ _ hx15 (fun x9 e9 => ?_) :)
  subst e9
  refine V_aload_n (n := 0) X d_Clock_pass_130 rfl rfl rfl ?_
  refine V_aload_n (n := 1) X d_Clock_pass_131 rfl rfl rfl ?_
  refine V_geti X fo_Clock_43 hk_v1 rfl d_Clock_pass_132 rfl ?_
  refine V_iload (n := 2) X d_Clock_pass_135 rfl rfl ?_
  refine V_iconst (v := -1) X d_Clock_pass_137 (by decide) rfl ?_
  refine V_ixor X d_Clock_pass_138 rfl ?_
  refine V_iand X d_Clock_pass_139 rfl ?_
  obtain ⟨M16, eM16, h⟩ := memS h
  refine V_putI X fp_Clock_52 kd_45 rfl d_Clock_pass_140 rfl ?_
  rw [← eM16]
  refine V_aload_n (n := 1) X d_Clock_pass_143 rfl rfl rfl ?_
  refine V_dup X d_Clock_pass_144 rfl rfl ?_
  refine V_geti X fo_Clock_55 hk_v1 rfl d_Clock_pass_145 rfl ?_
  refine V_iconst (v := 1) X d_Clock_pass_148 (by decide) rfl ?_
  refine V_iadd X d_Clock_pass_149 rfl ?_
  obtain ⟨M17, eM17, h⟩ := memS h
  refine V_putI X fp_Clock_55 hk_v1 rfl d_Clock_pass_150 rfl ?_
  rw [← eM17]
  refine V_aload_n (n := 0) X d_Clock_pass_153 rfl rfl rfl ?_
  refine V_dup X d_Clock_pass_154 rfl rfl ?_
  refine V_geti X fo_Clock_9 kd_45 rfl d_Clock_pass_155 rfl ?_
  refine V_aload_n (n := 0) X d_Clock_pass_158 rfl rfl rfl ?_
  refine V_geti X fo_Clock_18 kd_45 rfl d_Clock_pass_159 rfl ?_
  obtain ⟨x18, hx18, h⟩ := ob_s h
  refine V_si (As := [.int (M17.1 45 0)]) X (Z0 E) ml_Clock_58 yq_JInteger_bitCount (c_JInteger_bitCount E.2.1 G (M17.1 45 0) M17 x18 hx18 _ (Nat.le_refl _)) rfl (by omega) rfl (Nat.le_of_ble_eq_true rfl) d_Clock_pass_162 rfl (fun r9 M9 hq => ?_)
  rw [hq.1, hq.2]
  refine V_iadd X d_Clock_pass_165 rfl ?_
  obtain ⟨M19, eM19, h⟩ := memS h
  refine V_putI X fp_Clock_9 kd_45 rfl d_Clock_pass_166 rfl ?_
  rw [← eM19]
  refine V_aload_n (n := 0) X d_Clock_pass_169 rfl rfl rfl ?_
  refine V_dup X d_Clock_pass_170 rfl rfl ?_
  refine V_geti X fo_Clock_15 kd_45 rfl d_Clock_pass_171 rfl ?_
  refine V_aload_n (n := 0) X d_Clock_pass_174 rfl rfl rfl ?_
  refine V_geti X fo_Clock_36 kd_45 rfl d_Clock_pass_175 rfl ?_
  refine V_iadd X d_Clock_pass_178 rfl ?_
  obtain ⟨M20, eM20, h⟩ := memS h
  refine V_putI X fp_Clock_15 kd_45 rfl d_Clock_pass_179 rfl ?_
  rw [← eM20]
  exact V_vret X (kr M20 (Option.some.inj h).symm) d_Clock_pass_182
def f_Clock_reset (M : Mem) : Option (Mem) :=
  mem_ (s_i M 45 3 (0 : Int32)) fun M1 =>
  mem_ (s_i M1 45 4 (0 : Int32)) fun M2 =>
  some M2
theorem c_Clock_reset (l : Launch) (G : Gw)   (M : Mem) (x : Mem) (h : f_Clock_reset M = some x) (d : Nat) (hD : 1 ≤ d) : Cv l G y_Clock_reset b_Clock_reset 1 none d [.ref (G.2.2 + 45)] M (fun M9 => M9 = x) := by
  refine Cv_of (by decide) (Nat.le_of_ble_eq_true rfl) (fun E hE X => ?_)
  subst hE
  have kr : ∀ x9 : Mem, x = x9 → (fun M9 => M9 = x) x9 := fun x9 e9 => by subst e9; exact rfl
  unfold f_Clock_reset at h
  refine V_aload_n (n := 0) X d_Clock_reset_0 rfl rfl rfl ?_
  refine V_iconst (v := 0) X d_Clock_reset_1 (by decide) rfl ?_
  obtain ⟨M1, eM1, h⟩ := memS h
  refine V_putI X fp_Clock_9 kd_45 rfl d_Clock_reset_2 rfl ?_
  rw [← eM1]
  refine V_aload_n (n := 0) X d_Clock_reset_5 rfl rfl rfl ?_
  refine V_iconst (v := 0) X d_Clock_reset_6 (by decide) rfl ?_
  obtain ⟨M2, eM2, h⟩ := memS h
  refine V_putI X fp_Clock_15 kd_45 rfl d_Clock_reset_7 rfl ?_
  rw [← eM2]
  exact V_vret X (kr M2 (Option.some.inj h).symm) d_Clock_reset_10
def f_Acts_add (v1 : Int32) (v2 : Int32) (v3 : Int32) (M : Mem) : Option (Mem) :=
  if (M.1 147 3) < 0 then
  some M
  else
  if (32 : Int32) ≤ (M.1 147 3) then
  some M
  else
  if inb (M.1 147 3) 32 = true then
  mem_ (s_i M 148 (M.1 147 3).toNatClampNeg v1) fun M1 =>
  if inb (M1.1 147 3) 32 = true then
  mem_ (s_i M1 149 (M1.1 147 3).toNatClampNeg v2) fun M2 =>
  if inb (M2.1 147 3) 32 = true then
  mem_ (s_i M2 150 (M2.1 147 3).toNatClampNeg v3) fun M3 =>
  mem_ (s_i M3 147 3 ((M3.1 147 3) + (1 : Int32))) fun M4 =>
  some M4
  else none
  else none
  else none
theorem c_Acts_add (l : Launch) (G : Gw)  (v1 : Int32) (v2 : Int32) (v3 : Int32) (M : Mem) (x : Mem) (h : f_Acts_add v1 v2 v3 M = some x) (d : Nat) (hD : 1 ≤ d) : Cv l G y_Acts_add b_Acts_add 4 none d [.ref (G.2.2 + 147), .int v1, .int v2, .int v3] M (fun M9 => M9 = x) := by
  refine Cv_of (by decide) (Nat.le_of_ble_eq_true rfl) (fun E hE X => ?_)
  subst hE
  have kr : ∀ x9 : Mem, x = x9 → (fun M9 => M9 = x) x9 := fun x9 e9 => by subst e9; exact rfl
  unfold f_Acts_add at h
  refine V_aload_n (n := 0) X d_Acts_add_0 rfl rfl rfl ?_
  refine V_geti X fo_Acts_21 kd_147 rfl d_Acts_add_1 rfl ?_
  refine V_if_lt (tgt := 56) X d_Acts_add_4 (by decide) rfl (fun c6 => ?_) (fun c6 => ?_)
  · rw [if_pos c6] at h
    exact V_vret X (kr M (Option.some.inj h).symm) d_Acts_add_56
  · rw [if_neg c6] at h
    refine V_aload_n (n := 0) X d_Acts_add_7 rfl rfl rfl ?_
    refine V_geti X fo_Acts_21 kd_147 rfl d_Acts_add_8 rfl ?_
    refine V_bipush (v := 32) X d_Acts_add_11 (by decide) rfl ?_
    refine V_icmp_ge (tgt := 56) X d_Acts_add_13 (by decide) rfl (fun c5 => ?_) (fun c5 => ?_)
    · rw [if_pos c5] at h
      exact V_vret X (kr M (Option.some.inj h).symm) d_Acts_add_56
    · rw [if_neg c5] at h
      refine V_aload_n (n := 0) X d_Acts_add_16 rfl rfl rfl ?_
      refine V_getr (k2 := 148) X fo_Acts_11 kd_147 rfl rf_147_0 d_Acts_add_17 rfl ?_
      refine V_aload_n (n := 0) X d_Acts_add_20 rfl rfl rfl ?_
      refine V_geti X fo_Acts_21 kd_147 rfl d_Acts_add_21 rfl ?_
      refine V_iload_n (n := 1) X d_Acts_add_24 rfl rfl rfl ?_
      obtain ⟨hb, h⟩ := ifn h
      obtain ⟨M1, eM1, h⟩ := memS h
      refine V_iast X kd_148 (inb_in ln_148 hb) d_Acts_add_25 rfl ?_
      rw [← eM1]
      refine V_aload_n (n := 0) X d_Acts_add_26 rfl rfl rfl ?_
      refine V_getr (k2 := 149) X fo_Acts_15 kd_147 rfl rf_147_1 d_Acts_add_27 rfl ?_
      refine V_aload_n (n := 0) X d_Acts_add_30 rfl rfl rfl ?_
      refine V_geti X fo_Acts_21 kd_147 rfl d_Acts_add_31 rfl ?_
      refine V_iload_n (n := 2) X d_Acts_add_34 rfl rfl rfl ?_
      obtain ⟨hb, h⟩ := ifn h
      obtain ⟨M2, eM2, h⟩ := memS h
      refine V_iast X kd_149 (inb_in ln_149 hb) d_Acts_add_35 rfl ?_
      rw [← eM2]
      refine V_aload_n (n := 0) X d_Acts_add_36 rfl rfl rfl ?_
      refine V_getr (k2 := 150) X fo_Acts_18 kd_147 rfl rf_147_2 d_Acts_add_37 rfl ?_
      refine V_aload_n (n := 0) X d_Acts_add_40 rfl rfl rfl ?_
      refine V_geti X fo_Acts_21 kd_147 rfl d_Acts_add_41 rfl ?_
      refine V_iload_n (n := 3) X d_Acts_add_44 rfl rfl rfl ?_
      obtain ⟨hb, h⟩ := ifn h
      obtain ⟨M3, eM3, h⟩ := memS h
      refine V_iast X kd_150 (inb_in ln_150 hb) d_Acts_add_45 rfl ?_
      rw [← eM3]
      refine V_aload_n (n := 0) X d_Acts_add_46 rfl rfl rfl ?_
      refine V_dup X d_Acts_add_47 rfl rfl ?_
      refine V_geti X fo_Acts_21 kd_147 rfl d_Acts_add_48 rfl ?_
      refine V_iconst (v := 1) X d_Acts_add_51 (by decide) rfl ?_
      refine V_iadd X d_Acts_add_52 rfl ?_
      obtain ⟨M4, eM4, h⟩ := memS h
      refine V_putI X fp_Acts_21 kd_147 rfl d_Acts_add_53 rfl ?_
      rw [← eM4]
      exact V_vret X (kr M4 (Option.some.inj h).symm) d_Acts_add_56
def f_Acts_readLetter (v2 : Int32) (M : Mem) : Option (Int32 × Mem) :=
  Option.bind (f_Signs_at v2 (60 : Int32) M) fun x1 =>
  if x1 < (97 : Int32) then
  some (((-1 : Int32) - v2), M)
  else
  if x1 ≤ (104 : Int32) then
  Option.bind (f_Acts_add (110 : Int32) (x1 - (97 : Int32)) (0 : Int32) M) fun x2 =>
  some ((v2 + (1 : Int32)), x2)
  else
  some (((-1 : Int32) - v2), M)
theorem c_Acts_readLetter (l : Launch) (G : Gw)  (v2 : Int32) (M : Mem) (x : Int32 × Mem) (h : f_Acts_readLetter v2 M = some x) (d : Nat) (hD : 2 ≤ d) : Ci l G y_Acts_readLetter b_Acts_readLetter 4 (some .int) d [.ref (G.2.2 + 147), .ref (G.2.2 + 1), .int v2] M (fun r9 M9 => r9 = x.1 ∧ M9 = x.2) := by
  refine Ci_of (by decide) (Nat.le_of_ble_eq_true rfl) (fun E hE X => ?_)
  subst hE
  have kr : ∀ x9 : Int32 × Mem, x = x9 → (fun r9 M9 => r9 = x.1 ∧ M9 = x.2) x9.1 x9.2 := fun x9 e9 => by subst e9; exact ⟨rfl, rfl⟩
  unfold f_Acts_readLetter at h
  refine V_aload_n (n := 1) X d_Acts_readLetter_0 rfl rfl rfl ?_
  refine V_iload_n (n := 2) X d_Acts_readLetter_1 rfl rfl rfl ?_
  refine V_bipush (v := 60) X d_Acts_readLetter_2 (by decide) rfl ?_
  obtain ⟨x1, hx1, h⟩ := ob_s h
  refine V_ci (As := [.int v2, .int (60 : Int32)]) X (Z0 E) ml_Acts_34 yq_Signs_at (c_Signs_at E.2.1 G v2 (60 : Int32) M x1 hx1 _ (Nat.le_refl _)) kd_1 rfl rfl (by omega) rfl (Nat.le_of_ble_eq_true rfl) d_Acts_readLetter_4 rfl (fun r9 M9 hq => ?_)
  rw [hq.1, hq.2]
  refine V_istore_n (lv' := [(3, .int x1), (0, .ref (G.2.2 + 147)), (1, .ref (G.2.2 + 1)), (2, .int v2)]) X d_Acts_readLetter_7 rfl (by decide) rfl rfl ?_
  refine V_iload_n (n := 0) X d_Acts_readLetter_8 rfl rfl rfl ?_
  refine V_bipush (v := 97) X d_Acts_readLetter_9 (by decide) rfl ?_
  refine V_icmp_lt (tgt := 20) X d_Acts_readLetter_11 (by decide) rfl (fun c4 => ?_) (fun c4 => ?_)
  · rw [if_pos c4] at h
    refine V_iconst (v := -1) X d_Acts_readLetter_20 (by decide) rfl ?_
    refine V_iload_n (n := 3) X d_Acts_readLetter_21 rfl rfl rfl ?_
    refine V_isub X d_Acts_readLetter_22 rfl ?_
    exact V_iret X (kr (((-1 : Int32) - v2), M) (Option.some.inj h).symm) d_Acts_readLetter_23
  · rw [if_neg c4] at h
    refine V_iload_n (n := 0) X d_Acts_readLetter_14 rfl rfl rfl ?_
    refine V_bipush (v := 104) X d_Acts_readLetter_15 (by decide) rfl ?_
    refine V_icmp_le (tgt := 24) X d_Acts_readLetter_17 (by decide) rfl (fun c3 => ?_) (fun c3 => ?_)
    · rw [if_pos c3] at h
      refine V_aload_n (n := 1) X d_Acts_readLetter_24 rfl rfl rfl ?_
      refine V_bipush (v := 110) X d_Acts_readLetter_25 (by decide) rfl ?_
      refine V_iload_n (n := 0) X d_Acts_readLetter_27 rfl rfl rfl ?_
      refine V_bipush (v := 97) X d_Acts_readLetter_28 (by decide) rfl ?_
      refine V_isub X d_Acts_readLetter_30 rfl ?_
      refine V_iconst (v := 0) X d_Acts_readLetter_31 (by decide) rfl ?_
      obtain ⟨x2, hx2, h⟩ := ob_s h
      refine V_cv (As := [.int (110 : Int32), .int (x1 - (97 : Int32)), .int (0 : Int32)]) X (Z0 E) ml_Acts_38 yq_Acts_add (c_Acts_add E.2.1 G (110 : Int32) (x1 - (97 : Int32)) (0 : Int32) M x2 hx2 _ (Nat.le_refl _)) kd_147 rfl rfl (by omega) rfl (Nat.le_of_ble_eq_true rfl) d_Acts_readLetter_32 rfl (fun M9 hq => ?_)
      rw [hq]
      refine V_iload_n (n := 3) X d_Acts_readLetter_35 rfl rfl rfl ?_
      refine V_iconst (v := 1) X d_Acts_readLetter_36 (by decide) rfl ?_
      refine V_iadd X d_Acts_readLetter_37 rfl ?_
      exact V_iret X (kr ((v2 + (1 : Int32)), x2) (Option.some.inj h).symm) d_Acts_readLetter_38
    · rw [if_neg c3] at h
      refine V_iconst (v := -1) X d_Acts_readLetter_20 (by decide) rfl ?_
      refine V_iload_n (n := 3) X d_Acts_readLetter_21 rfl rfl rfl ?_
      refine V_isub X d_Acts_readLetter_22 rfl ?_
      exact V_iret X (kr (((-1 : Int32) - v2), M) (Option.some.inj h).symm) d_Acts_readLetter_23
def f_Acts_readNumber (v2 : Int32) (M : Mem) : Option (Int32 × Mem) :=
  Option.bind (f_Signs_digits v2 (60 : Int32) (2 : Int32) M) fun x1 =>
  if x1.1 = 0 then
  some (((-1 : Int32) - v2), x1.2)
  else
  Option.bind (f_Acts_add (109 : Int32) (x1.2.1 1 2) (0 : Int32) x1.2) fun x2 =>
  some ((v2 + x1.1), x2)
theorem c_Acts_readNumber (l : Launch) (G : Gw)  (v2 : Int32) (M : Mem) (x : Int32 × Mem) (h : f_Acts_readNumber v2 M = some x) (d : Nat) (hD : 3 ≤ d) : Ci l G y_Acts_readNumber b_Acts_readNumber 4 (some .int) d [.ref (G.2.2 + 147), .ref (G.2.2 + 1), .int v2] M (fun r9 M9 => r9 = x.1 ∧ M9 = x.2) := by
  refine Ci_of (by decide) (Nat.le_of_ble_eq_true rfl) (fun E hE X => ?_)
  subst hE
  have kr : ∀ x9 : Int32 × Mem, x = x9 → (fun r9 M9 => r9 = x.1 ∧ M9 = x.2) x9.1 x9.2 := fun x9 e9 => by subst e9; exact ⟨rfl, rfl⟩
  unfold f_Acts_readNumber at h
  refine V_aload_n (n := 1) X d_Acts_readNumber_0 rfl rfl rfl ?_
  refine V_iload_n (n := 2) X d_Acts_readNumber_1 rfl rfl rfl ?_
  refine V_bipush (v := 60) X d_Acts_readNumber_2 (by decide) rfl ?_
  refine V_iconst (v := 2) X d_Acts_readNumber_4 (by decide) rfl ?_
  obtain ⟨x1, hx1, h⟩ := ob_s h
  refine V_ci (As := [.int v2, .int (60 : Int32), .int (2 : Int32)]) X (Z0 E) ml_Acts_51 yq_Signs_digits (c_Signs_digits E.2.1 G v2 (60 : Int32) (2 : Int32) M x1 hx1 _ (Nat.le_refl _)) kd_1 rfl rfl (by omega) rfl (Nat.le_of_ble_eq_true rfl) d_Acts_readNumber_5 rfl (fun r9 M9 hq => ?_)
  rw [hq.1, hq.2]
  refine V_istore_n (lv' := [(3, .int x1.1), (0, .ref (G.2.2 + 147)), (1, .ref (G.2.2 + 1)), (2, .int v2)]) X d_Acts_readNumber_8 rfl (by decide) rfl rfl ?_
  refine V_iload_n (n := 0) X d_Acts_readNumber_9 rfl rfl rfl ?_
  refine V_if_ne (tgt := 17) X d_Acts_readNumber_10 (by decide) rfl (fun c3 => ?_) (fun c3 => ?_)
  · rw [if_neg c3] at h
    refine V_aload_n (n := 1) X d_Acts_readNumber_17 rfl rfl rfl ?_
    refine V_bipush (v := 109) X d_Acts_readNumber_18 (by decide) rfl ?_
    refine V_aload_n (n := 2) X d_Acts_readNumber_20 rfl rfl rfl ?_
    refine V_geti X fo_Acts_55 kd_1 rfl d_Acts_readNumber_21 rfl ?_
    refine V_iconst (v := 0) X d_Acts_readNumber_24 (by decide) rfl ?_
    obtain ⟨x2, hx2, h⟩ := ob_s h
    refine V_cv (As := [.int (109 : Int32), .int (x1.2.1 1 2), .int (0 : Int32)]) X (Z0 E) ml_Acts_38 yq_Acts_add (c_Acts_add E.2.1 G (109 : Int32) (x1.2.1 1 2) (0 : Int32) x1.2 x2 hx2 _ (Nat.le_refl _)) kd_147 rfl rfl (by omega) rfl (Nat.le_of_ble_eq_true rfl) d_Acts_readNumber_25 rfl (fun M9 hq => ?_)
    rw [hq]
    refine V_iload_n (n := 3) X d_Acts_readNumber_28 rfl rfl rfl ?_
    refine V_iload_n (n := 0) X d_Acts_readNumber_29 rfl rfl rfl ?_
    refine V_iadd X d_Acts_readNumber_30 rfl ?_
    exact V_iret X (kr ((v2 + x1.1), x2) (Option.some.inj h).symm) d_Acts_readNumber_31
  · rw [if_pos c3] at h
    refine V_iconst (v := -1) X d_Acts_readNumber_13 (by decide) rfl ?_
    refine V_iload_n (n := 3) X d_Acts_readNumber_14 rfl rfl rfl ?_
    refine V_isub X d_Acts_readNumber_15 rfl ?_
    exact V_iret X (kr (((-1 : Int32) - v2), x1.2) (Option.some.inj h).symm) d_Acts_readNumber_16
def f_Acts_readPlank (v2 : Int32) (M : Mem) : Option (Int32 × Mem) :=
  Option.bind (f_Signs_digits v2 (60 : Int32) (2 : Int32) M) fun x1 =>
  if x1.1 = 0 then
  some (((-1 : Int32) - (v2 + x1.1)), x1.2)
  else
  Option.bind (f_Signs_at (v2 + x1.1) (60 : Int32) x1.2) fun x2 =>
  if x2 = (45 : Int32) then
  Option.bind (f_Signs_digits ((v2 + x1.1) + (1 : Int32)) (60 : Int32) (2 : Int32) x1.2) fun x3 =>
  if x3.1 = 0 then
  some (((-2 : Int32) - (v2 + x1.1)), x3.2)
  else
  Option.bind (f_Acts_add (112 : Int32) (x1.2.1 1 2) (x3.2.1 1 2) x3.2) fun x4 =>
  some ((((v2 + x1.1) + (1 : Int32)) + x3.1), x4)
  else
  some (((-1 : Int32) - (v2 + x1.1)), x1.2)
theorem c_Acts_readPlank (l : Launch) (G : Gw)  (v2 : Int32) (M : Mem) (x : Int32 × Mem) (h : f_Acts_readPlank v2 M = some x) (d : Nat) (hD : 3 ≤ d) : Ci l G y_Acts_readPlank b_Acts_readPlank 6 (some .int) d [.ref (G.2.2 + 147), .ref (G.2.2 + 1), .int v2] M (fun r9 M9 => r9 = x.1 ∧ M9 = x.2) := by
  refine Ci_of (by decide) (Nat.le_of_ble_eq_true rfl) (fun E hE X => ?_)
  subst hE
  have kr : ∀ x9 : Int32 × Mem, x = x9 → (fun r9 M9 => r9 = x.1 ∧ M9 = x.2) x9.1 x9.2 := fun x9 e9 => by subst e9; exact ⟨rfl, rfl⟩
  unfold f_Acts_readPlank at h
  refine V_aload_n (n := 1) X d_Acts_readPlank_0 rfl rfl rfl ?_
  refine V_iload_n (n := 2) X d_Acts_readPlank_1 rfl rfl rfl ?_
  refine V_bipush (v := 60) X d_Acts_readPlank_2 (by decide) rfl ?_
  refine V_iconst (v := 2) X d_Acts_readPlank_4 (by decide) rfl ?_
  obtain ⟨x1, hx1, h⟩ := ob_s h
  refine V_ci (As := [.int v2, .int (60 : Int32), .int (2 : Int32)]) X (Z0 E) ml_Acts_51 yq_Signs_digits (c_Signs_digits E.2.1 G v2 (60 : Int32) (2 : Int32) M x1 hx1 _ (Nat.le_refl _)) kd_1 rfl rfl (by omega) rfl (Nat.le_of_ble_eq_true rfl) d_Acts_readPlank_5 rfl (fun r9 M9 hq => ?_)
  rw [hq.1, hq.2]
  refine V_istore_n (lv' := [(3, .int x1.1), (0, .ref (G.2.2 + 147)), (1, .ref (G.2.2 + 1)), (2, .int v2)]) X d_Acts_readPlank_8 rfl (by decide) rfl rfl ?_
  refine V_aload_n (n := 2) X d_Acts_readPlank_9 rfl rfl rfl ?_
  refine V_geti X fo_Acts_55 kd_1 rfl d_Acts_readPlank_10 rfl ?_
  refine V_istore (lv' := [(4, .int (x1.2.1 1 2)), (3, .int x1.1), (0, .ref (G.2.2 + 147)), (1, .ref (G.2.2 + 1)), (2, .int v2)]) X d_Acts_readPlank_13 (by decide) rfl rfl ?_
  refine V_iload_n (n := 4) X d_Acts_readPlank_15 rfl rfl rfl ?_
  refine V_iload_n (n := 1) X d_Acts_readPlank_16 rfl rfl rfl ?_
  refine V_iadd X d_Acts_readPlank_17 rfl ?_
  refine V_istore (lv' := [(5, .int (v2 + x1.1)), (4, .int (x1.2.1 1 2)), (3, .int x1.1), (0, .ref (G.2.2 + 147)), (1, .ref (G.2.2 + 1)), (2, .int v2)]) X d_Acts_readPlank_18 (by decide) rfl rfl ?_
  refine V_iload_n (n := 2) X d_Acts_readPlank_20 rfl rfl rfl ?_
  refine V_if_eq (tgt := 37) X d_Acts_readPlank_21 (by decide) rfl (fun c7 => ?_) (fun c7 => ?_)
  · rw [if_pos c7] at h
    refine V_iconst (v := -1) X d_Acts_readPlank_37 (by decide) rfl ?_
    refine V_iload (n := 0) X d_Acts_readPlank_38 rfl rfl ?_
    refine V_isub X d_Acts_readPlank_40 rfl ?_
    exact V_iret X (kr (((-1 : Int32) - (v2 + x1.1)), x1.2) (Option.some.inj h).symm) d_Acts_readPlank_41
  · rw [if_neg c7] at h
    refine V_aload_n (n := 4) X d_Acts_readPlank_24 rfl rfl rfl ?_
    refine V_iload (n := 0) X d_Acts_readPlank_25 rfl rfl ?_
    refine V_bipush (v := 60) X d_Acts_readPlank_27 (by decide) rfl ?_
    obtain ⟨x2, hx2, h⟩ := ob_s h
    refine V_ci (As := [.int (v2 + x1.1), .int (60 : Int32)]) X (Z0 E) ml_Acts_34 yq_Signs_at (c_Signs_at E.2.1 G (v2 + x1.1) (60 : Int32) x1.2 x2 hx2 _ (Nat.le_refl _)) kd_1 rfl rfl (by omega) rfl (Nat.le_of_ble_eq_true rfl) d_Acts_readPlank_29 rfl (fun r9 M9 hq => ?_)
    rw [hq.1, hq.2]
    refine V_bipush (v := 45) X d_Acts_readPlank_32 (by decide) rfl ?_
    refine V_icmp_eq (tgt := 42) X d_Acts_readPlank_34 (by decide) rfl (fun c6 => ?_) (fun c6 => ?_)
    · rw [if_pos c6] at h
      refine V_aload_n (n := 4) X d_Acts_readPlank_42 rfl rfl rfl ?_
      refine V_iload (n := 0) X d_Acts_readPlank_43 rfl rfl ?_
      refine V_iconst (v := 1) X d_Acts_readPlank_45 (by decide) rfl ?_
      refine V_iadd X d_Acts_readPlank_46 rfl ?_
      refine V_bipush (v := 60) X d_Acts_readPlank_47 (by decide) rfl ?_
      refine V_iconst (v := 2) X d_Acts_readPlank_49 (by decide) rfl ?_
      obtain ⟨x3, hx3, h⟩ := ob_s h
      refine V_ci (As := [.int ((v2 + x1.1) + (1 : Int32)), .int (60 : Int32), .int (2 : Int32)]) X (Z0 E) ml_Acts_51 yq_Signs_digits (c_Signs_digits E.2.1 G ((v2 + x1.1) + (1 : Int32)) (60 : Int32) (2 : Int32) x1.2 x3 hx3 _ (Nat.le_refl _)) kd_1 rfl rfl (by omega) rfl (Nat.le_of_ble_eq_true rfl) d_Acts_readPlank_50 rfl (fun r9 M9 hq => ?_)
      rw [hq.1, hq.2]
      refine V_istore_n (lv' := [(3, .int x3.1), (5, .int (v2 + x1.1)), (4, .int (x1.2.1 1 2)), (0, .ref (G.2.2 + 147)), (1, .ref (G.2.2 + 1)), (2, .int v2)]) X d_Acts_readPlank_53 rfl (by decide) rfl rfl ?_
      refine V_iload_n (n := 0) X d_Acts_readPlank_54 rfl rfl rfl ?_
      refine V_if_ne (tgt := 64) X d_Acts_readPlank_55 (by decide) rfl (fun c5 => ?_) (fun c5 => ?_)
      · rw [if_neg c5] at h
        refine V_aload_n (n := 3) X d_Acts_readPlank_64 rfl rfl rfl ?_
        refine V_bipush (v := 112) X d_Acts_readPlank_65 (by decide) rfl ?_
        refine V_iload (n := 2) X d_Acts_readPlank_67 rfl rfl ?_
        refine V_aload_n (n := 4) X d_Acts_readPlank_69 rfl rfl rfl ?_
        refine V_geti X fo_Acts_55 kd_1 rfl d_Acts_readPlank_70 rfl ?_
        obtain ⟨x4, hx4, h⟩ := ob_s h
        refine V_cv (As := [.int (112 : Int32), .int (x1.2.1 1 2), .int (x3.2.1 1 2)]) X (Z0 E) ml_Acts_38 yq_Acts_add (c_Acts_add E.2.1 G (112 : Int32) (x1.2.1 1 2) (x3.2.1 1 2) x3.2 x4 hx4 _ (Nat.le_refl _)) kd_147 rfl rfl (by omega) rfl (Nat.le_of_ble_eq_true rfl) d_Acts_readPlank_73 rfl (fun M9 hq => ?_)
        rw [hq]
        refine V_iload (n := 1) X d_Acts_readPlank_76 rfl rfl ?_
        refine V_iconst (v := 1) X d_Acts_readPlank_78 (by decide) rfl ?_
        refine V_iadd X d_Acts_readPlank_79 rfl ?_
        refine V_iload_n (n := 0) X d_Acts_readPlank_80 rfl rfl rfl ?_
        refine V_iadd X d_Acts_readPlank_81 rfl ?_
        exact V_iret X (kr ((((v2 + x1.1) + (1 : Int32)) + x3.1), x4) (Option.some.inj h).symm) d_Acts_readPlank_82
      · rw [if_pos c5] at h
        refine V_bipush (v := -2) X d_Acts_readPlank_58 (by decide) rfl ?_
        refine V_iload (n := 1) X d_Acts_readPlank_60 rfl rfl ?_
        refine V_isub X d_Acts_readPlank_62 rfl ?_
        exact V_iret X (kr (((-2 : Int32) - (v2 + x1.1)), x3.2) (Option.some.inj h).symm) d_Acts_readPlank_63
    · rw [if_neg c6] at h
      refine V_iconst (v := -1) X d_Acts_readPlank_37 (by decide) rfl ?_
      refine V_iload (n := 0) X d_Acts_readPlank_38 rfl rfl ?_
      refine V_isub X d_Acts_readPlank_40 rfl ?_
      exact V_iret X (kr (((-1 : Int32) - (v2 + x1.1)), x1.2) (Option.some.inj h).symm) d_Acts_readPlank_41
def f_Acts_readAct (v2 : Int32) (M : Mem) : Option (Int32 × Mem) :=
  Option.bind (f_Signs_at v2 (60 : Int32) M) fun x1 =>
  if x1 = (102 : Int32) then
  Option.bind (f_Acts_add x1 (0 : Int32) (0 : Int32) M) fun x2 =>
  some ((v2 + (1 : Int32)), x2)
  else if x1 = (120 : Int32) then
  Option.bind (f_Acts_add x1 (0 : Int32) (0 : Int32) M) fun x2 =>
  some ((v2 + (1 : Int32)), x2)
  else if x1 = (109 : Int32) then
  Option.bind (f_Acts_readNumber (v2 + (1 : Int32)) M) fun x5 =>
  some (x5.1, x5.2)
  else if x1 = (110 : Int32) then
  Option.bind (f_Acts_readLetter (v2 + (1 : Int32)) M) fun x7 =>
  some (x7.1, x7.2)
  else if x1 = (112 : Int32) then
  Option.bind (f_Acts_readPlank (v2 + (1 : Int32)) M) fun x9 =>
  some (x9.1, x9.2)
  else some (((-1 : Int32) - v2), M)
theorem c_Acts_readAct (l : Launch) (G : Gw)  (v2 : Int32) (M : Mem) (x : Int32 × Mem) (h : f_Acts_readAct v2 M = some x) (d : Nat) (hD : 4 ≤ d) : Ci l G y_Acts_readAct b_Acts_readAct 4 (some .int) d [.ref (G.2.2 + 147), .ref (G.2.2 + 1), .int v2] M (fun r9 M9 => r9 = x.1 ∧ M9 = x.2) := by
  refine Ci_of (by decide) (Nat.le_of_ble_eq_true rfl) (fun E hE X => ?_)
  subst hE
  have kr : ∀ x9 : Int32 × Mem, x = x9 → (fun r9 M9 => r9 = x.1 ∧ M9 = x.2) x9.1 x9.2 := fun x9 e9 => by subst e9; exact ⟨rfl, rfl⟩
  unfold f_Acts_readAct at h
  refine V_aload_n (n := 1) X d_Acts_readAct_0 rfl rfl rfl ?_
  refine V_iload_n (n := 2) X d_Acts_readAct_1 rfl rfl rfl ?_
  refine V_bipush (v := 60) X d_Acts_readAct_2 (by decide) rfl ?_
  obtain ⟨x1, hx1, h⟩ := ob_s h
  refine V_ci (As := [.int v2, .int (60 : Int32)]) X (Z0 E) ml_Acts_34 yq_Signs_at (c_Signs_at E.2.1 G v2 (60 : Int32) M x1 hx1 _ (Nat.le_refl _)) kd_1 rfl rfl (by omega) rfl (Nat.le_of_ble_eq_true rfl) d_Acts_readAct_4 rfl (fun r9 M9 hq => ?_)
  rw [hq.1, hq.2]
  refine V_istore_n (lv' := [(3, .int x1), (0, .ref (G.2.2 + 147)), (1, .ref (G.2.2 + 1)), (2, .int v2)]) X d_Acts_readAct_7 rfl (by decide) rfl rfl ?_
  refine V_iload_n (n := 0) X d_Acts_readAct_8 rfl rfl rfl ?_
  by_cases c3 : x1 = (102 : Int32)
  · rw [if_pos c3] at h
    refine V_lku (v := 102) (pc' := 60) (off := 51) X d_Acts_readAct_9 c3 (by decide) (by decide +kernel) (by decide) ?_
    refine V_aload_n (n := 1) X d_Acts_readAct_60 rfl rfl rfl ?_
    refine V_iload_n (n := 0) X d_Acts_readAct_61 rfl rfl rfl ?_
    refine V_iconst (v := 0) X d_Acts_readAct_62 (by decide) rfl ?_
    refine V_iconst (v := 0) X d_Acts_readAct_63 (by decide) rfl ?_
    obtain ⟨x2, hx2, h⟩ := ob_s h
    refine V_cv (As := [.int x1, .int (0 : Int32), .int (0 : Int32)]) X (Z0 E) ml_Acts_38 yq_Acts_add (c_Acts_add E.2.1 G x1 (0 : Int32) (0 : Int32) M x2 hx2 _ (Nat.le_refl _)) kd_147 rfl rfl (by omega) rfl (Nat.le_of_ble_eq_true rfl) d_Acts_readAct_64 rfl (fun M9 hq => ?_)
    rw [hq]
    refine V_iload_n (n := 3) X d_Acts_readAct_67 rfl rfl rfl ?_
    refine V_iconst (v := 1) X d_Acts_readAct_68 (by decide) rfl ?_
    refine V_iadd X d_Acts_readAct_69 rfl ?_
    exact V_iret X (kr ((v2 + (1 : Int32)), x2) (Option.some.inj h).symm) d_Acts_readAct_70
  · rw [if_neg c3] at h
    by_cases c4 : x1 = (120 : Int32)
    · rw [if_pos c4] at h
      refine V_lku (v := 120) (pc' := 60) (off := 51) X d_Acts_readAct_9 c4 (by decide) (by decide +kernel) (by decide) ?_
      refine V_aload_n (n := 1) X d_Acts_readAct_60 rfl rfl rfl ?_
      refine V_iload_n (n := 0) X d_Acts_readAct_61 rfl rfl rfl ?_
      refine V_iconst (v := 0) X d_Acts_readAct_62 (by decide) rfl ?_
      refine V_iconst (v := 0) X d_Acts_readAct_63 (by decide) rfl ?_
      obtain ⟨x2, hx2, h⟩ := ob_s h
      refine V_cv (As := [.int x1, .int (0 : Int32), .int (0 : Int32)]) X (Z0 E) ml_Acts_38 yq_Acts_add (c_Acts_add E.2.1 G x1 (0 : Int32) (0 : Int32) M x2 hx2 _ (Nat.le_refl _)) kd_147 rfl rfl (by omega) rfl (Nat.le_of_ble_eq_true rfl) d_Acts_readAct_64 rfl (fun M9 hq => ?_)
      rw [hq]
      refine V_iload_n (n := 3) X d_Acts_readAct_67 rfl rfl rfl ?_
      refine V_iconst (v := 1) X d_Acts_readAct_68 (by decide) rfl ?_
      refine V_iadd X d_Acts_readAct_69 rfl ?_
      exact V_iret X (kr ((v2 + (1 : Int32)), x2) (Option.some.inj h).symm) d_Acts_readAct_70
    · rw [if_neg c4] at h
      by_cases c6 : x1 = (109 : Int32)
      · rw [if_pos c6] at h
        refine V_lku (v := 109) (pc' := 80) (off := 71) X d_Acts_readAct_9 c6 (by decide) (by decide +kernel) (by decide) ?_
        refine V_aload_n (n := 1) X d_Acts_readAct_80 rfl rfl rfl ?_
        refine V_aload_n (n := 2) X d_Acts_readAct_81 rfl rfl rfl ?_
        refine V_iload_n (n := 3) X d_Acts_readAct_82 rfl rfl rfl ?_
        refine V_iconst (v := 1) X d_Acts_readAct_83 (by decide) rfl ?_
        refine V_iadd X d_Acts_readAct_84 rfl ?_
        obtain ⟨x5, hx5, h⟩ := ob_s h
        refine V_ci (As := [.ref (G.2.2 + 1), .int (v2 + (1 : Int32))]) X (Z0 E) ml_Acts_45 yq_Acts_readNumber (c_Acts_readNumber E.2.1 G (v2 + (1 : Int32)) M x5 hx5 _ (Nat.le_refl _)) kd_147 rfl rfl (by omega) rfl (Nat.le_of_ble_eq_true rfl) d_Acts_readAct_85 rfl (fun r9 M9 hq => ?_)
        rw [hq.1, hq.2]
        exact V_iret X (kr (x5.1, x5.2) (Option.some.inj h).symm) d_Acts_readAct_88
      · rw [if_neg c6] at h
        by_cases c8 : x1 = (110 : Int32)
        · rw [if_pos c8] at h
          refine V_lku (v := 110) (pc' := 71) (off := 62) X d_Acts_readAct_9 c8 (by decide) (by decide +kernel) (by decide) ?_
          refine V_aload_n (n := 1) X d_Acts_readAct_71 rfl rfl rfl ?_
          refine V_aload_n (n := 2) X d_Acts_readAct_72 rfl rfl rfl ?_
          refine V_iload_n (n := 3) X d_Acts_readAct_73 rfl rfl rfl ?_
          refine V_iconst (v := 1) X d_Acts_readAct_74 (by decide) rfl ?_
          refine V_iadd X d_Acts_readAct_75 rfl ?_
          obtain ⟨x7, hx7, h⟩ := ob_s h
          refine V_ci (As := [.ref (G.2.2 + 1), .int (v2 + (1 : Int32))]) X (Z0 E) ml_Acts_42 yq_Acts_readLetter (c_Acts_readLetter E.2.1 G (v2 + (1 : Int32)) M x7 hx7 _ (Nat.le_refl _)) kd_147 rfl rfl (by omega) rfl (Nat.le_of_ble_eq_true rfl) d_Acts_readAct_76 rfl (fun r9 M9 hq => ?_)
          rw [hq.1, hq.2]
          exact V_iret X (kr (x7.1, x7.2) (Option.some.inj h).symm) d_Acts_readAct_79
        · rw [if_neg c8] at h
          by_cases c10 : x1 = (112 : Int32)
          · rw [if_pos c10] at h
            refine V_lku (v := 112) (pc' := 89) (off := 80) X d_Acts_readAct_9 c10 (by decide) (by decide +kernel) (by decide) ?_
            refine V_aload_n (n := 1) X d_Acts_readAct_89 rfl rfl rfl ?_
            refine V_aload_n (n := 2) X d_Acts_readAct_90 rfl rfl rfl ?_
            refine V_iload_n (n := 3) X d_Acts_readAct_91 rfl rfl rfl ?_
            refine V_iconst (v := 1) X d_Acts_readAct_92 (by decide) rfl ?_
            refine V_iadd X d_Acts_readAct_93 rfl ?_
            obtain ⟨x9, hx9, h⟩ := ob_s h
            refine V_ci (As := [.ref (G.2.2 + 1), .int (v2 + (1 : Int32))]) X (Z0 E) ml_Acts_48 yq_Acts_readPlank (c_Acts_readPlank E.2.1 G (v2 + (1 : Int32)) M x9 hx9 _ (Nat.le_refl _)) kd_147 rfl rfl (by omega) rfl (Nat.le_of_ble_eq_true rfl) d_Acts_readAct_94 rfl (fun r9 M9 hq => ?_)
            rw [hq.1, hq.2]
            exact V_iret X (kr (x9.1, x9.2) (Option.some.inj h).symm) d_Acts_readAct_97
          · rw [if_neg c10] at h
            refine V_lookup (pc' := 98) X d_Acts_readAct_9 (by decide) (off := 89) (by simp [Op.lookupswitch.offset, (neT c3 (z := 102) (by decide)).symm, (neT c4 (z := 120) (by decide)).symm, (neT c6 (z := 109) (by decide)).symm, (neT c8 (z := 110) (by decide)).symm, (neT c10 (z := 112) (by decide)).symm]) (by decide) ?_
            refine V_iconst (v := -1) X d_Acts_readAct_98 (by decide) rfl ?_
            refine V_iload_n (n := 3) X d_Acts_readAct_99 rfl rfl rfl ?_
            refine V_isub X d_Acts_readAct_100 rfl ?_
            exact V_iret X (kr (((-1 : Int32) - v2), M) (Option.some.inj h).symm) d_Acts_readAct_101
def lb_Acts_read_18  (s : Int32 × Int32 × Mem) : Option ((Int32 × Int32 × Mem) ⊕ ((Int32 × Mem) ⊕ (Int32 × Mem) ⊕ (Mem) ⊕ (Int32 × Mem))) :=
  if (32 : Int32) ≤ s.2.1 then
  some (.inr (Sum.inl (s.1, s.2.2)))
  else
  Option.bind (f_Acts_readAct s.1 s.2.2) fun x2 =>
  if 0 ≤ x2.1 then
  Option.bind (f_Signs_at x2.1 (60 : Int32) x2.2) fun x3 =>
  if x3 = (-1 : Int32) then
  some (.inr (Sum.inr (Sum.inr (Sum.inl x2.2))))
  else
  if x3 = (59 : Int32) then
  some (.inl ((x2.1 + (1 : Int32)), (s.2.1 + (1 : Int32)), x2.2))
  else
  some (.inr (Sum.inr (Sum.inr (Sum.inr (x2.1, x2.2)))))
  else
  some (.inr (Sum.inr (Sum.inl (x2.1, x2.2))))
theorem lb_Acts_read_18_ok {E : Ev} {G : Gw} {d : Nat} {post : Int32 → Mem → Prop} (X : Cx E G b_Acts_read "WomenByTheRoofs$Acts" 5 d (some .int)) (hD : 5 ≤ d)     (s : Int32 × Int32 × Mem) (o : (Int32 × Int32 × Mem) ⊕ ((Int32 × Mem) ⊕ (Int32 × Mem) ⊕ (Mem) ⊕ (Int32 × Mem))) (h : lb_Acts_read_18 s = some o) (kc : ∀ s9 : Int32 × Int32 × Mem, o = .inl s9 → V E (0, 0) G 5 (QI E G post) s9.2.2 18 [(0, .ref (G.2.2 + 147)), (1, .ref (G.2.2 + 1)), (2, .int s9.1), (3, .int s9.2.1)] []) (kx0 : ∀ x9 : Int32 × Mem, o = .inr (Sum.inl x9) → V E (0, 0) G 5 (QI E G post) x9.2 91 [(2, .int x9.1)] []) (kx1 : ∀ x9 : Int32 × Mem, o = .inr (Sum.inr (Sum.inl x9)) → V E (0, 0) G 5 (QI E G post) x9.2 35 [(2, .int x9.1)] []) (kx2 : ∀ x9 : Mem, o = .inr (Sum.inr (Sum.inr (Sum.inl x9))) → V E (0, 0) G 5 (QI E G post) x9 52 [(0, .ref (G.2.2 + 147)), (1, .ref (G.2.2 + 1))] []) (kx3 : ∀ x9 : Int32 × Mem, o = .inr (Sum.inr (Sum.inr (Sum.inr x9))) → V E (0, 0) G 5 (QI E G post) x9.2 78 [(2, .int x9.1)] []) : V E (0, 0) G 5 (QI E G post) s.2.2 18 [(0, .ref (G.2.2 + 147)), (1, .ref (G.2.2 + 1)), (2, .int s.1), (3, .int s.2.1)] [] := by
  unfold lb_Acts_read_18 at h
  refine V_iload_n (n := 3) X d_Acts_read_18 rfl rfl rfl ?_
  refine V_bipush (v := 32) X d_Acts_read_19 (by decide) rfl ?_
  refine V_icmp_ge (tgt := 91) X d_Acts_read_21 (by decide) rfl (fun c7 => ?_) (fun c7 => ?_)
  · rw [if_pos c7] at h
    refine V_sub (lv' := [(2, .int s.1)]) [2] rfl ?_
    exact kx0 (s.1, s.2.2) (Option.some.inj h).symm
  · rw [if_neg c7] at h
    refine V_aload_n (n := 0) X d_Acts_read_24 rfl rfl rfl ?_
    refine V_aload_n (n := 1) X d_Acts_read_25 rfl rfl rfl ?_
    refine V_iload_n (n := 2) X d_Acts_read_26 rfl rfl rfl ?_
    obtain ⟨x2, hx2, h⟩ := ob_s h
    refine V_ci (As := [.ref (G.2.2 + 1), .int s.1]) X (Z0 E) ml_Acts_30 yq_Acts_readAct (c_Acts_readAct E.2.1 G s.1 s.2.2 x2 hx2 _ (Nat.le_refl _)) kd_147 rfl rfl (by omega) rfl (Nat.le_of_ble_eq_true rfl) d_Acts_read_27 rfl (fun r9 M9 hq => ?_)
    rw [hq.1, hq.2]
    refine V_istore_n (lv' := [(2, .int x2.1), (0, .ref (G.2.2 + 147)), (1, .ref (G.2.2 + 1)), (3, .int s.2.1)]) X d_Acts_read_30 rfl (by decide) rfl rfl ?_
    refine V_iload_n (n := 0) X d_Acts_read_31 rfl rfl rfl ?_
    refine V_if_ge (tgt := 37) X d_Acts_read_32 (by decide) rfl (fun c6 => ?_) (fun c6 => ?_)
    · rw [if_pos c6] at h
      refine V_aload_n (n := 2) X d_Acts_read_37 rfl rfl rfl ?_
      refine V_iload_n (n := 0) X d_Acts_read_38 rfl rfl rfl ?_
      refine V_bipush (v := 60) X d_Acts_read_39 (by decide) rfl ?_
      obtain ⟨x3, hx3, h⟩ := ob_s h
      refine V_ci (As := [.int x2.1, .int (60 : Int32)]) X (Z0 E) ml_Acts_34 yq_Signs_at (c_Signs_at E.2.1 G x2.1 (60 : Int32) x2.2 x3 hx3 _ (Nat.le_refl _)) kd_1 rfl rfl (by omega) rfl (Nat.le_of_ble_eq_true rfl) d_Acts_read_41 rfl (fun r9 M9 hq => ?_)
      rw [hq.1, hq.2]
      refine V_istore (lv' := [(4, .int x3), (2, .int x2.1), (0, .ref (G.2.2 + 147)), (1, .ref (G.2.2 + 1)), (3, .int s.2.1)]) X d_Acts_read_44 (by decide) rfl rfl ?_
      refine V_iload (n := 0) X d_Acts_read_46 rfl rfl ?_
      refine V_iconst (v := -1) X d_Acts_read_48 (by decide) rfl ?_
      refine V_icmp_ne (tgt := 71) X d_Acts_read_49 (by decide) rfl (fun c5 => ?_) (fun c5 => ?_)
      · rw [if_neg c5] at h
        refine V_iload (n := 0) X d_Acts_read_71 rfl rfl ?_
        refine V_bipush (v := 59) X d_Acts_read_73 (by decide) rfl ?_
        refine V_icmp_eq (tgt := 82) X d_Acts_read_75 (by decide) rfl (fun c4 => ?_) (fun c4 => ?_)
        · rw [if_pos c4] at h
          refine V_iinc (n := 1) (v := (x2.1 + (1 : Int32))) (lv' := [(2, .int (x2.1 + (1 : Int32))), (4, .int x3), (0, .ref (G.2.2 + 147)), (1, .ref (G.2.2 + 1)), (3, .int s.2.1)]) X d_Acts_read_82 rfl rfl (by decide) rfl rfl ?_
          refine V_iinc (n := 4) (v := (s.2.1 + (1 : Int32))) (lv' := [(3, .int (s.2.1 + (1 : Int32))), (2, .int (x2.1 + (1 : Int32))), (4, .int x3), (0, .ref (G.2.2 + 147)), (1, .ref (G.2.2 + 1))]) X d_Acts_read_85 rfl rfl (by decide) rfl rfl ?_
          refine V_goto (pc' := 18) X d_Acts_read_88 (by decide) ?_
          refine V_sub (lv' := [(0, .ref (G.2.2 + 147)), (1, .ref (G.2.2 + 1)), (2, .int (x2.1 + (1 : Int32))), (3, .int (s.2.1 + (1 : Int32)))]) [3, 4, 1, 0] rfl ?_
          exact kc ((x2.1 + (1 : Int32)), (s.2.1 + (1 : Int32)), x2.2) (Option.some.inj h).symm
        · rw [if_neg c4] at h
          refine V_sub (lv' := [(2, .int x2.1)]) [1] rfl ?_
          exact kx3 (x2.1, x2.2) (Option.some.inj h).symm
      · rw [if_pos c5] at h
        refine V_sub (lv' := [(0, .ref (G.2.2 + 147)), (1, .ref (G.2.2 + 1))]) [2, 3] rfl ?_
        exact kx2 x2.2 (Option.some.inj h).symm
    · rw [if_neg c6] at h
      refine V_sub (lv' := [(2, .int x2.1)]) [0] rfl ?_
      exact kx1 (x2.1, x2.2) (Option.some.inj h).symm
theorem lp_Acts_read_18_ok {E : Ev} {G : Gw} {d : Nat} {post : Int32 → Mem → Prop} (X : Cx E G b_Acts_read "WomenByTheRoofs$Acts" 5 d (some .int)) (hD : 5 ≤ d)     (n9 : Nat) (s : Int32 × Int32 × Mem) (x : (Int32 × Mem) ⊕ (Int32 × Mem) ⊕ (Mem) ⊕ (Int32 × Mem)) (h : iter (lb_Acts_read_18) n9 s = some x) (kx0 : ∀ x9 : Int32 × Mem, x = (Sum.inl x9) → V E (0, 0) G 5 (QI E G post) x9.2 91 [(2, .int x9.1)] []) (kx1 : ∀ x9 : Int32 × Mem, x = (Sum.inr (Sum.inl x9)) → V E (0, 0) G 5 (QI E G post) x9.2 35 [(2, .int x9.1)] []) (kx2 : ∀ x9 : Mem, x = (Sum.inr (Sum.inr (Sum.inl x9))) → V E (0, 0) G 5 (QI E G post) x9 52 [(0, .ref (G.2.2 + 147)), (1, .ref (G.2.2 + 1))] []) (kx3 : ∀ x9 : Int32 × Mem, x = (Sum.inr (Sum.inr (Sum.inr x9))) → V E (0, 0) G 5 (QI E G post) x9.2 78 [(2, .int x9.1)] []) : V E (0, 0) G 5 (QI E G post) s.2.2 18 [(0, .ref (G.2.2 + 147)), (1, .ref (G.2.2 + 1)), (2, .int s.1), (3, .int s.2.1)] [] :=
  iter_P (P := fun s : Int32 × Int32 × Mem => V E (0, 0) G 5 (QI E G post) s.2.2 18 [(0, .ref (G.2.2 + 147)), (1, .ref (G.2.2 + 1)), (2, .int s.1), (3, .int s.2.1)] []) (fun s o hb kc ky => lb_Acts_read_18_ok X hD  s o hb kc (fun x9 e9 => kx0 x9 (ky _ e9).symm) (fun x9 e9 => kx1 x9 (ky _ e9).symm) (fun x9 e9 => kx2 x9 (ky _ e9).symm) (fun x9 e9 => kx3 x9 (ky _ e9).symm)) n9 s h
def f_Acts_read (M : Mem) : Option (Int32 × Mem) :=
  mem_ (s_i M 147 3 (0 : Int32)) fun M1 =>
  if (M1.1 1 1) = 0 then
  some ((0 : Int32), M1)
  else
  Option.bind (iter (lb_Acts_read_18) FU ((0 : Int32), (0 : Int32), M1)) (Sum.elim (fun y9 => some (((-1 : Int32) - y9.1), y9.2)) (Sum.elim (fun y10 => some (y10.1, y10.2)) (Sum.elim (fun y11 => if (y11.1 1 1) ≤ (60 : Int32) then
  some ((y11.1 147 3), y11)
  else
  some ((-61 : Int32), y11)) (fun y13 => some (((-1 : Int32) - y13.1), y13.2)))))
theorem c_Acts_read (l : Launch) (G : Gw)   (M : Mem) (x : Int32 × Mem) (h : f_Acts_read M = some x) (d : Nat) (hD : 5 ≤ d) : Ci l G y_Acts_read b_Acts_read 5 (some .int) d [.ref (G.2.2 + 147), .ref (G.2.2 + 1)] M (fun r9 M9 => r9 = x.1 ∧ M9 = x.2) := by
  refine Ci_of (by decide) (Nat.le_of_ble_eq_true rfl) (fun E hE X => ?_)
  subst hE
  have kr : ∀ x9 : Int32 × Mem, x = x9 → (fun r9 M9 => r9 = x.1 ∧ M9 = x.2) x9.1 x9.2 := fun x9 e9 => by subst e9; exact ⟨rfl, rfl⟩
  unfold f_Acts_read at h
  refine V_aload_n (n := 0) X d_Acts_read_0 rfl rfl rfl ?_
  refine V_iconst (v := 0) X d_Acts_read_1 (by decide) rfl ?_
  obtain ⟨M1, eM1, h⟩ := memS h
  refine V_putI X fp_Acts_21 kd_147 rfl d_Acts_read_2 rfl ?_
  rw [← eM1]
  refine V_aload_n (n := 1) X d_Acts_read_5 rfl rfl rfl ?_
  refine V_geti X fo_Acts_25 kd_1 rfl d_Acts_read_6 rfl ?_
  refine V_if_ne (tgt := 14) X d_Acts_read_9 (by decide) rfl (fun c14 => ?_) (fun c14 => ?_)
  · rw [if_neg c14] at h
    refine V_iconst (v := 0) X d_Acts_read_14 (by decide) rfl ?_
    refine V_istore_n (lv' := [(2, .int (0 : Int32)), (0, .ref (G.2.2 + 147)), (1, .ref (G.2.2 + 1))]) X d_Acts_read_15 rfl (by decide) rfl rfl ?_
    refine V_iconst (v := 0) X d_Acts_read_16 (by decide) rfl ?_
    refine V_istore_n (lv' := [(3, .int (0 : Int32)), (2, .int (0 : Int32)), (0, .ref (G.2.2 + 147)), (1, .ref (G.2.2 + 1))]) X d_Acts_read_17 rfl (by decide) rfl rfl ?_
    refine V_sub (lv' := [(0, .ref (G.2.2 + 147)), (1, .ref (G.2.2 + 1)), (2, .int (0 : Int32)), (3, .int (0 : Int32))]) [2, 3, 1, 0] rfl ?_
    obtain ⟨x8, hx8, h⟩ := ob_s h
    rcases x8 with y9 | y10 | y11 | y13
    · simp only [Sum.elim_inl, Sum.elim_inr] at h
      refine (lp_Acts_read_18_ok X hD  _ _ _ hx8 (fun x9 e9 => ?_) (fun x9 e9 => by cases e9) (fun x9 e9 => by cases e9) (fun x9 e9 => by cases e9) :)
      cases e9
      refine V_iconst (v := -1) X d_Acts_read_91 (by decide) rfl ?_
      refine V_iload_n (n := 0) X d_Acts_read_92 rfl rfl rfl ?_
      refine V_isub X d_Acts_read_93 rfl ?_
      exact V_iret X (kr (((-1 : Int32) - y9.1), y9.2) (Option.some.inj h).symm) d_Acts_read_94
    · simp only [Sum.elim_inl, Sum.elim_inr] at h
      refine (lp_Acts_read_18_ok X hD  _ _ _ hx8 (fun x9 e9 => by cases e9) (fun x9 e9 => ?_) (fun x9 e9 => by cases e9) (fun x9 e9 => by cases e9) :)
      cases e9
      refine V_iload_n (n := 0) X d_Acts_read_35 rfl rfl rfl ?_
      exact V_iret X (kr (y10.1, y10.2) (Option.some.inj h).symm) d_Acts_read_36
    · simp only [Sum.elim_inl, Sum.elim_inr] at h
      refine (lp_Acts_read_18_ok X hD  _ _ _ hx8 (fun x9 e9 => by cases e9) (fun x9 e9 => by cases e9) (fun x9 e9 => ?_) (fun x9 e9 => by cases e9) :)
      cases e9
      refine V_aload_n (n := 1) X d_Acts_read_52 rfl rfl rfl ?_
      refine V_geti X fo_Acts_25 kd_1 rfl d_Acts_read_53 rfl ?_
      refine V_bipush (v := 60) X d_Acts_read_56 (by decide) rfl ?_
      refine V_icmp_le (tgt := 66) X d_Acts_read_58 (by decide) rfl (fun c12 => ?_) (fun c12 => ?_)
      · rw [if_pos c12] at h
        refine V_aload_n (n := 0) X d_Acts_read_66 rfl rfl rfl ?_
        refine V_geti X fo_Acts_21 kd_147 rfl d_Acts_read_67 rfl ?_
        exact V_iret X (kr ((y11.1 147 3), y11) (Option.some.inj h).symm) d_Acts_read_70
      · rw [if_neg c12] at h
        refine V_bipush (v := -61) X d_Acts_read_61 (by decide) rfl ?_
        refine V_goto (pc' := 70) X d_Acts_read_63 (by decide) ?_
        exact V_iret X (kr ((-61 : Int32), y11) (Option.some.inj h).symm) d_Acts_read_70
    · simp only [Sum.elim_inl, Sum.elim_inr] at h
      refine (lp_Acts_read_18_ok X hD  _ _ _ hx8 (fun x9 e9 => by cases e9) (fun x9 e9 => by cases e9) (fun x9 e9 => by cases e9) (fun x9 e9 => ?_) :)
      cases e9
      refine V_iconst (v := -1) X d_Acts_read_78 (by decide) rfl ?_
      refine V_iload_n (n := 0) X d_Acts_read_79 rfl rfl rfl ?_
      refine V_isub X d_Acts_read_80 rfl ?_
      exact V_iret X (kr (((-1 : Int32) - y13.1), y13.2) (Option.some.inj h).symm) d_Acts_read_81
  · rw [if_pos c14] at h
    refine V_iconst (v := 0) X d_Acts_read_12 (by decide) rfl ?_
    exact V_iret X (kr ((0 : Int32), M1) (Option.some.inj h).symm) d_Acts_read_13
