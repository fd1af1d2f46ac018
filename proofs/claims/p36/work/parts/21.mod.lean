theorem d_Mod_readOne_0 : decode b_Mod_readOne 0 = .ok (.aload_n 0, 1) := kq_42 byq_r (by decide +kernel)
theorem d_Mod_readOne_1 : decode b_Mod_readOne 1 = .ok (.getfield 42, 3) := kq_180 byq_r (a := 0) (b := 42) (by decide +kernel)
theorem d_Mod_readOne_4 : decode b_Mod_readOne 4 = .ok (.iload_n 1, 1) := kq_27 byq_r (by decide +kernel)
theorem d_Mod_readOne_5 : decode b_Mod_readOne 5 = .ok (.aload_n 0, 1) := kq_42 byq_r (by decide +kernel)
theorem d_Mod_readOne_6 : decode b_Mod_readOne 6 = .ok (.invokevirtual 183, 3) := kq_182 byq_r (a := 0) (b := 183) (by decide +kernel)
theorem d_Mod_readOne_9 : decode b_Mod_readOne 9 = .ok (.bipush 119, 2) := kq_16 byq_r (b := 119) (by decide +kernel)
theorem d_Mod_readOne_11 : decode b_Mod_readOne 11 = .ok (.if_icmp .ne 7, 3) := kq_160 byq_r (a := 0) (b := 7) (by decide +kernel)
theorem d_Mod_readOne_14 : decode b_Mod_readOne 14 = .ok (.iconst 1, 1) := kq_4 byq_r (by decide +kernel)
theorem d_Mod_readOne_15 : decode b_Mod_readOne 15 = .ok (.goto 4, 3) := kq_167 byq_r (a := 0) (b := 4) (by decide +kernel)
theorem d_Mod_readOne_18 : decode b_Mod_readOne 18 = .ok (.iconst 0, 1) := kq_3 byq_r (by decide +kernel)
theorem d_Mod_readOne_19 : decode b_Mod_readOne 19 = .ok (.iastore, 1) := kq_79 byq_r (by decide +kernel)
theorem d_Mod_readOne_20 : decode b_Mod_readOne 20 = .ok (.aload_n 0, 1) := kq_42 byq_r (by decide +kernel)
theorem d_Mod_readOne_21 : decode b_Mod_readOne 21 = .ok (.invokevirtual 183, 3) := kq_182 byq_r (a := 0) (b := 183) (by decide +kernel)
theorem d_Mod_readOne_24 : decode b_Mod_readOne 24 = .ok (.bipush 119, 2) := kq_16 byq_r (b := 119) (by decide +kernel)
theorem d_Mod_readOne_26 : decode b_Mod_readOne 26 = .ok (.if_icmp .eq 20, 3) := kq_159 byq_r (a := 0) (b := 20) (by decide +kernel)
theorem d_Mod_readOne_29 : decode b_Mod_readOne 29 = .ok (.aload_n 0, 1) := kq_42 byq_r (by decide +kernel)
theorem d_Mod_readOne_30 : decode b_Mod_readOne 30 = .ok (.invokevirtual 183, 3) := kq_182 byq_r (a := 0) (b := 183) (by decide +kernel)
theorem d_Mod_readOne_33 : decode b_Mod_readOne 33 = .ok (.bipush 109, 2) := kq_16 byq_r (b := 109) (by decide +kernel)
theorem d_Mod_readOne_35 : decode b_Mod_readOne 35 = .ok (.if_icmp .eq 11, 3) := kq_159 byq_r (a := 0) (b := 11) (by decide +kernel)
theorem d_Mod_readOne_38 : decode b_Mod_readOne 38 = .ok (.aload_n 0, 1) := kq_42 byq_r (by decide +kernel)
theorem d_Mod_readOne_39 : decode b_Mod_readOne 39 = .ok (.aload_n 0, 1) := kq_42 byq_r (by decide +kernel)
theorem d_Mod_readOne_40 : decode b_Mod_readOne 40 = .ok (.getfield 173, 3) := kq_180 byq_r (a := 0) (b := 173) (by decide +kernel)
theorem d_Mod_readOne_43 : decode b_Mod_readOne 43 = .ok (.invokevirtual 190, 3) := kq_182 byq_r (a := 0) (b := 190) (by decide +kernel)
theorem d_Mod_readOne_46 : decode b_Mod_readOne 46 = .ok (.aload_n 0, 1) := kq_42 byq_r (by decide +kernel)
theorem d_Mod_readOne_47 : decode b_Mod_readOne 47 = .ok (.dup, 1) := kq_89 byq_r (by decide +kernel)
theorem d_Mod_readOne_48 : decode b_Mod_readOne 48 = .ok (.getfield 173, 3) := kq_180 byq_r (a := 0) (b := 173) (by decide +kernel)
theorem d_Mod_readOne_51 : decode b_Mod_readOne 51 = .ok (.iconst 1, 1) := kq_4 byq_r (by decide +kernel)
theorem d_Mod_readOne_52 : decode b_Mod_readOne 52 = .ok (.iadd, 1) := kq_96 byq_r (by decide +kernel)
theorem d_Mod_readOne_53 : decode b_Mod_readOne 53 = .ok (.putfield 173, 3) := kq_181 byq_r (a := 0) (b := 173) (by decide +kernel)
theorem d_Mod_readOne_56 : decode b_Mod_readOne 56 = .ok (.aload_n 0, 1) := kq_42 byq_r (by decide +kernel)
theorem d_Mod_readOne_57 : decode b_Mod_readOne 57 = .ok (.getfield 42, 3) := kq_180 byq_r (a := 0) (b := 42) (by decide +kernel)
theorem d_Mod_readOne_60 : decode b_Mod_readOne 60 = .ok (.iload_n 1, 1) := kq_27 byq_r (by decide +kernel)
theorem d_Mod_readOne_61 : decode b_Mod_readOne 61 = .ok (.iconst 1, 1) := kq_4 byq_r (by decide +kernel)
theorem d_Mod_readOne_62 : decode b_Mod_readOne 62 = .ok (.iadd, 1) := kq_96 byq_r (by decide +kernel)
theorem d_Mod_readOne_63 : decode b_Mod_readOne 63 = .ok (.aload_n 0, 1) := kq_42 byq_r (by decide +kernel)
theorem d_Mod_readOne_64 : decode b_Mod_readOne 64 = .ok (.iconst 2, 1) := kq_5 byq_r (by decide +kernel)
theorem d_Mod_readOne_65 : decode b_Mod_readOne 65 = .ok (.invokevirtual 213, 3) := kq_182 byq_r (a := 0) (b := 213) (by decide +kernel)
theorem d_Mod_readOne_68 : decode b_Mod_readOne 68 = .ok (.iastore, 1) := kq_79 byq_r (by decide +kernel)
theorem d_Mod_readOne_69 : decode b_Mod_readOne 69 = .ok (.aload_n 0, 1) := kq_42 byq_r (by decide +kernel)
theorem d_Mod_readOne_70 : decode b_Mod_readOne 70 = .ok (.invokevirtual 179, 3) := kq_182 byq_r (a := 0) (b := 179) (by decide +kernel)
theorem d_Mod_readOne_73 : decode b_Mod_readOne 73 = .ok (.ifCond .eq 34, 3) := kq_153 byq_r (a := 0) (b := 34) (by decide +kernel)
theorem d_Mod_readOne_76 : decode b_Mod_readOne 76 = .ok (.aload_n 0, 1) := kq_42 byq_r (by decide +kernel)
theorem d_Mod_readOne_77 : decode b_Mod_readOne 77 = .ok (.aload_n 0, 1) := kq_42 byq_r (by decide +kernel)
theorem d_Mod_readOne_78 : decode b_Mod_readOne 78 = .ok (.getfield 42, 3) := kq_180 byq_r (a := 0) (b := 42) (by decide +kernel)
theorem d_Mod_readOne_81 : decode b_Mod_readOne 81 = .ok (.iload_n 1, 1) := kq_27 byq_r (by decide +kernel)
theorem d_Mod_readOne_82 : decode b_Mod_readOne 82 = .ok (.iaload, 1) := kq_46 byq_r (by decide +kernel)
theorem d_Mod_readOne_83 : decode b_Mod_readOne 83 = .ok (.aload_n 0, 1) := kq_42 byq_r (by decide +kernel)
theorem d_Mod_readOne_84 : decode b_Mod_readOne 84 = .ok (.getfield 42, 3) := kq_180 byq_r (a := 0) (b := 42) (by decide +kernel)
theorem d_Mod_readOne_87 : decode b_Mod_readOne 87 = .ok (.iload_n 1, 1) := kq_27 byq_r (by decide +kernel)
theorem d_Mod_readOne_88 : decode b_Mod_readOne 88 = .ok (.iconst 1, 1) := kq_4 byq_r (by decide +kernel)
theorem d_Mod_readOne_89 : decode b_Mod_readOne 89 = .ok (.iadd, 1) := kq_96 byq_r (by decide +kernel)
theorem d_Mod_readOne_90 : decode b_Mod_readOne 90 = .ok (.iaload, 1) := kq_46 byq_r (by decide +kernel)
theorem d_Mod_readOne_91 : decode b_Mod_readOne 91 = .ok (.invokevirtual 140, 3) := kq_182 byq_r (a := 0) (b := 140) (by decide +kernel)
theorem d_Mod_readOne_94 : decode b_Mod_readOne 94 = .ok (.ifCond .ne 13, 3) := kq_154 byq_r (a := 0) (b := 13) (by decide +kernel)
theorem d_Mod_readOne_97 : decode b_Mod_readOne 97 = .ok (.aload_n 0, 1) := kq_42 byq_r (by decide +kernel)
theorem d_Mod_readOne_98 : decode b_Mod_readOne 98 = .ok (.aload_n 0, 1) := kq_42 byq_r (by decide +kernel)
theorem d_Mod_readOne_99 : decode b_Mod_readOne 99 = .ok (.getfield 173, 3) := kq_180 byq_r (a := 0) (b := 173) (by decide +kernel)
theorem d_Mod_readOne_102 : decode b_Mod_readOne 102 = .ok (.iconst 1, 1) := kq_4 byq_r (by decide +kernel)
theorem d_Mod_readOne_103 : decode b_Mod_readOne 103 = .ok (.isub, 1) := kq_100 byq_r (by decide +kernel)
theorem d_Mod_readOne_104 : decode b_Mod_readOne 104 = .ok (.invokevirtual 190, 3) := kq_182 byq_r (a := 0) (b := 190) (by decide +kernel)
theorem d_Mod_readOne_107 : decode b_Mod_readOne 107 = .ok (.aload_n 0, 1) := kq_42 byq_r (by decide +kernel)
theorem d_Mod_readOne_108 : decode b_Mod_readOne 108 = .ok (.bipush 58, 2) := kq_16 byq_r (b := 58) (by decide +kernel)
theorem d_Mod_readOne_110 : decode b_Mod_readOne 110 = .ok (.invokevirtual 216, 3) := kq_182 byq_r (a := 0) (b := 216) (by decide +kernel)
theorem d_Mod_readOne_113 : decode b_Mod_readOne 113 = .ok (.aload_n 0, 1) := kq_42 byq_r (by decide +kernel)
theorem d_Mod_readOne_114 : decode b_Mod_readOne 114 = .ok (.getfield 42, 3) := kq_180 byq_r (a := 0) (b := 42) (by decide +kernel)
theorem d_Mod_readOne_117 : decode b_Mod_readOne 117 = .ok (.iload_n 1, 1) := kq_27 byq_r (by decide +kernel)
theorem d_Mod_readOne_118 : decode b_Mod_readOne 118 = .ok (.iconst 2, 1) := kq_5 byq_r (by decide +kernel)
theorem d_Mod_readOne_119 : decode b_Mod_readOne 119 = .ok (.iadd, 1) := kq_96 byq_r (by decide +kernel)
theorem d_Mod_readOne_120 : decode b_Mod_readOne 120 = .ok (.aload_n 0, 1) := kq_42 byq_r (by decide +kernel)
theorem d_Mod_readOne_121 : decode b_Mod_readOne 121 = .ok (.aload_n 0, 1) := kq_42 byq_r (by decide +kernel)
theorem d_Mod_readOne_122 : decode b_Mod_readOne 122 = .ok (.getfield 42, 3) := kq_180 byq_r (a := 0) (b := 42) (by decide +kernel)
theorem d_Mod_readOne_125 : decode b_Mod_readOne 125 = .ok (.iload_n 1, 1) := kq_27 byq_r (by decide +kernel)
theorem d_Mod_readOne_126 : decode b_Mod_readOne 126 = .ok (.iconst 3, 1) := kq_6 byq_r (by decide +kernel)
theorem d_Mod_readOne_127 : decode b_Mod_readOne 127 = .ok (.iadd, 1) := kq_96 byq_r (by decide +kernel)
theorem d_Mod_readOne_128 : decode b_Mod_readOne 128 = .ok (.invokevirtual 220, 3) := kq_182 byq_r (a := 0) (b := 220) (by decide +kernel)
theorem d_Mod_readOne_131 : decode b_Mod_readOne 131 = .ok (.iastore, 1) := kq_79 byq_r (by decide +kernel)
theorem d_Mod_readOne_132 : decode b_Mod_readOne 132 = .ok (.return_, 1) := kq_177 byq_r (by decide +kernel)
theorem d_Mod_come_0 : decode b_Mod_come 0 = .ok (.aload_n 0, 1) := kq_42 byq_r (by decide +kernel)
theorem d_Mod_come_1 : decode b_Mod_come 1 = .ok (.getfield 123, 3) := kq_180 byq_r (a := 0) (b := 123) (by decide +kernel)
theorem d_Mod_come_4 : decode b_Mod_come 4 = .ok (.istore_n 2, 1) := kq_61 byq_r (by decide +kernel)
theorem d_Mod_come_5 : decode b_Mod_come 5 = .ok (.aload_n 0, 1) := kq_42 byq_r (by decide +kernel)
theorem d_Mod_come_6 : decode b_Mod_come 6 = .ok (.getfield 9, 3) := kq_180 byq_r (a := 0) (b := 9) (by decide +kernel)
theorem d_Mod_come_9 : decode b_Mod_come 9 = .ok (.iload_n 2, 1) := kq_28 byq_r (by decide +kernel)
theorem d_Mod_come_10 : decode b_Mod_come 10 = .ok (.aload_n 0, 1) := kq_42 byq_r (by decide +kernel)
theorem d_Mod_come_11 : decode b_Mod_come 11 = .ok (.getfield 42, 3) := kq_180 byq_r (a := 0) (b := 42) (by decide +kernel)
theorem d_Mod_come_14 : decode b_Mod_come 14 = .ok (.iload_n 1, 1) := kq_27 byq_r (by decide +kernel)
theorem d_Mod_come_15 : decode b_Mod_come 15 = .ok (.iaload, 1) := kq_46 byq_r (by decide +kernel)
theorem d_Mod_come_16 : decode b_Mod_come 16 = .ok (.aload_n 0, 1) := kq_42 byq_r (by decide +kernel)
theorem d_Mod_come_17 : decode b_Mod_come 17 = .ok (.getfield 42, 3) := kq_180 byq_r (a := 0) (b := 42) (by decide +kernel)
theorem d_Mod_come_20 : decode b_Mod_come 20 = .ok (.iload_n 1, 1) := kq_27 byq_r (by decide +kernel)
theorem d_Mod_come_21 : decode b_Mod_come 21 = .ok (.iconst 1, 1) := kq_4 byq_r (by decide +kernel)
theorem d_Mod_come_22 : decode b_Mod_come 22 = .ok (.iadd, 1) := kq_96 byq_r (by decide +kernel)
theorem d_Mod_come_23 : decode b_Mod_come 23 = .ok (.iaload, 1) := kq_46 byq_r (by decide +kernel)
theorem d_Mod_come_24 : decode b_Mod_come 24 = .ok (.invokestatic 154, 3) := kq_184 byq_r (a := 0) (b := 154) (by decide +kernel)
theorem d_Mod_come_27 : decode b_Mod_come 27 = .ok (.iastore, 1) := kq_79 byq_r (by decide +kernel)
theorem d_Mod_come_28 : decode b_Mod_come 28 = .ok (.aload_n 0, 1) := kq_42 byq_r (by decide +kernel)
theorem d_Mod_come_29 : decode b_Mod_come 29 = .ok (.dup, 1) := kq_89 byq_r (by decide +kernel)
theorem d_Mod_come_30 : decode b_Mod_come 30 = .ok (.getfield 130, 3) := kq_180 byq_r (a := 0) (b := 130) (by decide +kernel)
theorem d_Mod_come_33 : decode b_Mod_come 33 = .ok (.aload_n 0, 1) := kq_42 byq_r (by decide +kernel)
theorem d_Mod_come_34 : decode b_Mod_come 34 = .ok (.getfield 42, 3) := kq_180 byq_r (a := 0) (b := 42) (by decide +kernel)
theorem d_Mod_come_37 : decode b_Mod_come 37 = .ok (.iload_n 1, 1) := kq_27 byq_r (by decide +kernel)
theorem d_Mod_come_38 : decode b_Mod_come 38 = .ok (.iaload, 1) := kq_46 byq_r (by decide +kernel)
theorem d_Mod_come_39 : decode b_Mod_come 39 = .ok (.iload_n 2, 1) := kq_28 byq_r (by decide +kernel)
theorem d_Mod_come_40 : decode b_Mod_come 40 = .ok (.ishl, 1) := kq_120 byq_r (by decide +kernel)
theorem d_Mod_come_41 : decode b_Mod_come 41 = .ok (.ior, 1) := kq_128 byq_r (by decide +kernel)
theorem d_Mod_come_42 : decode b_Mod_come 42 = .ok (.putfield 130, 3) := kq_181 byq_r (a := 0) (b := 130) (by decide +kernel)
theorem d_Mod_come_45 : decode b_Mod_come 45 = .ok (.aload_n 0, 1) := kq_42 byq_r (by decide +kernel)
theorem d_Mod_come_46 : decode b_Mod_come 46 = .ok (.getfield 9, 3) := kq_180 byq_r (a := 0) (b := 9) (by decide +kernel)
theorem d_Mod_come_49 : decode b_Mod_come 49 = .ok (.bipush 8, 2) := kq_16 byq_r (b := 8) (by decide +kernel)
theorem d_Mod_come_51 : decode b_Mod_come 51 = .ok (.iload_n 2, 1) := kq_28 byq_r (by decide +kernel)
theorem d_Mod_come_52 : decode b_Mod_come 52 = .ok (.iadd, 1) := kq_96 byq_r (by decide +kernel)
theorem d_Mod_come_53 : decode b_Mod_come 53 = .ok (.iconst 0, 1) := kq_3 byq_r (by decide +kernel)
theorem d_Mod_come_54 : decode b_Mod_come 54 = .ok (.iastore, 1) := kq_79 byq_r (by decide +kernel)
theorem d_Mod_come_55 : decode b_Mod_come 55 = .ok (.iconst 0, 1) := kq_3 byq_r (by decide +kernel)
theorem d_Mod_come_56 : decode b_Mod_come 56 = .ok (.istore_n 3, 1) := kq_62 byq_r (by decide +kernel)
theorem d_Mod_come_57 : decode b_Mod_come 57 = .ok (.iload_n 3, 1) := kq_29 byq_r (by decide +kernel)
theorem d_Mod_come_58 : decode b_Mod_come 58 = .ok (.bipush 8, 2) := kq_16 byq_r (b := 8) (by decide +kernel)
theorem d_Mod_come_60 : decode b_Mod_come 60 = .ok (.if_icmp .ge 39, 3) := kq_162 byq_r (a := 0) (b := 39) (by decide +kernel)
theorem d_Mod_come_63 : decode b_Mod_come 63 = .ok (.aload_n 0, 1) := kq_42 byq_r (by decide +kernel)
theorem d_Mod_come_64 : decode b_Mod_come 64 = .ok (.getfield 9, 3) := kq_180 byq_r (a := 0) (b := 9) (by decide +kernel)
theorem d_Mod_come_67 : decode b_Mod_come 67 = .ok (.bipush 16, 2) := kq_16 byq_r (b := 16) (by decide +kernel)
theorem d_Mod_come_69 : decode b_Mod_come 69 = .ok (.bipush 8, 2) := kq_16 byq_r (b := 8) (by decide +kernel)
theorem d_Mod_come_71 : decode b_Mod_come 71 = .ok (.iload_n 2, 1) := kq_28 byq_r (by decide +kernel)
theorem d_Mod_come_72 : decode b_Mod_come 72 = .ok (.imul, 1) := kq_104 byq_r (by decide +kernel)
theorem d_Mod_come_73 : decode b_Mod_come 73 = .ok (.iadd, 1) := kq_96 byq_r (by decide +kernel)
theorem d_Mod_come_74 : decode b_Mod_come 74 = .ok (.iload_n 3, 1) := kq_29 byq_r (by decide +kernel)
theorem d_Mod_come_75 : decode b_Mod_come 75 = .ok (.iadd, 1) := kq_96 byq_r (by decide +kernel)
theorem d_Mod_come_76 : decode b_Mod_come 76 = .ok (.iconst 0, 1) := kq_3 byq_r (by decide +kernel)
theorem d_Mod_come_77 : decode b_Mod_come 77 = .ok (.iastore, 1) := kq_79 byq_r (by decide +kernel)
theorem d_Mod_come_78 : decode b_Mod_come 78 = .ok (.aload_n 0, 1) := kq_42 byq_r (by decide +kernel)
theorem d_Mod_come_79 : decode b_Mod_come 79 = .ok (.getfield 9, 3) := kq_180 byq_r (a := 0) (b := 9) (by decide +kernel)
theorem d_Mod_come_82 : decode b_Mod_come 82 = .ok (.bipush 16, 2) := kq_16 byq_r (b := 16) (by decide +kernel)
theorem d_Mod_come_84 : decode b_Mod_come 84 = .ok (.bipush 8, 2) := kq_16 byq_r (b := 8) (by decide +kernel)
theorem d_Mod_come_86 : decode b_Mod_come 86 = .ok (.iload_n 3, 1) := kq_29 byq_r (by decide +kernel)
theorem d_Mod_come_87 : decode b_Mod_come 87 = .ok (.imul, 1) := kq_104 byq_r (by decide +kernel)
theorem d_Mod_come_88 : decode b_Mod_come 88 = .ok (.iadd, 1) := kq_96 byq_r (by decide +kernel)
theorem d_Mod_come_89 : decode b_Mod_come 89 = .ok (.iload_n 2, 1) := kq_28 byq_r (by decide +kernel)
theorem d_Mod_come_90 : decode b_Mod_come 90 = .ok (.iadd, 1) := kq_96 byq_r (by decide +kernel)
theorem d_Mod_come_91 : decode b_Mod_come 91 = .ok (.iconst 0, 1) := kq_3 byq_r (by decide +kernel)
theorem d_Mod_come_92 : decode b_Mod_come 92 = .ok (.iastore, 1) := kq_79 byq_r (by decide +kernel)
theorem d_Mod_come_93 : decode b_Mod_come 93 = .ok (.iinc 3 1, 3) := kq_132 byq_r (b := 1) (by decide +kernel)
theorem d_Mod_come_96 : decode b_Mod_come 96 = .ok (.goto (-39), 3) := kq_167 byq_r (a := 255) (b := 217) (by decide +kernel)
theorem d_Mod_come_99 : decode b_Mod_come 99 = .ok (.aload_n 0, 1) := kq_42 byq_r (by decide +kernel)
theorem d_Mod_come_100 : decode b_Mod_come 100 = .ok (.getfield 26, 3) := kq_180 byq_r (a := 0) (b := 26) (by decide +kernel)
theorem d_Mod_come_103 : decode b_Mod_come 103 = .ok (.iload_n 2, 1) := kq_28 byq_r (by decide +kernel)
theorem d_Mod_come_104 : decode b_Mod_come 104 = .ok (.aload_n 0, 1) := kq_42 byq_r (by decide +kernel)
theorem d_Mod_come_105 : decode b_Mod_come 105 = .ok (.getfield 42, 3) := kq_180 byq_r (a := 0) (b := 42) (by decide +kernel)
theorem d_Mod_come_108 : decode b_Mod_come 108 = .ok (.iload_n 1, 1) := kq_27 byq_r (by decide +kernel)
theorem d_Mod_come_109 : decode b_Mod_come 109 = .ok (.iconst 2, 1) := kq_5 byq_r (by decide +kernel)
theorem d_Mod_come_110 : decode b_Mod_come 110 = .ok (.iadd, 1) := kq_96 byq_r (by decide +kernel)
theorem d_Mod_come_111 : decode b_Mod_come 111 = .ok (.iaload, 1) := kq_46 byq_r (by decide +kernel)
theorem d_Mod_come_112 : decode b_Mod_come 112 = .ok (.iastore, 1) := kq_79 byq_r (by decide +kernel)
theorem d_Mod_come_113 : decode b_Mod_come 113 = .ok (.iconst 0, 1) := kq_3 byq_r (by decide +kernel)
theorem d_Mod_come_114 : decode b_Mod_come 114 = .ok (.istore_n 3, 1) := kq_62 byq_r (by decide +kernel)
theorem d_Mod_come_115 : decode b_Mod_come 115 = .ok (.iload_n 3, 1) := kq_29 byq_r (by decide +kernel)
theorem d_Mod_come_116 : decode b_Mod_come 116 = .ok (.aload_n 0, 1) := kq_42 byq_r (by decide +kernel)
theorem d_Mod_come_117 : decode b_Mod_come 117 = .ok (.getfield 42, 3) := kq_180 byq_r (a := 0) (b := 42) (by decide +kernel)
theorem d_Mod_come_120 : decode b_Mod_come 120 = .ok (.iload_n 1, 1) := kq_27 byq_r (by decide +kernel)
theorem d_Mod_come_121 : decode b_Mod_come 121 = .ok (.iconst 2, 1) := kq_5 byq_r (by decide +kernel)
theorem d_Mod_come_122 : decode b_Mod_come 122 = .ok (.iadd, 1) := kq_96 byq_r (by decide +kernel)
theorem d_Mod_come_123 : decode b_Mod_come 123 = .ok (.iaload, 1) := kq_46 byq_r (by decide +kernel)
theorem d_Mod_come_124 : decode b_Mod_come 124 = .ok (.if_icmp .ge 30, 3) := kq_162 byq_r (a := 0) (b := 30) (by decide +kernel)
theorem d_Mod_come_127 : decode b_Mod_come 127 = .ok (.aload_n 0, 1) := kq_42 byq_r (by decide +kernel)
theorem d_Mod_come_128 : decode b_Mod_come 128 = .ok (.getfield 23, 3) := kq_180 byq_r (a := 0) (b := 23) (by decide +kernel)
theorem d_Mod_come_131 : decode b_Mod_come 131 = .ok (.bipush 9, 2) := kq_16 byq_r (b := 9) (by decide +kernel)
theorem d_Mod_come_133 : decode b_Mod_come 133 = .ok (.iload_n 2, 1) := kq_28 byq_r (by decide +kernel)
theorem d_Mod_come_134 : decode b_Mod_come 134 = .ok (.imul, 1) := kq_104 byq_r (by decide +kernel)
theorem d_Mod_come_135 : decode b_Mod_come 135 = .ok (.iload_n 3, 1) := kq_29 byq_r (by decide +kernel)
theorem d_Mod_come_136 : decode b_Mod_come 136 = .ok (.iadd, 1) := kq_96 byq_r (by decide +kernel)
theorem d_Mod_come_137 : decode b_Mod_come 137 = .ok (.aload_n 0, 1) := kq_42 byq_r (by decide +kernel)
theorem d_Mod_come_138 : decode b_Mod_come 138 = .ok (.getfield 42, 3) := kq_180 byq_r (a := 0) (b := 42) (by decide +kernel)
theorem d_Mod_come_141 : decode b_Mod_come 141 = .ok (.iload_n 1, 1) := kq_27 byq_r (by decide +kernel)
theorem d_Mod_come_142 : decode b_Mod_come 142 = .ok (.iconst 3, 1) := kq_6 byq_r (by decide +kernel)
theorem d_Mod_come_143 : decode b_Mod_come 143 = .ok (.iadd, 1) := kq_96 byq_r (by decide +kernel)
theorem d_Mod_come_144 : decode b_Mod_come 144 = .ok (.iload_n 3, 1) := kq_29 byq_r (by decide +kernel)
theorem d_Mod_come_145 : decode b_Mod_come 145 = .ok (.iadd, 1) := kq_96 byq_r (by decide +kernel)
theorem d_Mod_come_146 : decode b_Mod_come 146 = .ok (.iaload, 1) := kq_46 byq_r (by decide +kernel)
theorem d_Mod_come_147 : decode b_Mod_come 147 = .ok (.iastore, 1) := kq_79 byq_r (by decide +kernel)
theorem d_Mod_come_148 : decode b_Mod_come 148 = .ok (.iinc 3 1, 3) := kq_132 byq_r (b := 1) (by decide +kernel)
theorem d_Mod_come_151 : decode b_Mod_come 151 = .ok (.goto (-36), 3) := kq_167 byq_r (a := 255) (b := 220) (by decide +kernel)
theorem d_Mod_come_154 : decode b_Mod_come 154 = .ok (.aload_n 0, 1) := kq_42 byq_r (by decide +kernel)
theorem d_Mod_come_155 : decode b_Mod_come 155 = .ok (.dup, 1) := kq_89 byq_r (by decide +kernel)
theorem d_Mod_come_156 : decode b_Mod_come 156 = .ok (.getfield 123, 3) := kq_180 byq_r (a := 0) (b := 123) (by decide +kernel)
theorem d_Mod_come_159 : decode b_Mod_come 159 = .ok (.iconst 1, 1) := kq_4 byq_r (by decide +kernel)
theorem d_Mod_come_160 : decode b_Mod_come 160 = .ok (.iadd, 1) := kq_96 byq_r (by decide +kernel)
theorem d_Mod_come_161 : decode b_Mod_come 161 = .ok (.putfield 123, 3) := kq_181 byq_r (a := 0) (b := 123) (by decide +kernel)
theorem d_Mod_come_164 : decode b_Mod_come 164 = .ok (.return_, 1) := kq_177 byq_r (by decide +kernel)
theorem d_Mod_folk_0 : decode b_Mod_folk 0 = .ok (.aload_n 0, 1) := kq_42 byq_r (by decide +kernel)
theorem d_Mod_folk_1 : decode b_Mod_folk 1 = .ok (.iconst 0, 1) := kq_3 byq_r (by decide +kernel)
theorem d_Mod_folk_2 : decode b_Mod_folk 2 = .ok (.putfield 109, 3) := kq_181 byq_r (a := 0) (b := 109) (by decide +kernel)
theorem d_Mod_folk_5 : decode b_Mod_folk 5 = .ok (.aload_n 0, 1) := kq_42 byq_r (by decide +kernel)
theorem d_Mod_folk_6 : decode b_Mod_folk 6 = .ok (.aload_n 0, 1) := kq_42 byq_r (by decide +kernel)
theorem d_Mod_folk_7 : decode b_Mod_folk 7 = .ok (.getfield 32, 3) := kq_180 byq_r (a := 0) (b := 32) (by decide +kernel)
theorem d_Mod_folk_10 : decode b_Mod_folk 10 = .ok (.aload_n 0, 1) := kq_42 byq_r (by decide +kernel)
theorem d_Mod_folk_11 : decode b_Mod_folk 11 = .ok (.getfield 161, 3) := kq_180 byq_r (a := 0) (b := 161) (by decide +kernel)
theorem d_Mod_folk_14 : decode b_Mod_folk 14 = .ok (.bipush 76, 2) := kq_16 byq_r (b := 76) (by decide +kernel)
theorem d_Mod_folk_16 : decode b_Mod_folk 16 = .ok (.invokevirtual 194, 3) := kq_182 byq_r (a := 0) (b := 194) (by decide +kernel)
theorem d_Mod_folk_19 : decode b_Mod_folk 19 = .ok (.aload_n 0, 1) := kq_42 byq_r (by decide +kernel)
theorem d_Mod_folk_20 : decode b_Mod_folk 20 = .ok (.iconst 0, 1) := kq_3 byq_r (by decide +kernel)
theorem d_Mod_folk_21 : decode b_Mod_folk 21 = .ok (.putfield 161, 3) := kq_181 byq_r (a := 0) (b := 161) (by decide +kernel)
theorem d_Mod_folk_24 : decode b_Mod_folk 24 = .ok (.aload_n 0, 1) := kq_42 byq_r (by decide +kernel)
theorem d_Mod_folk_25 : decode b_Mod_folk 25 = .ok (.getfield 167, 3) := kq_180 byq_r (a := 0) (b := 167) (by decide +kernel)
theorem d_Mod_folk_28 : decode b_Mod_folk 28 = .ok (.ifCond .ne 5, 3) := kq_154 byq_r (a := 0) (b := 5) (by decide +kernel)
theorem d_Mod_folk_31 : decode b_Mod_folk 31 = .ok (.iconst 0, 1) := kq_3 byq_r (by decide +kernel)
theorem d_Mod_folk_32 : decode b_Mod_folk 32 = .ok (.ireturn, 1) := kq_172 byq_r (by decide +kernel)
theorem d_Mod_folk_33 : decode b_Mod_folk 33 = .ok (.iconst 0, 1) := kq_3 byq_r (by decide +kernel)
theorem d_Mod_folk_34 : decode b_Mod_folk 34 = .ok (.istore_n 1, 1) := kq_60 byq_r (by decide +kernel)
theorem d_Mod_folk_35 : decode b_Mod_folk 35 = .ok (.iconst 1, 1) := kq_4 byq_r (by decide +kernel)
theorem d_Mod_folk_36 : decode b_Mod_folk 36 = .ok (.istore_n 2, 1) := kq_61 byq_r (by decide +kernel)
theorem d_Mod_folk_37 : decode b_Mod_folk 37 = .ok (.iload_n 2, 1) := kq_28 byq_r (by decide +kernel)
theorem d_Mod_folk_38 : decode b_Mod_folk 38 = .ok (.ifCond .eq 53, 3) := kq_153 byq_r (a := 0) (b := 53) (by decide +kernel)
theorem d_Mod_folk_41 : decode b_Mod_folk 41 = .ok (.aload_n 0, 1) := kq_42 byq_r (by decide +kernel)
theorem d_Mod_folk_42 : decode b_Mod_folk 42 = .ok (.invokevirtual 179, 3) := kq_182 byq_r (a := 0) (b := 179) (by decide +kernel)
theorem d_Mod_folk_45 : decode b_Mod_folk 45 = .ok (.ifCond .eq 46, 3) := kq_153 byq_r (a := 0) (b := 46) (by decide +kernel)
theorem d_Mod_folk_48 : decode b_Mod_folk 48 = .ok (.aload_n 0, 1) := kq_42 byq_r (by decide +kernel)
theorem d_Mod_folk_49 : decode b_Mod_folk 49 = .ok (.getfield 123, 3) := kq_180 byq_r (a := 0) (b := 123) (by decide +kernel)
theorem d_Mod_folk_52 : decode b_Mod_folk 52 = .ok (.iload_n 1, 1) := kq_27 byq_r (by decide +kernel)
theorem d_Mod_folk_53 : decode b_Mod_folk 53 = .ok (.iadd, 1) := kq_96 byq_r (by decide +kernel)
theorem d_Mod_folk_54 : decode b_Mod_folk 54 = .ok (.bipush 8, 2) := kq_16 byq_r (b := 8) (by decide +kernel)
theorem d_Mod_folk_56 : decode b_Mod_folk 56 = .ok (.if_icmp .ne 14, 3) := kq_160 byq_r (a := 0) (b := 14) (by decide +kernel)
theorem d_Mod_folk_59 : decode b_Mod_folk 59 = .ok (.aload_n 0, 1) := kq_42 byq_r (by decide +kernel)
theorem d_Mod_folk_60 : decode b_Mod_folk 60 = .ok (.aload_n 0, 1) := kq_42 byq_r (by decide +kernel)
theorem d_Mod_folk_61 : decode b_Mod_folk 61 = .ok (.getfield 173, 3) := kq_180 byq_r (a := 0) (b := 173) (by decide +kernel)
theorem d_Mod_folk_64 : decode b_Mod_folk 64 = .ok (.invokevirtual 190, 3) := kq_182 byq_r (a := 0) (b := 190) (by decide +kernel)
theorem d_Mod_folk_67 : decode b_Mod_folk 67 = .ok (.goto 11, 3) := kq_167 byq_r (a := 0) (b := 11) (by decide +kernel)
theorem d_Mod_folk_70 : decode b_Mod_folk 70 = .ok (.aload_n 0, 1) := kq_42 byq_r (by decide +kernel)
theorem d_Mod_folk_71 : decode b_Mod_folk 71 = .ok (.bipush 12, 2) := kq_16 byq_r (b := 12) (by decide +kernel)
theorem d_Mod_folk_73 : decode b_Mod_folk 73 = .ok (.iload_n 1, 1) := kq_27 byq_r (by decide +kernel)
theorem d_Mod_folk_74 : decode b_Mod_folk 74 = .ok (.imul, 1) := kq_104 byq_r (by decide +kernel)
theorem d_Mod_folk_75 : decode b_Mod_folk 75 = .ok (.invokevirtual 204, 3) := kq_182 byq_r (a := 0) (b := 204) (by decide +kernel)
theorem d_Mod_folk_78 : decode b_Mod_folk 78 = .ok (.iinc 1 1, 3) := kq_132 byq_r (b := 1) (by decide +kernel)
theorem d_Mod_folk_81 : decode b_Mod_folk 81 = .ok (.aload_n 0, 1) := kq_42 byq_r (by decide +kernel)
theorem d_Mod_folk_82 : decode b_Mod_folk 82 = .ok (.bipush 59, 2) := kq_16 byq_r (b := 59) (by decide +kernel)
theorem d_Mod_folk_84 : decode b_Mod_folk 84 = .ok (.invokevirtual 186, 3) := kq_182 byq_r (a := 0) (b := 186) (by decide +kernel)
theorem d_Mod_folk_87 : decode b_Mod_folk 87 = .ok (.istore_n 2, 1) := kq_61 byq_r (by decide +kernel)
theorem d_Mod_folk_88 : decode b_Mod_folk 88 = .ok (.goto (-51), 3) := kq_167 byq_r (a := 255) (b := 205) (by decide +kernel)
theorem d_Mod_folk_91 : decode b_Mod_folk 91 = .ok (.aload_n 0, 1) := kq_42 byq_r (by decide +kernel)
theorem d_Mod_folk_92 : decode b_Mod_folk 92 = .ok (.getfield 173, 3) := kq_180 byq_r (a := 0) (b := 173) (by decide +kernel)
theorem d_Mod_folk_95 : decode b_Mod_folk 95 = .ok (.aload_n 0, 1) := kq_42 byq_r (by decide +kernel)
theorem d_Mod_folk_96 : decode b_Mod_folk 96 = .ok (.getfield 167, 3) := kq_180 byq_r (a := 0) (b := 167) (by decide +kernel)
theorem d_Mod_folk_99 : decode b_Mod_folk 99 = .ok (.if_icmp .ge 11, 3) := kq_162 byq_r (a := 0) (b := 11) (by decide +kernel)
theorem d_Mod_folk_102 : decode b_Mod_folk 102 = .ok (.aload_n 0, 1) := kq_42 byq_r (by decide +kernel)
theorem d_Mod_folk_103 : decode b_Mod_folk 103 = .ok (.aload_n 0, 1) := kq_42 byq_r (by decide +kernel)
theorem d_Mod_folk_104 : decode b_Mod_folk 104 = .ok (.getfield 173, 3) := kq_180 byq_r (a := 0) (b := 173) (by decide +kernel)
theorem d_Mod_folk_107 : decode b_Mod_folk 107 = .ok (.invokevirtual 190, 3) := kq_182 byq_r (a := 0) (b := 190) (by decide +kernel)
theorem d_Mod_folk_110 : decode b_Mod_folk 110 = .ok (.aload_n 0, 1) := kq_42 byq_r (by decide +kernel)
theorem d_Mod_folk_111 : decode b_Mod_folk 111 = .ok (.invokevirtual 179, 3) := kq_182 byq_r (a := 0) (b := 179) (by decide +kernel)
theorem d_Mod_folk_114 : decode b_Mod_folk 114 = .ok (.ifCond .ne 10, 3) := kq_154 byq_r (a := 0) (b := 10) (by decide +kernel)
theorem d_Mod_folk_117 : decode b_Mod_folk 117 = .ok (.iconst (-1), 1) := kq_2 byq_r (by decide +kernel)
theorem d_Mod_folk_118 : decode b_Mod_folk 118 = .ok (.aload_n 0, 1) := kq_42 byq_r (by decide +kernel)
theorem d_Mod_folk_119 : decode b_Mod_folk 119 = .ok (.getfield 176, 3) := kq_180 byq_r (a := 0) (b := 176) (by decide +kernel)
theorem d_Mod_folk_122 : decode b_Mod_folk 122 = .ok (.isub, 1) := kq_100 byq_r (by decide +kernel)
theorem d_Mod_folk_123 : decode b_Mod_folk 123 = .ok (.ireturn, 1) := kq_172 byq_r (by decide +kernel)
theorem d_Mod_folk_124 : decode b_Mod_folk 124 = .ok (.iconst 0, 1) := kq_3 byq_r (by decide +kernel)
theorem d_Mod_folk_125 : decode b_Mod_folk 125 = .ok (.istore_n 3, 1) := kq_62 byq_r (by decide +kernel)
theorem d_Mod_folk_126 : decode b_Mod_folk 126 = .ok (.iload_n 3, 1) := kq_29 byq_r (by decide +kernel)
theorem d_Mod_folk_127 : decode b_Mod_folk 127 = .ok (.iload_n 1, 1) := kq_27 byq_r (by decide +kernel)
theorem d_Mod_folk_128 : decode b_Mod_folk 128 = .ok (.if_icmp .ge 17, 3) := kq_162 byq_r (a := 0) (b := 17) (by decide +kernel)
theorem d_Mod_folk_131 : decode b_Mod_folk 131 = .ok (.aload_n 0, 1) := kq_42 byq_r (by decide +kernel)
theorem d_Mod_folk_132 : decode b_Mod_folk 132 = .ok (.bipush 12, 2) := kq_16 byq_r (b := 12) (by decide +kernel)
theorem d_Mod_folk_134 : decode b_Mod_folk 134 = .ok (.iload_n 3, 1) := kq_29 byq_r (by decide +kernel)
theorem d_Mod_folk_135 : decode b_Mod_folk 135 = .ok (.imul, 1) := kq_104 byq_r (by decide +kernel)
theorem d_Mod_folk_136 : decode b_Mod_folk 136 = .ok (.invokevirtual 207, 3) := kq_182 byq_r (a := 0) (b := 207) (by decide +kernel)
theorem d_Mod_folk_139 : decode b_Mod_folk 139 = .ok (.iinc 3 1, 3) := kq_132 byq_r (b := 1) (by decide +kernel)
theorem d_Mod_folk_142 : decode b_Mod_folk 142 = .ok (.goto (-16), 3) := kq_167 byq_r (a := 255) (b := 240) (by decide +kernel)
theorem d_Mod_folk_145 : decode b_Mod_folk 145 = .ok (.aload_n 0, 1) := kq_42 byq_r (by decide +kernel)
theorem d_Mod_folk_146 : decode b_Mod_folk 146 = .ok (.iconst 0, 1) := kq_3 byq_r (by decide +kernel)
theorem d_Mod_folk_147 : decode b_Mod_folk 147 = .ok (.putfield 201, 3) := kq_181 byq_r (a := 0) (b := 201) (by decide +kernel)
theorem d_Mod_folk_150 : decode b_Mod_folk 150 = .ok (.aload_n 0, 1) := kq_42 byq_r (by decide +kernel)
theorem d_Mod_folk_151 : decode b_Mod_folk 151 = .ok (.dup, 1) := kq_89 byq_r (by decide +kernel)
theorem d_Mod_folk_152 : decode b_Mod_folk 152 = .ok (.getfield 210, 3) := kq_180 byq_r (a := 0) (b := 210) (by decide +kernel)
theorem d_Mod_folk_155 : decode b_Mod_folk 155 = .ok (.iconst 1, 1) := kq_4 byq_r (by decide +kernel)
theorem d_Mod_folk_156 : decode b_Mod_folk 156 = .ok (.iadd, 1) := kq_96 byq_r (by decide +kernel)
theorem d_Mod_folk_157 : decode b_Mod_folk 157 = .ok (.putfield 210, 3) := kq_181 byq_r (a := 0) (b := 210) (by decide +kernel)
theorem d_Mod_folk_160 : decode b_Mod_folk 160 = .ok (.iload_n 1, 1) := kq_27 byq_r (by decide +kernel)
theorem d_Mod_folk_161 : decode b_Mod_folk 161 = .ok (.ireturn, 1) := kq_172 byq_r (by decide +kernel)
theorem d_Mod_route_0 : decode b_Mod_route 0 = .ok (.aload_n 0, 1) := kq_42 byq_r (by decide +kernel)
theorem d_Mod_route_1 : decode b_Mod_route 1 = .ok (.iconst 0, 1) := kq_3 byq_r (by decide +kernel)
theorem d_Mod_route_2 : decode b_Mod_route 2 = .ok (.putfield 109, 3) := kq_181 byq_r (a := 0) (b := 109) (by decide +kernel)
theorem d_Mod_route_5 : decode b_Mod_route 5 = .ok (.aload_n 0, 1) := kq_42 byq_r (by decide +kernel)
theorem d_Mod_route_6 : decode b_Mod_route 6 = .ok (.aload_n 0, 1) := kq_42 byq_r (by decide +kernel)
theorem d_Mod_route_7 : decode b_Mod_route 7 = .ok (.getfield 32, 3) := kq_180 byq_r (a := 0) (b := 32) (by decide +kernel)
theorem d_Mod_route_10 : decode b_Mod_route 10 = .ok (.aload_n 0, 1) := kq_42 byq_r (by decide +kernel)
theorem d_Mod_route_11 : decode b_Mod_route 11 = .ok (.getfield 161, 3) := kq_180 byq_r (a := 0) (b := 161) (by decide +kernel)
theorem d_Mod_route_14 : decode b_Mod_route 14 = .ok (.bipush 80, 2) := kq_16 byq_r (b := 80) (by decide +kernel)
theorem d_Mod_route_16 : decode b_Mod_route 16 = .ok (.invokevirtual 194, 3) := kq_182 byq_r (a := 0) (b := 194) (by decide +kernel)
theorem d_Mod_route_19 : decode b_Mod_route 19 = .ok (.aload_n 0, 1) := kq_42 byq_r (by decide +kernel)
theorem d_Mod_route_20 : decode b_Mod_route 20 = .ok (.iconst 0, 1) := kq_3 byq_r (by decide +kernel)
theorem d_Mod_route_21 : decode b_Mod_route 21 = .ok (.putfield 161, 3) := kq_181 byq_r (a := 0) (b := 161) (by decide +kernel)
theorem d_Mod_route_24 : decode b_Mod_route 24 = .ok (.aload_n 0, 1) := kq_42 byq_r (by decide +kernel)
theorem d_Mod_route_25 : decode b_Mod_route 25 = .ok (.iload_n 1, 1) := kq_27 byq_r (by decide +kernel)
theorem d_Mod_route_26 : decode b_Mod_route 26 = .ok (.invokevirtual 126, 3) := kq_182 byq_r (a := 0) (b := 126) (by decide +kernel)
theorem d_Mod_route_29 : decode b_Mod_route 29 = .ok (.ifCond .ne 6, 3) := kq_154 byq_r (a := 0) (b := 6) (by decide +kernel)
theorem d_Mod_route_32 : decode b_Mod_route 32 = .ok (.bipush (-100), 2) := kq_16 byq_r (b := 156) (by decide +kernel)
theorem d_Mod_route_34 : decode b_Mod_route 34 = .ok (.ireturn, 1) := kq_172 byq_r (by decide +kernel)
theorem d_Mod_route_35 : decode b_Mod_route 35 = .ok (.aload_n 0, 1) := kq_42 byq_r (by decide +kernel)
theorem d_Mod_route_36 : decode b_Mod_route 36 = .ok (.aload_n 0, 1) := kq_42 byq_r (by decide +kernel)
theorem d_Mod_route_37 : decode b_Mod_route 37 = .ok (.getfield 45, 3) := kq_180 byq_r (a := 0) (b := 45) (by decide +kernel)
theorem d_Mod_route_40 : decode b_Mod_route 40 = .ok (.iconst 0, 1) := kq_3 byq_r (by decide +kernel)
theorem d_Mod_route_41 : decode b_Mod_route 41 = .ok (.invokevirtual 220, 3) := kq_182 byq_r (a := 0) (b := 220) (by decide +kernel)
theorem d_Mod_route_44 : decode b_Mod_route 44 = .ok (.istore_n 2, 1) := kq_61 byq_r (by decide +kernel)
theorem d_Mod_route_45 : decode b_Mod_route 45 = .ok (.aload_n 0, 1) := kq_42 byq_r (by decide +kernel)
theorem d_Mod_route_46 : decode b_Mod_route 46 = .ok (.getfield 173, 3) := kq_180 byq_r (a := 0) (b := 173) (by decide +kernel)
theorem d_Mod_route_49 : decode b_Mod_route 49 = .ok (.aload_n 0, 1) := kq_42 byq_r (by decide +kernel)
theorem d_Mod_route_50 : decode b_Mod_route 50 = .ok (.getfield 167, 3) := kq_180 byq_r (a := 0) (b := 167) (by decide +kernel)
theorem d_Mod_route_53 : decode b_Mod_route 53 = .ok (.if_icmp .ge 11, 3) := kq_162 byq_r (a := 0) (b := 11) (by decide +kernel)
theorem d_Mod_route_56 : decode b_Mod_route 56 = .ok (.aload_n 0, 1) := kq_42 byq_r (by decide +kernel)
theorem d_Mod_route_57 : decode b_Mod_route 57 = .ok (.aload_n 0, 1) := kq_42 byq_r (by decide +kernel)
theorem d_Mod_route_58 : decode b_Mod_route 58 = .ok (.getfield 173, 3) := kq_180 byq_r (a := 0) (b := 173) (by decide +kernel)
theorem d_Mod_route_61 : decode b_Mod_route 61 = .ok (.invokevirtual 190, 3) := kq_182 byq_r (a := 0) (b := 190) (by decide +kernel)
theorem d_Mod_route_64 : decode b_Mod_route 64 = .ok (.aload_n 0, 1) := kq_42 byq_r (by decide +kernel)
theorem d_Mod_route_65 : decode b_Mod_route 65 = .ok (.invokevirtual 179, 3) := kq_182 byq_r (a := 0) (b := 179) (by decide +kernel)
theorem d_Mod_route_68 : decode b_Mod_route 68 = .ok (.ifCond .ne 10, 3) := kq_154 byq_r (a := 0) (b := 10) (by decide +kernel)
theorem d_Mod_route_71 : decode b_Mod_route 71 = .ok (.iconst (-1), 1) := kq_2 byq_r (by decide +kernel)
theorem d_Mod_route_72 : decode b_Mod_route 72 = .ok (.aload_n 0, 1) := kq_42 byq_r (by decide +kernel)
theorem d_Mod_route_73 : decode b_Mod_route 73 = .ok (.getfield 176, 3) := kq_180 byq_r (a := 0) (b := 176) (by decide +kernel)
theorem d_Mod_route_76 : decode b_Mod_route 76 = .ok (.isub, 1) := kq_100 byq_r (by decide +kernel)
theorem d_Mod_route_77 : decode b_Mod_route 77 = .ok (.ireturn, 1) := kq_172 byq_r (by decide +kernel)
theorem d_Mod_route_78 : decode b_Mod_route 78 = .ok (.aload_n 0, 1) := kq_42 byq_r (by decide +kernel)
theorem d_Mod_route_79 : decode b_Mod_route 79 = .ok (.getfield 26, 3) := kq_180 byq_r (a := 0) (b := 26) (by decide +kernel)
theorem d_Mod_route_82 : decode b_Mod_route 82 = .ok (.iload_n 1, 1) := kq_27 byq_r (by decide +kernel)
theorem d_Mod_route_83 : decode b_Mod_route 83 = .ok (.iload_n 2, 1) := kq_28 byq_r (by decide +kernel)
theorem d_Mod_route_84 : decode b_Mod_route 84 = .ok (.iastore, 1) := kq_79 byq_r (by decide +kernel)
theorem d_Mod_route_85 : decode b_Mod_route 85 = .ok (.iconst 0, 1) := kq_3 byq_r (by decide +kernel)
theorem d_Mod_route_86 : decode b_Mod_route 86 = .ok (.istore_n 3, 1) := kq_62 byq_r (by decide +kernel)
theorem d_Mod_route_87 : decode b_Mod_route 87 = .ok (.iload_n 3, 1) := kq_29 byq_r (by decide +kernel)
theorem d_Mod_route_88 : decode b_Mod_route 88 = .ok (.iload_n 2, 1) := kq_28 byq_r (by decide +kernel)
theorem d_Mod_route_89 : decode b_Mod_route 89 = .ok (.if_icmp .ge 26, 3) := kq_162 byq_r (a := 0) (b := 26) (by decide +kernel)
theorem d_Mod_route_92 : decode b_Mod_route 92 = .ok (.aload_n 0, 1) := kq_42 byq_r (by decide +kernel)
theorem d_Mod_route_93 : decode b_Mod_route 93 = .ok (.getfield 23, 3) := kq_180 byq_r (a := 0) (b := 23) (by decide +kernel)
theorem d_Mod_route_96 : decode b_Mod_route 96 = .ok (.bipush 9, 2) := kq_16 byq_r (b := 9) (by decide +kernel)
theorem d_Mod_route_98 : decode b_Mod_route 98 = .ok (.iload_n 1, 1) := kq_27 byq_r (by decide +kernel)
theorem d_Mod_route_99 : decode b_Mod_route 99 = .ok (.imul, 1) := kq_104 byq_r (by decide +kernel)
theorem d_Mod_route_100 : decode b_Mod_route 100 = .ok (.iload_n 3, 1) := kq_29 byq_r (by decide +kernel)
theorem d_Mod_route_101 : decode b_Mod_route 101 = .ok (.iadd, 1) := kq_96 byq_r (by decide +kernel)
theorem d_Mod_route_102 : decode b_Mod_route 102 = .ok (.aload_n 0, 1) := kq_42 byq_r (by decide +kernel)
theorem d_Mod_route_103 : decode b_Mod_route 103 = .ok (.getfield 45, 3) := kq_180 byq_r (a := 0) (b := 45) (by decide +kernel)
theorem d_Mod_route_106 : decode b_Mod_route 106 = .ok (.iload_n 3, 1) := kq_29 byq_r (by decide +kernel)
theorem d_Mod_route_107 : decode b_Mod_route 107 = .ok (.iaload, 1) := kq_46 byq_r (by decide +kernel)
theorem d_Mod_route_108 : decode b_Mod_route 108 = .ok (.iastore, 1) := kq_79 byq_r (by decide +kernel)
theorem d_Mod_route_109 : decode b_Mod_route 109 = .ok (.iinc 3 1, 3) := kq_132 byq_r (b := 1) (by decide +kernel)
theorem d_Mod_route_112 : decode b_Mod_route 112 = .ok (.goto (-25), 3) := kq_167 byq_r (a := 255) (b := 231) (by decide +kernel)
theorem d_Mod_route_115 : decode b_Mod_route 115 = .ok (.aload_n 0, 1) := kq_42 byq_r (by decide +kernel)
theorem d_Mod_route_116 : decode b_Mod_route 116 = .ok (.getfield 9, 3) := kq_180 byq_r (a := 0) (b := 9) (by decide +kernel)
theorem d_Mod_route_119 : decode b_Mod_route 119 = .ok (.bipush 8, 2) := kq_16 byq_r (b := 8) (by decide +kernel)
theorem d_Mod_route_121 : decode b_Mod_route 121 = .ok (.iload_n 1, 1) := kq_27 byq_r (by decide +kernel)
theorem d_Mod_route_122 : decode b_Mod_route 122 = .ok (.iadd, 1) := kq_96 byq_r (by decide +kernel)
theorem d_Mod_route_123 : decode b_Mod_route 123 = .ok (.iconst 0, 1) := kq_3 byq_r (by decide +kernel)
theorem d_Mod_route_124 : decode b_Mod_route 124 = .ok (.iastore, 1) := kq_79 byq_r (by decide +kernel)
theorem d_Mod_route_125 : decode b_Mod_route 125 = .ok (.aload_n 0, 1) := kq_42 byq_r (by decide +kernel)
theorem d_Mod_route_126 : decode b_Mod_route 126 = .ok (.iconst 0, 1) := kq_3 byq_r (by decide +kernel)
theorem d_Mod_route_127 : decode b_Mod_route 127 = .ok (.putfield 201, 3) := kq_181 byq_r (a := 0) (b := 201) (by decide +kernel)
theorem d_Mod_route_130 : decode b_Mod_route 130 = .ok (.aload_n 0, 1) := kq_42 byq_r (by decide +kernel)
theorem d_Mod_route_131 : decode b_Mod_route 131 = .ok (.dup, 1) := kq_89 byq_r (by decide +kernel)
theorem d_Mod_route_132 : decode b_Mod_route 132 = .ok (.getfield 210, 3) := kq_180 byq_r (a := 0) (b := 210) (by decide +kernel)
theorem d_Mod_route_135 : decode b_Mod_route 135 = .ok (.iconst 1, 1) := kq_4 byq_r (by decide +kernel)
theorem d_Mod_route_136 : decode b_Mod_route 136 = .ok (.iadd, 1) := kq_96 byq_r (by decide +kernel)
theorem d_Mod_route_137 : decode b_Mod_route 137 = .ok (.putfield 210, 3) := kq_181 byq_r (a := 0) (b := 210) (by decide +kernel)
theorem d_Mod_route_140 : decode b_Mod_route 140 = .ok (.iload_n 2, 1) := kq_28 byq_r (by decide +kernel)
theorem d_Mod_route_141 : decode b_Mod_route 141 = .ok (.ireturn, 1) := kq_172 byq_r (by decide +kernel)
theorem d_Mod_letter_0 : decode b_Mod_letter 0 = .ok (.aload_n 2, 1) := kq_44 byq_r (by decide +kernel)
theorem d_Mod_letter_1 : decode b_Mod_letter 1 = .ok (.iload_n 3, 1) := kq_29 byq_r (by decide +kernel)
theorem d_Mod_letter_2 : decode b_Mod_letter 2 = .ok (.iaload, 1) := kq_46 byq_r (by decide +kernel)
theorem d_Mod_letter_3 : decode b_Mod_letter 3 = .ok (.invokestatic 147, 3) := kq_184 byq_r (a := 0) (b := 147) (by decide +kernel)
theorem d_Mod_letter_6 : decode b_Mod_letter 6 = .ok (.istore 4, 2) := kq_54 byq_r (by decide +kernel)
theorem d_Mod_letter_8 : decode b_Mod_letter 8 = .ok (.iload_n 1, 1) := kq_27 byq_r (by decide +kernel)
theorem d_Mod_letter_9 : decode b_Mod_letter 9 = .ok (.tableswitch 141 105 121 #[88, 141, 132, 141, 83, 141, 141, 141, 141, 141, 115, 141, 141, 141, 90, 99, 107], 83) := by decide +kernel
theorem d_Mod_letter_92 : decode b_Mod_letter 92 = .ok (.aload_n 2, 1) := kq_44 byq_r (by decide +kernel)
theorem d_Mod_letter_93 : decode b_Mod_letter 93 = .ok (.bipush 95, 2) := kq_16 byq_r (b := 95) (by decide +kernel)
theorem d_Mod_letter_95 : decode b_Mod_letter 95 = .ok (.iaload, 1) := kq_46 byq_r (by decide +kernel)
theorem d_Mod_letter_96 : decode b_Mod_letter 96 = .ok (.ireturn, 1) := kq_172 byq_r (by decide +kernel)
theorem d_Mod_letter_97 : decode b_Mod_letter 97 = .ok (.iload_n 3, 1) := kq_29 byq_r (by decide +kernel)
theorem d_Mod_letter_98 : decode b_Mod_letter 98 = .ok (.ireturn, 1) := kq_172 byq_r (by decide +kernel)
theorem d_Mod_letter_99 : decode b_Mod_letter 99 = .ok (.aload_n 0, 1) := kq_42 byq_r (by decide +kernel)
theorem d_Mod_letter_100 : decode b_Mod_letter 100 = .ok (.getfield 130, 3) := kq_180 byq_r (a := 0) (b := 130) (by decide +kernel)
theorem d_Mod_letter_103 : decode b_Mod_letter 103 = .ok (.iload_n 3, 1) := kq_29 byq_r (by decide +kernel)
theorem d_Mod_letter_104 : decode b_Mod_letter 104 = .ok (.ishr, 1) := kq_122 byq_r (by decide +kernel)
theorem d_Mod_letter_105 : decode b_Mod_letter 105 = .ok (.iconst 1, 1) := kq_4 byq_r (by decide +kernel)
theorem d_Mod_letter_106 : decode b_Mod_letter 106 = .ok (.iand, 1) := kq_126 byq_r (by decide +kernel)
theorem d_Mod_letter_107 : decode b_Mod_letter 107 = .ok (.ireturn, 1) := kq_172 byq_r (by decide +kernel)
theorem d_Mod_letter_108 : decode b_Mod_letter 108 = .ok (.iload 4, 2) := kq_21 byq_r (by decide +kernel)
theorem d_Mod_letter_110 : decode b_Mod_letter 110 = .ok (.aload_n 0, 1) := kq_42 byq_r (by decide +kernel)
theorem d_Mod_letter_111 : decode b_Mod_letter 111 = .ok (.getfield 16, 3) := kq_180 byq_r (a := 0) (b := 16) (by decide +kernel)
theorem d_Mod_letter_114 : decode b_Mod_letter 114 = .ok (.irem, 1) := kq_112 byq_r (by decide +kernel)
theorem d_Mod_letter_115 : decode b_Mod_letter 115 = .ok (.ireturn, 1) := kq_172 byq_r (by decide +kernel)
theorem d_Mod_letter_116 : decode b_Mod_letter 116 = .ok (.iload 4, 2) := kq_21 byq_r (by decide +kernel)
theorem d_Mod_letter_118 : decode b_Mod_letter 118 = .ok (.aload_n 0, 1) := kq_42 byq_r (by decide +kernel)
theorem d_Mod_letter_119 : decode b_Mod_letter 119 = .ok (.getfield 16, 3) := kq_180 byq_r (a := 0) (b := 16) (by decide +kernel)
theorem d_Mod_letter_122 : decode b_Mod_letter 122 = .ok (.idiv, 1) := kq_108 byq_r (by decide +kernel)
theorem d_Mod_letter_123 : decode b_Mod_letter 123 = .ok (.ireturn, 1) := kq_172 byq_r (by decide +kernel)
theorem d_Mod_letter_124 : decode b_Mod_letter 124 = .ok (.aload_n 0, 1) := kq_42 byq_r (by decide +kernel)
theorem d_Mod_letter_125 : decode b_Mod_letter 125 = .ok (.getfield 13, 3) := kq_180 byq_r (a := 0) (b := 13) (by decide +kernel)
theorem d_Mod_letter_128 : decode b_Mod_letter 128 = .ok (.iload 4, 2) := kq_21 byq_r (by decide +kernel)
theorem d_Mod_letter_130 : decode b_Mod_letter 130 = .ok (.iaload, 1) := kq_46 byq_r (by decide +kernel)
theorem d_Mod_letter_131 : decode b_Mod_letter 131 = .ok (.iconst 3, 1) := kq_6 byq_r (by decide +kernel)
theorem d_Mod_letter_132 : decode b_Mod_letter 132 = .ok (.if_icmp .ne 7, 3) := kq_160 byq_r (a := 0) (b := 7) (by decide +kernel)
theorem d_Mod_letter_135 : decode b_Mod_letter 135 = .ok (.iconst 1, 1) := kq_4 byq_r (by decide +kernel)
theorem d_Mod_letter_136 : decode b_Mod_letter 136 = .ok (.goto 4, 3) := kq_167 byq_r (a := 0) (b := 4) (by decide +kernel)
theorem d_Mod_letter_139 : decode b_Mod_letter 139 = .ok (.iconst 0, 1) := kq_3 byq_r (by decide +kernel)
theorem d_Mod_letter_140 : decode b_Mod_letter 140 = .ok (.ireturn, 1) := kq_172 byq_r (by decide +kernel)
theorem d_Mod_letter_141 : decode b_Mod_letter 141 = .ok (.aload_n 2, 1) := kq_44 byq_r (by decide +kernel)
theorem d_Mod_letter_142 : decode b_Mod_letter 142 = .ok (.bipush 93, 2) := kq_16 byq_r (b := 93) (by decide +kernel)
theorem d_Mod_letter_144 : decode b_Mod_letter 144 = .ok (.iaload, 1) := kq_46 byq_r (by decide +kernel)
theorem d_Mod_letter_145 : decode b_Mod_letter 145 = .ok (.iload_n 3, 1) := kq_29 byq_r (by decide +kernel)
theorem d_Mod_letter_146 : decode b_Mod_letter 146 = .ok (.ishr, 1) := kq_122 byq_r (by decide +kernel)
theorem d_Mod_letter_147 : decode b_Mod_letter 147 = .ok (.iconst 1, 1) := kq_4 byq_r (by decide +kernel)
theorem d_Mod_letter_148 : decode b_Mod_letter 148 = .ok (.iand, 1) := kq_126 byq_r (by decide +kernel)
theorem d_Mod_letter_149 : decode b_Mod_letter 149 = .ok (.ireturn, 1) := kq_172 byq_r (by decide +kernel)
theorem d_Mod_letter_150 : decode b_Mod_letter 150 = .ok (.iconst 0, 1) := kq_3 byq_r (by decide +kernel)
theorem d_Mod_letter_151 : decode b_Mod_letter 151 = .ok (.istore 5, 2) := kq_54 byq_r (by decide +kernel)
theorem d_Mod_letter_153 : decode b_Mod_letter 153 = .ok (.iconst 0, 1) := kq_3 byq_r (by decide +kernel)
theorem d_Mod_letter_154 : decode b_Mod_letter 154 = .ok (.istore 6, 2) := kq_54 byq_r (by decide +kernel)
theorem d_Mod_letter_156 : decode b_Mod_letter 156 = .ok (.iload 6, 2) := kq_21 byq_r (by decide +kernel)
theorem d_Mod_letter_158 : decode b_Mod_letter 158 = .ok (.aload_n 0, 1) := kq_42 byq_r (by decide +kernel)
theorem d_Mod_letter_159 : decode b_Mod_letter 159 = .ok (.getfield 123, 3) := kq_180 byq_r (a := 0) (b := 123) (by decide +kernel)
theorem d_Mod_letter_162 : decode b_Mod_letter 162 = .ok (.if_icmp .ge 35, 3) := kq_162 byq_r (a := 0) (b := 35) (by decide +kernel)
theorem d_Mod_letter_165 : decode b_Mod_letter 165 = .ok (.iload 5, 2) := kq_21 byq_r (by decide +kernel)
theorem d_Mod_letter_167 : decode b_Mod_letter 167 = .ok (.iload 6, 2) := kq_21 byq_r (by decide +kernel)
theorem d_Mod_letter_169 : decode b_Mod_letter 169 = .ok (.iload_n 3, 1) := kq_29 byq_r (by decide +kernel)
theorem d_Mod_letter_170 : decode b_Mod_letter 170 = .ok (.if_icmp .eq 17, 3) := kq_159 byq_r (a := 0) (b := 17) (by decide +kernel)
theorem d_Mod_letter_173 : decode b_Mod_letter 173 = .ok (.aload_n 2, 1) := kq_44 byq_r (by decide +kernel)
theorem d_Mod_letter_174 : decode b_Mod_letter 174 = .ok (.iload 6, 2) := kq_21 byq_r (by decide +kernel)
theorem d_Mod_letter_176 : decode b_Mod_letter 176 = .ok (.iaload, 1) := kq_46 byq_r (by decide +kernel)
theorem d_Mod_letter_177 : decode b_Mod_letter 177 = .ok (.aload_n 2, 1) := kq_44 byq_r (by decide +kernel)
theorem d_Mod_letter_178 : decode b_Mod_letter 178 = .ok (.iload_n 3, 1) := kq_29 byq_r (by decide +kernel)
theorem d_Mod_letter_179 : decode b_Mod_letter 179 = .ok (.iaload, 1) := kq_46 byq_r (by decide +kernel)
theorem d_Mod_letter_180 : decode b_Mod_letter 180 = .ok (.if_icmp .ne 7, 3) := kq_160 byq_r (a := 0) (b := 7) (by decide +kernel)
theorem d_Mod_letter_183 : decode b_Mod_letter 183 = .ok (.iconst 1, 1) := kq_4 byq_r (by decide +kernel)
theorem d_Mod_letter_184 : decode b_Mod_letter 184 = .ok (.goto 4, 3) := kq_167 byq_r (a := 0) (b := 4) (by decide +kernel)
theorem d_Mod_letter_187 : decode b_Mod_letter 187 = .ok (.iconst 0, 1) := kq_3 byq_r (by decide +kernel)
theorem d_Mod_letter_188 : decode b_Mod_letter 188 = .ok (.iadd, 1) := kq_96 byq_r (by decide +kernel)
theorem d_Mod_letter_189 : decode b_Mod_letter 189 = .ok (.istore 5, 2) := kq_54 byq_r (by decide +kernel)
theorem d_Mod_letter_191 : decode b_Mod_letter 191 = .ok (.iinc 6 1, 3) := kq_132 byq_r (b := 1) (by decide +kernel)
theorem d_Mod_letter_194 : decode b_Mod_letter 194 = .ok (.goto (-38), 3) := kq_167 byq_r (a := 255) (b := 218) (by decide +kernel)
theorem d_Mod_letter_197 : decode b_Mod_letter 197 = .ok (.iload 5, 2) := kq_21 byq_r (by decide +kernel)
theorem d_Mod_letter_199 : decode b_Mod_letter 199 = .ok (.ireturn, 1) := kq_172 byq_r (by decide +kernel)
theorem d_Mod_held_0 : decode b_Mod_held 0 = .ok (.aload_n 0, 1) := kq_42 byq_r (by decide +kernel)
theorem d_Mod_held_1 : decode b_Mod_held 1 = .ok (.iload_n 1, 1) := kq_27 byq_r (by decide +kernel)
theorem d_Mod_held_2 : decode b_Mod_held 2 = .ok (.invokevirtual 227, 3) := kq_182 byq_r (a := 0) (b := 227) (by decide +kernel)
theorem d_Mod_held_5 : decode b_Mod_held 5 = .ok (.istore_n 2, 1) := kq_61 byq_r (by decide +kernel)
theorem d_Mod_held_6 : decode b_Mod_held 6 = .ok (.aload_n 0, 1) := kq_42 byq_r (by decide +kernel)
theorem d_Mod_held_7 : decode b_Mod_held 7 = .ok (.bipush 60, 2) := kq_16 byq_r (b := 60) (by decide +kernel)
theorem d_Mod_held_9 : decode b_Mod_held 9 = .ok (.invokevirtual 186, 3) := kq_182 byq_r (a := 0) (b := 186) (by decide +kernel)
theorem d_Mod_held_12 : decode b_Mod_held 12 = .ok (.ifCond .eq 18, 3) := kq_153 byq_r (a := 0) (b := 18) (by decide +kernel)
theorem d_Mod_held_15 : decode b_Mod_held 15 = .ok (.iload_n 2, 1) := kq_28 byq_r (by decide +kernel)
theorem d_Mod_held_16 : decode b_Mod_held 16 = .ok (.aload_n 0, 1) := kq_42 byq_r (by decide +kernel)
theorem d_Mod_held_17 : decode b_Mod_held 17 = .ok (.iload_n 1, 1) := kq_27 byq_r (by decide +kernel)
theorem d_Mod_held_18 : decode b_Mod_held 18 = .ok (.invokevirtual 227, 3) := kq_182 byq_r (a := 0) (b := 227) (by decide +kernel)
theorem d_Mod_held_21 : decode b_Mod_held 21 = .ok (.if_icmp .ge 7, 3) := kq_162 byq_r (a := 0) (b := 7) (by decide +kernel)
theorem d_Mod_held_24 : decode b_Mod_held 24 = .ok (.iconst 1, 1) := kq_4 byq_r (by decide +kernel)
theorem d_Mod_held_25 : decode b_Mod_held 25 = .ok (.goto 4, 3) := kq_167 byq_r (a := 0) (b := 4) (by decide +kernel)
theorem d_Mod_held_28 : decode b_Mod_held 28 = .ok (.iconst 0, 1) := kq_3 byq_r (by decide +kernel)
theorem d_Mod_held_29 : decode b_Mod_held 29 = .ok (.ireturn, 1) := kq_172 byq_r (by decide +kernel)
theorem d_Mod_held_30 : decode b_Mod_held 30 = .ok (.aload_n 0, 1) := kq_42 byq_r (by decide +kernel)
theorem d_Mod_held_31 : decode b_Mod_held 31 = .ok (.bipush 62, 2) := kq_16 byq_r (b := 62) (by decide +kernel)
theorem d_Mod_held_33 : decode b_Mod_held 33 = .ok (.invokevirtual 186, 3) := kq_182 byq_r (a := 0) (b := 186) (by decide +kernel)
theorem d_Mod_held_36 : decode b_Mod_held 36 = .ok (.ifCond .eq 18, 3) := kq_153 byq_r (a := 0) (b := 18) (by decide +kernel)
theorem d_Mod_held_39 : decode b_Mod_held 39 = .ok (.iload_n 2, 1) := kq_28 byq_r (by decide +kernel)
theorem d_Mod_held_40 : decode b_Mod_held 40 = .ok (.aload_n 0, 1) := kq_42 byq_r (by decide +kernel)
theorem d_Mod_held_41 : decode b_Mod_held 41 = .ok (.iload_n 1, 1) := kq_27 byq_r (by decide +kernel)
theorem d_Mod_held_42 : decode b_Mod_held 42 = .ok (.invokevirtual 227, 3) := kq_182 byq_r (a := 0) (b := 227) (by decide +kernel)
theorem d_Mod_held_45 : decode b_Mod_held 45 = .ok (.if_icmp .le 7, 3) := kq_164 byq_r (a := 0) (b := 7) (by decide +kernel)
theorem d_Mod_held_48 : decode b_Mod_held 48 = .ok (.iconst 1, 1) := kq_4 byq_r (by decide +kernel)
theorem d_Mod_held_49 : decode b_Mod_held 49 = .ok (.goto 4, 3) := kq_167 byq_r (a := 0) (b := 4) (by decide +kernel)
theorem d_Mod_held_52 : decode b_Mod_held 52 = .ok (.iconst 0, 1) := kq_3 byq_r (by decide +kernel)
theorem d_Mod_held_53 : decode b_Mod_held 53 = .ok (.ireturn, 1) := kq_172 byq_r (by decide +kernel)
theorem d_Mod_held_54 : decode b_Mod_held 54 = .ok (.aload_n 0, 1) := kq_42 byq_r (by decide +kernel)
theorem d_Mod_held_55 : decode b_Mod_held 55 = .ok (.bipush 61, 2) := kq_16 byq_r (b := 61) (by decide +kernel)
theorem d_Mod_held_57 : decode b_Mod_held 57 = .ok (.invokevirtual 186, 3) := kq_182 byq_r (a := 0) (b := 186) (by decide +kernel)
theorem d_Mod_held_60 : decode b_Mod_held 60 = .ok (.ifCond .eq 18, 3) := kq_153 byq_r (a := 0) (b := 18) (by decide +kernel)
theorem d_Mod_held_63 : decode b_Mod_held 63 = .ok (.iload_n 2, 1) := kq_28 byq_r (by decide +kernel)
theorem d_Mod_held_64 : decode b_Mod_held 64 = .ok (.aload_n 0, 1) := kq_42 byq_r (by decide +kernel)
theorem d_Mod_held_65 : decode b_Mod_held 65 = .ok (.iload_n 1, 1) := kq_27 byq_r (by decide +kernel)
theorem d_Mod_held_66 : decode b_Mod_held 66 = .ok (.invokevirtual 227, 3) := kq_182 byq_r (a := 0) (b := 227) (by decide +kernel)
theorem d_Mod_held_69 : decode b_Mod_held 69 = .ok (.if_icmp .ne 7, 3) := kq_160 byq_r (a := 0) (b := 7) (by decide +kernel)
theorem d_Mod_held_72 : decode b_Mod_held 72 = .ok (.iconst 1, 1) := kq_4 byq_r (by decide +kernel)
theorem d_Mod_held_73 : decode b_Mod_held 73 = .ok (.goto 4, 3) := kq_167 byq_r (a := 0) (b := 4) (by decide +kernel)
theorem d_Mod_held_76 : decode b_Mod_held 76 = .ok (.iconst 0, 1) := kq_3 byq_r (by decide +kernel)
theorem d_Mod_held_77 : decode b_Mod_held 77 = .ok (.ireturn, 1) := kq_172 byq_r (by decide +kernel)
theorem d_Mod_held_78 : decode b_Mod_held 78 = .ok (.iload_n 2, 1) := kq_28 byq_r (by decide +kernel)
theorem d_Mod_held_79 : decode b_Mod_held 79 = .ok (.ireturn, 1) := kq_172 byq_r (by decide +kernel)
theorem d_Mod_sum_0 : decode b_Mod_sum 0 = .ok (.aload_n 0, 1) := kq_42 byq_r (by decide +kernel)
theorem d_Mod_sum_1 : decode b_Mod_sum 1 = .ok (.iload_n 1, 1) := kq_27 byq_r (by decide +kernel)
theorem d_Mod_sum_2 : decode b_Mod_sum 2 = .ok (.invokevirtual 230, 3) := kq_182 byq_r (a := 0) (b := 230) (by decide +kernel)
theorem d_Mod_sum_5 : decode b_Mod_sum 5 = .ok (.istore_n 2, 1) := kq_61 byq_r (by decide +kernel)
theorem d_Mod_sum_6 : decode b_Mod_sum 6 = .ok (.aload_n 0, 1) := kq_42 byq_r (by decide +kernel)
theorem d_Mod_sum_7 : decode b_Mod_sum 7 = .ok (.invokevirtual 179, 3) := kq_182 byq_r (a := 0) (b := 179) (by decide +kernel)
theorem d_Mod_sum_10 : decode b_Mod_sum 10 = .ok (.ifCond .eq 72, 3) := kq_153 byq_r (a := 0) (b := 72) (by decide +kernel)
theorem d_Mod_sum_13 : decode b_Mod_sum 13 = .ok (.aload_n 0, 1) := kq_42 byq_r (by decide +kernel)
theorem d_Mod_sum_14 : decode b_Mod_sum 14 = .ok (.invokevirtual 183, 3) := kq_182 byq_r (a := 0) (b := 183) (by decide +kernel)
theorem d_Mod_sum_17 : decode b_Mod_sum 17 = .ok (.bipush 43, 2) := kq_16 byq_r (b := 43) (by decide +kernel)
theorem d_Mod_sum_19 : decode b_Mod_sum 19 = .ok (.if_icmp .eq 12, 3) := kq_159 byq_r (a := 0) (b := 12) (by decide +kernel)
theorem d_Mod_sum_22 : decode b_Mod_sum 22 = .ok (.aload_n 0, 1) := kq_42 byq_r (by decide +kernel)
theorem d_Mod_sum_23 : decode b_Mod_sum 23 = .ok (.invokevirtual 183, 3) := kq_182 byq_r (a := 0) (b := 183) (by decide +kernel)
theorem d_Mod_sum_26 : decode b_Mod_sum 26 = .ok (.bipush 45, 2) := kq_16 byq_r (b := 45) (by decide +kernel)
theorem d_Mod_sum_28 : decode b_Mod_sum 28 = .ok (.if_icmp .ne 54, 3) := kq_160 byq_r (a := 0) (b := 54) (by decide +kernel)
theorem d_Mod_sum_31 : decode b_Mod_sum 31 = .ok (.aload_n 0, 1) := kq_42 byq_r (by decide +kernel)
theorem d_Mod_sum_32 : decode b_Mod_sum 32 = .ok (.invokevirtual 183, 3) := kq_182 byq_r (a := 0) (b := 183) (by decide +kernel)
theorem d_Mod_sum_35 : decode b_Mod_sum 35 = .ok (.bipush 43, 2) := kq_16 byq_r (b := 43) (by decide +kernel)
theorem d_Mod_sum_37 : decode b_Mod_sum 37 = .ok (.if_icmp .ne 7, 3) := kq_160 byq_r (a := 0) (b := 7) (by decide +kernel)
theorem d_Mod_sum_40 : decode b_Mod_sum 40 = .ok (.iconst 1, 1) := kq_4 byq_r (by decide +kernel)
theorem d_Mod_sum_41 : decode b_Mod_sum 41 = .ok (.goto 4, 3) := kq_167 byq_r (a := 0) (b := 4) (by decide +kernel)
theorem d_Mod_sum_44 : decode b_Mod_sum 44 = .ok (.iconst 0, 1) := kq_3 byq_r (by decide +kernel)
theorem d_Mod_sum_45 : decode b_Mod_sum 45 = .ok (.istore_n 3, 1) := kq_62 byq_r (by decide +kernel)
theorem d_Mod_sum_46 : decode b_Mod_sum 46 = .ok (.aload_n 0, 1) := kq_42 byq_r (by decide +kernel)
theorem d_Mod_sum_47 : decode b_Mod_sum 47 = .ok (.dup, 1) := kq_89 byq_r (by decide +kernel)
theorem d_Mod_sum_48 : decode b_Mod_sum 48 = .ok (.getfield 173, 3) := kq_180 byq_r (a := 0) (b := 173) (by decide +kernel)
theorem d_Mod_sum_51 : decode b_Mod_sum 51 = .ok (.iconst 1, 1) := kq_4 byq_r (by decide +kernel)
theorem d_Mod_sum_52 : decode b_Mod_sum 52 = .ok (.iadd, 1) := kq_96 byq_r (by decide +kernel)
theorem d_Mod_sum_53 : decode b_Mod_sum 53 = .ok (.putfield 173, 3) := kq_181 byq_r (a := 0) (b := 173) (by decide +kernel)
theorem d_Mod_sum_56 : decode b_Mod_sum 56 = .ok (.aload_n 0, 1) := kq_42 byq_r (by decide +kernel)
theorem d_Mod_sum_57 : decode b_Mod_sum 57 = .ok (.iload_n 1, 1) := kq_27 byq_r (by decide +kernel)
theorem d_Mod_sum_58 : decode b_Mod_sum 58 = .ok (.invokevirtual 230, 3) := kq_182 byq_r (a := 0) (b := 230) (by decide +kernel)
theorem d_Mod_sum_61 : decode b_Mod_sum 61 = .ok (.istore 4, 2) := kq_54 byq_r (by decide +kernel)
theorem d_Mod_sum_63 : decode b_Mod_sum 63 = .ok (.iload_n 3, 1) := kq_29 byq_r (by decide +kernel)
theorem d_Mod_sum_64 : decode b_Mod_sum 64 = .ok (.ifCond .eq 10, 3) := kq_153 byq_r (a := 0) (b := 10) (by decide +kernel)
theorem d_Mod_sum_67 : decode b_Mod_sum 67 = .ok (.iload_n 2, 1) := kq_28 byq_r (by decide +kernel)
theorem d_Mod_sum_68 : decode b_Mod_sum 68 = .ok (.iload 4, 2) := kq_21 byq_r (by decide +kernel)
theorem d_Mod_sum_70 : decode b_Mod_sum 70 = .ok (.iadd, 1) := kq_96 byq_r (by decide +kernel)
theorem d_Mod_sum_71 : decode b_Mod_sum 71 = .ok (.goto 7, 3) := kq_167 byq_r (a := 0) (b := 7) (by decide +kernel)
theorem d_Mod_sum_74 : decode b_Mod_sum 74 = .ok (.iload_n 2, 1) := kq_28 byq_r (by decide +kernel)
theorem d_Mod_sum_75 : decode b_Mod_sum 75 = .ok (.iload 4, 2) := kq_21 byq_r (by decide +kernel)
theorem d_Mod_sum_77 : decode b_Mod_sum 77 = .ok (.isub, 1) := kq_100 byq_r (by decide +kernel)
theorem d_Mod_sum_78 : decode b_Mod_sum 78 = .ok (.istore_n 2, 1) := kq_61 byq_r (by decide +kernel)
theorem d_Mod_sum_79 : decode b_Mod_sum 79 = .ok (.goto (-73), 3) := kq_167 byq_r (a := 255) (b := 183) (by decide +kernel)
theorem d_Mod_sum_82 : decode b_Mod_sum 82 = .ok (.iload_n 2, 1) := kq_28 byq_r (by decide +kernel)
theorem d_Mod_sum_83 : decode b_Mod_sum 83 = .ok (.ireturn, 1) := kq_172 byq_r (by decide +kernel)
theorem d_Mod_product_0 : decode b_Mod_product 0 = .ok (.aload_n 0, 1) := kq_42 byq_r (by decide +kernel)
theorem d_Mod_product_1 : decode b_Mod_product 1 = .ok (.iload_n 1, 1) := kq_27 byq_r (by decide +kernel)
theorem d_Mod_product_2 : decode b_Mod_product 2 = .ok (.invokevirtual 233, 3) := kq_182 byq_r (a := 0) (b := 233) (by decide +kernel)
theorem d_Mod_product_5 : decode b_Mod_product 5 = .ok (.istore_n 2, 1) := kq_61 byq_r (by decide +kernel)
theorem d_Mod_product_6 : decode b_Mod_product 6 = .ok (.aload_n 0, 1) := kq_42 byq_r (by decide +kernel)
theorem d_Mod_product_7 : decode b_Mod_product 7 = .ok (.invokevirtual 179, 3) := kq_182 byq_r (a := 0) (b := 179) (by decide +kernel)
theorem d_Mod_product_10 : decode b_Mod_product 10 = .ok (.ifCond .eq 81, 3) := kq_153 byq_r (a := 0) (b := 81) (by decide +kernel)
theorem d_Mod_product_13 : decode b_Mod_product 13 = .ok (.aload_n 0, 1) := kq_42 byq_r (by decide +kernel)
theorem d_Mod_product_14 : decode b_Mod_product 14 = .ok (.invokevirtual 183, 3) := kq_182 byq_r (a := 0) (b := 183) (by decide +kernel)
theorem d_Mod_product_17 : decode b_Mod_product 17 = .ok (.bipush 42, 2) := kq_16 byq_r (b := 42) (by decide +kernel)
theorem d_Mod_product_19 : decode b_Mod_product 19 = .ok (.if_icmp .eq 12, 3) := kq_159 byq_r (a := 0) (b := 12) (by decide +kernel)
theorem d_Mod_product_22 : decode b_Mod_product 22 = .ok (.aload_n 0, 1) := kq_42 byq_r (by decide +kernel)
theorem d_Mod_product_23 : decode b_Mod_product 23 = .ok (.invokevirtual 183, 3) := kq_182 byq_r (a := 0) (b := 183) (by decide +kernel)
theorem d_Mod_product_26 : decode b_Mod_product 26 = .ok (.bipush 47, 2) := kq_16 byq_r (b := 47) (by decide +kernel)
theorem d_Mod_product_28 : decode b_Mod_product 28 = .ok (.if_icmp .ne 63, 3) := kq_160 byq_r (a := 0) (b := 63) (by decide +kernel)
theorem d_Mod_product_31 : decode b_Mod_product 31 = .ok (.aload_n 0, 1) := kq_42 byq_r (by decide +kernel)
theorem d_Mod_product_32 : decode b_Mod_product 32 = .ok (.invokevirtual 183, 3) := kq_182 byq_r (a := 0) (b := 183) (by decide +kernel)
theorem d_Mod_product_35 : decode b_Mod_product 35 = .ok (.bipush 42, 2) := kq_16 byq_r (b := 42) (by decide +kernel)
theorem d_Mod_product_37 : decode b_Mod_product 37 = .ok (.if_icmp .ne 7, 3) := kq_160 byq_r (a := 0) (b := 7) (by decide +kernel)
theorem d_Mod_product_40 : decode b_Mod_product 40 = .ok (.iconst 1, 1) := kq_4 byq_r (by decide +kernel)
theorem d_Mod_product_41 : decode b_Mod_product 41 = .ok (.goto 4, 3) := kq_167 byq_r (a := 0) (b := 4) (by decide +kernel)
theorem d_Mod_product_44 : decode b_Mod_product 44 = .ok (.iconst 0, 1) := kq_3 byq_r (by decide +kernel)
theorem d_Mod_product_45 : decode b_Mod_product 45 = .ok (.istore_n 3, 1) := kq_62 byq_r (by decide +kernel)
theorem d_Mod_product_46 : decode b_Mod_product 46 = .ok (.aload_n 0, 1) := kq_42 byq_r (by decide +kernel)
theorem d_Mod_product_47 : decode b_Mod_product 47 = .ok (.dup, 1) := kq_89 byq_r (by decide +kernel)
theorem d_Mod_product_48 : decode b_Mod_product 48 = .ok (.getfield 173, 3) := kq_180 byq_r (a := 0) (b := 173) (by decide +kernel)
theorem d_Mod_product_51 : decode b_Mod_product 51 = .ok (.iconst 1, 1) := kq_4 byq_r (by decide +kernel)
theorem d_Mod_product_52 : decode b_Mod_product 52 = .ok (.iadd, 1) := kq_96 byq_r (by decide +kernel)
theorem d_Mod_product_53 : decode b_Mod_product 53 = .ok (.putfield 173, 3) := kq_181 byq_r (a := 0) (b := 173) (by decide +kernel)
theorem d_Mod_product_56 : decode b_Mod_product 56 = .ok (.aload_n 0, 1) := kq_42 byq_r (by decide +kernel)
theorem d_Mod_product_57 : decode b_Mod_product 57 = .ok (.iload_n 1, 1) := kq_27 byq_r (by decide +kernel)
theorem d_Mod_product_58 : decode b_Mod_product 58 = .ok (.invokevirtual 233, 3) := kq_182 byq_r (a := 0) (b := 233) (by decide +kernel)
theorem d_Mod_product_61 : decode b_Mod_product 61 = .ok (.istore 4, 2) := kq_54 byq_r (by decide +kernel)
theorem d_Mod_product_63 : decode b_Mod_product 63 = .ok (.iload_n 3, 1) := kq_29 byq_r (by decide +kernel)
theorem d_Mod_product_64 : decode b_Mod_product 64 = .ok (.ifCond .eq 10, 3) := kq_153 byq_r (a := 0) (b := 10) (by decide +kernel)
theorem d_Mod_product_67 : decode b_Mod_product 67 = .ok (.iload_n 2, 1) := kq_28 byq_r (by decide +kernel)
theorem d_Mod_product_68 : decode b_Mod_product 68 = .ok (.iload 4, 2) := kq_21 byq_r (by decide +kernel)
theorem d_Mod_product_70 : decode b_Mod_product 70 = .ok (.imul, 1) := kq_104 byq_r (by decide +kernel)
theorem d_Mod_product_71 : decode b_Mod_product 71 = .ok (.goto 16, 3) := kq_167 byq_r (a := 0) (b := 16) (by decide +kernel)
theorem d_Mod_product_74 : decode b_Mod_product 74 = .ok (.iload 4, 2) := kq_21 byq_r (by decide +kernel)
theorem d_Mod_product_76 : decode b_Mod_product 76 = .ok (.ifCond .ne 7, 3) := kq_154 byq_r (a := 0) (b := 7) (by decide +kernel)
theorem d_Mod_product_79 : decode b_Mod_product 79 = .ok (.iconst 0, 1) := kq_3 byq_r (by decide +kernel)
theorem d_Mod_product_80 : decode b_Mod_product 80 = .ok (.goto 7, 3) := kq_167 byq_r (a := 0) (b := 7) (by decide +kernel)
theorem d_Mod_product_83 : decode b_Mod_product 83 = .ok (.iload_n 2, 1) := kq_28 byq_r (by decide +kernel)
theorem d_Mod_product_84 : decode b_Mod_product 84 = .ok (.iload 4, 2) := kq_21 byq_r (by decide +kernel)
theorem d_Mod_product_86 : decode b_Mod_product 86 = .ok (.idiv, 1) := kq_108 byq_r (by decide +kernel)
theorem d_Mod_product_87 : decode b_Mod_product 87 = .ok (.istore_n 2, 1) := kq_61 byq_r (by decide +kernel)
theorem d_Mod_product_88 : decode b_Mod_product 88 = .ok (.goto (-82), 3) := kq_167 byq_r (a := 255) (b := 174) (by decide +kernel)
theorem d_Mod_product_91 : decode b_Mod_product 91 = .ok (.iload_n 2, 1) := kq_28 byq_r (by decide +kernel)
theorem d_Mod_product_92 : decode b_Mod_product 92 = .ok (.ireturn, 1) := kq_172 byq_r (by decide +kernel)
theorem d_Mod_thing_0 : decode b_Mod_thing 0 = .ok (.aload_n 0, 1) := kq_42 byq_r (by decide +kernel)
theorem d_Mod_thing_1 : decode b_Mod_thing 1 = .ok (.bipush 45, 2) := kq_16 byq_r (b := 45) (by decide +kernel)
theorem d_Mod_thing_3 : decode b_Mod_thing 3 = .ok (.invokevirtual 186, 3) := kq_182 byq_r (a := 0) (b := 186) (by decide +kernel)
theorem d_Mod_thing_6 : decode b_Mod_thing 6 = .ok (.ifCond .eq 10, 3) := kq_153 byq_r (a := 0) (b := 10) (by decide +kernel)
theorem d_Mod_thing_9 : decode b_Mod_thing 9 = .ok (.aload_n 0, 1) := kq_42 byq_r (by decide +kernel)
theorem d_Mod_thing_10 : decode b_Mod_thing 10 = .ok (.iload_n 1, 1) := kq_27 byq_r (by decide +kernel)
theorem d_Mod_thing_11 : decode b_Mod_thing 11 = .ok (.invokevirtual 233, 3) := kq_182 byq_r (a := 0) (b := 233) (by decide +kernel)
theorem d_Mod_thing_14 : decode b_Mod_thing 14 = .ok (.ineg, 1) := kq_116 byq_r (by decide +kernel)
theorem d_Mod_thing_15 : decode b_Mod_thing 15 = .ok (.ireturn, 1) := kq_172 byq_r (by decide +kernel)
theorem d_Mod_thing_16 : decode b_Mod_thing 16 = .ok (.aload_n 0, 1) := kq_42 byq_r (by decide +kernel)
theorem d_Mod_thing_17 : decode b_Mod_thing 17 = .ok (.invokevirtual 179, 3) := kq_182 byq_r (a := 0) (b := 179) (by decide +kernel)
theorem d_Mod_thing_20 : decode b_Mod_thing 20 = .ok (.ifCond .ne 5, 3) := kq_154 byq_r (a := 0) (b := 5) (by decide +kernel)
theorem d_Mod_thing_23 : decode b_Mod_thing 23 = .ok (.iconst 0, 1) := kq_3 byq_r (by decide +kernel)
theorem d_Mod_thing_24 : decode b_Mod_thing 24 = .ok (.ireturn, 1) := kq_172 byq_r (by decide +kernel)
theorem d_Mod_thing_25 : decode b_Mod_thing 25 = .ok (.aload_n 0, 1) := kq_42 byq_r (by decide +kernel)
theorem d_Mod_thing_26 : decode b_Mod_thing 26 = .ok (.invokevirtual 183, 3) := kq_182 byq_r (a := 0) (b := 183) (by decide +kernel)
theorem d_Mod_thing_29 : decode b_Mod_thing 29 = .ok (.istore_n 2, 1) := kq_61 byq_r (by decide +kernel)
theorem d_Mod_thing_30 : decode b_Mod_thing 30 = .ok (.iload_n 2, 1) := kq_28 byq_r (by decide +kernel)
theorem d_Mod_thing_31 : decode b_Mod_thing 31 = .ok (.bipush 40, 2) := kq_16 byq_r (b := 40) (by decide +kernel)
theorem d_Mod_thing_33 : decode b_Mod_thing 33 = .ok (.if_icmp .ne 34, 3) := kq_160 byq_r (a := 0) (b := 34) (by decide +kernel)
theorem d_Mod_thing_36 : decode b_Mod_thing 36 = .ok (.iload_n 1, 1) := kq_27 byq_r (by decide +kernel)
theorem d_Mod_thing_37 : decode b_Mod_thing 37 = .ok (.iconst 4, 1) := kq_7 byq_r (by decide +kernel)
theorem d_Mod_thing_38 : decode b_Mod_thing 38 = .ok (.if_icmp .ge 29, 3) := kq_162 byq_r (a := 0) (b := 29) (by decide +kernel)
theorem d_Mod_thing_41 : decode b_Mod_thing 41 = .ok (.aload_n 0, 1) := kq_42 byq_r (by decide +kernel)
theorem d_Mod_thing_42 : decode b_Mod_thing 42 = .ok (.dup, 1) := kq_89 byq_r (by decide +kernel)
theorem d_Mod_thing_43 : decode b_Mod_thing 43 = .ok (.getfield 173, 3) := kq_180 byq_r (a := 0) (b := 173) (by decide +kernel)
theorem d_Mod_thing_46 : decode b_Mod_thing 46 = .ok (.iconst 1, 1) := kq_4 byq_r (by decide +kernel)
theorem d_Mod_thing_47 : decode b_Mod_thing 47 = .ok (.iadd, 1) := kq_96 byq_r (by decide +kernel)
theorem d_Mod_thing_48 : decode b_Mod_thing 48 = .ok (.putfield 173, 3) := kq_181 byq_r (a := 0) (b := 173) (by decide +kernel)
theorem d_Mod_thing_51 : decode b_Mod_thing 51 = .ok (.aload_n 0, 1) := kq_42 byq_r (by decide +kernel)
theorem d_Mod_thing_52 : decode b_Mod_thing 52 = .ok (.iload_n 1, 1) := kq_27 byq_r (by decide +kernel)
theorem d_Mod_thing_53 : decode b_Mod_thing 53 = .ok (.iconst 1, 1) := kq_4 byq_r (by decide +kernel)
theorem d_Mod_thing_54 : decode b_Mod_thing 54 = .ok (.iadd, 1) := kq_96 byq_r (by decide +kernel)
theorem d_Mod_thing_55 : decode b_Mod_thing 55 = .ok (.invokevirtual 236, 3) := kq_182 byq_r (a := 0) (b := 236) (by decide +kernel)
theorem d_Mod_thing_58 : decode b_Mod_thing 58 = .ok (.istore_n 3, 1) := kq_62 byq_r (by decide +kernel)
theorem d_Mod_thing_59 : decode b_Mod_thing 59 = .ok (.aload_n 0, 1) := kq_42 byq_r (by decide +kernel)
theorem d_Mod_thing_60 : decode b_Mod_thing 60 = .ok (.bipush 41, 2) := kq_16 byq_r (b := 41) (by decide +kernel)
theorem d_Mod_thing_62 : decode b_Mod_thing 62 = .ok (.invokevirtual 216, 3) := kq_182 byq_r (a := 0) (b := 216) (by decide +kernel)
theorem d_Mod_thing_65 : decode b_Mod_thing 65 = .ok (.iload_n 3, 1) := kq_29 byq_r (by decide +kernel)
theorem d_Mod_thing_66 : decode b_Mod_thing 66 = .ok (.ireturn, 1) := kq_172 byq_r (by decide +kernel)
theorem d_Mod_thing_67 : decode b_Mod_thing 67 = .ok (.iload_n 2, 1) := kq_28 byq_r (by decide +kernel)
theorem d_Mod_thing_68 : decode b_Mod_thing 68 = .ok (.bipush 48, 2) := kq_16 byq_r (b := 48) (by decide +kernel)
theorem d_Mod_thing_70 : decode b_Mod_thing 70 = .ok (.bipush 57, 2) := kq_16 byq_r (b := 57) (by decide +kernel)
theorem d_Mod_thing_72 : decode b_Mod_thing 72 = .ok (.invokestatic 119, 3) := kq_184 byq_r (a := 0) (b := 119) (by decide +kernel)
theorem d_Mod_thing_75 : decode b_Mod_thing 75 = .ok (.ifCond .eq 9, 3) := kq_153 byq_r (a := 0) (b := 9) (by decide +kernel)
theorem d_Mod_thing_78 : decode b_Mod_thing 78 = .ok (.aload_n 0, 1) := kq_42 byq_r (by decide +kernel)
theorem d_Mod_thing_79 : decode b_Mod_thing 79 = .ok (.iconst 3, 1) := kq_6 byq_r (by decide +kernel)
theorem d_Mod_thing_80 : decode b_Mod_thing 80 = .ok (.invokevirtual 213, 3) := kq_182 byq_r (a := 0) (b := 213) (by decide +kernel)
theorem d_Mod_thing_83 : decode b_Mod_thing 83 = .ok (.ireturn, 1) := kq_172 byq_r (by decide +kernel)
theorem d_Mod_thing_84 : decode b_Mod_thing 84 = .ok (.iload_n 2, 1) := kq_28 byq_r (by decide +kernel)
theorem d_Mod_thing_85 : decode b_Mod_thing 85 = .ok (.bipush 109, 2) := kq_16 byq_r (b := 109) (by decide +kernel)
theorem d_Mod_thing_87 : decode b_Mod_thing 87 = .ok (.if_icmp .eq 55, 3) := kq_159 byq_r (a := 0) (b := 55) (by decide +kernel)
theorem d_Mod_thing_90 : decode b_Mod_thing 90 = .ok (.iload_n 2, 1) := kq_28 byq_r (by decide +kernel)
theorem d_Mod_thing_91 : decode b_Mod_thing 91 = .ok (.bipush 105, 2) := kq_16 byq_r (b := 105) (by decide +kernel)
theorem d_Mod_thing_93 : decode b_Mod_thing 93 = .ok (.if_icmp .eq 49, 3) := kq_159 byq_r (a := 0) (b := 49) (by decide +kernel)
theorem d_Mod_thing_96 : decode b_Mod_thing 96 = .ok (.iload_n 2, 1) := kq_28 byq_r (by decide +kernel)
theorem d_Mod_thing_97 : decode b_Mod_thing 97 = .ok (.bipush 119, 2) := kq_16 byq_r (b := 119) (by decide +kernel)
theorem d_Mod_thing_99 : decode b_Mod_thing 99 = .ok (.if_icmp .eq 43, 3) := kq_159 byq_r (a := 0) (b := 43) (by decide +kernel)
theorem d_Mod_thing_102 : decode b_Mod_thing 102 = .ok (.iload_n 2, 1) := kq_28 byq_r (by decide +kernel)
theorem d_Mod_thing_103 : decode b_Mod_thing 103 = .ok (.bipush 120, 2) := kq_16 byq_r (b := 120) (by decide +kernel)
theorem d_Mod_thing_105 : decode b_Mod_thing 105 = .ok (.if_icmp .eq 37, 3) := kq_159 byq_r (a := 0) (b := 37) (by decide +kernel)
theorem d_Mod_thing_108 : decode b_Mod_thing 108 = .ok (.iload_n 2, 1) := kq_28 byq_r (by decide +kernel)
theorem d_Mod_thing_109 : decode b_Mod_thing 109 = .ok (.bipush 121, 2) := kq_16 byq_r (b := 121) (by decide +kernel)
theorem d_Mod_thing_111 : decode b_Mod_thing 111 = .ok (.if_icmp .eq 31, 3) := kq_159 byq_r (a := 0) (b := 31) (by decide +kernel)
theorem d_Mod_thing_114 : decode b_Mod_thing 114 = .ok (.iload_n 2, 1) := kq_28 byq_r (by decide +kernel)
theorem d_Mod_thing_115 : decode b_Mod_thing 115 = .ok (.bipush 110, 2) := kq_16 byq_r (b := 110) (by decide +kernel)
theorem d_Mod_thing_117 : decode b_Mod_thing 117 = .ok (.if_icmp .eq 25, 3) := kq_159 byq_r (a := 0) (b := 25) (by decide +kernel)
theorem d_Mod_thing_120 : decode b_Mod_thing 120 = .ok (.iload_n 2, 1) := kq_28 byq_r (by decide +kernel)
theorem d_Mod_thing_121 : decode b_Mod_thing 121 = .ok (.bipush 115, 2) := kq_16 byq_r (b := 115) (by decide +kernel)
theorem d_Mod_thing_123 : decode b_Mod_thing 123 = .ok (.if_icmp .eq 19, 3) := kq_159 byq_r (a := 0) (b := 19) (by decide +kernel)
theorem d_Mod_thing_126 : decode b_Mod_thing 126 = .ok (.iload_n 2, 1) := kq_28 byq_r (by decide +kernel)
theorem d_Mod_thing_127 : decode b_Mod_thing 127 = .ok (.bipush 107, 2) := kq_16 byq_r (b := 107) (by decide +kernel)
theorem d_Mod_thing_129 : decode b_Mod_thing 129 = .ok (.if_icmp .eq 13, 3) := kq_159 byq_r (a := 0) (b := 13) (by decide +kernel)
theorem d_Mod_thing_132 : decode b_Mod_thing 132 = .ok (.aload_n 0, 1) := kq_42 byq_r (by decide +kernel)
theorem d_Mod_thing_133 : decode b_Mod_thing 133 = .ok (.aload_n 0, 1) := kq_42 byq_r (by decide +kernel)
theorem d_Mod_thing_134 : decode b_Mod_thing 134 = .ok (.getfield 173, 3) := kq_180 byq_r (a := 0) (b := 173) (by decide +kernel)
theorem d_Mod_thing_137 : decode b_Mod_thing 137 = .ok (.invokevirtual 190, 3) := kq_182 byq_r (a := 0) (b := 190) (by decide +kernel)
theorem d_Mod_thing_140 : decode b_Mod_thing 140 = .ok (.iconst 0, 1) := kq_3 byq_r (by decide +kernel)
theorem d_Mod_thing_141 : decode b_Mod_thing 141 = .ok (.ireturn, 1) := kq_172 byq_r (by decide +kernel)
theorem d_Mod_thing_142 : decode b_Mod_thing 142 = .ok (.aload_n 0, 1) := kq_42 byq_r (by decide +kernel)
theorem d_Mod_thing_143 : decode b_Mod_thing 143 = .ok (.dup, 1) := kq_89 byq_r (by decide +kernel)
theorem d_Mod_thing_144 : decode b_Mod_thing 144 = .ok (.getfield 173, 3) := kq_180 byq_r (a := 0) (b := 173) (by decide +kernel)
theorem d_Mod_thing_147 : decode b_Mod_thing 147 = .ok (.iconst 1, 1) := kq_4 byq_r (by decide +kernel)
theorem d_Mod_thing_148 : decode b_Mod_thing 148 = .ok (.iadd, 1) := kq_96 byq_r (by decide +kernel)
theorem d_Mod_thing_149 : decode b_Mod_thing 149 = .ok (.putfield 173, 3) := kq_181 byq_r (a := 0) (b := 173) (by decide +kernel)
theorem d_Mod_thing_152 : decode b_Mod_thing 152 = .ok (.aload_n 0, 1) := kq_42 byq_r (by decide +kernel)
theorem d_Mod_thing_153 : decode b_Mod_thing 153 = .ok (.getfield 239, 3) := kq_180 byq_r (a := 0) (b := 239) (by decide +kernel)
theorem d_Mod_thing_156 : decode b_Mod_thing 156 = .ok (.ifnonnull 7, 3) := kq_199 byq_r (a := 0) (b := 7) (by decide +kernel)
theorem d_Mod_thing_159 : decode b_Mod_thing 159 = .ok (.iconst 0, 1) := kq_3 byq_r (by decide +kernel)
theorem d_Mod_thing_160 : decode b_Mod_thing 160 = .ok (.goto 16, 3) := kq_167 byq_r (a := 0) (b := 16) (by decide +kernel)
theorem d_Mod_thing_163 : decode b_Mod_thing 163 = .ok (.aload_n 0, 1) := kq_42 byq_r (by decide +kernel)
theorem d_Mod_thing_164 : decode b_Mod_thing 164 = .ok (.iload_n 2, 1) := kq_28 byq_r (by decide +kernel)
theorem d_Mod_thing_165 : decode b_Mod_thing 165 = .ok (.aload_n 0, 1) := kq_42 byq_r (by decide +kernel)
theorem d_Mod_thing_166 : decode b_Mod_thing 166 = .ok (.getfield 239, 3) := kq_180 byq_r (a := 0) (b := 239) (by decide +kernel)
theorem d_Mod_thing_169 : decode b_Mod_thing 169 = .ok (.aload_n 0, 1) := kq_42 byq_r (by decide +kernel)
theorem d_Mod_thing_170 : decode b_Mod_thing 170 = .ok (.getfield 242, 3) := kq_180 byq_r (a := 0) (b := 242) (by decide +kernel)
theorem d_Mod_thing_173 : decode b_Mod_thing 173 = .ok (.invokevirtual 245, 3) := kq_182 byq_r (a := 0) (b := 245) (by decide +kernel)
theorem d_Mod_thing_176 : decode b_Mod_thing 176 = .ok (.ireturn, 1) := kq_172 byq_r (by decide +kernel)
def j_Mod_readOne_107 (v1 : Int32) (M : Mem) : Option (Mem) :=
  Option.bind (f_Mod_need (58 : Int32) M) fun x8 =>
  Option.bind (f_Mod_readRoute 170 (v1 + (3 : Int32)) x8) fun x9 =>
  if inb (v1 + (2 : Int32)) 96 = true then
  mem_ (s_i x9.2 170 (v1 + (2 : Int32)).toNatClampNeg x9.1) fun M10 =>
  some M10
  else none
theorem j_Mod_readOne_107_ok {E : Ev} {G : Gw} {d : Nat} {post : Mem → Prop} (X : Cx E G b_Mod_readOne "WomenByTheRoofsModel" 2 d none) (hD : 4 ≤ d)  (v1 : Int32)  (M : Mem)  (o : Mem) (h : j_Mod_readOne_107 v1 M = some o) (kr : ∀ x9 : Mem, o = x9 → post x9) : V E (0, 0) G 2 (QV E G post) M 107 [(0, .ref (G.2.2 + 162)), (1, .int v1)] [] := by
  unfold j_Mod_readOne_107 at h
  refine V_aload_n (n := 0) X d_Mod_readOne_107 rfl rfl rfl ?_
  refine V_bipush (v := 58) X d_Mod_readOne_108 (by decide) rfl ?_
  obtain ⟨x8, hx8, h⟩ := ob_s h
  refine V_cv (As := [.int (58 : Int32)]) X (Z0 E) ml_Mod_216 yq_Mod_need (c_Mod_need E.2.1 G (58 : Int32) M x8 hx8 _ (Nat.le_refl _)) kd_162 rfl rfl (by omega) rfl (Nat.le_of_ble_eq_true rfl) d_Mod_readOne_110 rfl (fun M9 hq => ?_)
  rw [hq]
  refine V_aload_n (n := 0) X d_Mod_readOne_113 rfl rfl rfl ?_
  refine V_getr (k2 := 170) X fo_Mod_42 kd_162 rfl rf_162_20 d_Mod_readOne_114 rfl ?_
  refine V_iload_n (n := 1) X d_Mod_readOne_117 rfl rfl rfl ?_
  refine V_iconst (v := 2) X d_Mod_readOne_118 (by decide) rfl ?_
  refine V_iadd X d_Mod_readOne_119 rfl ?_
  refine V_aload_n (n := 0) X d_Mod_readOne_120 rfl rfl rfl ?_
  refine V_aload_n (n := 0) X d_Mod_readOne_121 rfl rfl rfl ?_
  refine V_getr (k2 := 170) X fo_Mod_42 kd_162 rfl rf_162_20 d_Mod_readOne_122 rfl ?_
  refine V_iload_n (n := 1) X d_Mod_readOne_125 rfl rfl rfl ?_
  refine V_iconst (v := 3) X d_Mod_readOne_126 (by decide) rfl ?_
  refine V_iadd X d_Mod_readOne_127 rfl ?_
  obtain ⟨x9, hx9, h⟩ := ob_s h
  refine V_ci (As := [.ref (G.2.2 + 170), .int (v1 + (3 : Int32))]) X (Z0 E) ml_Mod_220 yq_Mod_readRoute (c_Mod_readRoute E.2.1 G 170 (v1 + (3 : Int32)) x8 x9 hx9 _ (Nat.le_refl _)) kd_162 rfl rfl (by omega) rfl (Nat.le_of_ble_eq_true rfl) d_Mod_readOne_128 rfl (fun r9 M9 hq => ?_)
  rw [hq.1, hq.2]
  obtain ⟨hb, h⟩ := ifn h
  obtain ⟨M10, eM10, h⟩ := memS h
  refine V_iast X kd_170 (inb_in ln_170 hb) d_Mod_readOne_131 rfl ?_
  rw [← eM10]
  exact V_vret X (kr M10 (Option.some.inj h).symm) d_Mod_readOne_132
def j_Mod_readOne_46 (v1 : Int32) (M : Mem) : Option (Mem) :=
  mem_ (s_i M 162 17 ((M.1 162 17) + (1 : Int32))) fun M4 =>
  Option.bind (f_Mod_number (2 : Int32) M4) fun x5 =>
  if inb (v1 + (1 : Int32)) 96 = true then
  mem_ (s_i x5.2 170 (v1 + (1 : Int32)).toNatClampNeg x5.1) fun M6 =>
  Option.bind (f_Mod_fine M6) fun x7 =>
  if x7 = 0 then
  j_Mod_readOne_107 v1 M6
  else
  if inb v1 96 = true then
  if inb (v1 + (1 : Int32)) 96 = true then
  Option.bind (f_Mod_isOf (M6.1 170 v1.toNatClampNeg) (M6.1 170 (v1 + (1 : Int32)).toNatClampNeg) M6) fun x11 =>
  if x11 = 0 then
  Option.bind (f_Mod_fault ((M6.1 162 17) - (1 : Int32)) M6) fun x12 =>
  j_Mod_readOne_107 v1 x12
  else
  j_Mod_readOne_107 v1 M6
  else none
  else none
  else none
theorem j_Mod_readOne_46_ok {E : Ev} {G : Gw} {d : Nat} {post : Mem → Prop} (X : Cx E G b_Mod_readOne "WomenByTheRoofsModel" 2 d none) (hD : 4 ≤ d)  (v1 : Int32)  (M : Mem)  (o : Mem) (h : j_Mod_readOne_46 v1 M = some o) (kr : ∀ x9 : Mem, o = x9 → post x9) : V E (0, 0) G 2 (QV E G post) M 46 [(0, .ref (G.2.2 + 162)), (1, .int v1)] [] := by
  unfold j_Mod_readOne_46 at h
  refine V_aload_n (n := 0) X d_Mod_readOne_46 rfl rfl rfl ?_
  refine V_dup X d_Mod_readOne_47 rfl rfl ?_
  refine V_geti X fo_Mod_173 kd_162 rfl d_Mod_readOne_48 rfl ?_
  refine V_iconst (v := 1) X d_Mod_readOne_51 (by decide) rfl ?_
  refine V_iadd X d_Mod_readOne_52 rfl ?_
  obtain ⟨M4, eM4, h⟩ := memS h
  refine V_putI X fp_Mod_173 kd_162 rfl d_Mod_readOne_53 rfl ?_
  rw [← eM4]
  refine V_aload_n (n := 0) X d_Mod_readOne_56 rfl rfl rfl ?_
  refine V_getr (k2 := 170) X fo_Mod_42 kd_162 rfl rf_162_20 d_Mod_readOne_57 rfl ?_
  refine V_iload_n (n := 1) X d_Mod_readOne_60 rfl rfl rfl ?_
  refine V_iconst (v := 1) X d_Mod_readOne_61 (by decide) rfl ?_
  refine V_iadd X d_Mod_readOne_62 rfl ?_
  refine V_aload_n (n := 0) X d_Mod_readOne_63 rfl rfl rfl ?_
  refine V_iconst (v := 2) X d_Mod_readOne_64 (by decide) rfl ?_
  obtain ⟨x5, hx5, h⟩ := ob_s h
  refine V_ci (As := [.int (2 : Int32)]) X (Z0 E) ml_Mod_213 yq_Mod_number (c_Mod_number E.2.1 G (2 : Int32) M4 x5 hx5 _ (Nat.le_refl _)) kd_162 rfl rfl (by omega) rfl (Nat.le_of_ble_eq_true rfl) d_Mod_readOne_65 rfl (fun r9 M9 hq => ?_)
  rw [hq.1, hq.2]
  obtain ⟨hb, h⟩ := ifn h
  obtain ⟨M6, eM6, h⟩ := memS h
  refine V_iast X kd_170 (inb_in ln_170 hb) d_Mod_readOne_68 rfl ?_
  rw [← eM6]
  refine V_aload_n (n := 0) X d_Mod_readOne_69 rfl rfl rfl ?_
  obtain ⟨x7, hx7, h⟩ := ob_s h
  refine V_ci (As := []) X (Z0 E) ml_Mod_179 yq_Mod_fine (c_Mod_fine E.2.1 G  M6 x7 hx7 _ (Nat.le_refl _)) kd_162 rfl rfl (by omega) rfl (Nat.le_of_ble_eq_true rfl) d_Mod_readOne_70 rfl (fun r9 M9 hq => ?_)
  rw [hq.1, hq.2]
  refine V_if_eq (tgt := 107) X d_Mod_readOne_73 (by decide) rfl (fun c14 => ?_) (fun c14 => ?_)
  · rw [if_pos c14] at h
    exact j_Mod_readOne_107_ok X hD v1 M6 _ h kr
  · rw [if_neg c14] at h
    refine V_aload_n (n := 0) X d_Mod_readOne_76 rfl rfl rfl ?_
    refine V_aload_n (n := 0) X d_Mod_readOne_77 rfl rfl rfl ?_
    refine V_getr (k2 := 170) X fo_Mod_42 kd_162 rfl rf_162_20 d_Mod_readOne_78 rfl ?_
    refine V_iload_n (n := 1) X d_Mod_readOne_81 rfl rfl rfl ?_
    obtain ⟨hb, h⟩ := ifn h
    refine V_iald X kd_170 (inb_in ln_170 hb) d_Mod_readOne_82 rfl ?_
    refine V_aload_n (n := 0) X d_Mod_readOne_83 rfl rfl rfl ?_
    refine V_getr (k2 := 170) X fo_Mod_42 kd_162 rfl rf_162_20 d_Mod_readOne_84 rfl ?_
    refine V_iload_n (n := 1) X d_Mod_readOne_87 rfl rfl rfl ?_
    refine V_iconst (v := 1) X d_Mod_readOne_88 (by decide) rfl ?_
    refine V_iadd X d_Mod_readOne_89 rfl ?_
    obtain ⟨hb, h⟩ := ifn h
    refine V_iald X kd_170 (inb_in ln_170 hb) d_Mod_readOne_90 rfl ?_
    obtain ⟨x11, hx11, h⟩ := ob_s h
    refine V_ci (As := [.int (M6.1 170 v1.toNatClampNeg), .int (M6.1 170 (v1 + (1 : Int32)).toNatClampNeg)]) X (Z0 E) ml_Mod_140 yq_Mod_isOf (c_Mod_isOf E.2.1 G (M6.1 170 v1.toNatClampNeg) (M6.1 170 (v1 + (1 : Int32)).toNatClampNeg) M6 x11 hx11 _ (Nat.le_refl _)) kd_162 rfl rfl (by omega) rfl (Nat.le_of_ble_eq_true rfl) d_Mod_readOne_91 rfl (fun r9 M9 hq => ?_)
    rw [hq.1, hq.2]
    refine V_if_ne (tgt := 107) X d_Mod_readOne_94 (by decide) rfl (fun c13 => ?_) (fun c13 => ?_)
    · rw [if_neg c13] at h
      exact j_Mod_readOne_107_ok X hD v1 M6 _ h kr
    · rw [if_pos c13] at h
      refine V_aload_n (n := 0) X d_Mod_readOne_97 rfl rfl rfl ?_
      refine V_aload_n (n := 0) X d_Mod_readOne_98 rfl rfl rfl ?_
      refine V_geti X fo_Mod_173 kd_162 rfl d_Mod_readOne_99 rfl ?_
      refine V_iconst (v := 1) X d_Mod_readOne_102 (by decide) rfl ?_
      refine V_isub X d_Mod_readOne_103 rfl ?_
      obtain ⟨x12, hx12, h⟩ := ob_s h
      refine V_cv (As := [.int ((M6.1 162 17) - (1 : Int32))]) X (Z0 E) ml_Mod_190 yq_Mod_fault (c_Mod_fault E.2.1 G ((M6.1 162 17) - (1 : Int32)) M6 x12 hx12 _ (Nat.le_refl _)) kd_162 rfl rfl (by omega) rfl (Nat.le_of_ble_eq_true rfl) d_Mod_readOne_104 rfl (fun M9 hq => ?_)
      rw [hq]
      exact j_Mod_readOne_107_ok X hD v1 x12 _ h kr
def j_Mod_readOne_19 (v1 : Int32) (w0 : Int32) (w1 : Int32) (M : Mem) : Option (Mem) :=
  if inb w1 96 = true then
  mem_ (s_i M 170 w1.toNatClampNeg w0) fun M2 =>
  Option.bind (f_Mod_here M2) fun x3 =>
  if x3 = (119 : Int32) then
  j_Mod_readOne_46 v1 M2
  else
  Option.bind (f_Mod_here M2) fun x15 =>
  if x15 = (109 : Int32) then
  j_Mod_readOne_46 v1 M2
  else
  Option.bind (f_Mod_fault (M2.1 162 17) M2) fun x16 =>
  j_Mod_readOne_46 v1 x16
  else none
theorem j_Mod_readOne_19_ok {E : Ev} {G : Gw} {d : Nat} {post : Mem → Prop} (X : Cx E G b_Mod_readOne "WomenByTheRoofsModel" 2 d none) (hD : 4 ≤ d)  (v1 : Int32) (w0 : Int32) (w1 : Int32)  (M : Mem)  (o : Mem) (h : j_Mod_readOne_19 v1 w0 w1 M = some o) (kr : ∀ x9 : Mem, o = x9 → post x9) : V E (0, 0) G 2 (QV E G post) M 19 [(0, .ref (G.2.2 + 162)), (1, .int v1)] [.int w0, .int w1, .ref (G.2.2 + 170)] := by
  unfold j_Mod_readOne_19 at h
  obtain ⟨hb, h⟩ := ifn h
  obtain ⟨M2, eM2, h⟩ := memS h
  refine V_iast X kd_170 (inb_in ln_170 hb) d_Mod_readOne_19 rfl ?_
  rw [← eM2]
  refine V_aload_n (n := 0) X d_Mod_readOne_20 rfl rfl rfl ?_
  obtain ⟨x3, hx3, h⟩ := ob_s h
  refine V_ci (As := []) X (Z0 E) ml_Mod_183 yq_Mod_here (c_Mod_here E.2.1 G  M2 x3 hx3 _ (Nat.le_refl _)) kd_162 rfl rfl (by omega) rfl (Nat.le_of_ble_eq_true rfl) d_Mod_readOne_21 rfl (fun r9 M9 hq => ?_)
  rw [hq.1, hq.2]
  refine V_bipush (v := 119) X d_Mod_readOne_24 (by decide) rfl ?_
  refine V_icmp_eq (tgt := 46) X d_Mod_readOne_26 (by decide) rfl (fun c18 => ?_) (fun c18 => ?_)
  · rw [if_pos c18] at h
    exact j_Mod_readOne_46_ok X hD v1 M2 _ h kr
  · rw [if_neg c18] at h
    refine V_aload_n (n := 0) X d_Mod_readOne_29 rfl rfl rfl ?_
    obtain ⟨x15, hx15, h⟩ := ob_s h
    refine V_ci (As := []) X (Z0 E) ml_Mod_183 yq_Mod_here (c_Mod_here E.2.1 G  M2 x15 hx15 _ (Nat.le_refl _)) kd_162 rfl rfl (by omega) rfl (Nat.le_of_ble_eq_true rfl) d_Mod_readOne_30 rfl (fun r9 M9 hq => ?_)
    rw [hq.1, hq.2]
    refine V_bipush (v := 109) X d_Mod_readOne_33 (by decide) rfl ?_
    refine V_icmp_eq (tgt := 46) X d_Mod_readOne_35 (by decide) rfl (fun c17 => ?_) (fun c17 => ?_)
    · rw [if_pos c17] at h
      exact j_Mod_readOne_46_ok X hD v1 M2 _ h kr
    · rw [if_neg c17] at h
      refine V_aload_n (n := 0) X d_Mod_readOne_38 rfl rfl rfl ?_
      refine V_aload_n (n := 0) X d_Mod_readOne_39 rfl rfl rfl ?_
      refine V_geti X fo_Mod_173 kd_162 rfl d_Mod_readOne_40 rfl ?_
      obtain ⟨x16, hx16, h⟩ := ob_s h
      refine V_cv (As := [.int (M2.1 162 17)]) X (Z0 E) ml_Mod_190 yq_Mod_fault (c_Mod_fault E.2.1 G (M2.1 162 17) M2 x16 hx16 _ (Nat.le_refl _)) kd_162 rfl rfl (by omega) rfl (Nat.le_of_ble_eq_true rfl) d_Mod_readOne_43 rfl (fun M9 hq => ?_)
      rw [hq]
      exact j_Mod_readOne_46_ok X hD v1 x16 _ h kr
def f_Mod_readOne (v1 : Int32) (M : Mem) : Option (Mem) :=
  Option.bind (f_Mod_here M) fun x1 =>
  if x1 = (119 : Int32) then
  j_Mod_readOne_19 v1 (1 : Int32) v1 M
  else
  j_Mod_readOne_19 v1 (0 : Int32) v1 M
theorem c_Mod_readOne (l : Launch) (G : Gw)  (v1 : Int32) (M : Mem) (x : Mem) (h : f_Mod_readOne v1 M = some x) (d : Nat) (hD : 4 ≤ d) : Cv l G y_Mod_readOne b_Mod_readOne 2 none d [.ref (G.2.2 + 162), .int v1] M (fun M9 => M9 = x) := by
  refine Cv_of (by decide) (Nat.le_of_ble_eq_true rfl) (fun E hE X => ?_)
  subst hE
  have kr : ∀ x9 : Mem, x = x9 → (fun M9 => M9 = x) x9 := fun x9 e9 => by subst e9; exact rfl
  unfold f_Mod_readOne at h
  refine V_aload_n (n := 0) X d_Mod_readOne_0 rfl rfl rfl ?_
  refine V_getr (k2 := 170) X fo_Mod_42 kd_162 rfl rf_162_20 d_Mod_readOne_1 rfl ?_
  refine V_iload_n (n := 1) X d_Mod_readOne_4 rfl rfl rfl ?_
  refine V_aload_n (n := 0) X d_Mod_readOne_5 rfl rfl rfl ?_
  obtain ⟨x1, hx1, h⟩ := ob_s h
  refine V_ci (As := []) X (Z0 E) ml_Mod_183 yq_Mod_here (c_Mod_here E.2.1 G  M x1 hx1 _ (Nat.le_refl _)) kd_162 rfl rfl (by omega) rfl (Nat.le_of_ble_eq_true rfl) d_Mod_readOne_6 rfl (fun r9 M9 hq => ?_)
  rw [hq.1, hq.2]
  refine V_bipush (v := 119) X d_Mod_readOne_9 (by decide) rfl ?_
  refine V_icmp_ne (tgt := 18) X d_Mod_readOne_11 (by decide) rfl (fun c19 => ?_) (fun c19 => ?_)
  · rw [if_neg c19] at h
    refine V_iconst (v := 0) X d_Mod_readOne_18 (by decide) rfl ?_
    exact j_Mod_readOne_19_ok X hD v1 (0 : Int32) v1 M _ h kr
  · rw [if_pos c19] at h
    refine V_iconst (v := 1) X d_Mod_readOne_14 (by decide) rfl ?_
    refine V_goto (pc' := 19) X d_Mod_readOne_15 (by decide) ?_
    exact j_Mod_readOne_19_ok X hD v1 (1 : Int32) v1 M _ h kr
def lb_Mod_come_57 (v1 : Int32) (v2 : Int32) (s : Int32 × Mem) : Option ((Int32 × Mem) ⊕ ((Mem))) :=
  if (8 : Int32) ≤ s.1 then
  some (.inr s.2)
  else
  if inb (((16 : Int32) + ((8 : Int32) * v2)) + s.1) 96 = true then
  mem_ (s_i s.2 163 (((16 : Int32) + ((8 : Int32) * v2)) + s.1).toNatClampNeg (0 : Int32)) fun M5 =>
  if inb (((16 : Int32) + ((8 : Int32) * s.1)) + v2) 96 = true then
  mem_ (s_i M5 163 (((16 : Int32) + ((8 : Int32) * s.1)) + v2).toNatClampNeg (0 : Int32)) fun M6 =>
  some (.inl ((s.1 + (1 : Int32)), M6))
  else none
  else none
theorem lb_Mod_come_57_ok {E : Ev} {G : Gw} {d : Nat} {post : Mem → Prop} (X : Cx E G b_Mod_come "WomenByTheRoofsModel" 4 d none) (hD : 2 ≤ d)  (v1 : Int32) (v2 : Int32)   (s : Int32 × Mem) (o : (Int32 × Mem) ⊕ ((Mem))) (h : lb_Mod_come_57 v1 v2 s = some o) (kc : ∀ s9 : Int32 × Mem, o = .inl s9 → V E (0, 0) G 4 (QV E G post) s9.2 57 [(0, .ref (G.2.2 + 162)), (1, .int v1), (2, .int v2), (3, .int s9.1)] []) (kx0 : ∀ x9 : Mem, o = .inr x9 → V E (0, 0) G 4 (QV E G post) x9 99 [(0, .ref (G.2.2 + 162)), (1, .int v1), (2, .int v2)] []) : V E (0, 0) G 4 (QV E G post) s.2 57 [(0, .ref (G.2.2 + 162)), (1, .int v1), (2, .int v2), (3, .int s.1)] [] := by
  unfold lb_Mod_come_57 at h
  refine V_iload_n (n := 3) X d_Mod_come_57 rfl rfl rfl ?_
  refine V_bipush (v := 8) X d_Mod_come_58 (by decide) rfl ?_
  refine V_icmp_ge (tgt := 99) X d_Mod_come_60 (by decide) rfl (fun c7 => ?_) (fun c7 => ?_)
  · rw [if_pos c7] at h
    refine V_sub (lv' := [(0, .ref (G.2.2 + 162)), (1, .int v1), (2, .int v2)]) [0, 1, 2] rfl ?_
    exact kx0 s.2 (Option.some.inj h).symm
  · rw [if_neg c7] at h
    refine V_aload_n (n := 0) X d_Mod_come_63 rfl rfl rfl ?_
    refine V_getr (k2 := 163) X fo_Mod_9 kd_162 rfl rf_162_0 d_Mod_come_64 rfl ?_
    refine V_bipush (v := 16) X d_Mod_come_67 (by decide) rfl ?_
    refine V_bipush (v := 8) X d_Mod_come_69 (by decide) rfl ?_
    refine V_iload_n (n := 2) X d_Mod_come_71 rfl rfl rfl ?_
    refine V_imul X d_Mod_come_72 rfl ?_
    refine V_iadd X d_Mod_come_73 rfl ?_
    refine V_iload_n (n := 3) X d_Mod_come_74 rfl rfl rfl ?_
    refine V_iadd X d_Mod_come_75 rfl ?_
    refine V_iconst (v := 0) X d_Mod_come_76 (by decide) rfl ?_
    obtain ⟨hb, h⟩ := ifn h
    obtain ⟨M5, eM5, h⟩ := memS h
    refine V_iast X kd_163 (inb_in ln_163 hb) d_Mod_come_77 rfl ?_
    rw [← eM5]
    refine V_aload_n (n := 0) X d_Mod_come_78 rfl rfl rfl ?_
    refine V_getr (k2 := 163) X fo_Mod_9 kd_162 rfl rf_162_0 d_Mod_come_79 rfl ?_
    refine V_bipush (v := 16) X d_Mod_come_82 (by decide) rfl ?_
    refine V_bipush (v := 8) X d_Mod_come_84 (by decide) rfl ?_
    refine V_iload_n (n := 3) X d_Mod_come_86 rfl rfl rfl ?_
    refine V_imul X d_Mod_come_87 rfl ?_
    refine V_iadd X d_Mod_come_88 rfl ?_
    refine V_iload_n (n := 2) X d_Mod_come_89 rfl rfl rfl ?_
    refine V_iadd X d_Mod_come_90 rfl ?_
    refine V_iconst (v := 0) X d_Mod_come_91 (by decide) rfl ?_
    obtain ⟨hb, h⟩ := ifn h
    obtain ⟨M6, eM6, h⟩ := memS h
    refine V_iast X kd_163 (inb_in ln_163 hb) d_Mod_come_92 rfl ?_
    rw [← eM6]
    refine V_iinc (n := 3) (v := (s.1 + (1 : Int32))) (lv' := [(3, .int (s.1 + (1 : Int32))), (0, .ref (G.2.2 + 162)), (1, .int v1), (2, .int v2)]) X d_Mod_come_93 rfl rfl (by decide) rfl rfl ?_
    refine V_goto (pc' := 57) X d_Mod_come_96 (by decide) ?_
    refine V_sub (lv' := [(0, .ref (G.2.2 + 162)), (1, .int v1), (2, .int v2), (3, .int (s.1 + (1 : Int32)))]) [1, 2, 3, 0] rfl ?_
    exact kc ((s.1 + (1 : Int32)), M6) (Option.some.inj h).symm
theorem lp_Mod_come_57_ok {E : Ev} {G : Gw} {d : Nat} {post : Mem → Prop} (X : Cx E G b_Mod_come "WomenByTheRoofsModel" 4 d none) (hD : 2 ≤ d)  (v1 : Int32) (v2 : Int32)   (n9 : Nat) (s : Int32 × Mem) (x : (Mem)) (h : iter (lb_Mod_come_57 v1 v2) n9 s = some x) (kx0 : ∀ x9 : Mem, x = x9 → V E (0, 0) G 4 (QV E G post) x9 99 [(0, .ref (G.2.2 + 162)), (1, .int v1), (2, .int v2)] []) : V E (0, 0) G 4 (QV E G post) s.2 57 [(0, .ref (G.2.2 + 162)), (1, .int v1), (2, .int v2), (3, .int s.1)] [] :=
  iter_P (P := fun s : Int32 × Mem => V E (0, 0) G 4 (QV E G post) s.2 57 [(0, .ref (G.2.2 + 162)), (1, .int v1), (2, .int v2), (3, .int s.1)] []) (fun s o hb kc ky => lb_Mod_come_57_ok X hD v1 v2 s o hb kc (fun x9 e9 => kx0 x9 (ky _ e9).symm)) n9 s h
def lb_Mod_come_115 (v1 : Int32) (v2 : Int32) (s : Int32 × Mem) : Option ((Int32 × Mem) ⊕ ((Mem))) :=
  if inb (v1 + (2 : Int32)) 96 = true then
  if (s.2.1 170 (v1 + (2 : Int32)).toNatClampNeg) ≤ s.1 then
  some (.inr s.2)
  else
  if inb ((v1 + (3 : Int32)) + s.1) 96 = true then
  if inb (((9 : Int32) * v2) + s.1) 72 = true then
  mem_ (s_i s.2 165 (((9 : Int32) * v2) + s.1).toNatClampNeg (s.2.1 170 ((v1 + (3 : Int32)) + s.1).toNatClampNeg)) fun M10 =>
  some (.inl ((s.1 + (1 : Int32)), M10))
  else none
  else none
  else none
theorem lb_Mod_come_115_ok {E : Ev} {G : Gw} {d : Nat} {post : Mem → Prop} (X : Cx E G b_Mod_come "WomenByTheRoofsModel" 4 d none) (hD : 2 ≤ d)  (v1 : Int32) (v2 : Int32)   (s : Int32 × Mem) (o : (Int32 × Mem) ⊕ ((Mem))) (h : lb_Mod_come_115 v1 v2 s = some o) (kc : ∀ s9 : Int32 × Mem, o = .inl s9 → V E (0, 0) G 4 (QV E G post) s9.2 115 [(0, .ref (G.2.2 + 162)), (1, .int v1), (2, .int v2), (3, .int s9.1)] []) (kx0 : ∀ x9 : Mem, o = .inr x9 → V E (0, 0) G 4 (QV E G post) x9 154 [(0, .ref (G.2.2 + 162))] []) : V E (0, 0) G 4 (QV E G post) s.2 115 [(0, .ref (G.2.2 + 162)), (1, .int v1), (2, .int v2), (3, .int s.1)] [] := by
  unfold lb_Mod_come_115 at h
  refine V_iload_n (n := 3) X d_Mod_come_115 rfl rfl rfl ?_
  refine V_aload_n (n := 0) X d_Mod_come_116 rfl rfl rfl ?_
  refine V_getr (k2 := 170) X fo_Mod_42 kd_162 rfl rf_162_20 d_Mod_come_117 rfl ?_
  refine V_iload_n (n := 1) X d_Mod_come_120 rfl rfl rfl ?_
  refine V_iconst (v := 2) X d_Mod_come_121 (by decide) rfl ?_
  refine V_iadd X d_Mod_come_122 rfl ?_
  obtain ⟨hb, h⟩ := ifn h
  refine V_iald X kd_170 (inb_in ln_170 hb) d_Mod_come_123 rfl ?_
  refine V_icmp_ge (tgt := 154) X d_Mod_come_124 (by decide) rfl (fun c11 => ?_) (fun c11 => ?_)
  · rw [if_pos c11] at h
    refine V_sub (lv' := [(0, .ref (G.2.2 + 162))]) [0] rfl ?_
    exact kx0 s.2 (Option.some.inj h).symm
  · rw [if_neg c11] at h
    refine V_aload_n (n := 0) X d_Mod_come_127 rfl rfl rfl ?_
    refine V_getr (k2 := 165) X fo_Mod_23 kd_162 rfl rf_162_6 d_Mod_come_128 rfl ?_
    refine V_bipush (v := 9) X d_Mod_come_131 (by decide) rfl ?_
    refine V_iload_n (n := 2) X d_Mod_come_133 rfl rfl rfl ?_
    refine V_imul X d_Mod_come_134 rfl ?_
    refine V_iload_n (n := 3) X d_Mod_come_135 rfl rfl rfl ?_
    refine V_iadd X d_Mod_come_136 rfl ?_
    refine V_aload_n (n := 0) X d_Mod_come_137 rfl rfl rfl ?_
    refine V_getr (k2 := 170) X fo_Mod_42 kd_162 rfl rf_162_20 d_Mod_come_138 rfl ?_
    refine V_iload_n (n := 1) X d_Mod_come_141 rfl rfl rfl ?_
    refine V_iconst (v := 3) X d_Mod_come_142 (by decide) rfl ?_
    refine V_iadd X d_Mod_come_143 rfl ?_
    refine V_iload_n (n := 3) X d_Mod_come_144 rfl rfl rfl ?_
    refine V_iadd X d_Mod_come_145 rfl ?_
    obtain ⟨hb, h⟩ := ifn h
    refine V_iald X kd_170 (inb_in ln_170 hb) d_Mod_come_146 rfl ?_
    obtain ⟨hb, h⟩ := ifn h
    obtain ⟨M10, eM10, h⟩ := memS h
    refine V_iast X kd_165 (inb_in ln_165 hb) d_Mod_come_147 rfl ?_
    rw [← eM10]
    refine V_iinc (n := 3) (v := (s.1 + (1 : Int32))) (lv' := [(3, .int (s.1 + (1 : Int32))), (0, .ref (G.2.2 + 162)), (1, .int v1), (2, .int v2)]) X d_Mod_come_148 rfl rfl (by decide) rfl rfl ?_
    refine V_goto (pc' := 115) X d_Mod_come_151 (by decide) ?_
    refine V_sub (lv' := [(0, .ref (G.2.2 + 162)), (1, .int v1), (2, .int v2), (3, .int (s.1 + (1 : Int32)))]) [1, 2, 3, 0] rfl ?_
    exact kc ((s.1 + (1 : Int32)), M10) (Option.some.inj h).symm
theorem lp_Mod_come_115_ok {E : Ev} {G : Gw} {d : Nat} {post : Mem → Prop} (X : Cx E G b_Mod_come "WomenByTheRoofsModel" 4 d none) (hD : 2 ≤ d)  (v1 : Int32) (v2 : Int32)   (n9 : Nat) (s : Int32 × Mem) (x : (Mem)) (h : iter (lb_Mod_come_115 v1 v2) n9 s = some x) (kx0 : ∀ x9 : Mem, x = x9 → V E (0, 0) G 4 (QV E G post) x9 154 [(0, .ref (G.2.2 + 162))] []) : V E (0, 0) G 4 (QV E G post) s.2 115 [(0, .ref (G.2.2 + 162)), (1, .int v1), (2, .int v2), (3, .int s.1)] [] :=
  iter_P (P := fun s : Int32 × Mem => V E (0, 0) G 4 (QV E G post) s.2 115 [(0, .ref (G.2.2 + 162)), (1, .int v1), (2, .int v2), (3, .int s.1)] []) (fun s o hb kc ky => lb_Mod_come_115_ok X hD v1 v2 s o hb kc (fun x9 e9 => kx0 x9 (ky _ e9).symm)) n9 s h
def f_Mod_come (v1 : Int32) (M : Mem) : Option (Mem) :=
  if inb v1 96 = true then
  if inb (v1 + (1 : Int32)) 96 = true then
  Option.bind (f_Mod_placeOf (M.1 170 v1.toNatClampNeg) (M.1 170 (v1 + (1 : Int32)).toNatClampNeg)) fun x1 =>
  if inb (M.1 162 4) 96 = true then
  mem_ (s_i M 163 (M.1 162 4).toNatClampNeg x1) fun M2 =>
  if inb v1 96 = true then
  mem_ (s_i M2 162 5 ((M2.1 162 5) ||| ((M2.1 170 v1.toNatClampNeg) <<< ((M.1 162 4) &&& 31)))) fun M3 =>
  if inb ((8 : Int32) + (M.1 162 4)) 96 = true then
  mem_ (s_i M3 163 ((8 : Int32) + (M.1 162 4)).toNatClampNeg (0 : Int32)) fun M4 =>
  Option.bind (iter (lb_Mod_come_57 v1 (M.1 162 4)) FU ((0 : Int32), M4)) fun x8 =>
  if inb (v1 + (2 : Int32)) 96 = true then
  if inb (M.1 162 4) 8 = true then
  mem_ (s_i x8 166 (M.1 162 4).toNatClampNeg (x8.1 170 (v1 + (2 : Int32)).toNatClampNeg)) fun M9 =>
  Option.bind (iter (lb_Mod_come_115 v1 (M.1 162 4)) FU ((0 : Int32), M9)) fun x12 =>
  mem_ (s_i x12 162 4 ((x12.1 162 4) + (1 : Int32))) fun M13 =>
  some M13
  else none
  else none
  else none
  else none
  else none
  else none
  else none
theorem c_Mod_come (l : Launch) (G : Gw)  (v1 : Int32) (M : Mem) (x : Mem) (h : f_Mod_come v1 M = some x) (d : Nat) (hD : 2 ≤ d) : Cv l G y_Mod_come b_Mod_come 4 none d [.ref (G.2.2 + 162), .int v1] M (fun M9 => M9 = x) := by
  refine Cv_of (by decide) (Nat.le_of_ble_eq_true rfl) (fun E hE X => ?_)
  subst hE
  have kr : ∀ x9 : Mem, x = x9 → (fun M9 => M9 = x) x9 := fun x9 e9 => by subst e9; exact rfl
  unfold f_Mod_come at h
  refine V_aload_n (n := 0) X d_Mod_come_0 rfl rfl rfl ?_
  refine V_geti X fo_Mod_123 kd_162 rfl d_Mod_come_1 rfl ?_
  refine V_istore_n (lv' := [(2, .int (M.1 162 4)), (0, .ref (G.2.2 + 162)), (1, .int v1)]) X d_Mod_come_4 rfl (by decide) rfl rfl ?_
  refine V_aload_n (n := 1) X d_Mod_come_5 rfl rfl rfl ?_
  refine V_getr (k2 := 163) X fo_Mod_9 kd_162 rfl rf_162_0 d_Mod_come_6 rfl ?_
  refine V_iload_n (n := 0) X d_Mod_come_9 rfl rfl rfl ?_
  refine V_aload_n (n := 1) X d_Mod_come_10 rfl rfl rfl ?_
  refine V_getr (k2 := 170) X fo_Mod_42 kd_162 rfl rf_162_20 d_Mod_come_11 rfl ?_
  refine V_iload_n (n := 2) X d_Mod_come_14 rfl rfl rfl ?_
  obtain ⟨hb, h⟩ := ifn h
  refine V_iald X kd_170 (inb_in ln_170 hb) d_Mod_come_15 rfl ?_
  refine V_aload_n (n := 1) X d_Mod_come_16 rfl rfl rfl ?_
  refine V_getr (k2 := 170) X fo_Mod_42 kd_162 rfl rf_162_20 d_Mod_come_17 rfl ?_
  refine V_iload_n (n := 2) X d_Mod_come_20 rfl rfl rfl ?_
  refine V_iconst (v := 1) X d_Mod_come_21 (by decide) rfl ?_
  refine V_iadd X d_Mod_come_22 rfl ?_
  obtain ⟨hb, h⟩ := ifn h
  refine V_iald X kd_170 (inb_in ln_170 hb) d_Mod_come_23 rfl ?_
  obtain ⟨x1, hx1, h⟩ := ob_s h
  refine V_si (As := [.int (M.1 170 v1.toNatClampNeg), .int (M.1 170 (v1 + (1 : Int32)).toNatClampNeg)]) X (Z0 E) ml_Mod_154 yq_Mod_placeOf (c_Mod_placeOf E.2.1 G (M.1 170 v1.toNatClampNeg) (M.1 170 (v1 + (1 : Int32)).toNatClampNeg) M x1 hx1 _ (Nat.le_refl _)) rfl (by omega) rfl (Nat.le_of_ble_eq_true rfl) d_Mod_come_24 rfl (fun r9 M9 hq => ?_)
  rw [hq.1, hq.2]
  obtain ⟨hb, h⟩ := ifn h
  obtain ⟨M2, eM2, h⟩ := memS h
  refine V_iast X kd_163 (inb_in ln_163 hb) d_Mod_come_27 rfl ?_
  rw [← eM2]
  refine V_aload_n (n := 1) X d_Mod_come_28 rfl rfl rfl ?_
  refine V_dup X d_Mod_come_29 rfl rfl ?_
  refine V_geti X fo_Mod_130 kd_162 rfl d_Mod_come_30 rfl ?_
  refine V_aload_n (n := 1) X d_Mod_come_33 rfl rfl rfl ?_
  refine V_getr (k2 := 170) X fo_Mod_42 kd_162 rfl rf_162_20 d_Mod_come_34 rfl ?_
  refine V_iload_n (n := 2) X d_Mod_come_37 rfl rfl rfl ?_
  obtain ⟨hb, h⟩ := ifn h
  refine V_iald X kd_170 (inb_in ln_170 hb) d_Mod_come_38 rfl ?_
  refine V_iload_n (n := 0) X d_Mod_come_39 rfl rfl rfl ?_
  refine V_ishl X d_Mod_come_40 rfl ?_
  refine V_ior X d_Mod_come_41 rfl ?_
  obtain ⟨M3, eM3, h⟩ := memS h
  refine V_putI X fp_Mod_130 kd_162 rfl d_Mod_come_42 rfl ?_
  rw [← eM3]
  refine V_aload_n (n := 1) X d_Mod_come_45 rfl rfl rfl ?_
  refine V_getr (k2 := 163) X fo_Mod_9 kd_162 rfl rf_162_0 d_Mod_come_46 rfl ?_
  refine V_bipush (v := 8) X d_Mod_come_49 (by decide) rfl ?_
  refine V_iload_n (n := 0) X d_Mod_come_51 rfl rfl rfl ?_
  refine V_iadd X d_Mod_come_52 rfl ?_
  refine V_iconst (v := 0) X d_Mod_come_53 (by decide) rfl ?_
  obtain ⟨hb, h⟩ := ifn h
  obtain ⟨M4, eM4, h⟩ := memS h
  refine V_iast X kd_163 (inb_in ln_163 hb) d_Mod_come_54 rfl ?_
  rw [← eM4]
  refine V_iconst (v := 0) X d_Mod_come_55 (by decide) rfl ?_
  refine V_istore_n (lv' := [(3, .int (0 : Int32)), (2, .int (M.1 162 4)), (0, .ref (G.2.2 + 162)), (1, .int v1)]) X d_Mod_come_56 rfl (by decide) rfl rfl ?_
  refine V_sub (lv' := [(0, .ref (G.2.2 + 162)), (1, .int v1), (2, .int (M.1 162 4)), (3, .int (0 : Int32))]) [2, 3, 1, 0] rfl ?_
  obtain ⟨x8, hx8, h⟩ := ob_s h
  refine (lp_Mod_come_57_ok X hD v1 (M.1 162 4) _ _ _ hx8 (fun x9 e9 => ?_) :)
  subst e9
  refine V_aload_n (n := 0) X d_Mod_come_99 rfl rfl rfl ?_
  refine V_getr (k2 := 166) X fo_Mod_26 kd_162 rfl rf_162_7 d_Mod_come_100 rfl ?_
  refine V_iload_n (n := 2) X d_Mod_come_103 rfl rfl rfl ?_
  refine V_aload_n (n := 0) X d_Mod_come_104 rfl rfl rfl ?_
  refine V_getr (k2 := 170) X fo_Mod_42 kd_162 rfl rf_162_20 d_Mod_come_105 rfl ?_
  refine V_iload_n (n := 1) X d_Mod_come_108 rfl rfl rfl ?_
  refine V_iconst (v := 2) X d_Mod_come_109 (by decide) rfl ?_
  refine V_iadd X d_Mod_come_110 rfl ?_
  obtain ⟨hb, h⟩ := ifn h
  refine V_iald X kd_170 (inb_in ln_170 hb) d_Mod_come_111 rfl ?_
  obtain ⟨hb, h⟩ := ifn h
  obtain ⟨M9, eM9, h⟩ := memS h
  refine V_iast X kd_166 (inb_in ln_166 hb) d_Mod_come_112 rfl ?_
  rw [← eM9]
  refine V_iconst (v := 0) X d_Mod_come_113 (by decide) rfl ?_
  refine V_istore_n (lv' := [(3, .int (0 : Int32)), (0, .ref (G.2.2 + 162)), (1, .int v1), (2, .int (M.1 162 4))]) X d_Mod_come_114 rfl (by decide) rfl rfl ?_
  refine V_sub (lv' := [(0, .ref (G.2.2 + 162)), (1, .int v1), (2, .int (M.1 162 4)), (3, .int (0 : Int32))]) [1, 2, 3, 0] rfl ?_
  obtain ⟨x12, hx12, h⟩ := ob_s h
  refine (lp_Mod_come_115_ok X hD v1 (M.1 162 4) _ _ _ hx12 (fun x9 e9 => ?_) :)
  subst e9
  refine V_aload_n (n := 0) X d_Mod_come_154 rfl rfl rfl ?_
  refine V_dup X d_Mod_come_155 rfl rfl ?_
  refine V_geti X fo_Mod_123 kd_162 rfl d_Mod_come_156 rfl ?_
  refine V_iconst (v := 1) X d_Mod_come_159 (by decide) rfl ?_
  refine V_iadd X d_Mod_come_160 rfl ?_
  obtain ⟨M13, eM13, h⟩ := memS h
  refine V_putI X fp_Mod_123 kd_162 rfl d_Mod_come_161 rfl ?_
  rw [← eM13]
  exact V_vret X (kr M13 (Option.some.inj h).symm) d_Mod_come_164
def j_Mod_folk_78_37 (v1 : Int32) (M : Mem) : Option ((Int32 × Int32 × Mem) ⊕ ((Int32 × Mem))) :=
  Option.bind (f_Mod_passes (59 : Int32) M) fun x6 =>
  some (.inl ((v1 + (1 : Int32)), x6.1, x6.2))
theorem j_Mod_folk_78_37_ok {E : Ev} {G : Gw} {d : Nat} {post : Int32 → Mem → Prop} (X : Cx E G b_Mod_folk "WomenByTheRoofsModel" 4 d (some .int)) (hD : 5 ≤ d)  (v1 : Int32)  (M : Mem)  (o : (Int32 × Int32 × Mem) ⊕ ((Int32 × Mem))) (h : j_Mod_folk_78_37 v1 M = some o) (kc : ∀ s9 : Int32 × Int32 × Mem, o = .inl s9 → V E (0, 0) G 4 (QI E G post) s9.2.2 37 [(0, .ref (G.2.2 + 162)), (1, .int s9.1), (2, .int s9.2.1)] []) (kx0 : ∀ x9 : Int32 × Mem, o = .inr x9 → V E (0, 0) G 4 (QI E G post) x9.2 91 [(0, .ref (G.2.2 + 162)), (1, .int x9.1)] []) : V E (0, 0) G 4 (QI E G post) M 78 [(0, .ref (G.2.2 + 162)), (1, .int v1)] [] := by
  unfold j_Mod_folk_78_37 at h
  refine V_iinc (n := 1) (v := (v1 + (1 : Int32))) (lv' := [(1, .int (v1 + (1 : Int32))), (0, .ref (G.2.2 + 162))]) X d_Mod_folk_78 rfl rfl (by decide) rfl rfl ?_
  refine V_aload_n (n := 1) X d_Mod_folk_81 rfl rfl rfl ?_
  refine V_bipush (v := 59) X d_Mod_folk_82 (by decide) rfl ?_
  obtain ⟨x6, hx6, h⟩ := ob_s h
  refine V_ci (As := [.int (59 : Int32)]) X (Z0 E) ml_Mod_186 yq_Mod_passes (c_Mod_passes E.2.1 G (59 : Int32) M x6 hx6 _ (Nat.le_refl _)) kd_162 rfl rfl (by omega) rfl (Nat.le_of_ble_eq_true rfl) d_Mod_folk_84 rfl (fun r9 M9 hq => ?_)
  rw [hq.1, hq.2]
  refine V_istore_n (lv' := [(2, .int x6.1), (1, .int (v1 + (1 : Int32))), (0, .ref (G.2.2 + 162))]) X d_Mod_folk_87 rfl (by decide) rfl rfl ?_
  refine V_goto (pc' := 37) X d_Mod_folk_88 (by decide) ?_
  refine V_sub (lv' := [(0, .ref (G.2.2 + 162)), (1, .int (v1 + (1 : Int32))), (2, .int x6.1)]) [2, 1, 0] rfl ?_
  exact kc ((v1 + (1 : Int32)), x6.1, x6.2) (Option.some.inj h).symm
def lb_Mod_folk_37  (s : Int32 × Int32 × Mem) : Option ((Int32 × Int32 × Mem) ⊕ ((Int32 × Mem))) :=
  if s.2.1 = 0 then
  some (.inr (s.1, s.2.2))
  else
  Option.bind (f_Mod_fine s.2.2) fun x4 =>
  if x4 = 0 then
  some (.inr (s.1, s.2.2))
  else
  if ((s.2.2.1 162 4) + s.1) = (8 : Int32) then
  Option.bind (f_Mod_fault (s.2.2.1 162 17) s.2.2) fun x7 =>
  j_Mod_folk_78_37 s.1 x7
  else
  Option.bind (f_Mod_readOne ((12 : Int32) * s.1) s.2.2) fun x5 =>
  j_Mod_folk_78_37 s.1 x5
theorem lb_Mod_folk_37_ok {E : Ev} {G : Gw} {d : Nat} {post : Int32 → Mem → Prop} (X : Cx E G b_Mod_folk "WomenByTheRoofsModel" 4 d (some .int)) (hD : 5 ≤ d)     (s : Int32 × Int32 × Mem) (o : (Int32 × Int32 × Mem) ⊕ ((Int32 × Mem))) (h : lb_Mod_folk_37 s = some o) (kc : ∀ s9 : Int32 × Int32 × Mem, o = .inl s9 → V E (0, 0) G 4 (QI E G post) s9.2.2 37 [(0, .ref (G.2.2 + 162)), (1, .int s9.1), (2, .int s9.2.1)] []) (kx0 : ∀ x9 : Int32 × Mem, o = .inr x9 → V E (0, 0) G 4 (QI E G post) x9.2 91 [(0, .ref (G.2.2 + 162)), (1, .int x9.1)] []) : V E (0, 0) G 4 (QI E G post) s.2.2 37 [(0, .ref (G.2.2 + 162)), (1, .int s.1), (2, .int s.2.1)] [] := by
  unfold lb_Mod_folk_37 at h
  refine V_iload_n (n := 2) X d_Mod_folk_37 rfl rfl rfl ?_
  refine V_if_eq (tgt := 91) X d_Mod_folk_38 (by decide) rfl (fun c10 => ?_) (fun c10 => ?_)
  · rw [if_pos c10] at h
    refine V_sub (lv' := [(0, .ref (G.2.2 + 162)), (1, .int s.1)]) [0, 1] rfl ?_
    exact kx0 (s.1, s.2.2) (Option.some.inj h).symm
  · rw [if_neg c10] at h
    refine V_aload_n (n := 0) X d_Mod_folk_41 rfl rfl rfl ?_
    obtain ⟨x4, hx4, h⟩ := ob_s h
    refine V_ci (As := []) X (Z0 E) ml_Mod_179 yq_Mod_fine (c_Mod_fine E.2.1 G  s.2.2 x4 hx4 _ (Nat.le_refl _)) kd_162 rfl rfl (by omega) rfl (Nat.le_of_ble_eq_true rfl) d_Mod_folk_42 rfl (fun r9 M9 hq => ?_)
    rw [hq.1, hq.2]
    refine V_if_eq (tgt := 91) X d_Mod_folk_45 (by decide) rfl (fun c9 => ?_) (fun c9 => ?_)
    · rw [if_pos c9] at h
      refine V_sub (lv' := [(0, .ref (G.2.2 + 162)), (1, .int s.1)]) [0, 1] rfl ?_
      exact kx0 (s.1, s.2.2) (Option.some.inj h).symm
    · rw [if_neg c9] at h
      refine V_aload_n (n := 0) X d_Mod_folk_48 rfl rfl rfl ?_
      refine V_geti X fo_Mod_123 kd_162 rfl d_Mod_folk_49 rfl ?_
      refine V_iload_n (n := 1) X d_Mod_folk_52 rfl rfl rfl ?_
      refine V_iadd X d_Mod_folk_53 rfl ?_
      refine V_bipush (v := 8) X d_Mod_folk_54 (by decide) rfl ?_
      refine V_icmp_ne (tgt := 70) X d_Mod_folk_56 (by decide) rfl (fun c8 => ?_) (fun c8 => ?_)
      · rw [if_neg c8] at h
        refine V_aload_n (n := 0) X d_Mod_folk_70 rfl rfl rfl ?_
        refine V_bipush (v := 12) X d_Mod_folk_71 (by decide) rfl ?_
        refine V_iload_n (n := 1) X d_Mod_folk_73 rfl rfl rfl ?_
        refine V_imul X d_Mod_folk_74 rfl ?_
        obtain ⟨x5, hx5, h⟩ := ob_s h
        refine V_cv (As := [.int ((12 : Int32) * s.1)]) X (Z0 E) ml_Mod_204 yq_Mod_readOne (c_Mod_readOne E.2.1 G ((12 : Int32) * s.1) s.2.2 x5 hx5 _ (Nat.le_refl _)) kd_162 rfl rfl (by omega) rfl (Nat.le_of_ble_eq_true rfl) d_Mod_folk_75 rfl (fun M9 hq => ?_)
        rw [hq]
        refine V_sub (lv' := [(0, .ref (G.2.2 + 162)), (1, .int s.1)]) [0, 1] rfl ?_
        exact j_Mod_folk_78_37_ok X hD s.1 x5 _ h kc kx0
      · rw [if_pos c8] at h
        refine V_aload_n (n := 0) X d_Mod_folk_59 rfl rfl rfl ?_
        refine V_aload_n (n := 0) X d_Mod_folk_60 rfl rfl rfl ?_
        refine V_geti X fo_Mod_173 kd_162 rfl d_Mod_folk_61 rfl ?_
        obtain ⟨x7, hx7, h⟩ := ob_s h
        refine V_cv (As := [.int (s.2.2.1 162 17)]) X (Z0 E) ml_Mod_190 yq_Mod_fault (c_Mod_fault E.2.1 G (s.2.2.1 162 17) s.2.2 x7 hx7 _ (Nat.le_refl _)) kd_162 rfl rfl (by omega) rfl (Nat.le_of_ble_eq_true rfl) d_Mod_folk_64 rfl (fun M9 hq => ?_)
        rw [hq]
        refine V_goto (pc' := 78) X d_Mod_folk_67 (by decide) ?_
        refine V_sub (lv' := [(0, .ref (G.2.2 + 162)), (1, .int s.1)]) [0, 1] rfl ?_
        exact j_Mod_folk_78_37_ok X hD s.1 x7 _ h kc kx0
theorem lp_Mod_folk_37_ok {E : Ev} {G : Gw} {d : Nat} {post : Int32 → Mem → Prop} (X : Cx E G b_Mod_folk "WomenByTheRoofsModel" 4 d (some .int)) (hD : 5 ≤ d)     (n9 : Nat) (s : Int32 × Int32 × Mem) (x : (Int32 × Mem)) (h : iter (lb_Mod_folk_37) n9 s = some x) (kx0 : ∀ x9 : Int32 × Mem, x = x9 → V E (0, 0) G 4 (QI E G post) x9.2 91 [(0, .ref (G.2.2 + 162)), (1, .int x9.1)] []) : V E (0, 0) G 4 (QI E G post) s.2.2 37 [(0, .ref (G.2.2 + 162)), (1, .int s.1), (2, .int s.2.1)] [] :=
  iter_P (P := fun s : Int32 × Int32 × Mem => V E (0, 0) G 4 (QI E G post) s.2.2 37 [(0, .ref (G.2.2 + 162)), (1, .int s.1), (2, .int s.2.1)] []) (fun s o hb kc ky => lb_Mod_folk_37_ok X hD  s o hb kc (fun x9 e9 => kx0 x9 (ky _ e9).symm)) n9 s h
def lb_Mod_folk_126 (v1 : Int32) (s : Int32 × Mem) : Option ((Int32 × Mem) ⊕ ((Mem))) :=
  if v1 ≤ s.1 then
  some (.inr s.2)
  else
  Option.bind (f_Mod_come ((12 : Int32) * s.1) s.2) fun x13 =>
  some (.inl ((s.1 + (1 : Int32)), x13))
theorem lb_Mod_folk_126_ok {E : Ev} {G : Gw} {d : Nat} {post : Int32 → Mem → Prop} (X : Cx E G b_Mod_folk "WomenByTheRoofsModel" 4 d (some .int)) (hD : 5 ≤ d)  (v1 : Int32)   (s : Int32 × Mem) (o : (Int32 × Mem) ⊕ ((Mem))) (h : lb_Mod_folk_126 v1 s = some o) (kc : ∀ s9 : Int32 × Mem, o = .inl s9 → V E (0, 0) G 4 (QI E G post) s9.2 126 [(0, .ref (G.2.2 + 162)), (1, .int v1), (3, .int s9.1)] []) (kx0 : ∀ x9 : Mem, o = .inr x9 → V E (0, 0) G 4 (QI E G post) x9 145 [(0, .ref (G.2.2 + 162)), (1, .int v1)] []) : V E (0, 0) G 4 (QI E G post) s.2 126 [(0, .ref (G.2.2 + 162)), (1, .int v1), (3, .int s.1)] [] := by
  unfold lb_Mod_folk_126 at h
  refine V_iload_n (n := 2) X d_Mod_folk_126 rfl rfl rfl ?_
  refine V_iload_n (n := 1) X d_Mod_folk_127 rfl rfl rfl ?_
  refine V_icmp_ge (tgt := 145) X d_Mod_folk_128 (by decide) rfl (fun c14 => ?_) (fun c14 => ?_)
  · rw [if_pos c14] at h
    refine V_sub (lv' := [(0, .ref (G.2.2 + 162)), (1, .int v1)]) [0, 1] rfl ?_
    exact kx0 s.2 (Option.some.inj h).symm
  · rw [if_neg c14] at h
    refine V_aload_n (n := 0) X d_Mod_folk_131 rfl rfl rfl ?_
    refine V_bipush (v := 12) X d_Mod_folk_132 (by decide) rfl ?_
    refine V_iload_n (n := 2) X d_Mod_folk_134 rfl rfl rfl ?_
    refine V_imul X d_Mod_folk_135 rfl ?_
    obtain ⟨x13, hx13, h⟩ := ob_s h
    refine V_cv (As := [.int ((12 : Int32) * s.1)]) X (Z0 E) ml_Mod_207 yq_Mod_come (c_Mod_come E.2.1 G ((12 : Int32) * s.1) s.2 x13 hx13 _ (Nat.le_refl _)) kd_162 rfl rfl (by omega) rfl (Nat.le_of_ble_eq_true rfl) d_Mod_folk_136 rfl (fun M9 hq => ?_)
    rw [hq]
    refine V_iinc (n := 2) (v := (s.1 + (1 : Int32))) (lv' := [(3, .int (s.1 + (1 : Int32))), (0, .ref (G.2.2 + 162)), (1, .int v1)]) X d_Mod_folk_139 rfl rfl (by decide) rfl rfl ?_
    refine V_goto (pc' := 126) X d_Mod_folk_142 (by decide) ?_
    refine V_sub (lv' := [(0, .ref (G.2.2 + 162)), (1, .int v1), (3, .int (s.1 + (1 : Int32)))]) [1, 2, 0] rfl ?_
    exact kc ((s.1 + (1 : Int32)), x13) (Option.some.inj h).symm
theorem lp_Mod_folk_126_ok {E : Ev} {G : Gw} {d : Nat} {post : Int32 → Mem → Prop} (X : Cx E G b_Mod_folk "WomenByTheRoofsModel" 4 d (some .int)) (hD : 5 ≤ d)  (v1 : Int32)   (n9 : Nat) (s : Int32 × Mem) (x : (Mem)) (h : iter (lb_Mod_folk_126 v1) n9 s = some x) (kx0 : ∀ x9 : Mem, x = x9 → V E (0, 0) G 4 (QI E G post) x9 145 [(0, .ref (G.2.2 + 162)), (1, .int v1)] []) : V E (0, 0) G 4 (QI E G post) s.2 126 [(0, .ref (G.2.2 + 162)), (1, .int v1), (3, .int s.1)] [] :=
  iter_P (P := fun s : Int32 × Mem => V E (0, 0) G 4 (QI E G post) s.2 126 [(0, .ref (G.2.2 + 162)), (1, .int v1), (3, .int s.1)] []) (fun s o hb kc ky => lb_Mod_folk_126_ok X hD v1 s o hb kc (fun x9 e9 => kx0 x9 (ky _ e9).symm)) n9 s h
def j_Mod_folk_110 (v1 : Int32) (M : Mem) : Option (Int32 × Mem) :=
  Option.bind (f_Mod_fine M) fun x12 =>
  if x12 = 0 then
  some (((-1 : Int32) - (M.1 162 18)), M)
  else
  Option.bind (iter (lb_Mod_folk_126 v1) FU ((0 : Int32), M)) fun x15 =>
  mem_ (s_i x15 162 27 (0 : Int32)) fun M16 =>
  mem_ (s_i M16 162 48 ((M16.1 162 48) + (1 : Int32))) fun M17 =>
  some (v1, M17)
theorem j_Mod_folk_110_ok {E : Ev} {G : Gw} {d : Nat} {post : Int32 → Mem → Prop} (X : Cx E G b_Mod_folk "WomenByTheRoofsModel" 4 d (some .int)) (hD : 5 ≤ d)  (v1 : Int32)  (M : Mem)  (o : Int32 × Mem) (h : j_Mod_folk_110 v1 M = some o) (kr : ∀ x9 : Int32 × Mem, o = x9 → post x9.1 x9.2) : V E (0, 0) G 4 (QI E G post) M 110 [(0, .ref (G.2.2 + 162)), (1, .int v1)] [] := by
  unfold j_Mod_folk_110 at h
  refine V_aload_n (n := 0) X d_Mod_folk_110 rfl rfl rfl ?_
  obtain ⟨x12, hx12, h⟩ := ob_s h
  refine V_ci (As := []) X (Z0 E) ml_Mod_179 yq_Mod_fine (c_Mod_fine E.2.1 G  M x12 hx12 _ (Nat.le_refl _)) kd_162 rfl rfl (by omega) rfl (Nat.le_of_ble_eq_true rfl) d_Mod_folk_111 rfl (fun r9 M9 hq => ?_)
  rw [hq.1, hq.2]
  refine V_if_ne (tgt := 124) X d_Mod_folk_114 (by decide) rfl (fun c18 => ?_) (fun c18 => ?_)
  · rw [if_neg c18] at h
    refine V_iconst (v := 0) X d_Mod_folk_124 (by decide) rfl ?_
    refine V_istore_n (lv' := [(3, .int (0 : Int32)), (0, .ref (G.2.2 + 162)), (1, .int v1)]) X d_Mod_folk_125 rfl (by decide) rfl rfl ?_
    refine V_sub (lv' := [(0, .ref (G.2.2 + 162)), (1, .int v1), (3, .int (0 : Int32))]) [1, 2, 0] rfl ?_
    obtain ⟨x15, hx15, h⟩ := ob_s h
    refine (lp_Mod_folk_126_ok X hD v1 _ _ _ hx15 (fun x9 e9 => ?_) :)
    subst e9
    refine V_aload_n (n := 0) X d_Mod_folk_145 rfl rfl rfl ?_
    refine V_iconst (v := 0) X d_Mod_folk_146 (by decide) rfl ?_
    obtain ⟨M16, eM16, h⟩ := memS h
    refine V_putI X fp_Mod_201 kd_162 rfl d_Mod_folk_147 rfl ?_
    rw [← eM16]
    refine V_aload_n (n := 0) X d_Mod_folk_150 rfl rfl rfl ?_
    refine V_dup X d_Mod_folk_151 rfl rfl ?_
    refine V_geti X fo_Mod_210 kd_162 rfl d_Mod_folk_152 rfl ?_
    refine V_iconst (v := 1) X d_Mod_folk_155 (by decide) rfl ?_
    refine V_iadd X d_Mod_folk_156 rfl ?_
    obtain ⟨M17, eM17, h⟩ := memS h
    refine V_putI X fp_Mod_210 kd_162 rfl d_Mod_folk_157 rfl ?_
    rw [← eM17]
    refine V_iload_n (n := 1) X d_Mod_folk_160 rfl rfl rfl ?_
    exact V_iret X (kr (v1, M17) (Option.some.inj h).symm) d_Mod_folk_161
  · rw [if_pos c18] at h
    refine V_iconst (v := -1) X d_Mod_folk_117 (by decide) rfl ?_
    refine V_aload_n (n := 0) X d_Mod_folk_118 rfl rfl rfl ?_
    refine V_geti X fo_Mod_176 kd_162 rfl d_Mod_folk_119 rfl ?_
    refine V_isub X d_Mod_folk_122 rfl ?_
    exact V_iret X (kr (((-1 : Int32) - (M.1 162 18)), M) (Option.some.inj h).symm) d_Mod_folk_123
def j_Mod_folk_91 (v1 : Int32) (M : Mem) : Option (Int32 × Mem) :=
  if (M.1 162 15) ≤ (M.1 162 17) then
  j_Mod_folk_110 v1 M
  else
  Option.bind (f_Mod_fault (M.1 162 17) M) fun x19 =>
  j_Mod_folk_110 v1 x19
theorem j_Mod_folk_91_ok {E : Ev} {G : Gw} {d : Nat} {post : Int32 → Mem → Prop} (X : Cx E G b_Mod_folk "WomenByTheRoofsModel" 4 d (some .int)) (hD : 5 ≤ d)  (v1 : Int32)  (M : Mem)  (o : Int32 × Mem) (h : j_Mod_folk_91 v1 M = some o) (kr : ∀ x9 : Int32 × Mem, o = x9 → post x9.1 x9.2) : V E (0, 0) G 4 (QI E G post) M 91 [(0, .ref (G.2.2 + 162)), (1, .int v1)] [] := by
  unfold j_Mod_folk_91 at h
  refine V_aload_n (n := 0) X d_Mod_folk_91 rfl rfl rfl ?_
  refine V_geti X fo_Mod_173 kd_162 rfl d_Mod_folk_92 rfl ?_
  refine V_aload_n (n := 0) X d_Mod_folk_95 rfl rfl rfl ?_
  refine V_geti X fo_Mod_167 kd_162 rfl d_Mod_folk_96 rfl ?_
  refine V_icmp_ge (tgt := 110) X d_Mod_folk_99 (by decide) rfl (fun c20 => ?_) (fun c20 => ?_)
  · rw [if_pos c20] at h
    exact j_Mod_folk_110_ok X hD v1 M _ h kr
  · rw [if_neg c20] at h
    refine V_aload_n (n := 0) X d_Mod_folk_102 rfl rfl rfl ?_
    refine V_aload_n (n := 0) X d_Mod_folk_103 rfl rfl rfl ?_
    refine V_geti X fo_Mod_173 kd_162 rfl d_Mod_folk_104 rfl ?_
    obtain ⟨x19, hx19, h⟩ := ob_s h
    refine V_cv (As := [.int (M.1 162 17)]) X (Z0 E) ml_Mod_190 yq_Mod_fault (c_Mod_fault E.2.1 G (M.1 162 17) M x19 hx19 _ (Nat.le_refl _)) kd_162 rfl rfl (by omega) rfl (Nat.le_of_ble_eq_true rfl) d_Mod_folk_107 rfl (fun M9 hq => ?_)
    rw [hq]
    exact j_Mod_folk_110_ok X hD v1 x19 _ h kr
def f_Mod_folk (M : Mem) : Option (Int32 × Mem) :=
  mem_ (s_i M 162 13 (0 : Int32)) fun M1 =>
  Option.bind (f_Mod_begin 167 (M1.1 162 10) (76 : Int32) M1) fun x2 =>
  mem_ (s_i x2 162 10 (0 : Int32)) fun M3 =>
  if (M3.1 162 15) = 0 then
  some ((0 : Int32), M3)
  else
  Option.bind (iter (lb_Mod_folk_37) FU ((0 : Int32), (1 : Int32), M3)) fun x11 =>
  j_Mod_folk_91 x11.1 x11.2
theorem c_Mod_folk (l : Launch) (G : Gw)   (M : Mem) (x : Int32 × Mem) (h : f_Mod_folk M = some x) (d : Nat) (hD : 5 ≤ d) : Ci l G y_Mod_folk b_Mod_folk 4 (some .int) d [.ref (G.2.2 + 162)] M (fun r9 M9 => r9 = x.1 ∧ M9 = x.2) := by
  refine Ci_of (by decide) (Nat.le_of_ble_eq_true rfl) (fun E hE X => ?_)
  subst hE
  have kr : ∀ x9 : Int32 × Mem, x = x9 → (fun r9 M9 => r9 = x.1 ∧ M9 = x.2) x9.1 x9.2 := fun x9 e9 => by subst e9; exact ⟨rfl, rfl⟩
  unfold f_Mod_folk at h
  refine V_aload_n (n := 0) X d_Mod_folk_0 rfl rfl rfl ?_
  refine V_iconst (v := 0) X d_Mod_folk_1 (by decide) rfl ?_
  obtain ⟨M1, eM1, h⟩ := memS h
  refine V_putI X fp_Mod_109 kd_162 rfl d_Mod_folk_2 rfl ?_
  rw [← eM1]
  refine V_aload_n (n := 0) X d_Mod_folk_5 rfl rfl rfl ?_
  refine V_aload_n (n := 0) X d_Mod_folk_6 rfl rfl rfl ?_
  refine V_getr (k2 := 167) X fo_Mod_32 kd_162 rfl rf_162_9 d_Mod_folk_7 rfl ?_
  refine V_aload_n (n := 0) X d_Mod_folk_10 rfl rfl rfl ?_
  refine V_geti X fo_Mod_161 kd_162 rfl d_Mod_folk_11 rfl ?_
  refine V_bipush (v := 76) X d_Mod_folk_14 (by decide) rfl ?_
  obtain ⟨x2, hx2, h⟩ := ob_s h
  refine V_cv (As := [.ref (G.2.2 + 167), .int (M1.1 162 10), .int (76 : Int32)]) X (Z0 E) ml_Mod_194 yq_Mod_begin (c_Mod_begin E.2.1 G 167 (M1.1 162 10) (76 : Int32) M1 x2 hx2 _ (Nat.le_refl _)) kd_162 rfl rfl (by omega) rfl (Nat.le_of_ble_eq_true rfl) d_Mod_folk_16 rfl (fun M9 hq => ?_)
  rw [hq]
  refine V_aload_n (n := 0) X d_Mod_folk_19 rfl rfl rfl ?_
  refine V_iconst (v := 0) X d_Mod_folk_20 (by decide) rfl ?_
  obtain ⟨M3, eM3, h⟩ := memS h
  refine V_putI X fp_Mod_161 kd_162 rfl d_Mod_folk_21 rfl ?_
  rw [← eM3]
  refine V_aload_n (n := 0) X d_Mod_folk_24 rfl rfl rfl ?_
  refine V_geti X fo_Mod_167 kd_162 rfl d_Mod_folk_25 rfl ?_
  refine V_if_ne (tgt := 33) X d_Mod_folk_28 (by decide) rfl (fun c21 => ?_) (fun c21 => ?_)
  · rw [if_neg c21] at h
    refine V_iconst (v := 0) X d_Mod_folk_33 (by decide) rfl ?_
    refine V_istore_n (lv' := [(1, .int (0 : Int32)), (0, .ref (G.2.2 + 162))]) X d_Mod_folk_34 rfl (by decide) rfl rfl ?_
    refine V_iconst (v := 1) X d_Mod_folk_35 (by decide) rfl ?_
    refine V_istore_n (lv' := [(2, .int (1 : Int32)), (1, .int (0 : Int32)), (0, .ref (G.2.2 + 162))]) X d_Mod_folk_36 rfl (by decide) rfl rfl ?_
    refine V_sub (lv' := [(0, .ref (G.2.2 + 162)), (1, .int (0 : Int32)), (2, .int (1 : Int32))]) [2, 1, 0] rfl ?_
    obtain ⟨x11, hx11, h⟩ := ob_s h
    refine (lp_Mod_folk_37_ok X hD  _ _ _ hx11 (fun x9 e9 => ?_) :)
    subst e9
    exact j_Mod_folk_91_ok X hD x11.1 x11.2 _ h kr
  · rw [if_pos c21] at h
    refine V_iconst (v := 0) X d_Mod_folk_31 (by decide) rfl ?_
    exact V_iret X (kr ((0 : Int32), M3) (Option.some.inj h).symm) d_Mod_folk_32
def lb_Mod_route_87 (v1 : Int32) (v2 : Int32) (s : Int32 × Mem) : Option ((Int32 × Mem) ⊕ ((Mem))) :=
  if v2 ≤ s.1 then
  some (.inr s.2)
  else
  if inb s.1 9 = true then
  if inb (((9 : Int32) * v1) + s.1) 72 = true then
  mem_ (s_i s.2 165 (((9 : Int32) * v1) + s.1).toNatClampNeg (s.2.1 171 s.1.toNatClampNeg)) fun M8 =>
  some (.inl ((s.1 + (1 : Int32)), M8))
  else none
  else none
theorem lb_Mod_route_87_ok {E : Ev} {G : Gw} {d : Nat} {post : Int32 → Mem → Prop} (X : Cx E G b_Mod_route "WomenByTheRoofsModel" 4 d (some .int)) (hD : 4 ≤ d)  (v1 : Int32) (v2 : Int32)   (s : Int32 × Mem) (o : (Int32 × Mem) ⊕ ((Mem))) (h : lb_Mod_route_87 v1 v2 s = some o) (kc : ∀ s9 : Int32 × Mem, o = .inl s9 → V E (0, 0) G 4 (QI E G post) s9.2 87 [(0, .ref (G.2.2 + 162)), (1, .int v1), (2, .int v2), (3, .int s9.1)] []) (kx0 : ∀ x9 : Mem, o = .inr x9 → V E (0, 0) G 4 (QI E G post) x9 115 [(0, .ref (G.2.2 + 162)), (1, .int v1), (2, .int v2)] []) : V E (0, 0) G 4 (QI E G post) s.2 87 [(0, .ref (G.2.2 + 162)), (1, .int v1), (2, .int v2), (3, .int s.1)] [] := by
  unfold lb_Mod_route_87 at h
  refine V_iload_n (n := 3) X d_Mod_route_87 rfl rfl rfl ?_
  refine V_iload_n (n := 2) X d_Mod_route_88 rfl rfl rfl ?_
  refine V_icmp_ge (tgt := 115) X d_Mod_route_89 (by decide) rfl (fun c9 => ?_) (fun c9 => ?_)
  · rw [if_pos c9] at h
    refine V_sub (lv' := [(0, .ref (G.2.2 + 162)), (1, .int v1), (2, .int v2)]) [0, 1, 2] rfl ?_
    exact kx0 s.2 (Option.some.inj h).symm
  · rw [if_neg c9] at h
    refine V_aload_n (n := 0) X d_Mod_route_92 rfl rfl rfl ?_
    refine V_getr (k2 := 165) X fo_Mod_23 kd_162 rfl rf_162_6 d_Mod_route_93 rfl ?_
    refine V_bipush (v := 9) X d_Mod_route_96 (by decide) rfl ?_
    refine V_iload_n (n := 1) X d_Mod_route_98 rfl rfl rfl ?_
    refine V_imul X d_Mod_route_99 rfl ?_
    refine V_iload_n (n := 3) X d_Mod_route_100 rfl rfl rfl ?_
    refine V_iadd X d_Mod_route_101 rfl ?_
    refine V_aload_n (n := 0) X d_Mod_route_102 rfl rfl rfl ?_
    refine V_getr (k2 := 171) X fo_Mod_45 kd_162 rfl rf_162_21 d_Mod_route_103 rfl ?_
    refine V_iload_n (n := 3) X d_Mod_route_106 rfl rfl rfl ?_
    obtain ⟨hb, h⟩ := ifn h
    refine V_iald X kd_171 (inb_in ln_171 hb) d_Mod_route_107 rfl ?_
    obtain ⟨hb, h⟩ := ifn h
    obtain ⟨M8, eM8, h⟩ := memS h
    refine V_iast X kd_165 (inb_in ln_165 hb) d_Mod_route_108 rfl ?_
    rw [← eM8]
    refine V_iinc (n := 3) (v := (s.1 + (1 : Int32))) (lv' := [(3, .int (s.1 + (1 : Int32))), (0, .ref (G.2.2 + 162)), (1, .int v1), (2, .int v2)]) X d_Mod_route_109 rfl rfl (by decide) rfl rfl ?_
    refine V_goto (pc' := 87) X d_Mod_route_112 (by decide) ?_
    refine V_sub (lv' := [(0, .ref (G.2.2 + 162)), (1, .int v1), (2, .int v2), (3, .int (s.1 + (1 : Int32)))]) [1, 2, 3, 0] rfl ?_
    exact kc ((s.1 + (1 : Int32)), M8) (Option.some.inj h).symm
theorem lp_Mod_route_87_ok {E : Ev} {G : Gw} {d : Nat} {post : Int32 → Mem → Prop} (X : Cx E G b_Mod_route "WomenByTheRoofsModel" 4 d (some .int)) (hD : 4 ≤ d)  (v1 : Int32) (v2 : Int32)   (n9 : Nat) (s : Int32 × Mem) (x : (Mem)) (h : iter (lb_Mod_route_87 v1 v2) n9 s = some x) (kx0 : ∀ x9 : Mem, x = x9 → V E (0, 0) G 4 (QI E G post) x9 115 [(0, .ref (G.2.2 + 162)), (1, .int v1), (2, .int v2)] []) : V E (0, 0) G 4 (QI E G post) s.2 87 [(0, .ref (G.2.2 + 162)), (1, .int v1), (2, .int v2), (3, .int s.1)] [] :=
  iter_P (P := fun s : Int32 × Mem => V E (0, 0) G 4 (QI E G post) s.2 87 [(0, .ref (G.2.2 + 162)), (1, .int v1), (2, .int v2), (3, .int s.1)] []) (fun s o hb kc ky => lb_Mod_route_87_ok X hD v1 v2 s o hb kc (fun x9 e9 => kx0 x9 (ky _ e9).symm)) n9 s h
def j_Mod_route_64 (v1 : Int32) (v2 : Int32) (M : Mem) : Option (Int32 × Mem) :=
  Option.bind (f_Mod_fine M) fun x6 =>
  if x6 = 0 then
  some (((-1 : Int32) - (M.1 162 18)), M)
  else
  if inb v1 8 = true then
  mem_ (s_i M 166 v1.toNatClampNeg v2) fun M7 =>
  Option.bind (iter (lb_Mod_route_87 v1 v2) FU ((0 : Int32), M7)) fun x10 =>
  if inb ((8 : Int32) + v1) 96 = true then
  mem_ (s_i x10 163 ((8 : Int32) + v1).toNatClampNeg (0 : Int32)) fun M11 =>
  mem_ (s_i M11 162 27 (0 : Int32)) fun M12 =>
  mem_ (s_i M12 162 48 ((M12.1 162 48) + (1 : Int32))) fun M13 =>
  some (v2, M13)
  else none
  else none
theorem j_Mod_route_64_ok {E : Ev} {G : Gw} {d : Nat} {post : Int32 → Mem → Prop} (X : Cx E G b_Mod_route "WomenByTheRoofsModel" 4 d (some .int)) (hD : 4 ≤ d)  (v1 : Int32) (v2 : Int32)  (M : Mem)  (o : Int32 × Mem) (h : j_Mod_route_64 v1 v2 M = some o) (kr : ∀ x9 : Int32 × Mem, o = x9 → post x9.1 x9.2) : V E (0, 0) G 4 (QI E G post) M 64 [(0, .ref (G.2.2 + 162)), (1, .int v1), (2, .int v2)] [] := by
  unfold j_Mod_route_64 at h
  refine V_aload_n (n := 0) X d_Mod_route_64 rfl rfl rfl ?_
  obtain ⟨x6, hx6, h⟩ := ob_s h
  refine V_ci (As := []) X (Z0 E) ml_Mod_179 yq_Mod_fine (c_Mod_fine E.2.1 G  M x6 hx6 _ (Nat.le_refl _)) kd_162 rfl rfl (by omega) rfl (Nat.le_of_ble_eq_true rfl) d_Mod_route_65 rfl (fun r9 M9 hq => ?_)
  rw [hq.1, hq.2]
  refine V_if_ne (tgt := 78) X d_Mod_route_68 (by decide) rfl (fun c14 => ?_) (fun c14 => ?_)
  · rw [if_neg c14] at h
    refine V_aload_n (n := 0) X d_Mod_route_78 rfl rfl rfl ?_
    refine V_getr (k2 := 166) X fo_Mod_26 kd_162 rfl rf_162_7 d_Mod_route_79 rfl ?_
    refine V_iload_n (n := 1) X d_Mod_route_82 rfl rfl rfl ?_
    refine V_iload_n (n := 2) X d_Mod_route_83 rfl rfl rfl ?_
    obtain ⟨hb, h⟩ := ifn h
    obtain ⟨M7, eM7, h⟩ := memS h
    refine V_iast X kd_166 (inb_in ln_166 hb) d_Mod_route_84 rfl ?_
    rw [← eM7]
    refine V_iconst (v := 0) X d_Mod_route_85 (by decide) rfl ?_
    refine V_istore_n (lv' := [(3, .int (0 : Int32)), (0, .ref (G.2.2 + 162)), (1, .int v1), (2, .int v2)]) X d_Mod_route_86 rfl (by decide) rfl rfl ?_
    refine V_sub (lv' := [(0, .ref (G.2.2 + 162)), (1, .int v1), (2, .int v2), (3, .int (0 : Int32))]) [1, 2, 3, 0] rfl ?_
    obtain ⟨x10, hx10, h⟩ := ob_s h
    refine (lp_Mod_route_87_ok X hD v1 v2 _ _ _ hx10 (fun x9 e9 => ?_) :)
    subst e9
    refine V_aload_n (n := 0) X d_Mod_route_115 rfl rfl rfl ?_
    refine V_getr (k2 := 163) X fo_Mod_9 kd_162 rfl rf_162_0 d_Mod_route_116 rfl ?_
    refine V_bipush (v := 8) X d_Mod_route_119 (by decide) rfl ?_
    refine V_iload_n (n := 1) X d_Mod_route_121 rfl rfl rfl ?_
    refine V_iadd X d_Mod_route_122 rfl ?_
    refine V_iconst (v := 0) X d_Mod_route_123 (by decide) rfl ?_
    obtain ⟨hb, h⟩ := ifn h
    obtain ⟨M11, eM11, h⟩ := memS h
    refine V_iast X kd_163 (inb_in ln_163 hb) d_Mod_route_124 rfl ?_
    rw [← eM11]
    refine V_aload_n (n := 0) X d_Mod_route_125 rfl rfl rfl ?_
    refine V_iconst (v := 0) X d_Mod_route_126 (by decide) rfl ?_
    obtain ⟨M12, eM12, h⟩ := memS h
    refine V_putI X fp_Mod_201 kd_162 rfl d_Mod_route_127 rfl ?_
    rw [← eM12]
    refine V_aload_n (n := 0) X d_Mod_route_130 rfl rfl rfl ?_
    refine V_dup X d_Mod_route_131 rfl rfl ?_
    refine V_geti X fo_Mod_210 kd_162 rfl d_Mod_route_132 rfl ?_
    refine V_iconst (v := 1) X d_Mod_route_135 (by decide) rfl ?_
    refine V_iadd X d_Mod_route_136 rfl ?_
    obtain ⟨M13, eM13, h⟩ := memS h
    refine V_putI X fp_Mod_210 kd_162 rfl d_Mod_route_137 rfl ?_
    rw [← eM13]
    refine V_iload_n (n := 2) X d_Mod_route_140 rfl rfl rfl ?_
    exact V_iret X (kr (v2, M13) (Option.some.inj h).symm) d_Mod_route_141
  · rw [if_pos c14] at h
    refine V_iconst (v := -1) X d_Mod_route_71 (by decide) rfl ?_
    refine V_aload_n (n := 0) X d_Mod_route_72 rfl rfl rfl ?_
    refine V_geti X fo_Mod_176 kd_162 rfl d_Mod_route_73 rfl ?_
    refine V_isub X d_Mod_route_76 rfl ?_
    exact V_iret X (kr (((-1 : Int32) - (M.1 162 18)), M) (Option.some.inj h).symm) d_Mod_route_77
def f_Mod_route (v1 : Int32) (M : Mem) : Option (Int32 × Mem) :=
  mem_ (s_i M 162 13 (0 : Int32)) fun M1 =>
  Option.bind (f_Mod_begin 167 (M1.1 162 10) (80 : Int32) M1) fun x2 =>
  mem_ (s_i x2 162 10 (0 : Int32)) fun M3 =>
  Option.bind (f_Mod_isOne v1 M3) fun x4 =>
  if x4 = 0 then
  some ((-100 : Int32), M3)
  else
  Option.bind (f_Mod_readRoute 171 (0 : Int32) M3) fun x5 =>
  if (x5.2.1 162 15) ≤ (x5.2.1 162 17) then
  j_Mod_route_64 v1 x5.1 x5.2
  else
  Option.bind (f_Mod_fault (x5.2.1 162 17) x5.2) fun x15 =>
  j_Mod_route_64 v1 x5.1 x15
theorem c_Mod_route (l : Launch) (G : Gw)  (v1 : Int32) (M : Mem) (x : Int32 × Mem) (h : f_Mod_route v1 M = some x) (d : Nat) (hD : 4 ≤ d) : Ci l G y_Mod_route b_Mod_route 4 (some .int) d [.ref (G.2.2 + 162), .int v1] M (fun r9 M9 => r9 = x.1 ∧ M9 = x.2) := by
  refine Ci_of (by decide) (Nat.le_of_ble_eq_true rfl) (fun E hE X => ?_)
  subst hE
  have kr : ∀ x9 : Int32 × Mem, x = x9 → (fun r9 M9 => r9 = x.1 ∧ M9 = x.2) x9.1 x9.2 := fun x9 e9 => by subst e9; exact ⟨rfl, rfl⟩
  unfold f_Mod_route at h
  refine V_aload_n (n := 0) X d_Mod_route_0 rfl rfl rfl ?_
  refine V_iconst (v := 0) X d_Mod_route_1 (by decide) rfl ?_
  obtain ⟨M1, eM1, h⟩ := memS h
  refine V_putI X fp_Mod_109 kd_162 rfl d_Mod_route_2 rfl ?_
  rw [← eM1]
  refine V_aload_n (n := 0) X d_Mod_route_5 rfl rfl rfl ?_
  refine V_aload_n (n := 0) X d_Mod_route_6 rfl rfl rfl ?_
  refine V_getr (k2 := 167) X fo_Mod_32 kd_162 rfl rf_162_9 d_Mod_route_7 rfl ?_
  refine V_aload_n (n := 0) X d_Mod_route_10 rfl rfl rfl ?_
  refine V_geti X fo_Mod_161 kd_162 rfl d_Mod_route_11 rfl ?_
  refine V_bipush (v := 80) X d_Mod_route_14 (by decide) rfl ?_
  obtain ⟨x2, hx2, h⟩ := ob_s h
  refine V_cv (As := [.ref (G.2.2 + 167), .int (M1.1 162 10), .int (80 : Int32)]) X (Z0 E) ml_Mod_194 yq_Mod_begin (c_Mod_begin E.2.1 G 167 (M1.1 162 10) (80 : Int32) M1 x2 hx2 _ (Nat.le_refl _)) kd_162 rfl rfl (by omega) rfl (Nat.le_of_ble_eq_true rfl) d_Mod_route_16 rfl (fun M9 hq => ?_)
  rw [hq]
  refine V_aload_n (n := 0) X d_Mod_route_19 rfl rfl rfl ?_
  refine V_iconst (v := 0) X d_Mod_route_20 (by decide) rfl ?_
  obtain ⟨M3, eM3, h⟩ := memS h
  refine V_putI X fp_Mod_161 kd_162 rfl d_Mod_route_21 rfl ?_
  rw [← eM3]
  refine V_aload_n (n := 0) X d_Mod_route_24 rfl rfl rfl ?_
  refine V_iload_n (n := 1) X d_Mod_route_25 rfl rfl rfl ?_
  obtain ⟨x4, hx4, h⟩ := ob_s h
  refine V_ci (As := [.int v1]) X (Z0 E) ml_Mod_126 yq_Mod_isOne (c_Mod_isOne E.2.1 G v1 M3 x4 hx4 _ (Nat.le_refl _)) kd_162 rfl rfl (by omega) rfl (Nat.le_of_ble_eq_true rfl) d_Mod_route_26 rfl (fun r9 M9 hq => ?_)
  rw [hq.1, hq.2]
  refine V_if_ne (tgt := 35) X d_Mod_route_29 (by decide) rfl (fun c17 => ?_) (fun c17 => ?_)
  · rw [if_neg c17] at h
    refine V_aload_n (n := 0) X d_Mod_route_35 rfl rfl rfl ?_
    refine V_aload_n (n := 0) X d_Mod_route_36 rfl rfl rfl ?_
    refine V_getr (k2 := 171) X fo_Mod_45 kd_162 rfl rf_162_21 d_Mod_route_37 rfl ?_
    refine V_iconst (v := 0) X d_Mod_route_40 (by decide) rfl ?_
    obtain ⟨x5, hx5, h⟩ := ob_s h
    refine V_ci (As := [.ref (G.2.2 + 171), .int (0 : Int32)]) X (Z0 E) ml_Mod_220 yq_Mod_readRoute (c_Mod_readRoute E.2.1 G 171 (0 : Int32) M3 x5 hx5 _ (Nat.le_refl _)) kd_162 rfl rfl (by omega) rfl (Nat.le_of_ble_eq_true rfl) d_Mod_route_41 rfl (fun r9 M9 hq => ?_)
    rw [hq.1, hq.2]
    refine V_istore_n (lv' := [(2, .int x5.1), (0, .ref (G.2.2 + 162)), (1, .int v1)]) X d_Mod_route_44 rfl (by decide) rfl rfl ?_
    refine V_aload_n (n := 1) X d_Mod_route_45 rfl rfl rfl ?_
    refine V_geti X fo_Mod_173 kd_162 rfl d_Mod_route_46 rfl ?_
    refine V_aload_n (n := 1) X d_Mod_route_49 rfl rfl rfl ?_
    refine V_geti X fo_Mod_167 kd_162 rfl d_Mod_route_50 rfl ?_
    refine V_icmp_ge (tgt := 64) X d_Mod_route_53 (by decide) rfl (fun c16 => ?_) (fun c16 => ?_)
    · rw [if_pos c16] at h
      refine V_sub (lv' := [(0, .ref (G.2.2 + 162)), (1, .int v1), (2, .int x5.1)]) [1, 2, 0] rfl ?_
      exact j_Mod_route_64_ok X hD v1 x5.1 x5.2 _ h kr
    · rw [if_neg c16] at h
      refine V_aload_n (n := 1) X d_Mod_route_56 rfl rfl rfl ?_
      refine V_aload_n (n := 1) X d_Mod_route_57 rfl rfl rfl ?_
      refine V_geti X fo_Mod_173 kd_162 rfl d_Mod_route_58 rfl ?_
      obtain ⟨x15, hx15, h⟩ := ob_s h
      refine V_cv (As := [.int (x5.2.1 162 17)]) X (Z0 E) ml_Mod_190 yq_Mod_fault (c_Mod_fault E.2.1 G (x5.2.1 162 17) x5.2 x15 hx15 _ (Nat.le_refl _)) kd_162 rfl rfl (by omega) rfl (Nat.le_of_ble_eq_true rfl) d_Mod_route_61 rfl (fun M9 hq => ?_)
      rw [hq]
      refine V_sub (lv' := [(0, .ref (G.2.2 + 162)), (1, .int v1), (2, .int x5.1)]) [1, 2, 0] rfl ?_
      exact j_Mod_route_64_ok X hD v1 x5.1 x15 _ h kr
  · rw [if_pos c17] at h
    refine V_bipush (v := -100) X d_Mod_route_32 (by decide) rfl ?_
    exact V_iret X (kr ((-100 : Int32), M3) (Option.some.inj h).symm) d_Mod_route_34
def lb_Mod_letter_156 (v2 : Nat) (v3 : Int32) (M : Mem) (s : Int32 × Int32) : Option ((Int32 × Int32) ⊕ ((Int32))) :=
  if (M.1 162 4) ≤ s.2 then
  some (.inr s.1)
  else
  if s.2 = v3 then
  some (.inl ((s.1 + (0 : Int32)), (s.2 + (1 : Int32))))
  else
  if inb s.2 (ln v2) = true then
  if inb v3 (ln v2) = true then
  if (M.1 v2 s.2.toNatClampNeg) = (M.1 v2 v3.toNatClampNeg) then
  some (.inl ((s.1 + (1 : Int32)), (s.2 + (1 : Int32))))
  else
  some (.inl ((s.1 + (0 : Int32)), (s.2 + (1 : Int32))))
  else none
  else none
theorem lb_Mod_letter_156_ok {E : Ev} {G : Gw} {d : Nat} {post : Int32 → Mem → Prop} (X : Cx E G b_Mod_letter "WomenByTheRoofsModel" 7 d (some .int)) (hD : 2 ≤ d)  (v2 : Nat) (v3 : Int32) (hk_v2 : kd v2 = 1) (M : Mem) (s : Int32 × Int32) (o : (Int32 × Int32) ⊕ ((Int32))) (h : lb_Mod_letter_156 v2 v3 M s = some o) (kc : ∀ s9 : Int32 × Int32, o = .inl s9 → V E (0, 0) G 7 (QI E G post) M 156 [(0, .ref (G.2.2 + 162)), (2, .ref (G.2.2 + v2)), (3, .int v3), (5, .int s9.1), (6, .int s9.2)] []) (kx0 : ∀ x9 : Int32, o = .inr x9 → V E (0, 0) G 7 (QI E G post) M 197 [(5, .int x9)] []) : V E (0, 0) G 7 (QI E G post) M 156 [(0, .ref (G.2.2 + 162)), (2, .ref (G.2.2 + v2)), (3, .int v3), (5, .int s.1), (6, .int s.2)] [] := by
  unfold lb_Mod_letter_156 at h
  refine V_iload (n := 4) X d_Mod_letter_156 rfl rfl ?_
  refine V_aload_n (n := 0) X d_Mod_letter_158 rfl rfl rfl ?_
  refine V_geti X fo_Mod_123 kd_162 rfl d_Mod_letter_159 rfl ?_
  refine V_icmp_ge (tgt := 197) X d_Mod_letter_162 (by decide) rfl (fun c4 => ?_) (fun c4 => ?_)
  · rw [if_pos c4] at h
    refine V_sub (lv' := [(5, .int s.1)]) [3] rfl ?_
    exact kx0 s.1 (Option.some.inj h).symm
  · rw [if_neg c4] at h
    refine V_iload (n := 3) X d_Mod_letter_165 rfl rfl ?_
    refine V_iload (n := 4) X d_Mod_letter_167 rfl rfl ?_
    refine V_iload_n (n := 2) X d_Mod_letter_169 rfl rfl rfl ?_
    refine V_icmp_eq (tgt := 187) X d_Mod_letter_170 (by decide) rfl (fun c3 => ?_) (fun c3 => ?_)
    · rw [if_pos c3] at h
      refine V_iconst (v := 0) X d_Mod_letter_187 (by decide) rfl ?_
      refine V_iadd X d_Mod_letter_188 rfl ?_
      refine V_istore (lv' := [(5, .int (s.1 + (0 : Int32))), (0, .ref (G.2.2 + 162)), (2, .ref (G.2.2 + v2)), (3, .int v3), (6, .int s.2)]) X d_Mod_letter_189 (by decide) rfl rfl ?_
      refine V_iinc (n := 4) (v := (s.2 + (1 : Int32))) (lv' := [(6, .int (s.2 + (1 : Int32))), (5, .int (s.1 + (0 : Int32))), (0, .ref (G.2.2 + 162)), (2, .ref (G.2.2 + v2)), (3, .int v3)]) X d_Mod_letter_191 rfl rfl (by decide) rfl rfl ?_
      refine V_goto (pc' := 156) X d_Mod_letter_194 (by decide) ?_
      refine V_sub (lv' := [(0, .ref (G.2.2 + 162)), (2, .ref (G.2.2 + v2)), (3, .int v3), (5, .int (s.1 + (0 : Int32))), (6, .int (s.2 + (1 : Int32)))]) [2, 3, 4, 1, 0] rfl ?_
      exact kc ((s.1 + (0 : Int32)), (s.2 + (1 : Int32))) (Option.some.inj h).symm
    · rw [if_neg c3] at h
      refine V_aload_n (n := 1) X d_Mod_letter_173 rfl rfl rfl ?_
      refine V_iload (n := 4) X d_Mod_letter_174 rfl rfl ?_
      obtain ⟨hb, h⟩ := ifn h
      refine V_iald X hk_v2 (inb_in rfl hb) d_Mod_letter_176 rfl ?_
      refine V_aload_n (n := 1) X d_Mod_letter_177 rfl rfl rfl ?_
      refine V_iload_n (n := 2) X d_Mod_letter_178 rfl rfl rfl ?_
      obtain ⟨hb, h⟩ := ifn h
      refine V_iald X hk_v2 (inb_in rfl hb) d_Mod_letter_179 rfl ?_
      refine V_icmp_ne (tgt := 187) X d_Mod_letter_180 (by decide) rfl (fun c2 => ?_) (fun c2 => ?_)
      · rw [if_neg c2] at h
        refine V_iconst (v := 0) X d_Mod_letter_187 (by decide) rfl ?_
        refine V_iadd X d_Mod_letter_188 rfl ?_
        refine V_istore (lv' := [(5, .int (s.1 + (0 : Int32))), (0, .ref (G.2.2 + 162)), (2, .ref (G.2.2 + v2)), (3, .int v3), (6, .int s.2)]) X d_Mod_letter_189 (by decide) rfl rfl ?_
        refine V_iinc (n := 4) (v := (s.2 + (1 : Int32))) (lv' := [(6, .int (s.2 + (1 : Int32))), (5, .int (s.1 + (0 : Int32))), (0, .ref (G.2.2 + 162)), (2, .ref (G.2.2 + v2)), (3, .int v3)]) X d_Mod_letter_191 rfl rfl (by decide) rfl rfl ?_
        refine V_goto (pc' := 156) X d_Mod_letter_194 (by decide) ?_
        refine V_sub (lv' := [(0, .ref (G.2.2 + 162)), (2, .ref (G.2.2 + v2)), (3, .int v3), (5, .int (s.1 + (0 : Int32))), (6, .int (s.2 + (1 : Int32)))]) [2, 3, 4, 1, 0] rfl ?_
        exact kc ((s.1 + (0 : Int32)), (s.2 + (1 : Int32))) (Option.some.inj h).symm
      · rw [if_pos c2] at h
        refine V_iconst (v := 1) X d_Mod_letter_183 (by decide) rfl ?_
        refine V_goto (pc' := 188) X d_Mod_letter_184 (by decide) ?_
        refine V_iadd X d_Mod_letter_188 rfl ?_
        refine V_istore (lv' := [(5, .int (s.1 + (1 : Int32))), (0, .ref (G.2.2 + 162)), (2, .ref (G.2.2 + v2)), (3, .int v3), (6, .int s.2)]) X d_Mod_letter_189 (by decide) rfl rfl ?_
        refine V_iinc (n := 4) (v := (s.2 + (1 : Int32))) (lv' := [(6, .int (s.2 + (1 : Int32))), (5, .int (s.1 + (1 : Int32))), (0, .ref (G.2.2 + 162)), (2, .ref (G.2.2 + v2)), (3, .int v3)]) X d_Mod_letter_191 rfl rfl (by decide) rfl rfl ?_
        refine V_goto (pc' := 156) X d_Mod_letter_194 (by decide) ?_
        refine V_sub (lv' := [(0, .ref (G.2.2 + 162)), (2, .ref (G.2.2 + v2)), (3, .int v3), (5, .int (s.1 + (1 : Int32))), (6, .int (s.2 + (1 : Int32)))]) [2, 3, 4, 1, 0] rfl ?_
        exact kc ((s.1 + (1 : Int32)), (s.2 + (1 : Int32))) (Option.some.inj h).symm
theorem lp_Mod_letter_156_ok {E : Ev} {G : Gw} {d : Nat} {post : Int32 → Mem → Prop} (X : Cx E G b_Mod_letter "WomenByTheRoofsModel" 7 d (some .int)) (hD : 2 ≤ d)  (v2 : Nat) (v3 : Int32) (hk_v2 : kd v2 = 1) (M : Mem) (n9 : Nat) (s : Int32 × Int32) (x : (Int32)) (h : iter (lb_Mod_letter_156 v2 v3 M) n9 s = some x) (kx0 : ∀ x9 : Int32, x = x9 → V E (0, 0) G 7 (QI E G post) M 197 [(5, .int x9)] []) : V E (0, 0) G 7 (QI E G post) M 156 [(0, .ref (G.2.2 + 162)), (2, .ref (G.2.2 + v2)), (3, .int v3), (5, .int s.1), (6, .int s.2)] [] :=
  iter_P (P := fun s : Int32 × Int32 => V E (0, 0) G 7 (QI E G post) M 156 [(0, .ref (G.2.2 + 162)), (2, .ref (G.2.2 + v2)), (3, .int v3), (5, .int s.1), (6, .int s.2)] []) (fun s o hb kc ky => lb_Mod_letter_156_ok X hD v2 v3 hk_v2 M s o hb kc (fun x9 e9 => kx0 x9 (ky _ e9).symm)) n9 s h
def f_Mod_letter (v1 : Int32) (v2 : Nat) (v3 : Int32) (M : Mem) : Option (Int32) :=
  if kd v2 = 1 then
  if inb v3 (ln v2) = true then
  Option.bind (f_Mod_cellOf (M.1 v2 v3.toNatClampNeg)) fun x1 =>
  if v1 = (105 : Int32) then
  some v3
  else if v1 = (107 : Int32) then
  if inb (93 : Int32) (ln v2) = true then
  some (((M.1 v2 (93 : Int32).toNatClampNeg) >>> (v3 &&& 31)) &&& (1 : Int32))
  else none
  else if v1 = (109 : Int32) then
  if inb (95 : Int32) (ln v2) = true then
  some (M.1 v2 (95 : Int32).toNatClampNeg)
  else none
  else if v1 = (115 : Int32) then
  if inb x1 36 = true then
  if (M.1 164 x1.toNatClampNeg) = (3 : Int32) then
  some (1 : Int32)
  else
  some (0 : Int32)
  else none
  else if v1 = (119 : Int32) then
  some (((M.1 162 5) >>> (v3 &&& 31)) &&& (1 : Int32))
  else if v1 = (120 : Int32) then
  if (M.1 162 2) = 0 then none else
  some (x1 - x1 / (M.1 162 2) * (M.1 162 2))
  else if v1 = (121 : Int32) then
  if (M.1 162 2) = 0 then none else
  some (x1 / (M.1 162 2))
  else Option.bind (iter (lb_Mod_letter_156 v2 v3 M) FU ((0 : Int32), (0 : Int32))) fun x5 =>
  some x5
  else none
  else none
theorem c_Mod_letter (l : Launch) (G : Gw)  (v1 : Int32) (v2 : Nat) (v3 : Int32) (M : Mem) (x : Int32) (h : f_Mod_letter v1 v2 v3 M = some x) (d : Nat) (hD : 2 ≤ d) : Ci l G y_Mod_letter b_Mod_letter 7 (some .int) d [.ref (G.2.2 + 162), .int v1, .ref (G.2.2 + v2), .int v3] M (fun r9 M9 => r9 = x ∧ M9 = M) := by
  refine Ci_of (by decide) (Nat.le_of_ble_eq_true rfl) (fun E hE X => ?_)
  subst hE
  have kr : ∀ x9 : Int32, x = x9 → (fun r9 M9 => r9 = x ∧ M9 = M) x9 M := fun x9 e9 => by subst e9; exact ⟨rfl, rfl⟩
  unfold f_Mod_letter at h
  obtain ⟨hk_v2, h⟩ := ifn h
  refine V_aload_n (n := 2) X d_Mod_letter_0 rfl rfl rfl ?_
  refine V_iload_n (n := 3) X d_Mod_letter_1 rfl rfl rfl ?_
  obtain ⟨hb, h⟩ := ifn h
  refine V_iald X hk_v2 (inb_in rfl hb) d_Mod_letter_2 rfl ?_
  obtain ⟨x1, hx1, h⟩ := ob_s h
  refine V_si (As := [.int (M.1 v2 v3.toNatClampNeg)]) X (Z0 E) ml_Mod_147 yq_Mod_cellOf (c_Mod_cellOf E.2.1 G (M.1 v2 v3.toNatClampNeg) M x1 hx1 _ (Nat.le_refl _)) rfl (by omega) rfl (Nat.le_of_ble_eq_true rfl) d_Mod_letter_3 rfl (fun r9 M9 hq => ?_)
  rw [hq.1, hq.2]
  refine V_istore (lv' := [(4, .int x1), (0, .ref (G.2.2 + 162)), (1, .int v1), (2, .ref (G.2.2 + v2)), (3, .int v3)]) X d_Mod_letter_6 (by decide) rfl rfl ?_
  refine V_iload_n (n := 2) X d_Mod_letter_8 rfl rfl rfl ?_
  by_cases c6 : v1 = (105 : Int32)
  · rw [if_pos c6] at h
    refine V_tbl (v := 105) (pc' := 97) (off := 88) X d_Mod_letter_9 c6 (by decide) (by decide) (by decide +kernel) (by decide) ?_
    refine V_iload_n (n := 4) X d_Mod_letter_97 rfl rfl rfl ?_
    exact V_iret X (kr v3 (Option.some.inj h).symm) d_Mod_letter_98
  · rw [if_neg c6] at h
    by_cases c7 : v1 = (107 : Int32)
    · rw [if_pos c7] at h
      refine V_tbl (v := 107) (pc' := 141) (off := 132) X d_Mod_letter_9 c7 (by decide) (by decide) (by decide +kernel) (by decide) ?_
      refine V_aload_n (n := 3) X d_Mod_letter_141 rfl rfl rfl ?_
      refine V_bipush (v := 93) X d_Mod_letter_142 (by decide) rfl ?_
      obtain ⟨hb, h⟩ := ifn h
      refine V_iald X hk_v2 (inb_in rfl hb) d_Mod_letter_144 rfl ?_
      refine V_iload_n (n := 4) X d_Mod_letter_145 rfl rfl rfl ?_
      refine V_ishr X d_Mod_letter_146 rfl ?_
      refine V_iconst (v := 1) X d_Mod_letter_147 (by decide) rfl ?_
      refine V_iand X d_Mod_letter_148 rfl ?_
      exact V_iret X (kr (((M.1 v2 (93 : Int32).toNatClampNeg) >>> (v3 &&& 31)) &&& (1 : Int32)) (Option.some.inj h).symm) d_Mod_letter_149
    · rw [if_neg c7] at h
      by_cases c8 : v1 = (109 : Int32)
      · rw [if_pos c8] at h
        refine V_tbl (v := 109) (pc' := 92) (off := 83) X d_Mod_letter_9 c8 (by decide) (by decide) (by decide +kernel) (by decide) ?_
        refine V_aload_n (n := 3) X d_Mod_letter_92 rfl rfl rfl ?_
        refine V_bipush (v := 95) X d_Mod_letter_93 (by decide) rfl ?_
        obtain ⟨hb, h⟩ := ifn h
        refine V_iald X hk_v2 (inb_in rfl hb) d_Mod_letter_95 rfl ?_
        exact V_iret X (kr (M.1 v2 (95 : Int32).toNatClampNeg) (Option.some.inj h).symm) d_Mod_letter_96
      · rw [if_neg c8] at h
        by_cases c10 : v1 = (115 : Int32)
        · rw [if_pos c10] at h
          refine V_tbl (v := 115) (pc' := 124) (off := 115) X d_Mod_letter_9 c10 (by decide) (by decide) (by decide +kernel) (by decide) ?_
          refine V_aload_n (n := 1) X d_Mod_letter_124 rfl rfl rfl ?_
          refine V_getr (k2 := 164) X fo_Mod_13 kd_162 rfl rf_162_1 d_Mod_letter_125 rfl ?_
          refine V_iload (n := 0) X d_Mod_letter_128 rfl rfl ?_
          obtain ⟨hb, h⟩ := ifn h
          refine V_iald X kd_164 (inb_in ln_164 hb) d_Mod_letter_130 rfl ?_
          refine V_iconst (v := 3) X d_Mod_letter_131 (by decide) rfl ?_
          refine V_icmp_ne (tgt := 139) X d_Mod_letter_132 (by decide) rfl (fun c9 => ?_) (fun c9 => ?_)
          · rw [if_neg c9] at h
            refine V_iconst (v := 0) X d_Mod_letter_139 (by decide) rfl ?_
            exact V_iret X (kr (0 : Int32) (Option.some.inj h).symm) d_Mod_letter_140
          · rw [if_pos c9] at h
            refine V_iconst (v := 1) X d_Mod_letter_135 (by decide) rfl ?_
            refine V_goto (pc' := 140) X d_Mod_letter_136 (by decide) ?_
            exact V_iret X (kr (1 : Int32) (Option.some.inj h).symm) d_Mod_letter_140
        · rw [if_neg c10] at h
          by_cases c11 : v1 = (119 : Int32)
          · rw [if_pos c11] at h
            refine V_tbl (v := 119) (pc' := 99) (off := 90) X d_Mod_letter_9 c11 (by decide) (by decide) (by decide +kernel) (by decide) ?_
            refine V_aload_n (n := 1) X d_Mod_letter_99 rfl rfl rfl ?_
            refine V_geti X fo_Mod_130 kd_162 rfl d_Mod_letter_100 rfl ?_
            refine V_iload_n (n := 4) X d_Mod_letter_103 rfl rfl rfl ?_
            refine V_ishr X d_Mod_letter_104 rfl ?_
            refine V_iconst (v := 1) X d_Mod_letter_105 (by decide) rfl ?_
            refine V_iand X d_Mod_letter_106 rfl ?_
            exact V_iret X (kr (((M.1 162 5) >>> (v3 &&& 31)) &&& (1 : Int32)) (Option.some.inj h).symm) d_Mod_letter_107
          · rw [if_neg c11] at h
            by_cases c12 : v1 = (120 : Int32)
            · rw [if_pos c12] at h
              refine V_tbl (v := 120) (pc' := 108) (off := 99) X d_Mod_letter_9 c12 (by decide) (by decide) (by decide +kernel) (by decide) ?_
              refine V_iload (n := 0) X d_Mod_letter_108 rfl rfl ?_
              refine V_aload_n (n := 1) X d_Mod_letter_110 rfl rfl rfl ?_
              refine V_geti X fo_Mod_16 kd_162 rfl d_Mod_letter_111 rfl ?_
              obtain ⟨hq, h⟩ := ifz h
              refine V_irem X d_Mod_letter_114 hq rfl ?_
              exact V_iret X (kr (x1 - x1 / (M.1 162 2) * (M.1 162 2)) (Option.some.inj h).symm) d_Mod_letter_115
            · rw [if_neg c12] at h
              by_cases c13 : v1 = (121 : Int32)
              · rw [if_pos c13] at h
                refine V_tbl (v := 121) (pc' := 116) (off := 107) X d_Mod_letter_9 c13 (by decide) (by decide) (by decide +kernel) (by decide) ?_
                refine V_iload (n := 0) X d_Mod_letter_116 rfl rfl ?_
                refine V_aload_n (n := 1) X d_Mod_letter_118 rfl rfl rfl ?_
                refine V_geti X fo_Mod_16 kd_162 rfl d_Mod_letter_119 rfl ?_
                obtain ⟨hq, h⟩ := ifz h
                refine V_idiv X d_Mod_letter_122 hq rfl ?_
                exact V_iret X (kr (x1 / (M.1 162 2)) (Option.some.inj h).symm) d_Mod_letter_123
              · rw [if_neg c13] at h
                by_cases c14 : v1 = (106 : Int32)
                · refine V_tbl (v := 106) (pc' := 150) (off := 141) X d_Mod_letter_9 c14 (by decide) (by decide) (by decide +kernel) (by decide) ?_
                  refine V_iconst (v := 0) X d_Mod_letter_150 (by decide) rfl ?_
                  refine V_istore (lv' := [(5, .int (0 : Int32)), (4, .int x1), (0, .ref (G.2.2 + 162)), (1, .int v1), (2, .ref (G.2.2 + v2)), (3, .int v3)]) X d_Mod_letter_151 (by decide) rfl rfl ?_
                  refine V_iconst (v := 0) X d_Mod_letter_153 (by decide) rfl ?_
                  refine V_istore (lv' := [(6, .int (0 : Int32)), (5, .int (0 : Int32)), (4, .int x1), (0, .ref (G.2.2 + 162)), (1, .int v1), (2, .ref (G.2.2 + v2)), (3, .int v3)]) X d_Mod_letter_154 (by decide) rfl rfl ?_
                  refine V_sub (lv' := [(0, .ref (G.2.2 + 162)), (2, .ref (G.2.2 + v2)), (3, .int v3), (5, .int (0 : Int32)), (6, .int (0 : Int32))]) [3, 5, 6, 1, 0] rfl ?_
                  obtain ⟨x5, hx5, h⟩ := ob_s h
                  refine (lp_Mod_letter_156_ok X hD v2 v3 hk_v2 M _ _ _ hx5 (fun x9 e9 => ?_) :)
                  subst e9
                  refine V_iload (n := 0) X d_Mod_letter_197 rfl rfl ?_
                  exact V_iret X (kr x5 (Option.some.inj h).symm) d_Mod_letter_199
                · skip
                  by_cases c15 : v1 = (108 : Int32)
                  · refine V_tbl (v := 108) (pc' := 150) (off := 141) X d_Mod_letter_9 c15 (by decide) (by decide) (by decide +kernel) (by decide) ?_
                    refine V_iconst (v := 0) X d_Mod_letter_150 (by decide) rfl ?_
                    refine V_istore (lv' := [(5, .int (0 : Int32)), (4, .int x1), (0, .ref (G.2.2 + 162)), (1, .int v1), (2, .ref (G.2.2 + v2)), (3, .int v3)]) X d_Mod_letter_151 (by decide) rfl rfl ?_
                    refine V_iconst (v := 0) X d_Mod_letter_153 (by decide) rfl ?_
                    refine V_istore (lv' := [(6, .int (0 : Int32)), (5, .int (0 : Int32)), (4, .int x1), (0, .ref (G.2.2 + 162)), (1, .int v1), (2, .ref (G.2.2 + v2)), (3, .int v3)]) X d_Mod_letter_154 (by decide) rfl rfl ?_
                    refine V_sub (lv' := [(0, .ref (G.2.2 + 162)), (2, .ref (G.2.2 + v2)), (3, .int v3), (5, .int (0 : Int32)), (6, .int (0 : Int32))]) [3, 5, 6, 1, 0] rfl ?_
                    obtain ⟨x5, hx5, h⟩ := ob_s h
                    refine (lp_Mod_letter_156_ok X hD v2 v3 hk_v2 M _ _ _ hx5 (fun x9 e9 => ?_) :)
                    subst e9
                    refine V_iload (n := 0) X d_Mod_letter_197 rfl rfl ?_
                    exact V_iret X (kr x5 (Option.some.inj h).symm) d_Mod_letter_199
                  · skip
                    by_cases c16 : v1 = (110 : Int32)
                    · refine V_tbl (v := 110) (pc' := 150) (off := 141) X d_Mod_letter_9 c16 (by decide) (by decide) (by decide +kernel) (by decide) ?_
                      refine V_iconst (v := 0) X d_Mod_letter_150 (by decide) rfl ?_
                      refine V_istore (lv' := [(5, .int (0 : Int32)), (4, .int x1), (0, .ref (G.2.2 + 162)), (1, .int v1), (2, .ref (G.2.2 + v2)), (3, .int v3)]) X d_Mod_letter_151 (by decide) rfl rfl ?_
                      refine V_iconst (v := 0) X d_Mod_letter_153 (by decide) rfl ?_
                      refine V_istore (lv' := [(6, .int (0 : Int32)), (5, .int (0 : Int32)), (4, .int x1), (0, .ref (G.2.2 + 162)), (1, .int v1), (2, .ref (G.2.2 + v2)), (3, .int v3)]) X d_Mod_letter_154 (by decide) rfl rfl ?_
                      refine V_sub (lv' := [(0, .ref (G.2.2 + 162)), (2, .ref (G.2.2 + v2)), (3, .int v3), (5, .int (0 : Int32)), (6, .int (0 : Int32))]) [3, 5, 6, 1, 0] rfl ?_
                      obtain ⟨x5, hx5, h⟩ := ob_s h
                      refine (lp_Mod_letter_156_ok X hD v2 v3 hk_v2 M _ _ _ hx5 (fun x9 e9 => ?_) :)
                      subst e9
                      refine V_iload (n := 0) X d_Mod_letter_197 rfl rfl ?_
                      exact V_iret X (kr x5 (Option.some.inj h).symm) d_Mod_letter_199
                    · skip
                      by_cases c17 : v1 = (111 : Int32)
                      · refine V_tbl (v := 111) (pc' := 150) (off := 141) X d_Mod_letter_9 c17 (by decide) (by decide) (by decide +kernel) (by decide) ?_
                        refine V_iconst (v := 0) X d_Mod_letter_150 (by decide) rfl ?_
                        refine V_istore (lv' := [(5, .int (0 : Int32)), (4, .int x1), (0, .ref (G.2.2 + 162)), (1, .int v1), (2, .ref (G.2.2 + v2)), (3, .int v3)]) X d_Mod_letter_151 (by decide) rfl rfl ?_
                        refine V_iconst (v := 0) X d_Mod_letter_153 (by decide) rfl ?_
                        refine V_istore (lv' := [(6, .int (0 : Int32)), (5, .int (0 : Int32)), (4, .int x1), (0, .ref (G.2.2 + 162)), (1, .int v1), (2, .ref (G.2.2 + v2)), (3, .int v3)]) X d_Mod_letter_154 (by decide) rfl rfl ?_
                        refine V_sub (lv' := [(0, .ref (G.2.2 + 162)), (2, .ref (G.2.2 + v2)), (3, .int v3), (5, .int (0 : Int32)), (6, .int (0 : Int32))]) [3, 5, 6, 1, 0] rfl ?_
                        obtain ⟨x5, hx5, h⟩ := ob_s h
                        refine (lp_Mod_letter_156_ok X hD v2 v3 hk_v2 M _ _ _ hx5 (fun x9 e9 => ?_) :)
                        subst e9
                        refine V_iload (n := 0) X d_Mod_letter_197 rfl rfl ?_
                        exact V_iret X (kr x5 (Option.some.inj h).symm) d_Mod_letter_199
                      · skip
                        by_cases c18 : v1 = (112 : Int32)
                        · refine V_tbl (v := 112) (pc' := 150) (off := 141) X d_Mod_letter_9 c18 (by decide) (by decide) (by decide +kernel) (by decide) ?_
                          refine V_iconst (v := 0) X d_Mod_letter_150 (by decide) rfl ?_
                          refine V_istore (lv' := [(5, .int (0 : Int32)), (4, .int x1), (0, .ref (G.2.2 + 162)), (1, .int v1), (2, .ref (G.2.2 + v2)), (3, .int v3)]) X d_Mod_letter_151 (by decide) rfl rfl ?_
                          refine V_iconst (v := 0) X d_Mod_letter_153 (by decide) rfl ?_
                          refine V_istore (lv' := [(6, .int (0 : Int32)), (5, .int (0 : Int32)), (4, .int x1), (0, .ref (G.2.2 + 162)), (1, .int v1), (2, .ref (G.2.2 + v2)), (3, .int v3)]) X d_Mod_letter_154 (by decide) rfl rfl ?_
                          refine V_sub (lv' := [(0, .ref (G.2.2 + 162)), (2, .ref (G.2.2 + v2)), (3, .int v3), (5, .int (0 : Int32)), (6, .int (0 : Int32))]) [3, 5, 6, 1, 0] rfl ?_
                          obtain ⟨x5, hx5, h⟩ := ob_s h
                          refine (lp_Mod_letter_156_ok X hD v2 v3 hk_v2 M _ _ _ hx5 (fun x9 e9 => ?_) :)
                          subst e9
                          refine V_iload (n := 0) X d_Mod_letter_197 rfl rfl ?_
                          exact V_iret X (kr x5 (Option.some.inj h).symm) d_Mod_letter_199
                        · skip
                          by_cases c19 : v1 = (113 : Int32)
                          · refine V_tbl (v := 113) (pc' := 150) (off := 141) X d_Mod_letter_9 c19 (by decide) (by decide) (by decide +kernel) (by decide) ?_
                            refine V_iconst (v := 0) X d_Mod_letter_150 (by decide) rfl ?_
                            refine V_istore (lv' := [(5, .int (0 : Int32)), (4, .int x1), (0, .ref (G.2.2 + 162)), (1, .int v1), (2, .ref (G.2.2 + v2)), (3, .int v3)]) X d_Mod_letter_151 (by decide) rfl rfl ?_
                            refine V_iconst (v := 0) X d_Mod_letter_153 (by decide) rfl ?_
                            refine V_istore (lv' := [(6, .int (0 : Int32)), (5, .int (0 : Int32)), (4, .int x1), (0, .ref (G.2.2 + 162)), (1, .int v1), (2, .ref (G.2.2 + v2)), (3, .int v3)]) X d_Mod_letter_154 (by decide) rfl rfl ?_
                            refine V_sub (lv' := [(0, .ref (G.2.2 + 162)), (2, .ref (G.2.2 + v2)), (3, .int v3), (5, .int (0 : Int32)), (6, .int (0 : Int32))]) [3, 5, 6, 1, 0] rfl ?_
                            obtain ⟨x5, hx5, h⟩ := ob_s h
                            refine (lp_Mod_letter_156_ok X hD v2 v3 hk_v2 M _ _ _ hx5 (fun x9 e9 => ?_) :)
                            subst e9
                            refine V_iload (n := 0) X d_Mod_letter_197 rfl rfl ?_
                            exact V_iret X (kr x5 (Option.some.inj h).symm) d_Mod_letter_199
                          · skip
                            by_cases c20 : v1 = (114 : Int32)
                            · refine V_tbl (v := 114) (pc' := 150) (off := 141) X d_Mod_letter_9 c20 (by decide) (by decide) (by decide +kernel) (by decide) ?_
                              refine V_iconst (v := 0) X d_Mod_letter_150 (by decide) rfl ?_
                              refine V_istore (lv' := [(5, .int (0 : Int32)), (4, .int x1), (0, .ref (G.2.2 + 162)), (1, .int v1), (2, .ref (G.2.2 + v2)), (3, .int v3)]) X d_Mod_letter_151 (by decide) rfl rfl ?_
                              refine V_iconst (v := 0) X d_Mod_letter_153 (by decide) rfl ?_
                              refine V_istore (lv' := [(6, .int (0 : Int32)), (5, .int (0 : Int32)), (4, .int x1), (0, .ref (G.2.2 + 162)), (1, .int v1), (2, .ref (G.2.2 + v2)), (3, .int v3)]) X d_Mod_letter_154 (by decide) rfl rfl ?_
                              refine V_sub (lv' := [(0, .ref (G.2.2 + 162)), (2, .ref (G.2.2 + v2)), (3, .int v3), (5, .int (0 : Int32)), (6, .int (0 : Int32))]) [3, 5, 6, 1, 0] rfl ?_
                              obtain ⟨x5, hx5, h⟩ := ob_s h
                              refine (lp_Mod_letter_156_ok X hD v2 v3 hk_v2 M _ _ _ hx5 (fun x9 e9 => ?_) :)
                              subst e9
                              refine V_iload (n := 0) X d_Mod_letter_197 rfl rfl ?_
                              exact V_iret X (kr x5 (Option.some.inj h).symm) d_Mod_letter_199
                            · skip
                              by_cases c21 : v1 = (116 : Int32)
                              · refine V_tbl (v := 116) (pc' := 150) (off := 141) X d_Mod_letter_9 c21 (by decide) (by decide) (by decide +kernel) (by decide) ?_
                                refine V_iconst (v := 0) X d_Mod_letter_150 (by decide) rfl ?_
                                refine V_istore (lv' := [(5, .int (0 : Int32)), (4, .int x1), (0, .ref (G.2.2 + 162)), (1, .int v1), (2, .ref (G.2.2 + v2)), (3, .int v3)]) X d_Mod_letter_151 (by decide) rfl rfl ?_
                                refine V_iconst (v := 0) X d_Mod_letter_153 (by decide) rfl ?_
                                refine V_istore (lv' := [(6, .int (0 : Int32)), (5, .int (0 : Int32)), (4, .int x1), (0, .ref (G.2.2 + 162)), (1, .int v1), (2, .ref (G.2.2 + v2)), (3, .int v3)]) X d_Mod_letter_154 (by decide) rfl rfl ?_
                                refine V_sub (lv' := [(0, .ref (G.2.2 + 162)), (2, .ref (G.2.2 + v2)), (3, .int v3), (5, .int (0 : Int32)), (6, .int (0 : Int32))]) [3, 5, 6, 1, 0] rfl ?_
                                obtain ⟨x5, hx5, h⟩ := ob_s h
                                refine (lp_Mod_letter_156_ok X hD v2 v3 hk_v2 M _ _ _ hx5 (fun x9 e9 => ?_) :)
                                subst e9
                                refine V_iload (n := 0) X d_Mod_letter_197 rfl rfl ?_
                                exact V_iret X (kr x5 (Option.some.inj h).symm) d_Mod_letter_199
                              · skip
                                by_cases c22 : v1 = (117 : Int32)
                                · refine V_tbl (v := 117) (pc' := 150) (off := 141) X d_Mod_letter_9 c22 (by decide) (by decide) (by decide +kernel) (by decide) ?_
                                  refine V_iconst (v := 0) X d_Mod_letter_150 (by decide) rfl ?_
                                  refine V_istore (lv' := [(5, .int (0 : Int32)), (4, .int x1), (0, .ref (G.2.2 + 162)), (1, .int v1), (2, .ref (G.2.2 + v2)), (3, .int v3)]) X d_Mod_letter_151 (by decide) rfl rfl ?_
                                  refine V_iconst (v := 0) X d_Mod_letter_153 (by decide) rfl ?_
                                  refine V_istore (lv' := [(6, .int (0 : Int32)), (5, .int (0 : Int32)), (4, .int x1), (0, .ref (G.2.2 + 162)), (1, .int v1), (2, .ref (G.2.2 + v2)), (3, .int v3)]) X d_Mod_letter_154 (by decide) rfl rfl ?_
                                  refine V_sub (lv' := [(0, .ref (G.2.2 + 162)), (2, .ref (G.2.2 + v2)), (3, .int v3), (5, .int (0 : Int32)), (6, .int (0 : Int32))]) [3, 5, 6, 1, 0] rfl ?_
                                  obtain ⟨x5, hx5, h⟩ := ob_s h
                                  refine (lp_Mod_letter_156_ok X hD v2 v3 hk_v2 M _ _ _ hx5 (fun x9 e9 => ?_) :)
                                  subst e9
                                  refine V_iload (n := 0) X d_Mod_letter_197 rfl rfl ?_
                                  exact V_iret X (kr x5 (Option.some.inj h).symm) d_Mod_letter_199
                                · skip
                                  by_cases c23 : v1 = (118 : Int32)
                                  · refine V_tbl (v := 118) (pc' := 150) (off := 141) X d_Mod_letter_9 c23 (by decide) (by decide) (by decide +kernel) (by decide) ?_
                                    refine V_iconst (v := 0) X d_Mod_letter_150 (by decide) rfl ?_
                                    refine V_istore (lv' := [(5, .int (0 : Int32)), (4, .int x1), (0, .ref (G.2.2 + 162)), (1, .int v1), (2, .ref (G.2.2 + v2)), (3, .int v3)]) X d_Mod_letter_151 (by decide) rfl rfl ?_
                                    refine V_iconst (v := 0) X d_Mod_letter_153 (by decide) rfl ?_
                                    refine V_istore (lv' := [(6, .int (0 : Int32)), (5, .int (0 : Int32)), (4, .int x1), (0, .ref (G.2.2 + 162)), (1, .int v1), (2, .ref (G.2.2 + v2)), (3, .int v3)]) X d_Mod_letter_154 (by decide) rfl rfl ?_
                                    refine V_sub (lv' := [(0, .ref (G.2.2 + 162)), (2, .ref (G.2.2 + v2)), (3, .int v3), (5, .int (0 : Int32)), (6, .int (0 : Int32))]) [3, 5, 6, 1, 0] rfl ?_
                                    obtain ⟨x5, hx5, h⟩ := ob_s h
                                    refine (lp_Mod_letter_156_ok X hD v2 v3 hk_v2 M _ _ _ hx5 (fun x9 e9 => ?_) :)
                                    subst e9
                                    refine V_iload (n := 0) X d_Mod_letter_197 rfl rfl ?_
                                    exact V_iret X (kr x5 (Option.some.inj h).symm) d_Mod_letter_199
                                  · skip
                                    refine V_tableOut (pc' := 150) X d_Mod_letter_9 (by have g0 := neT c6 (z := 105) (by decide); have g1 := neT c7 (z := 107) (by decide); have g2 := neT c8 (z := 109) (by decide); have g3 := neT c10 (z := 115) (by decide); have g4 := neT c11 (z := 119) (by decide); have g5 := neT c12 (z := 120) (by decide); have g6 := neT c13 (z := 121) (by decide); have g7 := neT c14 (z := 106) (by decide); have g8 := neT c15 (z := 108) (by decide); have g9 := neT c16 (z := 110) (by decide); have g10 := neT c17 (z := 111) (by decide); have g11 := neT c18 (z := 112) (by decide); have g12 := neT c19 (z := 113) (by decide); have g13 := neT c20 (z := 114) (by decide); have g14 := neT c21 (z := 116) (by decide); have g15 := neT c22 (z := 117) (by decide); have g16 := neT c23 (z := 118) (by decide); omega) (by decide) ?_
                                    refine V_iconst (v := 0) X d_Mod_letter_150 (by decide) rfl ?_
                                    refine V_istore (lv' := [(5, .int (0 : Int32)), (4, .int x1), (0, .ref (G.2.2 + 162)), (1, .int v1), (2, .ref (G.2.2 + v2)), (3, .int v3)]) X d_Mod_letter_151 (by decide) rfl rfl ?_
                                    refine V_iconst (v := 0) X d_Mod_letter_153 (by decide) rfl ?_
                                    refine V_istore (lv' := [(6, .int (0 : Int32)), (5, .int (0 : Int32)), (4, .int x1), (0, .ref (G.2.2 + 162)), (1, .int v1), (2, .ref (G.2.2 + v2)), (3, .int v3)]) X d_Mod_letter_154 (by decide) rfl rfl ?_
                                    refine V_sub (lv' := [(0, .ref (G.2.2 + 162)), (2, .ref (G.2.2 + v2)), (3, .int v3), (5, .int (0 : Int32)), (6, .int (0 : Int32))]) [3, 5, 6, 1, 0] rfl ?_
                                    obtain ⟨x5, hx5, h⟩ := ob_s h
                                    refine (lp_Mod_letter_156_ok X hD v2 v3 hk_v2 M _ _ _ hx5 (fun x9 e9 => ?_) :)
                                    subst e9
                                    refine V_iload (n := 0) X d_Mod_letter_197 rfl rfl ?_
                                    exact V_iret X (kr x5 (Option.some.inj h).symm) d_Mod_letter_199
abbrev Rc_expr (l : Launch) (G : Gw) (m0 : Nat) (rc : Nat → Int32 → Mem → Option (Int32 × Mem)) : Prop :=
  (∀ (a0 : Int32) (M : Mem) (x : Int32 × Mem), rc 0 a0 M = some x → ∀ d, m0 ≤ d → Ci l G y_Mod_held b_Mod_held 3 (some .int) d [.ref (G.2.2 + 162), .int a0] M (fun r9 M9 => r9 = x.1 ∧ M9 = x.2)) ∧
  (∀ (a0 : Int32) (M : Mem) (x : Int32 × Mem), rc 1 a0 M = some x → ∀ d, m0 ≤ d → Ci l G y_Mod_sum b_Mod_sum 5 (some .int) d [.ref (G.2.2 + 162), .int a0] M (fun r9 M9 => r9 = x.1 ∧ M9 = x.2)) ∧
  (∀ (a0 : Int32) (M : Mem) (x : Int32 × Mem), rc 2 a0 M = some x → ∀ d, m0 ≤ d → Ci l G y_Mod_product b_Mod_product 5 (some .int) d [.ref (G.2.2 + 162), .int a0] M (fun r9 M9 => r9 = x.1 ∧ M9 = x.2)) ∧
  (∀ (a0 : Int32) (M : Mem) (x : Int32 × Mem), rc 3 a0 M = some x → ∀ d, m0 ≤ d → Ci l G y_Mod_thing b_Mod_thing 4 (some .int) d [.ref (G.2.2 + 162), .int a0] M (fun r9 M9 => r9 = x.1 ∧ M9 = x.2))
def fb_Mod_held (rc : Nat → Int32 → Mem → Option (Int32 × Mem)) (v1 : Int32) (M : Mem) : Option (Int32 × Mem) :=
  Option.bind (rc 1 v1 M) fun x1 =>
  Option.bind (f_Mod_passes (60 : Int32) x1.2) fun x2 =>
  if x2.1 = 0 then
  Option.bind (f_Mod_passes (62 : Int32) x2.2) fun x3 =>
  if x3.1 = 0 then
  Option.bind (f_Mod_passes (61 : Int32) x3.2) fun x4 =>
  if x4.1 = 0 then
  some (x1.1, x4.2)
  else
  Option.bind (rc 1 v1 x4.2) fun x5 =>
  if x1.1 = x5.1 then
  some ((1 : Int32), x5.2)
  else
  some ((0 : Int32), x5.2)
  else
  Option.bind (rc 1 v1 x3.2) fun x8 =>
  if x1.1 ≤ x8.1 then
  some ((0 : Int32), x8.2)
  else
  some ((1 : Int32), x8.2)
  else
  Option.bind (rc 1 v1 x2.2) fun x11 =>
  if x11.1 ≤ x1.1 then
  some ((0 : Int32), x11.2)
  else
  some ((1 : Int32), x11.2)
theorem cb_Mod_held (l : Launch) (G : Gw) (rc : Nat → Int32 → Mem → Option (Int32 × Mem)) (m0 : Nat) (hrc : Rc_expr l G m0 rc) (v1 : Int32) (M : Mem) (x : Int32 × Mem) (h : fb_Mod_held rc v1 M = some x) (d : Nat) (hD : m0 + 3 ≤ d) : Ci l G y_Mod_held b_Mod_held 3 (some .int) d [.ref (G.2.2 + 162), .int v1] M (fun r9 M9 => r9 = x.1 ∧ M9 = x.2) := by
  refine Ci_of (by decide) (Nat.le_of_ble_eq_true rfl) (fun E hE X => ?_)
  subst hE
  have kr : ∀ x9 : Int32 × Mem, x = x9 → (fun r9 M9 => r9 = x.1 ∧ M9 = x.2) x9.1 x9.2 := fun x9 e9 => by subst e9; exact ⟨rfl, rfl⟩
  unfold fb_Mod_held at h
  refine V_aload_n (n := 0) X d_Mod_held_0 rfl rfl rfl ?_
  refine V_iload_n (n := 1) X d_Mod_held_1 rfl rfl rfl ?_
  obtain ⟨x1, hx1, h⟩ := ob_s h
  refine V_ci (As := [.int v1]) X (Z0 E) ml_Mod_227 yq_Mod_sum ((And.left (And.right hrc)) v1 M x1 hx1 _ (Nat.le_refl _)) kd_162 rfl rfl (by omega) rfl (Nat.le_of_ble_eq_true rfl) d_Mod_held_2 rfl (fun r9 M9 hq => ?_)
  rw [hq.1, hq.2]
  refine V_istore_n (lv' := [(2, .int x1.1), (0, .ref (G.2.2 + 162)), (1, .int v1)]) X d_Mod_held_5 rfl (by decide) rfl rfl ?_
  refine V_aload_n (n := 1) X d_Mod_held_6 rfl rfl rfl ?_
  refine V_bipush (v := 60) X d_Mod_held_7 (by decide) rfl ?_
  obtain ⟨x2, hx2, h⟩ := ob_s h
  refine V_ci (As := [.int (60 : Int32)]) X (Z0 E) ml_Mod_186 yq_Mod_passes (c_Mod_passes E.2.1 G (60 : Int32) x1.2 x2 hx2 _ (Nat.le_refl _)) kd_162 rfl rfl (by omega) rfl (Nat.le_of_ble_eq_true rfl) d_Mod_held_9 rfl (fun r9 M9 hq => ?_)
  rw [hq.1, hq.2]
  refine V_if_eq (tgt := 30) X d_Mod_held_12 (by decide) rfl (fun c13 => ?_) (fun c13 => ?_)
  · rw [if_pos c13] at h
    refine V_aload_n (n := 1) X d_Mod_held_30 rfl rfl rfl ?_
    refine V_bipush (v := 62) X d_Mod_held_31 (by decide) rfl ?_
    obtain ⟨x3, hx3, h⟩ := ob_s h
    refine V_ci (As := [.int (62 : Int32)]) X (Z0 E) ml_Mod_186 yq_Mod_passes (c_Mod_passes E.2.1 G (62 : Int32) x2.2 x3 hx3 _ (Nat.le_refl _)) kd_162 rfl rfl (by omega) rfl (Nat.le_of_ble_eq_true rfl) d_Mod_held_33 rfl (fun r9 M9 hq => ?_)
    rw [hq.1, hq.2]
    refine V_if_eq (tgt := 54) X d_Mod_held_36 (by decide) rfl (fun c10 => ?_) (fun c10 => ?_)
    · rw [if_pos c10] at h
      refine V_aload_n (n := 1) X d_Mod_held_54 rfl rfl rfl ?_
      refine V_bipush (v := 61) X d_Mod_held_55 (by decide) rfl ?_
      obtain ⟨x4, hx4, h⟩ := ob_s h
      refine V_ci (As := [.int (61 : Int32)]) X (Z0 E) ml_Mod_186 yq_Mod_passes (c_Mod_passes E.2.1 G (61 : Int32) x3.2 x4 hx4 _ (Nat.le_refl _)) kd_162 rfl rfl (by omega) rfl (Nat.le_of_ble_eq_true rfl) d_Mod_held_57 rfl (fun r9 M9 hq => ?_)
      rw [hq.1, hq.2]
      refine V_if_eq (tgt := 78) X d_Mod_held_60 (by decide) rfl (fun c7 => ?_) (fun c7 => ?_)
      · rw [if_pos c7] at h
        refine V_iload_n (n := 0) X d_Mod_held_78 rfl rfl rfl ?_
        exact V_iret X (kr (x1.1, x4.2) (Option.some.inj h).symm) d_Mod_held_79
      · rw [if_neg c7] at h
        refine V_iload_n (n := 0) X d_Mod_held_63 rfl rfl rfl ?_
        refine V_aload_n (n := 1) X d_Mod_held_64 rfl rfl rfl ?_
        refine V_iload_n (n := 2) X d_Mod_held_65 rfl rfl rfl ?_
        obtain ⟨x5, hx5, h⟩ := ob_s h
        refine V_ci (As := [.int v1]) X (Z0 E) ml_Mod_227 yq_Mod_sum ((And.left (And.right hrc)) v1 x4.2 x5 hx5 _ (Nat.le_refl _)) kd_162 rfl rfl (by omega) rfl (Nat.le_of_ble_eq_true rfl) d_Mod_held_66 rfl (fun r9 M9 hq => ?_)
        rw [hq.1, hq.2]
        refine V_icmp_ne (tgt := 76) X d_Mod_held_69 (by decide) rfl (fun c6 => ?_) (fun c6 => ?_)
        · rw [if_neg c6] at h
          refine V_iconst (v := 0) X d_Mod_held_76 (by decide) rfl ?_
          exact V_iret X (kr ((0 : Int32), x5.2) (Option.some.inj h).symm) d_Mod_held_77
        · rw [if_pos c6] at h
          refine V_iconst (v := 1) X d_Mod_held_72 (by decide) rfl ?_
          refine V_goto (pc' := 77) X d_Mod_held_73 (by decide) ?_
          exact V_iret X (kr ((1 : Int32), x5.2) (Option.some.inj h).symm) d_Mod_held_77
    · rw [if_neg c10] at h
      refine V_iload_n (n := 0) X d_Mod_held_39 rfl rfl rfl ?_
      refine V_aload_n (n := 1) X d_Mod_held_40 rfl rfl rfl ?_
      refine V_iload_n (n := 2) X d_Mod_held_41 rfl rfl rfl ?_
      obtain ⟨x8, hx8, h⟩ := ob_s h
      refine V_ci (As := [.int v1]) X (Z0 E) ml_Mod_227 yq_Mod_sum ((And.left (And.right hrc)) v1 x3.2 x8 hx8 _ (Nat.le_refl _)) kd_162 rfl rfl (by omega) rfl (Nat.le_of_ble_eq_true rfl) d_Mod_held_42 rfl (fun r9 M9 hq => ?_)
      rw [hq.1, hq.2]
      refine V_icmp_le (tgt := 52) X d_Mod_held_45 (by decide) rfl (fun c9 => ?_) (fun c9 => ?_)
      · rw [if_pos c9] at h
        refine V_iconst (v := 0) X d_Mod_held_52 (by decide) rfl ?_
        exact V_iret X (kr ((0 : Int32), x8.2) (Option.some.inj h).symm) d_Mod_held_53
      · rw [if_neg c9] at h
        refine V_iconst (v := 1) X d_Mod_held_48 (by decide) rfl ?_
        refine V_goto (pc' := 53) X d_Mod_held_49 (by decide) ?_
        exact V_iret X (kr ((1 : Int32), x8.2) (Option.some.inj h).symm) d_Mod_held_53
  · rw [if_neg c13] at h
    refine V_iload_n (n := 0) X d_Mod_held_15 rfl rfl rfl ?_
    refine V_aload_n (n := 1) X d_Mod_held_16 rfl rfl rfl ?_
    refine V_iload_n (n := 2) X d_Mod_held_17 rfl rfl rfl ?_
    obtain ⟨x11, hx11, h⟩ := ob_s h
    refine V_ci (As := [.int v1]) X (Z0 E) ml_Mod_227 yq_Mod_sum ((And.left (And.right hrc)) v1 x2.2 x11 hx11 _ (Nat.le_refl _)) kd_162 rfl rfl (by omega) rfl (Nat.le_of_ble_eq_true rfl) d_Mod_held_18 rfl (fun r9 M9 hq => ?_)
    rw [hq.1, hq.2]
    refine V_icmp_ge (tgt := 28) X d_Mod_held_21 (by decide) rfl (fun c12 => ?_) (fun c12 => ?_)
    · rw [if_pos c12] at h
      refine V_iconst (v := 0) X d_Mod_held_28 (by decide) rfl ?_
      exact V_iret X (kr ((0 : Int32), x11.2) (Option.some.inj h).symm) d_Mod_held_29
    · rw [if_neg c12] at h
      refine V_iconst (v := 1) X d_Mod_held_24 (by decide) rfl ?_
      refine V_goto (pc' := 29) X d_Mod_held_25 (by decide) ?_
      exact V_iret X (kr ((1 : Int32), x11.2) (Option.some.inj h).symm) d_Mod_held_29
def j_Mod_sum_45_6 (rc : Nat → Int32 → Mem → Option (Int32 × Mem)) (v1 : Int32) (v2 : Int32) (w0 : Int32) (M : Mem) : Option ((Int32 × Mem) ⊕ ((Int32 × Mem))) :=
  mem_ (s_i M 162 17 ((M.1 162 17) + (1 : Int32))) fun M5 =>
  Option.bind (rc 2 v1 M5) fun x6 =>
  if w0 = 0 then
  some (.inl ((v2 - x6.1), x6.2))
  else
  some (.inl ((v2 + x6.1), x6.2))
theorem j_Mod_sum_45_6_ok {E : Ev} {G : Gw} {d : Nat} {post : Int32 → Mem → Prop} {rc : Nat → Int32 → Mem → Option (Int32 × Mem)} {m0 : Nat} (X : Cx E G b_Mod_sum "WomenByTheRoofsModel" 5 d (some .int)) (hD : m0 + 2 ≤ d) (hrc : Rc_expr E.2.1 G m0 rc) (v1 : Int32) (v2 : Int32) (w0 : Int32)  (M : Mem)  (o : (Int32 × Mem) ⊕ ((Int32 × Mem))) (h : j_Mod_sum_45_6 rc v1 v2 w0 M = some o) (kc : ∀ s9 : Int32 × Mem, o = .inl s9 → V E (0, 0) G 5 (QI E G post) s9.2 6 [(0, .ref (G.2.2 + 162)), (1, .int v1), (2, .int s9.1)] []) (kx0 : ∀ x9 : Int32 × Mem, o = .inr x9 → V E (0, 0) G 5 (QI E G post) x9.2 82 [(2, .int x9.1)] []) : V E (0, 0) G 5 (QI E G post) M 45 [(0, .ref (G.2.2 + 162)), (1, .int v1), (2, .int v2)] [.int w0] := by
  unfold j_Mod_sum_45_6 at h
  refine V_istore_n (lv' := [(3, .int w0), (0, .ref (G.2.2 + 162)), (1, .int v1), (2, .int v2)]) X d_Mod_sum_45 rfl (by decide) rfl rfl ?_
  refine V_aload_n (n := 1) X d_Mod_sum_46 rfl rfl rfl ?_
  refine V_dup X d_Mod_sum_47 rfl rfl ?_
  refine V_geti X fo_Mod_173 kd_162 rfl d_Mod_sum_48 rfl ?_
  refine V_iconst (v := 1) X d_Mod_sum_51 (by decide) rfl ?_
  refine V_iadd X d_Mod_sum_52 rfl ?_
  obtain ⟨M5, eM5, h⟩ := memS h
  refine V_putI X fp_Mod_173 kd_162 rfl d_Mod_sum_53 rfl ?_
  rw [← eM5]
  refine V_aload_n (n := 1) X d_Mod_sum_56 rfl rfl rfl ?_
  refine V_iload_n (n := 2) X d_Mod_sum_57 rfl rfl rfl ?_
  obtain ⟨x6, hx6, h⟩ := ob_s h
  refine V_ci (As := [.int v1]) X (Z0 E) ml_Mod_230 yq_Mod_product ((And.left (And.right (And.right hrc))) v1 M5 x6 hx6 _ (Nat.le_refl _)) kd_162 rfl rfl (by omega) rfl (Nat.le_of_ble_eq_true rfl) d_Mod_sum_58 rfl (fun r9 M9 hq => ?_)
  rw [hq.1, hq.2]
  refine V_istore (lv' := [(4, .int x6.1), (3, .int w0), (0, .ref (G.2.2 + 162)), (1, .int v1), (2, .int v2)]) X d_Mod_sum_61 (by decide) rfl rfl ?_
  refine V_iload_n (n := 1) X d_Mod_sum_63 rfl rfl rfl ?_
  refine V_if_eq (tgt := 74) X d_Mod_sum_64 (by decide) rfl (fun c7 => ?_) (fun c7 => ?_)
  · rw [if_pos c7] at h
    refine V_iload_n (n := 4) X d_Mod_sum_74 rfl rfl rfl ?_
    refine V_iload (n := 0) X d_Mod_sum_75 rfl rfl ?_
    refine V_isub X d_Mod_sum_77 rfl ?_
    refine V_istore_n (lv' := [(2, .int (v2 - x6.1)), (4, .int x6.1), (3, .int w0), (0, .ref (G.2.2 + 162)), (1, .int v1)]) X d_Mod_sum_78 rfl (by decide) rfl rfl ?_
    refine V_goto (pc' := 6) X d_Mod_sum_79 (by decide) ?_
    refine V_sub (lv' := [(0, .ref (G.2.2 + 162)), (1, .int v1), (2, .int (v2 - x6.1))]) [3, 4, 0] rfl ?_
    exact kc ((v2 - x6.1), x6.2) (Option.some.inj h).symm
  · rw [if_neg c7] at h
    refine V_iload_n (n := 4) X d_Mod_sum_67 rfl rfl rfl ?_
    refine V_iload (n := 0) X d_Mod_sum_68 rfl rfl ?_
    refine V_iadd X d_Mod_sum_70 rfl ?_
    refine V_goto (pc' := 78) X d_Mod_sum_71 (by decide) ?_
    refine V_istore_n (lv' := [(2, .int (v2 + x6.1)), (4, .int x6.1), (3, .int w0), (0, .ref (G.2.2 + 162)), (1, .int v1)]) X d_Mod_sum_78 rfl (by decide) rfl rfl ?_
    refine V_goto (pc' := 6) X d_Mod_sum_79 (by decide) ?_
    refine V_sub (lv' := [(0, .ref (G.2.2 + 162)), (1, .int v1), (2, .int (v2 + x6.1))]) [3, 4, 0] rfl ?_
    exact kc ((v2 + x6.1), x6.2) (Option.some.inj h).symm
def j_Mod_sum_31_6 (rc : Nat → Int32 → Mem → Option (Int32 × Mem)) (v1 : Int32) (v2 : Int32) (M : Mem) : Option ((Int32 × Mem) ⊕ ((Int32 × Mem))) :=
  Option.bind (f_Mod_here M) fun x4 =>
  if x4 = (43 : Int32) then
  j_Mod_sum_45_6 rc v1 v2 (1 : Int32) M
  else
  j_Mod_sum_45_6 rc v1 v2 (0 : Int32) M
theorem j_Mod_sum_31_6_ok {E : Ev} {G : Gw} {d : Nat} {post : Int32 → Mem → Prop} {rc : Nat → Int32 → Mem → Option (Int32 × Mem)} {m0 : Nat} (X : Cx E G b_Mod_sum "WomenByTheRoofsModel" 5 d (some .int)) (hD : m0 + 2 ≤ d) (hrc : Rc_expr E.2.1 G m0 rc) (v1 : Int32) (v2 : Int32)  (M : Mem)  (o : (Int32 × Mem) ⊕ ((Int32 × Mem))) (h : j_Mod_sum_31_6 rc v1 v2 M = some o) (kc : ∀ s9 : Int32 × Mem, o = .inl s9 → V E (0, 0) G 5 (QI E G post) s9.2 6 [(0, .ref (G.2.2 + 162)), (1, .int v1), (2, .int s9.1)] []) (kx0 : ∀ x9 : Int32 × Mem, o = .inr x9 → V E (0, 0) G 5 (QI E G post) x9.2 82 [(2, .int x9.1)] []) : V E (0, 0) G 5 (QI E G post) M 31 [(0, .ref (G.2.2 + 162)), (1, .int v1), (2, .int v2)] [] := by
  unfold j_Mod_sum_31_6 at h
  refine V_aload_n (n := 0) X d_Mod_sum_31 rfl rfl rfl ?_
  obtain ⟨x4, hx4, h⟩ := ob_s h
  refine V_ci (As := []) X (Z0 E) ml_Mod_183 yq_Mod_here (c_Mod_here E.2.1 G  M x4 hx4 _ (Nat.le_refl _)) kd_162 rfl rfl (by omega) rfl (Nat.le_of_ble_eq_true rfl) d_Mod_sum_32 rfl (fun r9 M9 hq => ?_)
  rw [hq.1, hq.2]
  refine V_bipush (v := 43) X d_Mod_sum_35 (by decide) rfl ?_
  refine V_icmp_ne (tgt := 44) X d_Mod_sum_37 (by decide) rfl (fun c8 => ?_) (fun c8 => ?_)
  · rw [if_neg c8] at h
    refine V_iconst (v := 0) X d_Mod_sum_44 (by decide) rfl ?_
    exact j_Mod_sum_45_6_ok X hD hrc v1 v2 (0 : Int32) M _ h kc kx0
  · rw [if_pos c8] at h
    refine V_iconst (v := 1) X d_Mod_sum_40 (by decide) rfl ?_
    refine V_goto (pc' := 45) X d_Mod_sum_41 (by decide) ?_
    exact j_Mod_sum_45_6_ok X hD hrc v1 v2 (1 : Int32) M _ h kc kx0
def lb_Mod_sum_6 (rc : Nat → Int32 → Mem → Option (Int32 × Mem)) (v1 : Int32) (s : Int32 × Mem) : Option ((Int32 × Mem) ⊕ ((Int32 × Mem))) :=
  Option.bind (f_Mod_fine s.2) fun x2 =>
  if x2 = 0 then
  some (.inr (s.1, s.2))
  else
  Option.bind (f_Mod_here s.2) fun x3 =>
  if x3 = (43 : Int32) then
  j_Mod_sum_31_6 rc v1 s.1 s.2
  else
  Option.bind (f_Mod_here s.2) fun x9 =>
  if x9 = (45 : Int32) then
  j_Mod_sum_31_6 rc v1 s.1 s.2
  else
  some (.inr (s.1, s.2))
theorem lb_Mod_sum_6_ok {E : Ev} {G : Gw} {d : Nat} {post : Int32 → Mem → Prop} {rc : Nat → Int32 → Mem → Option (Int32 × Mem)} {m0 : Nat} (X : Cx E G b_Mod_sum "WomenByTheRoofsModel" 5 d (some .int)) (hD : m0 + 2 ≤ d) (hrc : Rc_expr E.2.1 G m0 rc) (v1 : Int32)   (s : Int32 × Mem) (o : (Int32 × Mem) ⊕ ((Int32 × Mem))) (h : lb_Mod_sum_6 rc v1 s = some o) (kc : ∀ s9 : Int32 × Mem, o = .inl s9 → V E (0, 0) G 5 (QI E G post) s9.2 6 [(0, .ref (G.2.2 + 162)), (1, .int v1), (2, .int s9.1)] []) (kx0 : ∀ x9 : Int32 × Mem, o = .inr x9 → V E (0, 0) G 5 (QI E G post) x9.2 82 [(2, .int x9.1)] []) : V E (0, 0) G 5 (QI E G post) s.2 6 [(0, .ref (G.2.2 + 162)), (1, .int v1), (2, .int s.1)] [] := by
  unfold lb_Mod_sum_6 at h
  refine V_aload_n (n := 0) X d_Mod_sum_6 rfl rfl rfl ?_
  obtain ⟨x2, hx2, h⟩ := ob_s h
  refine V_ci (As := []) X (Z0 E) ml_Mod_179 yq_Mod_fine (c_Mod_fine E.2.1 G  s.2 x2 hx2 _ (Nat.le_refl _)) kd_162 rfl rfl (by omega) rfl (Nat.le_of_ble_eq_true rfl) d_Mod_sum_7 rfl (fun r9 M9 hq => ?_)
  rw [hq.1, hq.2]
  refine V_if_eq (tgt := 82) X d_Mod_sum_10 (by decide) rfl (fun c12 => ?_) (fun c12 => ?_)
  · rw [if_pos c12] at h
    refine V_sub (lv' := [(2, .int s.1)]) [2] rfl ?_
    exact kx0 (s.1, s.2) (Option.some.inj h).symm
  · rw [if_neg c12] at h
    refine V_aload_n (n := 0) X d_Mod_sum_13 rfl rfl rfl ?_
    obtain ⟨x3, hx3, h⟩ := ob_s h
    refine V_ci (As := []) X (Z0 E) ml_Mod_183 yq_Mod_here (c_Mod_here E.2.1 G  s.2 x3 hx3 _ (Nat.le_refl _)) kd_162 rfl rfl (by omega) rfl (Nat.le_of_ble_eq_true rfl) d_Mod_sum_14 rfl (fun r9 M9 hq => ?_)
    rw [hq.1, hq.2]
    refine V_bipush (v := 43) X d_Mod_sum_17 (by decide) rfl ?_
    refine V_icmp_eq (tgt := 31) X d_Mod_sum_19 (by decide) rfl (fun c11 => ?_) (fun c11 => ?_)
    · rw [if_pos c11] at h
      exact j_Mod_sum_31_6_ok X hD hrc v1 s.1 s.2 _ h kc kx0
    · rw [if_neg c11] at h
      refine V_aload_n (n := 0) X d_Mod_sum_22 rfl rfl rfl ?_
      obtain ⟨x9, hx9, h⟩ := ob_s h
      refine V_ci (As := []) X (Z0 E) ml_Mod_183 yq_Mod_here (c_Mod_here E.2.1 G  s.2 x9 hx9 _ (Nat.le_refl _)) kd_162 rfl rfl (by omega) rfl (Nat.le_of_ble_eq_true rfl) d_Mod_sum_23 rfl (fun r9 M9 hq => ?_)
      rw [hq.1, hq.2]
      refine V_bipush (v := 45) X d_Mod_sum_26 (by decide) rfl ?_
      refine V_icmp_ne (tgt := 82) X d_Mod_sum_28 (by decide) rfl (fun c10 => ?_) (fun c10 => ?_)
      · rw [if_neg c10] at h
        refine V_sub (lv' := [(2, .int s.1)]) [2] rfl ?_
        exact kx0 (s.1, s.2) (Option.some.inj h).symm
      · rw [if_pos c10] at h
        exact j_Mod_sum_31_6_ok X hD hrc v1 s.1 s.2 _ h kc kx0
theorem lp_Mod_sum_6_ok {E : Ev} {G : Gw} {d : Nat} {post : Int32 → Mem → Prop} {rc : Nat → Int32 → Mem → Option (Int32 × Mem)} {m0 : Nat} (X : Cx E G b_Mod_sum "WomenByTheRoofsModel" 5 d (some .int)) (hD : m0 + 2 ≤ d) (hrc : Rc_expr E.2.1 G m0 rc) (v1 : Int32)   (n9 : Nat) (s : Int32 × Mem) (x : (Int32 × Mem)) (h : iter (lb_Mod_sum_6 rc v1) n9 s = some x) (kx0 : ∀ x9 : Int32 × Mem, x = x9 → V E (0, 0) G 5 (QI E G post) x9.2 82 [(2, .int x9.1)] []) : V E (0, 0) G 5 (QI E G post) s.2 6 [(0, .ref (G.2.2 + 162)), (1, .int v1), (2, .int s.1)] [] :=
  iter_P (P := fun s : Int32 × Mem => V E (0, 0) G 5 (QI E G post) s.2 6 [(0, .ref (G.2.2 + 162)), (1, .int v1), (2, .int s.1)] []) (fun s o hb kc ky => lb_Mod_sum_6_ok X hD hrc v1 s o hb kc (fun x9 e9 => kx0 x9 (ky _ e9).symm)) n9 s h
def fb_Mod_sum (rc : Nat → Int32 → Mem → Option (Int32 × Mem)) (v1 : Int32) (M : Mem) : Option (Int32 × Mem) :=
  Option.bind (rc 2 v1 M) fun x1 =>
  Option.bind (iter (lb_Mod_sum_6 rc v1) FU (x1.1, x1.2)) fun x13 =>
  some (x13.1, x13.2)
theorem cb_Mod_sum (l : Launch) (G : Gw) (rc : Nat → Int32 → Mem → Option (Int32 × Mem)) (m0 : Nat) (hrc : Rc_expr l G m0 rc) (v1 : Int32) (M : Mem) (x : Int32 × Mem) (h : fb_Mod_sum rc v1 M = some x) (d : Nat) (hD : m0 + 2 ≤ d) : Ci l G y_Mod_sum b_Mod_sum 5 (some .int) d [.ref (G.2.2 + 162), .int v1] M (fun r9 M9 => r9 = x.1 ∧ M9 = x.2) := by
  refine Ci_of (by decide) (Nat.le_of_ble_eq_true rfl) (fun E hE X => ?_)
  subst hE
  have kr : ∀ x9 : Int32 × Mem, x = x9 → (fun r9 M9 => r9 = x.1 ∧ M9 = x.2) x9.1 x9.2 := fun x9 e9 => by subst e9; exact ⟨rfl, rfl⟩
  unfold fb_Mod_sum at h
  refine V_aload_n (n := 0) X d_Mod_sum_0 rfl rfl rfl ?_
  refine V_iload_n (n := 1) X d_Mod_sum_1 rfl rfl rfl ?_
  obtain ⟨x1, hx1, h⟩ := ob_s h
  refine V_ci (As := [.int v1]) X (Z0 E) ml_Mod_230 yq_Mod_product ((And.left (And.right (And.right hrc))) v1 M x1 hx1 _ (Nat.le_refl _)) kd_162 rfl rfl (by omega) rfl (Nat.le_of_ble_eq_true rfl) d_Mod_sum_2 rfl (fun r9 M9 hq => ?_)
  rw [hq.1, hq.2]
  refine V_istore_n (lv' := [(2, .int x1.1), (0, .ref (G.2.2 + 162)), (1, .int v1)]) X d_Mod_sum_5 rfl (by decide) rfl rfl ?_
  refine V_sub (lv' := [(0, .ref (G.2.2 + 162)), (1, .int v1), (2, .int x1.1)]) [1, 2, 0] rfl ?_
  obtain ⟨x13, hx13, h⟩ := ob_s h
  refine (lp_Mod_sum_6_ok X hD hrc v1 _ _ _ hx13 (fun x9 e9 => ?_) :)
  subst e9
  refine V_iload_n (n := 0) X d_Mod_sum_82 rfl rfl rfl ?_
  exact V_iret X (kr (x13.1, x13.2) (Option.some.inj h).symm) d_Mod_sum_83
def j_Mod_product_45_6 (rc : Nat → Int32 → Mem → Option (Int32 × Mem)) (v1 : Int32) (v2 : Int32) (w0 : Int32) (M : Mem) : Option ((Int32 × Mem) ⊕ ((Int32 × Mem))) :=
  mem_ (s_i M 162 17 ((M.1 162 17) + (1 : Int32))) fun M5 =>
  Option.bind (rc 3 v1 M5) fun x6 =>
  if w0 = 0 then
  if x6.1 = 0 then
  some (.inl ((0 : Int32), x6.2))
  else
  if x6.1 = 0 then none else
  some (.inl ((v2 / x6.1), x6.2))
  else
  some (.inl ((v2 * x6.1), x6.2))
theorem j_Mod_product_45_6_ok {E : Ev} {G : Gw} {d : Nat} {post : Int32 → Mem → Prop} {rc : Nat → Int32 → Mem → Option (Int32 × Mem)} {m0 : Nat} (X : Cx E G b_Mod_product "WomenByTheRoofsModel" 5 d (some .int)) (hD : m0 + 2 ≤ d) (hrc : Rc_expr E.2.1 G m0 rc) (v1 : Int32) (v2 : Int32) (w0 : Int32)  (M : Mem)  (o : (Int32 × Mem) ⊕ ((Int32 × Mem))) (h : j_Mod_product_45_6 rc v1 v2 w0 M = some o) (kc : ∀ s9 : Int32 × Mem, o = .inl s9 → V E (0, 0) G 5 (QI E G post) s9.2 6 [(0, .ref (G.2.2 + 162)), (1, .int v1), (2, .int s9.1)] []) (kx0 : ∀ x9 : Int32 × Mem, o = .inr x9 → V E (0, 0) G 5 (QI E G post) x9.2 91 [(2, .int x9.1)] []) : V E (0, 0) G 5 (QI E G post) M 45 [(0, .ref (G.2.2 + 162)), (1, .int v1), (2, .int v2)] [.int w0] := by
  unfold j_Mod_product_45_6 at h
  refine V_istore_n (lv' := [(3, .int w0), (0, .ref (G.2.2 + 162)), (1, .int v1), (2, .int v2)]) X d_Mod_product_45 rfl (by decide) rfl rfl ?_
  refine V_aload_n (n := 1) X d_Mod_product_46 rfl rfl rfl ?_
  refine V_dup X d_Mod_product_47 rfl rfl ?_
  refine V_geti X fo_Mod_173 kd_162 rfl d_Mod_product_48 rfl ?_
  refine V_iconst (v := 1) X d_Mod_product_51 (by decide) rfl ?_
  refine V_iadd X d_Mod_product_52 rfl ?_
  obtain ⟨M5, eM5, h⟩ := memS h
  refine V_putI X fp_Mod_173 kd_162 rfl d_Mod_product_53 rfl ?_
  rw [← eM5]
  refine V_aload_n (n := 1) X d_Mod_product_56 rfl rfl rfl ?_
  refine V_iload_n (n := 2) X d_Mod_product_57 rfl rfl rfl ?_
  obtain ⟨x6, hx6, h⟩ := ob_s h
  refine V_ci (As := [.int v1]) X (Z0 E) ml_Mod_233 yq_Mod_thing ((And.right (And.right (And.right hrc))) v1 M5 x6 hx6 _ (Nat.le_refl _)) kd_162 rfl rfl (by omega) rfl (Nat.le_of_ble_eq_true rfl) d_Mod_product_58 rfl (fun r9 M9 hq => ?_)
  rw [hq.1, hq.2]
  refine V_istore (lv' := [(4, .int x6.1), (3, .int w0), (0, .ref (G.2.2 + 162)), (1, .int v1), (2, .int v2)]) X d_Mod_product_61 (by decide) rfl rfl ?_
  refine V_iload_n (n := 1) X d_Mod_product_63 rfl rfl rfl ?_
  refine V_if_eq (tgt := 74) X d_Mod_product_64 (by decide) rfl (fun c8 => ?_) (fun c8 => ?_)
  · rw [if_pos c8] at h
    refine V_iload (n := 0) X d_Mod_product_74 rfl rfl ?_
    refine V_if_ne (tgt := 83) X d_Mod_product_76 (by decide) rfl (fun c7 => ?_) (fun c7 => ?_)
    · rw [if_neg c7] at h
      refine V_iload_n (n := 4) X d_Mod_product_83 rfl rfl rfl ?_
      refine V_iload (n := 0) X d_Mod_product_84 rfl rfl ?_
      obtain ⟨hq, h⟩ := ifz h
      refine V_idiv X d_Mod_product_86 hq rfl ?_
      refine V_istore_n (lv' := [(2, .int (v2 / x6.1)), (4, .int x6.1), (3, .int w0), (0, .ref (G.2.2 + 162)), (1, .int v1)]) X d_Mod_product_87 rfl (by decide) rfl rfl ?_
      refine V_goto (pc' := 6) X d_Mod_product_88 (by decide) ?_
      refine V_sub (lv' := [(0, .ref (G.2.2 + 162)), (1, .int v1), (2, .int (v2 / x6.1))]) [3, 4, 0] rfl ?_
      exact kc ((v2 / x6.1), x6.2) (Option.some.inj h).symm
    · rw [if_pos c7] at h
      refine V_iconst (v := 0) X d_Mod_product_79 (by decide) rfl ?_
      refine V_goto (pc' := 87) X d_Mod_product_80 (by decide) ?_
      refine V_istore_n (lv' := [(2, .int (0 : Int32)), (4, .int x6.1), (3, .int w0), (0, .ref (G.2.2 + 162)), (1, .int v1)]) X d_Mod_product_87 rfl (by decide) rfl rfl ?_
      refine V_goto (pc' := 6) X d_Mod_product_88 (by decide) ?_
      refine V_sub (lv' := [(0, .ref (G.2.2 + 162)), (1, .int v1), (2, .int (0 : Int32))]) [3, 4, 0] rfl ?_
      exact kc ((0 : Int32), x6.2) (Option.some.inj h).symm
  · rw [if_neg c8] at h
    refine V_iload_n (n := 4) X d_Mod_product_67 rfl rfl rfl ?_
    refine V_iload (n := 0) X d_Mod_product_68 rfl rfl ?_
    refine V_imul X d_Mod_product_70 rfl ?_
    refine V_goto (pc' := 87) X d_Mod_product_71 (by decide) ?_
    refine V_istore_n (lv' := [(2, .int (v2 * x6.1)), (4, .int x6.1), (3, .int w0), (0, .ref (G.2.2 + 162)), (1, .int v1)]) X d_Mod_product_87 rfl (by decide) rfl rfl ?_
    refine V_goto (pc' := 6) X d_Mod_product_88 (by decide) ?_
    refine V_sub (lv' := [(0, .ref (G.2.2 + 162)), (1, .int v1), (2, .int (v2 * x6.1))]) [3, 4, 0] rfl ?_
    exact kc ((v2 * x6.1), x6.2) (Option.some.inj h).symm
def j_Mod_product_31_6 (rc : Nat → Int32 → Mem → Option (Int32 × Mem)) (v1 : Int32) (v2 : Int32) (M : Mem) : Option ((Int32 × Mem) ⊕ ((Int32 × Mem))) :=
  Option.bind (f_Mod_here M) fun x4 =>
  if x4 = (42 : Int32) then
  j_Mod_product_45_6 rc v1 v2 (1 : Int32) M
  else
  j_Mod_product_45_6 rc v1 v2 (0 : Int32) M
theorem j_Mod_product_31_6_ok {E : Ev} {G : Gw} {d : Nat} {post : Int32 → Mem → Prop} {rc : Nat → Int32 → Mem → Option (Int32 × Mem)} {m0 : Nat} (X : Cx E G b_Mod_product "WomenByTheRoofsModel" 5 d (some .int)) (hD : m0 + 2 ≤ d) (hrc : Rc_expr E.2.1 G m0 rc) (v1 : Int32) (v2 : Int32)  (M : Mem)  (o : (Int32 × Mem) ⊕ ((Int32 × Mem))) (h : j_Mod_product_31_6 rc v1 v2 M = some o) (kc : ∀ s9 : Int32 × Mem, o = .inl s9 → V E (0, 0) G 5 (QI E G post) s9.2 6 [(0, .ref (G.2.2 + 162)), (1, .int v1), (2, .int s9.1)] []) (kx0 : ∀ x9 : Int32 × Mem, o = .inr x9 → V E (0, 0) G 5 (QI E G post) x9.2 91 [(2, .int x9.1)] []) : V E (0, 0) G 5 (QI E G post) M 31 [(0, .ref (G.2.2 + 162)), (1, .int v1), (2, .int v2)] [] := by
  unfold j_Mod_product_31_6 at h
  refine V_aload_n (n := 0) X d_Mod_product_31 rfl rfl rfl ?_
  obtain ⟨x4, hx4, h⟩ := ob_s h
  refine V_ci (As := []) X (Z0 E) ml_Mod_183 yq_Mod_here (c_Mod_here E.2.1 G  M x4 hx4 _ (Nat.le_refl _)) kd_162 rfl rfl (by omega) rfl (Nat.le_of_ble_eq_true rfl) d_Mod_product_32 rfl (fun r9 M9 hq => ?_)
  rw [hq.1, hq.2]
  refine V_bipush (v := 42) X d_Mod_product_35 (by decide) rfl ?_
  refine V_icmp_ne (tgt := 44) X d_Mod_product_37 (by decide) rfl (fun c9 => ?_) (fun c9 => ?_)
  · rw [if_neg c9] at h
    refine V_iconst (v := 0) X d_Mod_product_44 (by decide) rfl ?_
    exact j_Mod_product_45_6_ok X hD hrc v1 v2 (0 : Int32) M _ h kc kx0
  · rw [if_pos c9] at h
    refine V_iconst (v := 1) X d_Mod_product_40 (by decide) rfl ?_
    refine V_goto (pc' := 45) X d_Mod_product_41 (by decide) ?_
    exact j_Mod_product_45_6_ok X hD hrc v1 v2 (1 : Int32) M _ h kc kx0
def lb_Mod_product_6 (rc : Nat → Int32 → Mem → Option (Int32 × Mem)) (v1 : Int32) (s : Int32 × Mem) : Option ((Int32 × Mem) ⊕ ((Int32 × Mem))) :=
  Option.bind (f_Mod_fine s.2) fun x2 =>
  if x2 = 0 then
  some (.inr (s.1, s.2))
  else
  Option.bind (f_Mod_here s.2) fun x3 =>
  if x3 = (42 : Int32) then
  j_Mod_product_31_6 rc v1 s.1 s.2
  else
  Option.bind (f_Mod_here s.2) fun x10 =>
  if x10 = (47 : Int32) then
  j_Mod_product_31_6 rc v1 s.1 s.2
  else
  some (.inr (s.1, s.2))
theorem lb_Mod_product_6_ok {E : Ev} {G : Gw} {d : Nat} {post : Int32 → Mem → Prop} {rc : Nat → Int32 → Mem → Option (Int32 × Mem)} {m0 : Nat} (X : Cx E G b_Mod_product "WomenByTheRoofsModel" 5 d (some .int)) (hD : m0 + 2 ≤ d) (hrc : Rc_expr E.2.1 G m0 rc) (v1 : Int32)   (s : Int32 × Mem) (o : (Int32 × Mem) ⊕ ((Int32 × Mem))) (h : lb_Mod_product_6 rc v1 s = some o) (kc : ∀ s9 : Int32 × Mem, o = .inl s9 → V E (0, 0) G 5 (QI E G post) s9.2 6 [(0, .ref (G.2.2 + 162)), (1, .int v1), (2, .int s9.1)] []) (kx0 : ∀ x9 : Int32 × Mem, o = .inr x9 → V E (0, 0) G 5 (QI E G post) x9.2 91 [(2, .int x9.1)] []) : V E (0, 0) G 5 (QI E G post) s.2 6 [(0, .ref (G.2.2 + 162)), (1, .int v1), (2, .int s.1)] [] := by
  unfold lb_Mod_product_6 at h
  refine V_aload_n (n := 0) X d_Mod_product_6 rfl rfl rfl ?_
  obtain ⟨x2, hx2, h⟩ := ob_s h
  refine V_ci (As := []) X (Z0 E) ml_Mod_179 yq_Mod_fine (c_Mod_fine E.2.1 G  s.2 x2 hx2 _ (Nat.le_refl _)) kd_162 rfl rfl (by omega) rfl (Nat.le_of_ble_eq_true rfl) d_Mod_product_7 rfl (fun r9 M9 hq => ?_)
  rw [hq.1, hq.2]
  refine V_if_eq (tgt := 91) X d_Mod_product_10 (by decide) rfl (fun c13 => ?_) (fun c13 => ?_)
  · rw [if_pos c13] at h
    refine V_sub (lv' := [(2, .int s.1)]) [2] rfl ?_
    exact kx0 (s.1, s.2) (Option.some.inj h).symm
  · rw [if_neg c13] at h
    refine V_aload_n (n := 0) X d_Mod_product_13 rfl rfl rfl ?_
    obtain ⟨x3, hx3, h⟩ := ob_s h
    refine V_ci (As := []) X (Z0 E) ml_Mod_183 yq_Mod_here (c_Mod_here E.2.1 G  s.2 x3 hx3 _ (Nat.le_refl _)) kd_162 rfl rfl (by omega) rfl (Nat.le_of_ble_eq_true rfl) d_Mod_product_14 rfl (fun r9 M9 hq => ?_)
    rw [hq.1, hq.2]
    refine V_bipush (v := 42) X d_Mod_product_17 (by decide) rfl ?_
    refine V_icmp_eq (tgt := 31) X d_Mod_product_19 (by decide) rfl (fun c12 => ?_) (fun c12 => ?_)
    · rw [if_pos c12] at h
      exact j_Mod_product_31_6_ok X hD hrc v1 s.1 s.2 _ h kc kx0
    · rw [if_neg c12] at h
      refine V_aload_n (n := 0) X d_Mod_product_22 rfl rfl rfl ?_
      obtain ⟨x10, hx10, h⟩ := ob_s h
      refine V_ci (As := []) X (Z0 E) ml_Mod_183 yq_Mod_here (c_Mod_here E.2.1 G  s.2 x10 hx10 _ (Nat.le_refl _)) kd_162 rfl rfl (by omega) rfl (Nat.le_of_ble_eq_true rfl) d_Mod_product_23 rfl (fun r9 M9 hq => ?_)
      rw [hq.1, hq.2]
      refine V_bipush (v := 47) X d_Mod_product_26 (by decide) rfl ?_
      refine V_icmp_ne (tgt := 91) X d_Mod_product_28 (by decide) rfl (fun c11 => ?_) (fun c11 => ?_)
      · rw [if_neg c11] at h
        refine V_sub (lv' := [(2, .int s.1)]) [2] rfl ?_
        exact kx0 (s.1, s.2) (Option.some.inj h).symm
      · rw [if_pos c11] at h
        exact j_Mod_product_31_6_ok X hD hrc v1 s.1 s.2 _ h kc kx0
theorem lp_Mod_product_6_ok {E : Ev} {G : Gw} {d : Nat} {post : Int32 → Mem → Prop} {rc : Nat → Int32 → Mem → Option (Int32 × Mem)} {m0 : Nat} (X : Cx E G b_Mod_product "WomenByTheRoofsModel" 5 d (some .int)) (hD : m0 + 2 ≤ d) (hrc : Rc_expr E.2.1 G m0 rc) (v1 : Int32)   (n9 : Nat) (s : Int32 × Mem) (x : (Int32 × Mem)) (h : iter (lb_Mod_product_6 rc v1) n9 s = some x) (kx0 : ∀ x9 : Int32 × Mem, x = x9 → V E (0, 0) G 5 (QI E G post) x9.2 91 [(2, .int x9.1)] []) : V E (0, 0) G 5 (QI E G post) s.2 6 [(0, .ref (G.2.2 + 162)), (1, .int v1), (2, .int s.1)] [] :=
  iter_P (P := fun s : Int32 × Mem => V E (0, 0) G 5 (QI E G post) s.2 6 [(0, .ref (G.2.2 + 162)), (1, .int v1), (2, .int s.1)] []) (fun s o hb kc ky => lb_Mod_product_6_ok X hD hrc v1 s o hb kc (fun x9 e9 => kx0 x9 (ky _ e9).symm)) n9 s h
def fb_Mod_product (rc : Nat → Int32 → Mem → Option (Int32 × Mem)) (v1 : Int32) (M : Mem) : Option (Int32 × Mem) :=
  Option.bind (rc 3 v1 M) fun x1 =>
  Option.bind (iter (lb_Mod_product_6 rc v1) FU (x1.1, x1.2)) fun x14 =>
  some (x14.1, x14.2)
theorem cb_Mod_product (l : Launch) (G : Gw) (rc : Nat → Int32 → Mem → Option (Int32 × Mem)) (m0 : Nat) (hrc : Rc_expr l G m0 rc) (v1 : Int32) (M : Mem) (x : Int32 × Mem) (h : fb_Mod_product rc v1 M = some x) (d : Nat) (hD : m0 + 2 ≤ d) : Ci l G y_Mod_product b_Mod_product 5 (some .int) d [.ref (G.2.2 + 162), .int v1] M (fun r9 M9 => r9 = x.1 ∧ M9 = x.2) := by
  refine Ci_of (by decide) (Nat.le_of_ble_eq_true rfl) (fun E hE X => ?_)
  subst hE
  have kr : ∀ x9 : Int32 × Mem, x = x9 → (fun r9 M9 => r9 = x.1 ∧ M9 = x.2) x9.1 x9.2 := fun x9 e9 => by subst e9; exact ⟨rfl, rfl⟩
  unfold fb_Mod_product at h
  refine V_aload_n (n := 0) X d_Mod_product_0 rfl rfl rfl ?_
  refine V_iload_n (n := 1) X d_Mod_product_1 rfl rfl rfl ?_
  obtain ⟨x1, hx1, h⟩ := ob_s h
  refine V_ci (As := [.int v1]) X (Z0 E) ml_Mod_233 yq_Mod_thing ((And.right (And.right (And.right hrc))) v1 M x1 hx1 _ (Nat.le_refl _)) kd_162 rfl rfl (by omega) rfl (Nat.le_of_ble_eq_true rfl) d_Mod_product_2 rfl (fun r9 M9 hq => ?_)
  rw [hq.1, hq.2]
  refine V_istore_n (lv' := [(2, .int x1.1), (0, .ref (G.2.2 + 162)), (1, .int v1)]) X d_Mod_product_5 rfl (by decide) rfl rfl ?_
  refine V_sub (lv' := [(0, .ref (G.2.2 + 162)), (1, .int v1), (2, .int x1.1)]) [1, 2, 0] rfl ?_
  obtain ⟨x14, hx14, h⟩ := ob_s h
  refine (lp_Mod_product_6_ok X hD hrc v1 _ _ _ hx14 (fun x9 e9 => ?_) :)
  subst e9
  refine V_iload_n (n := 0) X d_Mod_product_91 rfl rfl rfl ?_
  exact V_iret X (kr (x14.1, x14.2) (Option.some.inj h).symm) d_Mod_product_92
def j_Mod_thing_142 (rc : Nat → Int32 → Mem → Option (Int32 × Mem)) (v2 : Int32) (M : Mem) : Option (Int32 × Mem) :=
  mem_ (s_i M 162 17 ((M.1 162 17) + (1 : Int32))) fun M5 =>
  if (M5.2.2 162 24) = none then
  some ((0 : Int32), M5)
  else
  Option.bind (M5.2.2 162 24) fun a6 =>
  if kd a6 = 1 then
  Option.bind (f_Mod_letter v2 a6 (M5.1 162 25) M5) fun x7 =>
  some (x7, M5)
  else none
theorem j_Mod_thing_142_ok {E : Ev} {G : Gw} {d : Nat} {post : Int32 → Mem → Prop} {rc : Nat → Int32 → Mem → Option (Int32 × Mem)} {m0 : Nat} (X : Cx E G b_Mod_thing "WomenByTheRoofsModel" 4 d (some .int)) (hD : m0 + 4 ≤ d) (hrc : Rc_expr E.2.1 G m0 rc) (v2 : Int32)  (M : Mem)  (o : Int32 × Mem) (h : j_Mod_thing_142 rc v2 M = some o) (kr : ∀ x9 : Int32 × Mem, o = x9 → post x9.1 x9.2) : V E (0, 0) G 4 (QI E G post) M 142 [(0, .ref (G.2.2 + 162)), (2, .int v2)] [] := by
  unfold j_Mod_thing_142 at h
  refine V_aload_n (n := 0) X d_Mod_thing_142 rfl rfl rfl ?_
  refine V_dup X d_Mod_thing_143 rfl rfl ?_
  refine V_geti X fo_Mod_173 kd_162 rfl d_Mod_thing_144 rfl ?_
  refine V_iconst (v := 1) X d_Mod_thing_147 (by decide) rfl ?_
  refine V_iadd X d_Mod_thing_148 rfl ?_
  obtain ⟨M5, eM5, h⟩ := memS h
  refine V_putI X fp_Mod_173 kd_162 rfl d_Mod_thing_149 rfl ?_
  rw [← eM5]
  refine V_aload_n (n := 0) X d_Mod_thing_152 rfl rfl rfl ?_
  rcases q8 : (M5.2.2 162 24) with _ | n9
  · rw [if_pos q8] at h
    refine V_getN X fo_Mod_239 kd_162 rfl q8 d_Mod_thing_153 rfl ?_
    refine V_nonnullN X d_Mod_thing_156 rfl ?_
    refine V_iconst (v := 0) X d_Mod_thing_159 (by decide) rfl ?_
    refine V_goto (pc' := 176) X d_Mod_thing_160 (by decide) ?_
    exact V_iret X (kr ((0 : Int32), M5) (Option.some.inj h).symm) d_Mod_thing_176
  · rw [if_neg (by rw [q8]; exact nofun)] at h
    refine V_getn X fo_Mod_239 kd_162 rfl q8 d_Mod_thing_153 rfl ?_
    refine V_nonnull (pc' := 163) X d_Mod_thing_156 (by decide) ?_
    refine V_aload_n (n := 0) X d_Mod_thing_163 rfl rfl rfl ?_
    refine V_iload_n (n := 1) X d_Mod_thing_164 rfl rfl rfl ?_
    refine V_aload_n (n := 0) X d_Mod_thing_165 rfl rfl rfl ?_
    obtain ⟨a6, hqa6, h⟩ := ob_s h
    obtain ⟨hk_a6, h⟩ := ifn h
    refine V_getn X fo_Mod_239 kd_162 rfl hqa6 d_Mod_thing_166 rfl ?_
    refine V_aload_n (n := 0) X d_Mod_thing_169 rfl rfl rfl ?_
    refine V_geti X fo_Mod_242 kd_162 rfl d_Mod_thing_170 rfl ?_
    obtain ⟨x7, hx7, h⟩ := ob_s h
    refine V_ci (As := [.int v2, .ref (G.2.2 + a6), .int (M5.1 162 25)]) X (Z0 E) ml_Mod_245 yq_Mod_letter (c_Mod_letter E.2.1 G v2 a6 (M5.1 162 25) M5 x7 hx7 _ (Nat.le_refl _)) kd_162 rfl rfl (by omega) rfl (Nat.le_of_ble_eq_true rfl) d_Mod_thing_173 rfl (fun r9 M9 hq => ?_)
    rw [hq.1, hq.2]
    exact V_iret X (kr (x7, M5) (Option.some.inj h).symm) d_Mod_thing_176
def j_Mod_thing_67 (rc : Nat → Int32 → Mem → Option (Int32 × Mem)) (v2 : Int32) (M : Mem) : Option (Int32 × Mem) :=
  Option.bind (f_Mod_in v2 (48 : Int32) (57 : Int32)) fun x4 =>
  if x4 = 0 then
  if v2 = (109 : Int32) then
  j_Mod_thing_142 rc v2 M
  else
  if v2 = (105 : Int32) then
  j_Mod_thing_142 rc v2 M
  else
  if v2 = (119 : Int32) then
  j_Mod_thing_142 rc v2 M
  else
  if v2 = (120 : Int32) then
  j_Mod_thing_142 rc v2 M
  else
  if v2 = (121 : Int32) then
  j_Mod_thing_142 rc v2 M
  else
  if v2 = (110 : Int32) then
  j_Mod_thing_142 rc v2 M
  else
  if v2 = (115 : Int32) then
  j_Mod_thing_142 rc v2 M
  else
  if v2 = (107 : Int32) then
  j_Mod_thing_142 rc v2 M
  else
  Option.bind (f_Mod_fault (M.1 162 17) M) fun x9 =>
  some ((0 : Int32), x9)
  else
  Option.bind (f_Mod_number (3 : Int32) M) fun x18 =>
  some (x18.1, x18.2)
theorem j_Mod_thing_67_ok {E : Ev} {G : Gw} {d : Nat} {post : Int32 → Mem → Prop} {rc : Nat → Int32 → Mem → Option (Int32 × Mem)} {m0 : Nat} (X : Cx E G b_Mod_thing "WomenByTheRoofsModel" 4 d (some .int)) (hD : m0 + 4 ≤ d) (hrc : Rc_expr E.2.1 G m0 rc) (v2 : Int32)  (M : Mem)  (o : Int32 × Mem) (h : j_Mod_thing_67 rc v2 M = some o) (kr : ∀ x9 : Int32 × Mem, o = x9 → post x9.1 x9.2) : V E (0, 0) G 4 (QI E G post) M 67 [(0, .ref (G.2.2 + 162)), (2, .int v2)] [] := by
  unfold j_Mod_thing_67 at h
  refine V_iload_n (n := 1) X d_Mod_thing_67 rfl rfl rfl ?_
  refine V_bipush (v := 48) X d_Mod_thing_68 (by decide) rfl ?_
  refine V_bipush (v := 57) X d_Mod_thing_70 (by decide) rfl ?_
  obtain ⟨x4, hx4, h⟩ := ob_s h
  refine V_si (As := [.int v2, .int (48 : Int32), .int (57 : Int32)]) X (Z0 E) ml_Mod_119 yq_Mod_in (c_Mod_in E.2.1 G v2 (48 : Int32) (57 : Int32) M x4 hx4 _ (Nat.le_refl _)) rfl (by omega) rfl (Nat.le_of_ble_eq_true rfl) d_Mod_thing_72 rfl (fun r9 M9 hq => ?_)
  rw [hq.1, hq.2]
  refine V_if_eq (tgt := 84) X d_Mod_thing_75 (by decide) rfl (fun c19 => ?_) (fun c19 => ?_)
  · rw [if_pos c19] at h
    refine V_iload_n (n := 1) X d_Mod_thing_84 rfl rfl rfl ?_
    refine V_bipush (v := 109) X d_Mod_thing_85 (by decide) rfl ?_
    refine V_icmp_eq (tgt := 142) X d_Mod_thing_87 (by decide) rfl (fun c17 => ?_) (fun c17 => ?_)
    · rw [if_pos c17] at h
      exact j_Mod_thing_142_ok X hD hrc v2 M _ h kr
    · rw [if_neg c17] at h
      refine V_iload_n (n := 1) X d_Mod_thing_90 rfl rfl rfl ?_
      refine V_bipush (v := 105) X d_Mod_thing_91 (by decide) rfl ?_
      refine V_icmp_eq (tgt := 142) X d_Mod_thing_93 (by decide) rfl (fun c16 => ?_) (fun c16 => ?_)
      · rw [if_pos c16] at h
        exact j_Mod_thing_142_ok X hD hrc v2 M _ h kr
      · rw [if_neg c16] at h
        refine V_iload_n (n := 1) X d_Mod_thing_96 rfl rfl rfl ?_
        refine V_bipush (v := 119) X d_Mod_thing_97 (by decide) rfl ?_
        refine V_icmp_eq (tgt := 142) X d_Mod_thing_99 (by decide) rfl (fun c15 => ?_) (fun c15 => ?_)
        · rw [if_pos c15] at h
          exact j_Mod_thing_142_ok X hD hrc v2 M _ h kr
        · rw [if_neg c15] at h
          refine V_iload_n (n := 1) X d_Mod_thing_102 rfl rfl rfl ?_
          refine V_bipush (v := 120) X d_Mod_thing_103 (by decide) rfl ?_
          refine V_icmp_eq (tgt := 142) X d_Mod_thing_105 (by decide) rfl (fun c14 => ?_) (fun c14 => ?_)
          · rw [if_pos c14] at h
            exact j_Mod_thing_142_ok X hD hrc v2 M _ h kr
          · rw [if_neg c14] at h
            refine V_iload_n (n := 1) X d_Mod_thing_108 rfl rfl rfl ?_
            refine V_bipush (v := 121) X d_Mod_thing_109 (by decide) rfl ?_
            refine V_icmp_eq (tgt := 142) X d_Mod_thing_111 (by decide) rfl (fun c13 => ?_) (fun c13 => ?_)
            · rw [if_pos c13] at h
              exact j_Mod_thing_142_ok X hD hrc v2 M _ h kr
            · rw [if_neg c13] at h
              refine V_iload_n (n := 1) X d_Mod_thing_114 rfl rfl rfl ?_
              refine V_bipush (v := 110) X d_Mod_thing_115 (by decide) rfl ?_
              refine V_icmp_eq (tgt := 142) X d_Mod_thing_117 (by decide) rfl (fun c12 => ?_) (fun c12 => ?_)
              · rw [if_pos c12] at h
                exact j_Mod_thing_142_ok X hD hrc v2 M _ h kr
              · rw [if_neg c12] at h
                refine V_iload_n (n := 1) X d_Mod_thing_120 rfl rfl rfl ?_
                refine V_bipush (v := 115) X d_Mod_thing_121 (by decide) rfl ?_
                refine V_icmp_eq (tgt := 142) X d_Mod_thing_123 (by decide) rfl (fun c11 => ?_) (fun c11 => ?_)
                · rw [if_pos c11] at h
                  exact j_Mod_thing_142_ok X hD hrc v2 M _ h kr
                · rw [if_neg c11] at h
                  refine V_iload_n (n := 1) X d_Mod_thing_126 rfl rfl rfl ?_
                  refine V_bipush (v := 107) X d_Mod_thing_127 (by decide) rfl ?_
                  refine V_icmp_eq (tgt := 142) X d_Mod_thing_129 (by decide) rfl (fun c10 => ?_) (fun c10 => ?_)
                  · rw [if_pos c10] at h
                    exact j_Mod_thing_142_ok X hD hrc v2 M _ h kr
                  · rw [if_neg c10] at h
                    refine V_aload_n (n := 0) X d_Mod_thing_132 rfl rfl rfl ?_
                    refine V_aload_n (n := 0) X d_Mod_thing_133 rfl rfl rfl ?_
                    refine V_geti X fo_Mod_173 kd_162 rfl d_Mod_thing_134 rfl ?_
                    obtain ⟨x9, hx9, h⟩ := ob_s h
                    refine V_cv (As := [.int (M.1 162 17)]) X (Z0 E) ml_Mod_190 yq_Mod_fault (c_Mod_fault E.2.1 G (M.1 162 17) M x9 hx9 _ (Nat.le_refl _)) kd_162 rfl rfl (by omega) rfl (Nat.le_of_ble_eq_true rfl) d_Mod_thing_137 rfl (fun M9 hq => ?_)
                    rw [hq]
                    refine V_iconst (v := 0) X d_Mod_thing_140 (by decide) rfl ?_
                    exact V_iret X (kr ((0 : Int32), x9) (Option.some.inj h).symm) d_Mod_thing_141
  · rw [if_neg c19] at h
    refine V_aload_n (n := 0) X d_Mod_thing_78 rfl rfl rfl ?_
    refine V_iconst (v := 3) X d_Mod_thing_79 (by decide) rfl ?_
    obtain ⟨x18, hx18, h⟩ := ob_s h
    refine V_ci (As := [.int (3 : Int32)]) X (Z0 E) ml_Mod_213 yq_Mod_number (c_Mod_number E.2.1 G (3 : Int32) M x18 hx18 _ (Nat.le_refl _)) kd_162 rfl rfl (by omega) rfl (Nat.le_of_ble_eq_true rfl) d_Mod_thing_80 rfl (fun r9 M9 hq => ?_)
    rw [hq.1, hq.2]
    exact V_iret X (kr (x18.1, x18.2) (Option.some.inj h).symm) d_Mod_thing_83
def fb_Mod_thing (rc : Nat → Int32 → Mem → Option (Int32 × Mem)) (v1 : Int32) (M : Mem) : Option (Int32 × Mem) :=
  Option.bind (f_Mod_passes (45 : Int32) M) fun x1 =>
  if x1.1 = 0 then
  Option.bind (f_Mod_fine x1.2) fun x2 =>
  if x2 = 0 then
  some ((0 : Int32), x1.2)
  else
  Option.bind (f_Mod_here x1.2) fun x3 =>
  if x3 = (40 : Int32) then
  if (4 : Int32) ≤ v1 then
  j_Mod_thing_67 rc x3 x1.2
  else
  mem_ (s_i x1.2 162 17 ((x1.2.1 162 17) + (1 : Int32))) fun M20 =>
  Option.bind (rc 0 (v1 + (1 : Int32)) M20) fun x21 =>
  Option.bind (f_Mod_need (41 : Int32) x21.2) fun x22 =>
  some (x21.1, x22)
  else
  j_Mod_thing_67 rc x3 x1.2
  else
  Option.bind (rc 3 v1 x1.2) fun x26 =>
  some ((-x26.1), x26.2)
theorem cb_Mod_thing (l : Launch) (G : Gw) (rc : Nat → Int32 → Mem → Option (Int32 × Mem)) (m0 : Nat) (hrc : Rc_expr l G m0 rc) (v1 : Int32) (M : Mem) (x : Int32 × Mem) (h : fb_Mod_thing rc v1 M = some x) (d : Nat) (hD : m0 + 4 ≤ d) : Ci l G y_Mod_thing b_Mod_thing 4 (some .int) d [.ref (G.2.2 + 162), .int v1] M (fun r9 M9 => r9 = x.1 ∧ M9 = x.2) := by
  refine Ci_of (by decide) (Nat.le_of_ble_eq_true rfl) (fun E hE X => ?_)
  subst hE
  have kr : ∀ x9 : Int32 × Mem, x = x9 → (fun r9 M9 => r9 = x.1 ∧ M9 = x.2) x9.1 x9.2 := fun x9 e9 => by subst e9; exact ⟨rfl, rfl⟩
  unfold fb_Mod_thing at h
  refine V_aload_n (n := 0) X d_Mod_thing_0 rfl rfl rfl ?_
  refine V_bipush (v := 45) X d_Mod_thing_1 (by decide) rfl ?_
  obtain ⟨x1, hx1, h⟩ := ob_s h
  refine V_ci (As := [.int (45 : Int32)]) X (Z0 E) ml_Mod_186 yq_Mod_passes (c_Mod_passes E.2.1 G (45 : Int32) M x1 hx1 _ (Nat.le_refl _)) kd_162 rfl rfl (by omega) rfl (Nat.le_of_ble_eq_true rfl) d_Mod_thing_3 rfl (fun r9 M9 hq => ?_)
  rw [hq.1, hq.2]
  refine V_if_eq (tgt := 16) X d_Mod_thing_6 (by decide) rfl (fun c27 => ?_) (fun c27 => ?_)
  · rw [if_pos c27] at h
    refine V_aload_n (n := 0) X d_Mod_thing_16 rfl rfl rfl ?_
    obtain ⟨x2, hx2, h⟩ := ob_s h
    refine V_ci (As := []) X (Z0 E) ml_Mod_179 yq_Mod_fine (c_Mod_fine E.2.1 G  x1.2 x2 hx2 _ (Nat.le_refl _)) kd_162 rfl rfl (by omega) rfl (Nat.le_of_ble_eq_true rfl) d_Mod_thing_17 rfl (fun r9 M9 hq => ?_)
    rw [hq.1, hq.2]
    refine V_if_ne (tgt := 25) X d_Mod_thing_20 (by decide) rfl (fun c25 => ?_) (fun c25 => ?_)
    · rw [if_neg c25] at h
      refine V_aload_n (n := 0) X d_Mod_thing_25 rfl rfl rfl ?_
      obtain ⟨x3, hx3, h⟩ := ob_s h
      refine V_ci (As := []) X (Z0 E) ml_Mod_183 yq_Mod_here (c_Mod_here E.2.1 G  x1.2 x3 hx3 _ (Nat.le_refl _)) kd_162 rfl rfl (by omega) rfl (Nat.le_of_ble_eq_true rfl) d_Mod_thing_26 rfl (fun r9 M9 hq => ?_)
      rw [hq.1, hq.2]
      refine V_istore_n (lv' := [(2, .int x3), (0, .ref (G.2.2 + 162)), (1, .int v1)]) X d_Mod_thing_29 rfl (by decide) rfl rfl ?_
      refine V_iload_n (n := 0) X d_Mod_thing_30 rfl rfl rfl ?_
      refine V_bipush (v := 40) X d_Mod_thing_31 (by decide) rfl ?_
      refine V_icmp_ne (tgt := 67) X d_Mod_thing_33 (by decide) rfl (fun c24 => ?_) (fun c24 => ?_)
      · rw [if_neg c24] at h
        refine V_sub (lv' := [(0, .ref (G.2.2 + 162)), (2, .int x3)]) [1, 0] rfl ?_
        exact j_Mod_thing_67_ok X hD hrc x3 x1.2 _ h kr
      · rw [if_pos c24] at h
        refine V_iload_n (n := 2) X d_Mod_thing_36 rfl rfl rfl ?_
        refine V_iconst (v := 4) X d_Mod_thing_37 (by decide) rfl ?_
        refine V_icmp_ge (tgt := 67) X d_Mod_thing_38 (by decide) rfl (fun c23 => ?_) (fun c23 => ?_)
        · rw [if_pos c23] at h
          refine V_sub (lv' := [(0, .ref (G.2.2 + 162)), (2, .int x3)]) [1, 0] rfl ?_
          exact j_Mod_thing_67_ok X hD hrc x3 x1.2 _ h kr
        · rw [if_neg c23] at h
          refine V_aload_n (n := 1) X d_Mod_thing_41 rfl rfl rfl ?_
          refine V_dup X d_Mod_thing_42 rfl rfl ?_
          refine V_geti X fo_Mod_173 kd_162 rfl d_Mod_thing_43 rfl ?_
          refine V_iconst (v := 1) X d_Mod_thing_46 (by decide) rfl ?_
          refine V_iadd X d_Mod_thing_47 rfl ?_
          obtain ⟨M20, eM20, h⟩ := memS h
          refine V_putI X fp_Mod_173 kd_162 rfl d_Mod_thing_48 rfl ?_
          rw [← eM20]
          refine V_aload_n (n := 1) X d_Mod_thing_51 rfl rfl rfl ?_
          refine V_iload_n (n := 2) X d_Mod_thing_52 rfl rfl rfl ?_
          refine V_iconst (v := 1) X d_Mod_thing_53 (by decide) rfl ?_
          refine V_iadd X d_Mod_thing_54 rfl ?_
          obtain ⟨x21, hx21, h⟩ := ob_s h
          refine V_ci (As := [.int (v1 + (1 : Int32))]) X (Z0 E) ml_Mod_236 yq_Mod_held ((And.left hrc) (v1 + (1 : Int32)) M20 x21 hx21 _ (Nat.le_refl _)) kd_162 rfl rfl (by omega) rfl (Nat.le_of_ble_eq_true rfl) d_Mod_thing_55 rfl (fun r9 M9 hq => ?_)
          rw [hq.1, hq.2]
          refine V_istore_n (lv' := [(3, .int x21.1), (2, .int x3), (0, .ref (G.2.2 + 162)), (1, .int v1)]) X d_Mod_thing_58 rfl (by decide) rfl rfl ?_
          refine V_aload_n (n := 2) X d_Mod_thing_59 rfl rfl rfl ?_
          refine V_bipush (v := 41) X d_Mod_thing_60 (by decide) rfl ?_
          obtain ⟨x22, hx22, h⟩ := ob_s h
          refine V_cv (As := [.int (41 : Int32)]) X (Z0 E) ml_Mod_216 yq_Mod_need (c_Mod_need E.2.1 G (41 : Int32) x21.2 x22 hx22 _ (Nat.le_refl _)) kd_162 rfl rfl (by omega) rfl (Nat.le_of_ble_eq_true rfl) d_Mod_thing_62 rfl (fun M9 hq => ?_)
          rw [hq]
          refine V_iload_n (n := 0) X d_Mod_thing_65 rfl rfl rfl ?_
          exact V_iret X (kr (x21.1, x22) (Option.some.inj h).symm) d_Mod_thing_66
    · rw [if_pos c25] at h
      refine V_iconst (v := 0) X d_Mod_thing_23 (by decide) rfl ?_
      exact V_iret X (kr ((0 : Int32), x1.2) (Option.some.inj h).symm) d_Mod_thing_24
  · rw [if_neg c27] at h
    refine V_aload_n (n := 0) X d_Mod_thing_9 rfl rfl rfl ?_
    refine V_iload_n (n := 1) X d_Mod_thing_10 rfl rfl rfl ?_
    obtain ⟨x26, hx26, h⟩ := ob_s h
    refine V_ci (As := [.int v1]) X (Z0 E) ml_Mod_233 yq_Mod_thing ((And.right (And.right (And.right hrc))) v1 x1.2 x26 hx26 _ (Nat.le_refl _)) kd_162 rfl rfl (by omega) rfl (Nat.le_of_ble_eq_true rfl) d_Mod_thing_11 rfl (fun r9 M9 hq => ?_)
    rw [hq.1, hq.2]
    refine V_ineg X d_Mod_thing_14 rfl ?_
    exact V_iret X (kr ((-x26.1), x26.2) (Option.some.inj h).symm) d_Mod_thing_15
def fr_expr : Nat → Nat → Int32 → Mem → Option (Int32 × Mem)
  | 0, _, _, _ => none
  | n + 1, w, a0, M => if w = 0 then fb_Mod_held (fr_expr n) a0 M else if w = 1 then fb_Mod_sum (fr_expr n) a0 M else if w = 2 then fb_Mod_product (fr_expr n) a0 M else fb_Mod_thing (fr_expr n) a0 M
theorem rc_expr (l : Launch) (G : Gw) : ∀ n, Rc_expr l G (n * 4) (fr_expr n) := by
  intro n
  induction n with
  | zero => exact ⟨fun a0 M x h => by simp [fr_expr] at h, fun a0 M x h => by simp [fr_expr] at h, fun a0 M x h => by simp [fr_expr] at h, fun a0 M x h => by simp [fr_expr] at h⟩
  | succ n ih =>
    exact ⟨fun a0 M x h d hd => by
        simp only [fr_expr] at h
        exact cb_Mod_held l G (fr_expr n) (n * 4) ih a0 M x h d (by omega),
      fun a0 M x h d hd => by
        simp only [fr_expr] at h
        exact cb_Mod_sum l G (fr_expr n) (n * 4) ih a0 M x h d (by omega),
      fun a0 M x h d hd => by
        simp only [fr_expr] at h
        exact cb_Mod_product l G (fr_expr n) (n * 4) ih a0 M x h d (by omega),
      fun a0 M x h d hd => by
        simp only [fr_expr] at h
        exact cb_Mod_thing l G (fr_expr n) (n * 4) ih a0 M x h d (by omega)⟩
def f_Mod_held (a0 : Int32) (M : Mem) : Option (Int32 × Mem) := fr_expr 100 0 a0 M
theorem c_Mod_held (l : Launch) (G : Gw) (a0 : Int32) (M : Mem) (x : Int32 × Mem) (h : f_Mod_held a0 M = some x) (d : Nat) (hD : 400 ≤ d) : Ci l G y_Mod_held b_Mod_held 3 (some .int) d [.ref (G.2.2 + 162), .int a0] M (fun r9 M9 => r9 = x.1 ∧ M9 = x.2) := (rc_expr l G 100).1 a0 M x h d hD
def f_Mod_sum (a0 : Int32) (M : Mem) : Option (Int32 × Mem) := fr_expr 100 1 a0 M
theorem c_Mod_sum (l : Launch) (G : Gw) (a0 : Int32) (M : Mem) (x : Int32 × Mem) (h : f_Mod_sum a0 M = some x) (d : Nat) (hD : 400 ≤ d) : Ci l G y_Mod_sum b_Mod_sum 5 (some .int) d [.ref (G.2.2 + 162), .int a0] M (fun r9 M9 => r9 = x.1 ∧ M9 = x.2) := (rc_expr l G 100).2.1 a0 M x h d hD
def f_Mod_product (a0 : Int32) (M : Mem) : Option (Int32 × Mem) := fr_expr 100 2 a0 M
theorem c_Mod_product (l : Launch) (G : Gw) (a0 : Int32) (M : Mem) (x : Int32 × Mem) (h : f_Mod_product a0 M = some x) (d : Nat) (hD : 400 ≤ d) : Ci l G y_Mod_product b_Mod_product 5 (some .int) d [.ref (G.2.2 + 162), .int a0] M (fun r9 M9 => r9 = x.1 ∧ M9 = x.2) := (rc_expr l G 100).2.2.1 a0 M x h d hD
def f_Mod_thing (a0 : Int32) (M : Mem) : Option (Int32 × Mem) := fr_expr 100 3 a0 M
theorem c_Mod_thing (l : Launch) (G : Gw) (a0 : Int32) (M : Mem) (x : Int32 × Mem) (h : f_Mod_thing a0 M = some x) (d : Nat) (hD : 400 ≤ d) : Ci l G y_Mod_thing b_Mod_thing 4 (some .int) d [.ref (G.2.2 + 162), .int a0] M (fun r9 M9 => r9 = x.1 ∧ M9 = x.2) := (rc_expr l G 100).2.2.2 a0 M x h d hD
