theorem d_Mod_known_0 : decode b_Mod_known 0 = .ok (.aload_n 0, 1) := kq_42 byq_r (by decide +kernel)
theorem d_Mod_known_1 : decode b_Mod_known 1 = .ok (.iconst 0, 1) := kq_3 byq_r (by decide +kernel)
theorem d_Mod_known_2 : decode b_Mod_known 2 = .ok (.putfield 109, 3) := kq_181 byq_r (a := 0) (b := 109) (by decide +kernel)
theorem d_Mod_known_5 : decode b_Mod_known 5 = .ok (.aload_n 0, 1) := kq_42 byq_r (by decide +kernel)
theorem d_Mod_known_6 : decode b_Mod_known 6 = .ok (.getfield 9, 3) := kq_180 byq_r (a := 0) (b := 9) (by decide +kernel)
theorem d_Mod_known_9 : decode b_Mod_known 9 = .ok (.aload_n 0, 1) := kq_42 byq_r (by decide +kernel)
theorem d_Mod_known_10 : decode b_Mod_known 10 = .ok (.getfield 60, 3) := kq_180 byq_r (a := 0) (b := 60) (by decide +kernel)
theorem d_Mod_known_13 : decode b_Mod_known 13 = .ok (.iconst 0, 1) := kq_3 byq_r (by decide +kernel)
theorem d_Mod_known_14 : decode b_Mod_known 14 = .ok (.invokestatic 286, 3) := kq_184 byq_r (a := 1) (b := 30) (by decide +kernel)
theorem d_Mod_known_17 : decode b_Mod_known 17 = .ok (.bipush (-2), 2) := kq_16 byq_r (b := 254) (by decide +kernel)
theorem d_Mod_known_19 : decode b_Mod_known 19 = .ok (.istore_n 1, 1) := kq_60 byq_r (by decide +kernel)
theorem d_Mod_known_20 : decode b_Mod_known 20 = .ok (.iconst 0, 1) := kq_3 byq_r (by decide +kernel)
theorem d_Mod_known_21 : decode b_Mod_known 21 = .ok (.istore_n 2, 1) := kq_61 byq_r (by decide +kernel)
theorem d_Mod_known_22 : decode b_Mod_known 22 = .ok (.iload_n 2, 1) := kq_28 byq_r (by decide +kernel)
theorem d_Mod_known_23 : decode b_Mod_known 23 = .ok (.bipush 60, 2) := kq_16 byq_r (b := 60) (by decide +kernel)
theorem d_Mod_known_25 : decode b_Mod_known 25 = .ok (.if_icmp .gt 45, 3) := kq_163 byq_r (a := 0) (b := 45) (by decide +kernel)
theorem d_Mod_known_28 : decode b_Mod_known 28 = .ok (.iload_n 1, 1) := kq_27 byq_r (by decide +kernel)
theorem d_Mod_known_29 : decode b_Mod_known 29 = .ok (.ifCond .ge 41, 3) := kq_156 byq_r (a := 0) (b := 41) (by decide +kernel)
theorem d_Mod_known_32 : decode b_Mod_known 32 = .ok (.iload_n 2, 1) := kq_28 byq_r (by decide +kernel)
theorem d_Mod_known_33 : decode b_Mod_known 33 = .ok (.ifCond .le 11, 3) := kq_158 byq_r (a := 0) (b := 11) (by decide +kernel)
theorem d_Mod_known_36 : decode b_Mod_known 36 = .ok (.aload_n 0, 1) := kq_42 byq_r (by decide +kernel)
theorem d_Mod_known_37 : decode b_Mod_known 37 = .ok (.aload_n 0, 1) := kq_42 byq_r (by decide +kernel)
theorem d_Mod_known_38 : decode b_Mod_known 38 = .ok (.getfield 60, 3) := kq_180 byq_r (a := 0) (b := 60) (by decide +kernel)
theorem d_Mod_known_41 : decode b_Mod_known 41 = .ok (.invokevirtual 339, 3) := kq_182 byq_r (a := 1) (b := 83) (by decide +kernel)
theorem d_Mod_known_44 : decode b_Mod_known 44 = .ok (.aload_n 0, 1) := kq_42 byq_r (by decide +kernel)
theorem d_Mod_known_45 : decode b_Mod_known 45 = .ok (.getfield 60, 3) := kq_180 byq_r (a := 0) (b := 60) (by decide +kernel)
theorem d_Mod_known_48 : decode b_Mod_known 48 = .ok (.bipush 93, 2) := kq_16 byq_r (b := 93) (by decide +kernel)
theorem d_Mod_known_50 : decode b_Mod_known 50 = .ok (.iaload, 1) := kq_46 byq_r (by decide +kernel)
theorem d_Mod_known_51 : decode b_Mod_known 51 = .ok (.iconst 1, 1) := kq_4 byq_r (by decide +kernel)
theorem d_Mod_known_52 : decode b_Mod_known 52 = .ok (.aload_n 0, 1) := kq_42 byq_r (by decide +kernel)
theorem d_Mod_known_53 : decode b_Mod_known 53 = .ok (.getfield 123, 3) := kq_180 byq_r (a := 0) (b := 123) (by decide +kernel)
theorem d_Mod_known_56 : decode b_Mod_known 56 = .ok (.ishl, 1) := kq_120 byq_r (by decide +kernel)
theorem d_Mod_known_57 : decode b_Mod_known 57 = .ok (.iconst 1, 1) := kq_4 byq_r (by decide +kernel)
theorem d_Mod_known_58 : decode b_Mod_known 58 = .ok (.isub, 1) := kq_100 byq_r (by decide +kernel)
theorem d_Mod_known_59 : decode b_Mod_known 59 = .ok (.if_icmp .ne 5, 3) := kq_160 byq_r (a := 0) (b := 5) (by decide +kernel)
theorem d_Mod_known_62 : decode b_Mod_known 62 = .ok (.iload_n 2, 1) := kq_28 byq_r (by decide +kernel)
theorem d_Mod_known_63 : decode b_Mod_known 63 = .ok (.istore_n 1, 1) := kq_60 byq_r (by decide +kernel)
theorem d_Mod_known_64 : decode b_Mod_known 64 = .ok (.iinc 2 1, 3) := kq_132 byq_r (b := 1) (by decide +kernel)
theorem d_Mod_known_67 : decode b_Mod_known 67 = .ok (.goto (-45), 3) := kq_167 byq_r (a := 255) (b := 211) (by decide +kernel)
theorem d_Mod_known_70 : decode b_Mod_known 70 = .ok (.aload_n 0, 1) := kq_42 byq_r (by decide +kernel)
theorem d_Mod_known_71 : decode b_Mod_known 71 = .ok (.iconst 0, 1) := kq_3 byq_r (by decide +kernel)
theorem d_Mod_known_72 : decode b_Mod_known 72 = .ok (.putfield 112, 3) := kq_181 byq_r (a := 0) (b := 112) (by decide +kernel)
theorem d_Mod_known_75 : decode b_Mod_known 75 = .ok (.aload_n 0, 1) := kq_42 byq_r (by decide +kernel)
theorem d_Mod_known_76 : decode b_Mod_known 76 = .ok (.aload_n 0, 1) := kq_42 byq_r (by decide +kernel)
theorem d_Mod_known_77 : decode b_Mod_known 77 = .ok (.getfield 60, 3) := kq_180 byq_r (a := 0) (b := 60) (by decide +kernel)
theorem d_Mod_known_80 : decode b_Mod_known 80 = .ok (.bipush 93, 2) := kq_16 byq_r (b := 93) (by decide +kernel)
theorem d_Mod_known_82 : decode b_Mod_known 82 = .ok (.iaload, 1) := kq_46 byq_r (by decide +kernel)
theorem d_Mod_known_83 : decode b_Mod_known 83 = .ok (.invokevirtual 342, 3) := kq_182 byq_r (a := 1) (b := 86) (by decide +kernel)
theorem d_Mod_known_86 : decode b_Mod_known 86 = .ok (.iload_n 1, 1) := kq_27 byq_r (by decide +kernel)
theorem d_Mod_known_87 : decode b_Mod_known 87 = .ok (.ireturn, 1) := kq_172 byq_r (by decide +kernel)
theorem d_Mod_gossip_0 : decode b_Mod_gossip 0 = .ok (.aload_n 0, 1) := kq_42 byq_r (by decide +kernel)
theorem d_Mod_gossip_1 : decode b_Mod_gossip 1 = .ok (.iconst 0, 1) := kq_3 byq_r (by decide +kernel)
theorem d_Mod_gossip_2 : decode b_Mod_gossip 2 = .ok (.putfield 109, 3) := kq_181 byq_r (a := 0) (b := 109) (by decide +kernel)
theorem d_Mod_gossip_5 : decode b_Mod_gossip 5 = .ok (.iload_n 1, 1) := kq_27 byq_r (by decide +kernel)
theorem d_Mod_gossip_6 : decode b_Mod_gossip 6 = .ok (.iconst 0, 1) := kq_3 byq_r (by decide +kernel)
theorem d_Mod_gossip_7 : decode b_Mod_gossip 7 = .ok (.bipush 60, 2) := kq_16 byq_r (b := 60) (by decide +kernel)
theorem d_Mod_gossip_9 : decode b_Mod_gossip 9 = .ok (.invokestatic 119, 3) := kq_184 byq_r (a := 0) (b := 119) (by decide +kernel)
theorem d_Mod_gossip_12 : decode b_Mod_gossip 12 = .ok (.ifCond .ne 6, 3) := kq_154 byq_r (a := 0) (b := 6) (by decide +kernel)
theorem d_Mod_gossip_15 : decode b_Mod_gossip 15 = .ok (.bipush (-2), 2) := kq_16 byq_r (b := 254) (by decide +kernel)
theorem d_Mod_gossip_17 : decode b_Mod_gossip 17 = .ok (.ireturn, 1) := kq_172 byq_r (by decide +kernel)
theorem d_Mod_gossip_18 : decode b_Mod_gossip 18 = .ok (.iconst (-1), 1) := kq_2 byq_r (by decide +kernel)
theorem d_Mod_gossip_19 : decode b_Mod_gossip 19 = .ok (.istore_n 2, 1) := kq_61 byq_r (by decide +kernel)
theorem d_Mod_gossip_20 : decode b_Mod_gossip 20 = .ok (.iconst (-1), 1) := kq_2 byq_r (by decide +kernel)
theorem d_Mod_gossip_21 : decode b_Mod_gossip 21 = .ok (.istore_n 3, 1) := kq_62 byq_r (by decide +kernel)
theorem d_Mod_gossip_22 : decode b_Mod_gossip 22 = .ok (.iconst (-1), 1) := kq_2 byq_r (by decide +kernel)
theorem d_Mod_gossip_23 : decode b_Mod_gossip 23 = .ok (.istore 4, 2) := kq_54 byq_r (by decide +kernel)
theorem d_Mod_gossip_25 : decode b_Mod_gossip 25 = .ok (.iload 4, 2) := kq_21 byq_r (by decide +kernel)
theorem d_Mod_gossip_27 : decode b_Mod_gossip 27 = .ok (.aload_n 0, 1) := kq_42 byq_r (by decide +kernel)
theorem d_Mod_gossip_28 : decode b_Mod_gossip 28 = .ok (.getfield 123, 3) := kq_180 byq_r (a := 0) (b := 123) (by decide +kernel)
theorem d_Mod_gossip_31 : decode b_Mod_gossip 31 = .ok (.if_icmp .ge 115, 3) := kq_162 byq_r (a := 0) (b := 115) (by decide +kernel)
theorem d_Mod_gossip_34 : decode b_Mod_gossip 34 = .ok (.iload 4, 2) := kq_21 byq_r (by decide +kernel)
theorem d_Mod_gossip_36 : decode b_Mod_gossip 36 = .ok (.iconst (-1), 1) := kq_2 byq_r (by decide +kernel)
theorem d_Mod_gossip_37 : decode b_Mod_gossip 37 = .ok (.if_icmp .eq 21, 3) := kq_159 byq_r (a := 0) (b := 21) (by decide +kernel)
theorem d_Mod_gossip_40 : decode b_Mod_gossip 40 = .ok (.aload_n 0, 1) := kq_42 byq_r (by decide +kernel)
theorem d_Mod_gossip_41 : decode b_Mod_gossip 41 = .ok (.getfield 9, 3) := kq_180 byq_r (a := 0) (b := 9) (by decide +kernel)
theorem d_Mod_gossip_44 : decode b_Mod_gossip 44 = .ok (.bipush 93, 2) := kq_16 byq_r (b := 93) (by decide +kernel)
theorem d_Mod_gossip_46 : decode b_Mod_gossip 46 = .ok (.iaload, 1) := kq_46 byq_r (by decide +kernel)
theorem d_Mod_gossip_47 : decode b_Mod_gossip 47 = .ok (.iload 4, 2) := kq_21 byq_r (by decide +kernel)
theorem d_Mod_gossip_49 : decode b_Mod_gossip 49 = .ok (.invokestatic 133, 3) := kq_184 byq_r (a := 0) (b := 133) (by decide +kernel)
theorem d_Mod_gossip_52 : decode b_Mod_gossip 52 = .ok (.ifCond .eq 6, 3) := kq_153 byq_r (a := 0) (b := 6) (by decide +kernel)
theorem d_Mod_gossip_55 : decode b_Mod_gossip 55 = .ok (.goto 85, 3) := kq_167 byq_r (a := 0) (b := 85) (by decide +kernel)
theorem d_Mod_gossip_58 : decode b_Mod_gossip 58 = .ok (.aload_n 0, 1) := kq_42 byq_r (by decide +kernel)
theorem d_Mod_gossip_59 : decode b_Mod_gossip 59 = .ok (.getfield 9, 3) := kq_180 byq_r (a := 0) (b := 9) (by decide +kernel)
theorem d_Mod_gossip_62 : decode b_Mod_gossip 62 = .ok (.aload_n 0, 1) := kq_42 byq_r (by decide +kernel)
theorem d_Mod_gossip_63 : decode b_Mod_gossip 63 = .ok (.getfield 60, 3) := kq_180 byq_r (a := 0) (b := 60) (by decide +kernel)
theorem d_Mod_gossip_66 : decode b_Mod_gossip 66 = .ok (.iconst 0, 1) := kq_3 byq_r (by decide +kernel)
theorem d_Mod_gossip_67 : decode b_Mod_gossip 67 = .ok (.invokestatic 286, 3) := kq_184 byq_r (a := 1) (b := 30) (by decide +kernel)
theorem d_Mod_gossip_70 : decode b_Mod_gossip 70 = .ok (.iload 4, 2) := kq_21 byq_r (by decide +kernel)
theorem d_Mod_gossip_72 : decode b_Mod_gossip 72 = .ok (.iconst (-1), 1) := kq_2 byq_r (by decide +kernel)
theorem d_Mod_gossip_73 : decode b_Mod_gossip 73 = .ok (.if_icmp .eq 17, 3) := kq_159 byq_r (a := 0) (b := 17) (by decide +kernel)
theorem d_Mod_gossip_76 : decode b_Mod_gossip 76 = .ok (.aload_n 0, 1) := kq_42 byq_r (by decide +kernel)
theorem d_Mod_gossip_77 : decode b_Mod_gossip 77 = .ok (.getfield 60, 3) := kq_180 byq_r (a := 0) (b := 60) (by decide +kernel)
theorem d_Mod_gossip_80 : decode b_Mod_gossip 80 = .ok (.bipush 93, 2) := kq_16 byq_r (b := 93) (by decide +kernel)
theorem d_Mod_gossip_82 : decode b_Mod_gossip 82 = .ok (.dup2, 1) := kq_92 byq_r (by decide +kernel)
theorem d_Mod_gossip_83 : decode b_Mod_gossip 83 = .ok (.iaload, 1) := kq_46 byq_r (by decide +kernel)
theorem d_Mod_gossip_84 : decode b_Mod_gossip 84 = .ok (.iconst 1, 1) := kq_4 byq_r (by decide +kernel)
theorem d_Mod_gossip_85 : decode b_Mod_gossip 85 = .ok (.iload 4, 2) := kq_21 byq_r (by decide +kernel)
theorem d_Mod_gossip_87 : decode b_Mod_gossip 87 = .ok (.ishl, 1) := kq_120 byq_r (by decide +kernel)
theorem d_Mod_gossip_88 : decode b_Mod_gossip 88 = .ok (.ior, 1) := kq_128 byq_r (by decide +kernel)
theorem d_Mod_gossip_89 : decode b_Mod_gossip 89 = .ok (.iastore, 1) := kq_79 byq_r (by decide +kernel)
theorem d_Mod_gossip_90 : decode b_Mod_gossip 90 = .ok (.iconst 0, 1) := kq_3 byq_r (by decide +kernel)
theorem d_Mod_gossip_91 : decode b_Mod_gossip 91 = .ok (.istore 5, 2) := kq_54 byq_r (by decide +kernel)
theorem d_Mod_gossip_93 : decode b_Mod_gossip 93 = .ok (.iload 5, 2) := kq_21 byq_r (by decide +kernel)
theorem d_Mod_gossip_95 : decode b_Mod_gossip 95 = .ok (.iload_n 1, 1) := kq_27 byq_r (by decide +kernel)
theorem d_Mod_gossip_96 : decode b_Mod_gossip 96 = .ok (.if_icmp .ge 17, 3) := kq_162 byq_r (a := 0) (b := 17) (by decide +kernel)
theorem d_Mod_gossip_99 : decode b_Mod_gossip 99 = .ok (.aload_n 0, 1) := kq_42 byq_r (by decide +kernel)
theorem d_Mod_gossip_100 : decode b_Mod_gossip 100 = .ok (.aload_n 0, 1) := kq_42 byq_r (by decide +kernel)
theorem d_Mod_gossip_101 : decode b_Mod_gossip 101 = .ok (.getfield 60, 3) := kq_180 byq_r (a := 0) (b := 60) (by decide +kernel)
theorem d_Mod_gossip_104 : decode b_Mod_gossip 104 = .ok (.invokevirtual 339, 3) := kq_182 byq_r (a := 1) (b := 83) (by decide +kernel)
theorem d_Mod_gossip_107 : decode b_Mod_gossip 107 = .ok (.iinc 5 1, 3) := kq_132 byq_r (b := 1) (by decide +kernel)
theorem d_Mod_gossip_110 : decode b_Mod_gossip 110 = .ok (.goto (-17), 3) := kq_167 byq_r (a := 255) (b := 239) (by decide +kernel)
theorem d_Mod_gossip_113 : decode b_Mod_gossip 113 = .ok (.aload_n 0, 1) := kq_42 byq_r (by decide +kernel)
theorem d_Mod_gossip_114 : decode b_Mod_gossip 114 = .ok (.getfield 60, 3) := kq_180 byq_r (a := 0) (b := 60) (by decide +kernel)
theorem d_Mod_gossip_117 : decode b_Mod_gossip 117 = .ok (.bipush 93, 2) := kq_16 byq_r (b := 93) (by decide +kernel)
theorem d_Mod_gossip_119 : decode b_Mod_gossip 119 = .ok (.iaload, 1) := kq_46 byq_r (by decide +kernel)
theorem d_Mod_gossip_120 : decode b_Mod_gossip 120 = .ok (.invokestatic 310, 3) := kq_184 byq_r (a := 1) (b := 54) (by decide +kernel)
theorem d_Mod_gossip_123 : decode b_Mod_gossip 123 = .ok (.istore 5, 2) := kq_54 byq_r (by decide +kernel)
theorem d_Mod_gossip_125 : decode b_Mod_gossip 125 = .ok (.iload 5, 2) := kq_21 byq_r (by decide +kernel)
theorem d_Mod_gossip_127 : decode b_Mod_gossip 127 = .ok (.iload_n 3, 1) := kq_29 byq_r (by decide +kernel)
theorem d_Mod_gossip_128 : decode b_Mod_gossip 128 = .ok (.if_icmp .gt 6, 3) := kq_163 byq_r (a := 0) (b := 6) (by decide +kernel)
theorem d_Mod_gossip_131 : decode b_Mod_gossip 131 = .ok (.goto 9, 3) := kq_167 byq_r (a := 0) (b := 9) (by decide +kernel)
theorem d_Mod_gossip_134 : decode b_Mod_gossip 134 = .ok (.iload 4, 2) := kq_21 byq_r (by decide +kernel)
theorem d_Mod_gossip_136 : decode b_Mod_gossip 136 = .ok (.istore_n 2, 1) := kq_61 byq_r (by decide +kernel)
theorem d_Mod_gossip_137 : decode b_Mod_gossip 137 = .ok (.iload 5, 2) := kq_21 byq_r (by decide +kernel)
theorem d_Mod_gossip_139 : decode b_Mod_gossip 139 = .ok (.istore_n 3, 1) := kq_62 byq_r (by decide +kernel)
theorem d_Mod_gossip_140 : decode b_Mod_gossip 140 = .ok (.iinc 4 1, 3) := kq_132 byq_r (b := 1) (by decide +kernel)
theorem d_Mod_gossip_143 : decode b_Mod_gossip 143 = .ok (.goto (-118), 3) := kq_167 byq_r (a := 255) (b := 138) (by decide +kernel)
theorem d_Mod_gossip_146 : decode b_Mod_gossip 146 = .ok (.aload_n 0, 1) := kq_42 byq_r (by decide +kernel)
theorem d_Mod_gossip_147 : decode b_Mod_gossip 147 = .ok (.iconst 0, 1) := kq_3 byq_r (by decide +kernel)
theorem d_Mod_gossip_148 : decode b_Mod_gossip 148 = .ok (.putfield 112, 3) := kq_181 byq_r (a := 0) (b := 112) (by decide +kernel)
theorem d_Mod_gossip_151 : decode b_Mod_gossip 151 = .ok (.aload_n 0, 1) := kq_42 byq_r (by decide +kernel)
theorem d_Mod_gossip_152 : decode b_Mod_gossip 152 = .ok (.iload_n 3, 1) := kq_29 byq_r (by decide +kernel)
theorem d_Mod_gossip_153 : decode b_Mod_gossip 153 = .ok (.invokevirtual 342, 3) := kq_182 byq_r (a := 1) (b := 86) (by decide +kernel)
theorem d_Mod_gossip_156 : decode b_Mod_gossip 156 = .ok (.iload_n 2, 1) := kq_28 byq_r (by decide +kernel)
theorem d_Mod_gossip_157 : decode b_Mod_gossip 157 = .ok (.ireturn, 1) := kq_172 byq_r (by decide +kernel)
theorem d_Mod_lower_0 : decode b_Mod_lower 0 = .ok (.iload_n 1, 1) := kq_27 byq_r (by decide +kernel)
theorem d_Mod_lower_1 : decode b_Mod_lower 1 = .ok (.iconst (-1), 1) := kq_2 byq_r (by decide +kernel)
theorem d_Mod_lower_2 : decode b_Mod_lower 2 = .ok (.if_icmp .eq 13, 3) := kq_159 byq_r (a := 0) (b := 13) (by decide +kernel)
theorem d_Mod_lower_5 : decode b_Mod_lower 5 = .ok (.aload_n 0, 1) := kq_42 byq_r (by decide +kernel)
theorem d_Mod_lower_6 : decode b_Mod_lower 6 = .ok (.getfield 63, 3) := kq_180 byq_r (a := 0) (b := 63) (by decide +kernel)
theorem d_Mod_lower_9 : decode b_Mod_lower 9 = .ok (.iload_n 1, 1) := kq_27 byq_r (by decide +kernel)
theorem d_Mod_lower_10 : decode b_Mod_lower 10 = .ok (.iaload, 1) := kq_46 byq_r (by decide +kernel)
theorem d_Mod_lower_11 : decode b_Mod_lower 11 = .ok (.iload_n 2, 1) := kq_28 byq_r (by decide +kernel)
theorem d_Mod_lower_12 : decode b_Mod_lower 12 = .ok (.if_icmp .gt 5, 3) := kq_163 byq_r (a := 0) (b := 5) (by decide +kernel)
theorem d_Mod_lower_15 : decode b_Mod_lower 15 = .ok (.iconst 0, 1) := kq_3 byq_r (by decide +kernel)
theorem d_Mod_lower_16 : decode b_Mod_lower 16 = .ok (.ireturn, 1) := kq_172 byq_r (by decide +kernel)
theorem d_Mod_lower_17 : decode b_Mod_lower 17 = .ok (.aload_n 0, 1) := kq_42 byq_r (by decide +kernel)
theorem d_Mod_lower_18 : decode b_Mod_lower 18 = .ok (.getfield 63, 3) := kq_180 byq_r (a := 0) (b := 63) (by decide +kernel)
theorem d_Mod_lower_21 : decode b_Mod_lower 21 = .ok (.iload_n 1, 1) := kq_27 byq_r (by decide +kernel)
theorem d_Mod_lower_22 : decode b_Mod_lower 22 = .ok (.iload_n 2, 1) := kq_28 byq_r (by decide +kernel)
theorem d_Mod_lower_23 : decode b_Mod_lower 23 = .ok (.iastore, 1) := kq_79 byq_r (by decide +kernel)
theorem d_Mod_lower_24 : decode b_Mod_lower 24 = .ok (.iconst 1, 1) := kq_4 byq_r (by decide +kernel)
theorem d_Mod_lower_25 : decode b_Mod_lower 25 = .ok (.ireturn, 1) := kq_172 byq_r (by decide +kernel)
theorem d_Mod_spread_0 : decode b_Mod_spread 0 = .ok (.iconst 1, 1) := kq_4 byq_r (by decide +kernel)
theorem d_Mod_spread_1 : decode b_Mod_spread 1 = .ok (.istore_n 2, 1) := kq_61 byq_r (by decide +kernel)
theorem d_Mod_spread_2 : decode b_Mod_spread 2 = .ok (.iload_n 2, 1) := kq_28 byq_r (by decide +kernel)
theorem d_Mod_spread_3 : decode b_Mod_spread 3 = .ok (.ifCond .eq 121, 3) := kq_153 byq_r (a := 0) (b := 121) (by decide +kernel)
theorem d_Mod_spread_6 : decode b_Mod_spread 6 = .ok (.iconst 0, 1) := kq_3 byq_r (by decide +kernel)
theorem d_Mod_spread_7 : decode b_Mod_spread 7 = .ok (.istore_n 2, 1) := kq_61 byq_r (by decide +kernel)
theorem d_Mod_spread_8 : decode b_Mod_spread 8 = .ok (.iconst 0, 1) := kq_3 byq_r (by decide +kernel)
theorem d_Mod_spread_9 : decode b_Mod_spread 9 = .ok (.istore_n 3, 1) := kq_62 byq_r (by decide +kernel)
theorem d_Mod_spread_10 : decode b_Mod_spread 10 = .ok (.iload_n 3, 1) := kq_29 byq_r (by decide +kernel)
theorem d_Mod_spread_11 : decode b_Mod_spread 11 = .ok (.bipush 72, 2) := kq_16 byq_r (b := 72) (by decide +kernel)
theorem d_Mod_spread_13 : decode b_Mod_spread 13 = .ok (.if_icmp .ge 108, 3) := kq_162 byq_r (a := 0) (b := 108) (by decide +kernel)
theorem d_Mod_spread_16 : decode b_Mod_spread 16 = .ok (.aload_n 0, 1) := kq_42 byq_r (by decide +kernel)
theorem d_Mod_spread_17 : decode b_Mod_spread 17 = .ok (.getfield 63, 3) := kq_180 byq_r (a := 0) (b := 63) (by decide +kernel)
theorem d_Mod_spread_20 : decode b_Mod_spread 20 = .ok (.iload_n 3, 1) := kq_29 byq_r (by decide +kernel)
theorem d_Mod_spread_21 : decode b_Mod_spread 21 = .ok (.iaload, 1) := kq_46 byq_r (by decide +kernel)
theorem d_Mod_spread_22 : decode b_Mod_spread 22 = .ok (.ldc_w 357, 3) := kq_19 byq_r (a := 1) (b := 101) (by decide +kernel)
theorem d_Mod_spread_25 : decode b_Mod_spread 25 = .ok (.if_icmp .lt 6, 3) := kq_161 byq_r (a := 0) (b := 6) (by decide +kernel)
theorem d_Mod_spread_28 : decode b_Mod_spread 28 = .ok (.goto 87, 3) := kq_167 byq_r (a := 0) (b := 87) (by decide +kernel)
theorem d_Mod_spread_31 : decode b_Mod_spread 31 = .ok (.iconst 0, 1) := kq_3 byq_r (by decide +kernel)
theorem d_Mod_spread_32 : decode b_Mod_spread 32 = .ok (.istore 4, 2) := kq_54 byq_r (by decide +kernel)
theorem d_Mod_spread_34 : decode b_Mod_spread 34 = .ok (.iload 4, 2) := kq_21 byq_r (by decide +kernel)
theorem d_Mod_spread_36 : decode b_Mod_spread 36 = .ok (.iconst 4, 1) := kq_7 byq_r (by decide +kernel)
theorem d_Mod_spread_37 : decode b_Mod_spread 37 = .ok (.if_icmp .ge 35, 3) := kq_162 byq_r (a := 0) (b := 35) (by decide +kernel)
theorem d_Mod_spread_40 : decode b_Mod_spread 40 = .ok (.iload_n 2, 1) := kq_28 byq_r (by decide +kernel)
theorem d_Mod_spread_41 : decode b_Mod_spread 41 = .ok (.aload_n 0, 1) := kq_42 byq_r (by decide +kernel)
theorem d_Mod_spread_42 : decode b_Mod_spread 42 = .ok (.aload_n 0, 1) := kq_42 byq_r (by decide +kernel)
theorem d_Mod_spread_43 : decode b_Mod_spread 43 = .ok (.aload_n 0, 1) := kq_42 byq_r (by decide +kernel)
theorem d_Mod_spread_44 : decode b_Mod_spread 44 = .ok (.getfield 9, 3) := kq_180 byq_r (a := 0) (b := 9) (by decide +kernel)
theorem d_Mod_spread_47 : decode b_Mod_spread 47 = .ok (.iload_n 3, 1) := kq_29 byq_r (by decide +kernel)
theorem d_Mod_spread_48 : decode b_Mod_spread 48 = .ok (.iload 4, 2) := kq_21 byq_r (by decide +kernel)
theorem d_Mod_spread_50 : decode b_Mod_spread 50 = .ok (.invokevirtual 252, 3) := kq_182 byq_r (a := 0) (b := 252) (by decide +kernel)
theorem d_Mod_spread_53 : decode b_Mod_spread 53 = .ok (.aload_n 0, 1) := kq_42 byq_r (by decide +kernel)
theorem d_Mod_spread_54 : decode b_Mod_spread 54 = .ok (.getfield 63, 3) := kq_180 byq_r (a := 0) (b := 63) (by decide +kernel)
theorem d_Mod_spread_57 : decode b_Mod_spread 57 = .ok (.iload_n 3, 1) := kq_29 byq_r (by decide +kernel)
theorem d_Mod_spread_58 : decode b_Mod_spread 58 = .ok (.iaload, 1) := kq_46 byq_r (by decide +kernel)
theorem d_Mod_spread_59 : decode b_Mod_spread 59 = .ok (.iconst 1, 1) := kq_4 byq_r (by decide +kernel)
theorem d_Mod_spread_60 : decode b_Mod_spread 60 = .ok (.iadd, 1) := kq_96 byq_r (by decide +kernel)
theorem d_Mod_spread_61 : decode b_Mod_spread 61 = .ok (.invokevirtual 358, 3) := kq_182 byq_r (a := 1) (b := 102) (by decide +kernel)
theorem d_Mod_spread_64 : decode b_Mod_spread 64 = .ok (.ior, 1) := kq_128 byq_r (by decide +kernel)
theorem d_Mod_spread_65 : decode b_Mod_spread 65 = .ok (.istore_n 2, 1) := kq_61 byq_r (by decide +kernel)
theorem d_Mod_spread_66 : decode b_Mod_spread 66 = .ok (.iinc 4 1, 3) := kq_132 byq_r (b := 1) (by decide +kernel)
theorem d_Mod_spread_69 : decode b_Mod_spread 69 = .ok (.goto (-35), 3) := kq_167 byq_r (a := 255) (b := 221) (by decide +kernel)
theorem d_Mod_spread_72 : decode b_Mod_spread 72 = .ok (.iload_n 1, 1) := kq_27 byq_r (by decide +kernel)
theorem d_Mod_spread_73 : decode b_Mod_spread 73 = .ok (.ifCond .eq 42, 3) := kq_153 byq_r (a := 0) (b := 42) (by decide +kernel)
theorem d_Mod_spread_76 : decode b_Mod_spread 76 = .ok (.aload_n 0, 1) := kq_42 byq_r (by decide +kernel)
theorem d_Mod_spread_77 : decode b_Mod_spread 77 = .ok (.getfield 13, 3) := kq_180 byq_r (a := 0) (b := 13) (by decide +kernel)
theorem d_Mod_spread_80 : decode b_Mod_spread 80 = .ok (.iload_n 3, 1) := kq_29 byq_r (by decide +kernel)
theorem d_Mod_spread_81 : decode b_Mod_spread 81 = .ok (.invokestatic 147, 3) := kq_184 byq_r (a := 0) (b := 147) (by decide +kernel)
theorem d_Mod_spread_84 : decode b_Mod_spread 84 = .ok (.iaload, 1) := kq_46 byq_r (by decide +kernel)
theorem d_Mod_spread_85 : decode b_Mod_spread 85 = .ok (.iconst 3, 1) := kq_6 byq_r (by decide +kernel)
theorem d_Mod_spread_86 : decode b_Mod_spread 86 = .ok (.if_icmp .ne 29, 3) := kq_160 byq_r (a := 0) (b := 29) (by decide +kernel)
theorem d_Mod_spread_89 : decode b_Mod_spread 89 = .ok (.iload_n 2, 1) := kq_28 byq_r (by decide +kernel)
theorem d_Mod_spread_90 : decode b_Mod_spread 90 = .ok (.aload_n 0, 1) := kq_42 byq_r (by decide +kernel)
theorem d_Mod_spread_91 : decode b_Mod_spread 91 = .ok (.iconst 1, 1) := kq_4 byq_r (by decide +kernel)
theorem d_Mod_spread_92 : decode b_Mod_spread 92 = .ok (.iload_n 3, 1) := kq_29 byq_r (by decide +kernel)
theorem d_Mod_spread_93 : decode b_Mod_spread 93 = .ok (.invokestatic 143, 3) := kq_184 byq_r (a := 0) (b := 143) (by decide +kernel)
theorem d_Mod_spread_96 : decode b_Mod_spread 96 = .ok (.isub, 1) := kq_100 byq_r (by decide +kernel)
theorem d_Mod_spread_97 : decode b_Mod_spread 97 = .ok (.iload_n 3, 1) := kq_29 byq_r (by decide +kernel)
theorem d_Mod_spread_98 : decode b_Mod_spread 98 = .ok (.invokestatic 147, 3) := kq_184 byq_r (a := 0) (b := 147) (by decide +kernel)
theorem d_Mod_spread_101 : decode b_Mod_spread 101 = .ok (.invokestatic 154, 3) := kq_184 byq_r (a := 0) (b := 154) (by decide +kernel)
theorem d_Mod_spread_104 : decode b_Mod_spread 104 = .ok (.aload_n 0, 1) := kq_42 byq_r (by decide +kernel)
theorem d_Mod_spread_105 : decode b_Mod_spread 105 = .ok (.getfield 63, 3) := kq_180 byq_r (a := 0) (b := 63) (by decide +kernel)
theorem d_Mod_spread_108 : decode b_Mod_spread 108 = .ok (.iload_n 3, 1) := kq_29 byq_r (by decide +kernel)
theorem d_Mod_spread_109 : decode b_Mod_spread 109 = .ok (.iaload, 1) := kq_46 byq_r (by decide +kernel)
theorem d_Mod_spread_110 : decode b_Mod_spread 110 = .ok (.invokevirtual 358, 3) := kq_182 byq_r (a := 1) (b := 102) (by decide +kernel)
theorem d_Mod_spread_113 : decode b_Mod_spread 113 = .ok (.ior, 1) := kq_128 byq_r (by decide +kernel)
theorem d_Mod_spread_114 : decode b_Mod_spread 114 = .ok (.istore_n 2, 1) := kq_61 byq_r (by decide +kernel)
theorem d_Mod_spread_115 : decode b_Mod_spread 115 = .ok (.iinc 3 1, 3) := kq_132 byq_r (b := 1) (by decide +kernel)
theorem d_Mod_spread_118 : decode b_Mod_spread 118 = .ok (.goto (-108), 3) := kq_167 byq_r (a := 255) (b := 148) (by decide +kernel)
theorem d_Mod_spread_121 : decode b_Mod_spread 121 = .ok (.goto (-119), 3) := kq_167 byq_r (a := 255) (b := 137) (by decide +kernel)
theorem d_Mod_spread_124 : decode b_Mod_spread 124 = .ok (.return_, 1) := kq_177 byq_r (by decide +kernel)
theorem d_Mod_findFar_0 : decode b_Mod_findFar 0 = .ok (.iconst 0, 1) := kq_3 byq_r (by decide +kernel)
theorem d_Mod_findFar_1 : decode b_Mod_findFar 1 = .ok (.istore_n 2, 1) := kq_61 byq_r (by decide +kernel)
theorem d_Mod_findFar_2 : decode b_Mod_findFar 2 = .ok (.iload_n 2, 1) := kq_28 byq_r (by decide +kernel)
theorem d_Mod_findFar_3 : decode b_Mod_findFar 3 = .ok (.bipush 72, 2) := kq_16 byq_r (b := 72) (by decide +kernel)
theorem d_Mod_findFar_5 : decode b_Mod_findFar 5 = .ok (.if_icmp .ge 18, 3) := kq_162 byq_r (a := 0) (b := 18) (by decide +kernel)
theorem d_Mod_findFar_8 : decode b_Mod_findFar 8 = .ok (.aload_n 0, 1) := kq_42 byq_r (by decide +kernel)
theorem d_Mod_findFar_9 : decode b_Mod_findFar 9 = .ok (.getfield 63, 3) := kq_180 byq_r (a := 0) (b := 63) (by decide +kernel)
theorem d_Mod_findFar_12 : decode b_Mod_findFar 12 = .ok (.iload_n 2, 1) := kq_28 byq_r (by decide +kernel)
theorem d_Mod_findFar_13 : decode b_Mod_findFar 13 = .ok (.ldc_w 357, 3) := kq_19 byq_r (a := 1) (b := 101) (by decide +kernel)
theorem d_Mod_findFar_16 : decode b_Mod_findFar 16 = .ok (.iastore, 1) := kq_79 byq_r (by decide +kernel)
theorem d_Mod_findFar_17 : decode b_Mod_findFar 17 = .ok (.iinc 2 1, 3) := kq_132 byq_r (b := 1) (by decide +kernel)
theorem d_Mod_findFar_20 : decode b_Mod_findFar 20 = .ok (.goto (-18), 3) := kq_167 byq_r (a := 255) (b := 238) (by decide +kernel)
theorem d_Mod_findFar_23 : decode b_Mod_findFar 23 = .ok (.aload_n 0, 1) := kq_42 byq_r (by decide +kernel)
theorem d_Mod_findFar_24 : decode b_Mod_findFar 24 = .ok (.getfield 63, 3) := kq_180 byq_r (a := 0) (b := 63) (by decide +kernel)
theorem d_Mod_findFar_27 : decode b_Mod_findFar 27 = .ok (.iload_n 1, 1) := kq_27 byq_r (by decide +kernel)
theorem d_Mod_findFar_28 : decode b_Mod_findFar 28 = .ok (.iconst 0, 1) := kq_3 byq_r (by decide +kernel)
theorem d_Mod_findFar_29 : decode b_Mod_findFar 29 = .ok (.iastore, 1) := kq_79 byq_r (by decide +kernel)
theorem d_Mod_findFar_30 : decode b_Mod_findFar 30 = .ok (.aload_n 0, 1) := kq_42 byq_r (by decide +kernel)
theorem d_Mod_findFar_31 : decode b_Mod_findFar 31 = .ok (.iconst 0, 1) := kq_3 byq_r (by decide +kernel)
theorem d_Mod_findFar_32 : decode b_Mod_findFar 32 = .ok (.invokevirtual 361, 3) := kq_182 byq_r (a := 1) (b := 105) (by decide +kernel)
theorem d_Mod_findFar_35 : decode b_Mod_findFar 35 = .ok (.return_, 1) := kq_177 byq_r (by decide +kernel)
theorem d_Mod_putCells_0 : decode b_Mod_putCells 0 = .ok (.aload_n 0, 1) := kq_42 byq_r (by decide +kernel)
theorem d_Mod_putCells_1 : decode b_Mod_putCells 1 = .ok (.getfield 66, 3) := kq_180 byq_r (a := 0) (b := 66) (by decide +kernel)
theorem d_Mod_putCells_4 : decode b_Mod_putCells 4 = .ok (.iconst 0, 1) := kq_3 byq_r (by decide +kernel)
theorem d_Mod_putCells_5 : decode b_Mod_putCells 5 = .ok (.iconst 0, 1) := kq_3 byq_r (by decide +kernel)
theorem d_Mod_putCells_6 : decode b_Mod_putCells 6 = .ok (.iastore, 1) := kq_79 byq_r (by decide +kernel)
theorem d_Mod_putCells_7 : decode b_Mod_putCells 7 = .ok (.aload_n 0, 1) := kq_42 byq_r (by decide +kernel)
theorem d_Mod_putCells_8 : decode b_Mod_putCells 8 = .ok (.getfield 66, 3) := kq_180 byq_r (a := 0) (b := 66) (by decide +kernel)
theorem d_Mod_putCells_11 : decode b_Mod_putCells 11 = .ok (.iconst 1, 1) := kq_4 byq_r (by decide +kernel)
theorem d_Mod_putCells_12 : decode b_Mod_putCells 12 = .ok (.iconst 0, 1) := kq_3 byq_r (by decide +kernel)
theorem d_Mod_putCells_13 : decode b_Mod_putCells 13 = .ok (.iastore, 1) := kq_79 byq_r (by decide +kernel)
theorem d_Mod_putCells_14 : decode b_Mod_putCells 14 = .ok (.iconst 0, 1) := kq_3 byq_r (by decide +kernel)
theorem d_Mod_putCells_15 : decode b_Mod_putCells 15 = .ok (.istore_n 2, 1) := kq_61 byq_r (by decide +kernel)
theorem d_Mod_putCells_16 : decode b_Mod_putCells 16 = .ok (.iload_n 2, 1) := kq_28 byq_r (by decide +kernel)
theorem d_Mod_putCells_17 : decode b_Mod_putCells 17 = .ok (.bipush 36, 2) := kq_16 byq_r (b := 36) (by decide +kernel)
theorem d_Mod_putCells_19 : decode b_Mod_putCells 19 = .ok (.if_icmp .ge 43, 3) := kq_162 byq_r (a := 0) (b := 43) (by decide +kernel)
theorem d_Mod_putCells_22 : decode b_Mod_putCells 22 = .ok (.aload_n 0, 1) := kq_42 byq_r (by decide +kernel)
theorem d_Mod_putCells_23 : decode b_Mod_putCells 23 = .ok (.getfield 63, 3) := kq_180 byq_r (a := 0) (b := 63) (by decide +kernel)
theorem d_Mod_putCells_26 : decode b_Mod_putCells 26 = .ok (.iload_n 1, 1) := kq_27 byq_r (by decide +kernel)
theorem d_Mod_putCells_27 : decode b_Mod_putCells 27 = .ok (.iload_n 2, 1) := kq_28 byq_r (by decide +kernel)
theorem d_Mod_putCells_28 : decode b_Mod_putCells 28 = .ok (.invokestatic 154, 3) := kq_184 byq_r (a := 0) (b := 154) (by decide +kernel)
theorem d_Mod_putCells_31 : decode b_Mod_putCells 31 = .ok (.iaload, 1) := kq_46 byq_r (by decide +kernel)
theorem d_Mod_putCells_32 : decode b_Mod_putCells 32 = .ok (.ldc_w 357, 3) := kq_19 byq_r (a := 1) (b := 101) (by decide +kernel)
theorem d_Mod_putCells_35 : decode b_Mod_putCells 35 = .ok (.if_icmp .ge 21, 3) := kq_162 byq_r (a := 0) (b := 21) (by decide +kernel)
theorem d_Mod_putCells_38 : decode b_Mod_putCells 38 = .ok (.aload_n 0, 1) := kq_42 byq_r (by decide +kernel)
theorem d_Mod_putCells_39 : decode b_Mod_putCells 39 = .ok (.getfield 66, 3) := kq_180 byq_r (a := 0) (b := 66) (by decide +kernel)
theorem d_Mod_putCells_42 : decode b_Mod_putCells 42 = .ok (.iload_n 2, 1) := kq_28 byq_r (by decide +kernel)
theorem d_Mod_putCells_43 : decode b_Mod_putCells 43 = .ok (.bipush 18, 2) := kq_16 byq_r (b := 18) (by decide +kernel)
theorem d_Mod_putCells_45 : decode b_Mod_putCells 45 = .ok (.idiv, 1) := kq_108 byq_r (by decide +kernel)
theorem d_Mod_putCells_46 : decode b_Mod_putCells 46 = .ok (.dup2, 1) := kq_92 byq_r (by decide +kernel)
theorem d_Mod_putCells_47 : decode b_Mod_putCells 47 = .ok (.iaload, 1) := kq_46 byq_r (by decide +kernel)
theorem d_Mod_putCells_48 : decode b_Mod_putCells 48 = .ok (.iconst 1, 1) := kq_4 byq_r (by decide +kernel)
theorem d_Mod_putCells_49 : decode b_Mod_putCells 49 = .ok (.iload_n 2, 1) := kq_28 byq_r (by decide +kernel)
theorem d_Mod_putCells_50 : decode b_Mod_putCells 50 = .ok (.bipush 18, 2) := kq_16 byq_r (b := 18) (by decide +kernel)
theorem d_Mod_putCells_52 : decode b_Mod_putCells 52 = .ok (.irem, 1) := kq_112 byq_r (by decide +kernel)
theorem d_Mod_putCells_53 : decode b_Mod_putCells 53 = .ok (.ishl, 1) := kq_120 byq_r (by decide +kernel)
theorem d_Mod_putCells_54 : decode b_Mod_putCells 54 = .ok (.ior, 1) := kq_128 byq_r (by decide +kernel)
theorem d_Mod_putCells_55 : decode b_Mod_putCells 55 = .ok (.iastore, 1) := kq_79 byq_r (by decide +kernel)
theorem d_Mod_putCells_56 : decode b_Mod_putCells 56 = .ok (.iinc 2 1, 3) := kq_132 byq_r (b := 1) (by decide +kernel)
theorem d_Mod_putCells_59 : decode b_Mod_putCells 59 = .ok (.goto (-43), 3) := kq_167 byq_r (a := 255) (b := 213) (by decide +kernel)
theorem d_Mod_putCells_62 : decode b_Mod_putCells 62 = .ok (.aload_n 0, 1) := kq_42 byq_r (by decide +kernel)
theorem d_Mod_putCells_63 : decode b_Mod_putCells 63 = .ok (.aload_n 0, 1) := kq_42 byq_r (by decide +kernel)
theorem d_Mod_putCells_64 : decode b_Mod_putCells 64 = .ok (.getfield 66, 3) := kq_180 byq_r (a := 0) (b := 66) (by decide +kernel)
theorem d_Mod_putCells_67 : decode b_Mod_putCells 67 = .ok (.iconst 0, 1) := kq_3 byq_r (by decide +kernel)
theorem d_Mod_putCells_68 : decode b_Mod_putCells 68 = .ok (.iaload, 1) := kq_46 byq_r (by decide +kernel)
theorem d_Mod_putCells_69 : decode b_Mod_putCells 69 = .ok (.invokevirtual 342, 3) := kq_182 byq_r (a := 1) (b := 86) (by decide +kernel)
theorem d_Mod_putCells_72 : decode b_Mod_putCells 72 = .ok (.aload_n 0, 1) := kq_42 byq_r (by decide +kernel)
theorem d_Mod_putCells_73 : decode b_Mod_putCells 73 = .ok (.aload_n 0, 1) := kq_42 byq_r (by decide +kernel)
theorem d_Mod_putCells_74 : decode b_Mod_putCells 74 = .ok (.getfield 66, 3) := kq_180 byq_r (a := 0) (b := 66) (by decide +kernel)
theorem d_Mod_putCells_77 : decode b_Mod_putCells 77 = .ok (.iconst 1, 1) := kq_4 byq_r (by decide +kernel)
theorem d_Mod_putCells_78 : decode b_Mod_putCells 78 = .ok (.iaload, 1) := kq_46 byq_r (by decide +kernel)
theorem d_Mod_putCells_79 : decode b_Mod_putCells 79 = .ok (.invokevirtual 342, 3) := kq_182 byq_r (a := 1) (b := 86) (by decide +kernel)
theorem d_Mod_putCells_82 : decode b_Mod_putCells 82 = .ok (.return_, 1) := kq_177 byq_r (by decide +kernel)
theorem d_Mod_reached_0 : decode b_Mod_reached 0 = .ok (.iconst 0, 1) := kq_3 byq_r (by decide +kernel)
theorem d_Mod_reached_1 : decode b_Mod_reached 1 = .ok (.istore_n 2, 1) := kq_61 byq_r (by decide +kernel)
theorem d_Mod_reached_2 : decode b_Mod_reached 2 = .ok (.iconst 0, 1) := kq_3 byq_r (by decide +kernel)
theorem d_Mod_reached_3 : decode b_Mod_reached 3 = .ok (.istore_n 3, 1) := kq_62 byq_r (by decide +kernel)
theorem d_Mod_reached_4 : decode b_Mod_reached 4 = .ok (.iload_n 3, 1) := kq_29 byq_r (by decide +kernel)
theorem d_Mod_reached_5 : decode b_Mod_reached 5 = .ok (.bipush 36, 2) := kq_16 byq_r (b := 36) (by decide +kernel)
theorem d_Mod_reached_7 : decode b_Mod_reached 7 = .ok (.if_icmp .ge 33, 3) := kq_162 byq_r (a := 0) (b := 33) (by decide +kernel)
theorem d_Mod_reached_10 : decode b_Mod_reached 10 = .ok (.iload_n 2, 1) := kq_28 byq_r (by decide +kernel)
theorem d_Mod_reached_11 : decode b_Mod_reached 11 = .ok (.aload_n 0, 1) := kq_42 byq_r (by decide +kernel)
theorem d_Mod_reached_12 : decode b_Mod_reached 12 = .ok (.getfield 63, 3) := kq_180 byq_r (a := 0) (b := 63) (by decide +kernel)
theorem d_Mod_reached_15 : decode b_Mod_reached 15 = .ok (.iload_n 1, 1) := kq_27 byq_r (by decide +kernel)
theorem d_Mod_reached_16 : decode b_Mod_reached 16 = .ok (.iload_n 3, 1) := kq_29 byq_r (by decide +kernel)
theorem d_Mod_reached_17 : decode b_Mod_reached 17 = .ok (.invokestatic 154, 3) := kq_184 byq_r (a := 0) (b := 154) (by decide +kernel)
theorem d_Mod_reached_20 : decode b_Mod_reached 20 = .ok (.iaload, 1) := kq_46 byq_r (by decide +kernel)
theorem d_Mod_reached_21 : decode b_Mod_reached 21 = .ok (.ldc_w 357, 3) := kq_19 byq_r (a := 1) (b := 101) (by decide +kernel)
theorem d_Mod_reached_24 : decode b_Mod_reached 24 = .ok (.if_icmp .ge 7, 3) := kq_162 byq_r (a := 0) (b := 7) (by decide +kernel)
theorem d_Mod_reached_27 : decode b_Mod_reached 27 = .ok (.iconst 1, 1) := kq_4 byq_r (by decide +kernel)
theorem d_Mod_reached_28 : decode b_Mod_reached 28 = .ok (.goto 4, 3) := kq_167 byq_r (a := 0) (b := 4) (by decide +kernel)
theorem d_Mod_reached_31 : decode b_Mod_reached 31 = .ok (.iconst 0, 1) := kq_3 byq_r (by decide +kernel)
theorem d_Mod_reached_32 : decode b_Mod_reached 32 = .ok (.iadd, 1) := kq_96 byq_r (by decide +kernel)
theorem d_Mod_reached_33 : decode b_Mod_reached 33 = .ok (.istore_n 2, 1) := kq_61 byq_r (by decide +kernel)
theorem d_Mod_reached_34 : decode b_Mod_reached 34 = .ok (.iinc 3 1, 3) := kq_132 byq_r (b := 1) (by decide +kernel)
theorem d_Mod_reached_37 : decode b_Mod_reached 37 = .ok (.goto (-33), 3) := kq_167 byq_r (a := 255) (b := 223) (by decide +kernel)
theorem d_Mod_reached_40 : decode b_Mod_reached 40 = .ok (.iload_n 2, 1) := kq_28 byq_r (by decide +kernel)
theorem d_Mod_reached_41 : decode b_Mod_reached 41 = .ok (.ireturn, 1) := kq_172 byq_r (by decide +kernel)
theorem d_Mod_pieces_0 : decode b_Mod_pieces 0 = .ok (.aload_n 0, 1) := kq_42 byq_r (by decide +kernel)
theorem d_Mod_pieces_1 : decode b_Mod_pieces 1 = .ok (.iconst 0, 1) := kq_3 byq_r (by decide +kernel)
theorem d_Mod_pieces_2 : decode b_Mod_pieces 2 = .ok (.putfield 109, 3) := kq_181 byq_r (a := 0) (b := 109) (by decide +kernel)
theorem d_Mod_pieces_5 : decode b_Mod_pieces 5 = .ok (.iload_n 1, 1) := kq_27 byq_r (by decide +kernel)
theorem d_Mod_pieces_6 : decode b_Mod_pieces 6 = .ok (.iconst 0, 1) := kq_3 byq_r (by decide +kernel)
theorem d_Mod_pieces_7 : decode b_Mod_pieces 7 = .ok (.iconst 1, 1) := kq_4 byq_r (by decide +kernel)
theorem d_Mod_pieces_8 : decode b_Mod_pieces 8 = .ok (.invokestatic 119, 3) := kq_184 byq_r (a := 0) (b := 119) (by decide +kernel)
theorem d_Mod_pieces_11 : decode b_Mod_pieces 11 = .ok (.ifCond .ne 5, 3) := kq_154 byq_r (a := 0) (b := 5) (by decide +kernel)
theorem d_Mod_pieces_14 : decode b_Mod_pieces 14 = .ok (.iconst (-1), 1) := kq_2 byq_r (by decide +kernel)
theorem d_Mod_pieces_15 : decode b_Mod_pieces 15 = .ok (.ireturn, 1) := kq_172 byq_r (by decide +kernel)
theorem d_Mod_pieces_16 : decode b_Mod_pieces 16 = .ok (.iconst 0, 1) := kq_3 byq_r (by decide +kernel)
theorem d_Mod_pieces_17 : decode b_Mod_pieces 17 = .ok (.istore_n 2, 1) := kq_61 byq_r (by decide +kernel)
theorem d_Mod_pieces_18 : decode b_Mod_pieces 18 = .ok (.iconst 0, 1) := kq_3 byq_r (by decide +kernel)
theorem d_Mod_pieces_19 : decode b_Mod_pieces 19 = .ok (.istore_n 3, 1) := kq_62 byq_r (by decide +kernel)
theorem d_Mod_pieces_20 : decode b_Mod_pieces 20 = .ok (.iconst (-1), 1) := kq_2 byq_r (by decide +kernel)
theorem d_Mod_pieces_21 : decode b_Mod_pieces 21 = .ok (.istore 4, 2) := kq_54 byq_r (by decide +kernel)
theorem d_Mod_pieces_23 : decode b_Mod_pieces 23 = .ok (.iconst 0, 1) := kq_3 byq_r (by decide +kernel)
theorem d_Mod_pieces_24 : decode b_Mod_pieces 24 = .ok (.istore 5, 2) := kq_54 byq_r (by decide +kernel)
theorem d_Mod_pieces_26 : decode b_Mod_pieces 26 = .ok (.iload 5, 2) := kq_21 byq_r (by decide +kernel)
theorem d_Mod_pieces_28 : decode b_Mod_pieces 28 = .ok (.bipush 36, 2) := kq_16 byq_r (b := 36) (by decide +kernel)
theorem d_Mod_pieces_30 : decode b_Mod_pieces 30 = .ok (.if_icmp .ge 17, 3) := kq_162 byq_r (a := 0) (b := 17) (by decide +kernel)
theorem d_Mod_pieces_33 : decode b_Mod_pieces 33 = .ok (.aload_n 0, 1) := kq_42 byq_r (by decide +kernel)
theorem d_Mod_pieces_34 : decode b_Mod_pieces 34 = .ok (.getfield 69, 3) := kq_180 byq_r (a := 0) (b := 69) (by decide +kernel)
theorem d_Mod_pieces_37 : decode b_Mod_pieces 37 = .ok (.iload 5, 2) := kq_21 byq_r (by decide +kernel)
theorem d_Mod_pieces_39 : decode b_Mod_pieces 39 = .ok (.iconst 0, 1) := kq_3 byq_r (by decide +kernel)
theorem d_Mod_pieces_40 : decode b_Mod_pieces 40 = .ok (.bastore, 1) := kq_84 byq_r (by decide +kernel)
theorem d_Mod_pieces_41 : decode b_Mod_pieces 41 = .ok (.iinc 5 1, 3) := kq_132 byq_r (b := 1) (by decide +kernel)
theorem d_Mod_pieces_44 : decode b_Mod_pieces 44 = .ok (.goto (-18), 3) := kq_167 byq_r (a := 255) (b := 238) (by decide +kernel)
theorem d_Mod_pieces_47 : decode b_Mod_pieces 47 = .ok (.iconst 0, 1) := kq_3 byq_r (by decide +kernel)
theorem d_Mod_pieces_48 : decode b_Mod_pieces 48 = .ok (.istore 5, 2) := kq_54 byq_r (by decide +kernel)
theorem d_Mod_pieces_50 : decode b_Mod_pieces 50 = .ok (.iload 5, 2) := kq_21 byq_r (by decide +kernel)
theorem d_Mod_pieces_52 : decode b_Mod_pieces 52 = .ok (.aload_n 0, 1) := kq_42 byq_r (by decide +kernel)
theorem d_Mod_pieces_53 : decode b_Mod_pieces 53 = .ok (.invokevirtual 115, 3) := kq_182 byq_r (a := 0) (b := 115) (by decide +kernel)
theorem d_Mod_pieces_56 : decode b_Mod_pieces 56 = .ok (.if_icmp .ge 115, 3) := kq_162 byq_r (a := 0) (b := 115) (by decide +kernel)
theorem d_Mod_pieces_59 : decode b_Mod_pieces 59 = .ok (.aload_n 0, 1) := kq_42 byq_r (by decide +kernel)
theorem d_Mod_pieces_60 : decode b_Mod_pieces 60 = .ok (.iload_n 1, 1) := kq_27 byq_r (by decide +kernel)
theorem d_Mod_pieces_61 : decode b_Mod_pieces 61 = .ok (.iload 5, 2) := kq_21 byq_r (by decide +kernel)
theorem d_Mod_pieces_63 : decode b_Mod_pieces 63 = .ok (.invokevirtual 140, 3) := kq_182 byq_r (a := 0) (b := 140) (by decide +kernel)
theorem d_Mod_pieces_66 : decode b_Mod_pieces 66 = .ok (.ifCond .eq 99, 3) := kq_153 byq_r (a := 0) (b := 99) (by decide +kernel)
theorem d_Mod_pieces_69 : decode b_Mod_pieces 69 = .ok (.aload_n 0, 1) := kq_42 byq_r (by decide +kernel)
theorem d_Mod_pieces_70 : decode b_Mod_pieces 70 = .ok (.getfield 69, 3) := kq_180 byq_r (a := 0) (b := 69) (by decide +kernel)
theorem d_Mod_pieces_73 : decode b_Mod_pieces 73 = .ok (.iload 5, 2) := kq_21 byq_r (by decide +kernel)
theorem d_Mod_pieces_75 : decode b_Mod_pieces 75 = .ok (.baload, 1) := kq_51 byq_r (by decide +kernel)
theorem d_Mod_pieces_76 : decode b_Mod_pieces 76 = .ok (.ifCond .eq 6, 3) := kq_153 byq_r (a := 0) (b := 6) (by decide +kernel)
theorem d_Mod_pieces_79 : decode b_Mod_pieces 79 = .ok (.goto 86, 3) := kq_167 byq_r (a := 0) (b := 86) (by decide +kernel)
theorem d_Mod_pieces_82 : decode b_Mod_pieces 82 = .ok (.aload_n 0, 1) := kq_42 byq_r (by decide +kernel)
theorem d_Mod_pieces_83 : decode b_Mod_pieces 83 = .ok (.iload_n 1, 1) := kq_27 byq_r (by decide +kernel)
theorem d_Mod_pieces_84 : decode b_Mod_pieces 84 = .ok (.iload 5, 2) := kq_21 byq_r (by decide +kernel)
theorem d_Mod_pieces_86 : decode b_Mod_pieces 86 = .ok (.invokestatic 154, 3) := kq_184 byq_r (a := 0) (b := 154) (by decide +kernel)
theorem d_Mod_pieces_89 : decode b_Mod_pieces 89 = .ok (.invokevirtual 365, 3) := kq_182 byq_r (a := 1) (b := 109) (by decide +kernel)
theorem d_Mod_pieces_92 : decode b_Mod_pieces 92 = .ok (.iinc 2 1, 3) := kq_132 byq_r (b := 1) (by decide +kernel)
theorem d_Mod_pieces_95 : decode b_Mod_pieces 95 = .ok (.iconst 0, 1) := kq_3 byq_r (by decide +kernel)
theorem d_Mod_pieces_96 : decode b_Mod_pieces 96 = .ok (.istore 6, 2) := kq_54 byq_r (by decide +kernel)
theorem d_Mod_pieces_98 : decode b_Mod_pieces 98 = .ok (.iload 6, 2) := kq_21 byq_r (by decide +kernel)
theorem d_Mod_pieces_100 : decode b_Mod_pieces 100 = .ok (.bipush 36, 2) := kq_16 byq_r (b := 36) (by decide +kernel)
theorem d_Mod_pieces_102 : decode b_Mod_pieces 102 = .ok (.if_icmp .ge 41, 3) := kq_162 byq_r (a := 0) (b := 41) (by decide +kernel)
theorem d_Mod_pieces_105 : decode b_Mod_pieces 105 = .ok (.aload_n 0, 1) := kq_42 byq_r (by decide +kernel)
theorem d_Mod_pieces_106 : decode b_Mod_pieces 106 = .ok (.getfield 69, 3) := kq_180 byq_r (a := 0) (b := 69) (by decide +kernel)
theorem d_Mod_pieces_109 : decode b_Mod_pieces 109 = .ok (.iload 6, 2) := kq_21 byq_r (by decide +kernel)
theorem d_Mod_pieces_111 : decode b_Mod_pieces 111 = .ok (.dup2, 1) := kq_92 byq_r (by decide +kernel)
theorem d_Mod_pieces_112 : decode b_Mod_pieces 112 = .ok (.baload, 1) := kq_51 byq_r (by decide +kernel)
theorem d_Mod_pieces_113 : decode b_Mod_pieces 113 = .ok (.aload_n 0, 1) := kq_42 byq_r (by decide +kernel)
theorem d_Mod_pieces_114 : decode b_Mod_pieces 114 = .ok (.getfield 63, 3) := kq_180 byq_r (a := 0) (b := 63) (by decide +kernel)
theorem d_Mod_pieces_117 : decode b_Mod_pieces 117 = .ok (.iload_n 1, 1) := kq_27 byq_r (by decide +kernel)
theorem d_Mod_pieces_118 : decode b_Mod_pieces 118 = .ok (.iload 6, 2) := kq_21 byq_r (by decide +kernel)
theorem d_Mod_pieces_120 : decode b_Mod_pieces 120 = .ok (.invokestatic 154, 3) := kq_184 byq_r (a := 0) (b := 154) (by decide +kernel)
theorem d_Mod_pieces_123 : decode b_Mod_pieces 123 = .ok (.iaload, 1) := kq_46 byq_r (by decide +kernel)
theorem d_Mod_pieces_124 : decode b_Mod_pieces 124 = .ok (.ldc_w 357, 3) := kq_19 byq_r (a := 1) (b := 101) (by decide +kernel)
theorem d_Mod_pieces_127 : decode b_Mod_pieces 127 = .ok (.if_icmp .ge 7, 3) := kq_162 byq_r (a := 0) (b := 7) (by decide +kernel)
theorem d_Mod_pieces_130 : decode b_Mod_pieces 130 = .ok (.iconst 1, 1) := kq_4 byq_r (by decide +kernel)
theorem d_Mod_pieces_131 : decode b_Mod_pieces 131 = .ok (.goto 4, 3) := kq_167 byq_r (a := 0) (b := 4) (by decide +kernel)
theorem d_Mod_pieces_134 : decode b_Mod_pieces 134 = .ok (.iconst 0, 1) := kq_3 byq_r (by decide +kernel)
theorem d_Mod_pieces_135 : decode b_Mod_pieces 135 = .ok (.ior, 1) := kq_128 byq_r (by decide +kernel)
theorem d_Mod_pieces_136 : decode b_Mod_pieces 136 = .ok (.bastore, 1) := kq_84 byq_r (by decide +kernel)
theorem d_Mod_pieces_137 : decode b_Mod_pieces 137 = .ok (.iinc 6 1, 3) := kq_132 byq_r (b := 1) (by decide +kernel)
theorem d_Mod_pieces_140 : decode b_Mod_pieces 140 = .ok (.goto (-42), 3) := kq_167 byq_r (a := 255) (b := 214) (by decide +kernel)
theorem d_Mod_pieces_143 : decode b_Mod_pieces 143 = .ok (.aload_n 0, 1) := kq_42 byq_r (by decide +kernel)
theorem d_Mod_pieces_144 : decode b_Mod_pieces 144 = .ok (.iload_n 1, 1) := kq_27 byq_r (by decide +kernel)
theorem d_Mod_pieces_145 : decode b_Mod_pieces 145 = .ok (.invokevirtual 368, 3) := kq_182 byq_r (a := 1) (b := 112) (by decide +kernel)
theorem d_Mod_pieces_148 : decode b_Mod_pieces 148 = .ok (.iload_n 3, 1) := kq_29 byq_r (by decide +kernel)
theorem d_Mod_pieces_149 : decode b_Mod_pieces 149 = .ok (.if_icmp .gt 6, 3) := kq_163 byq_r (a := 0) (b := 6) (by decide +kernel)
theorem d_Mod_pieces_152 : decode b_Mod_pieces 152 = .ok (.goto 13, 3) := kq_167 byq_r (a := 0) (b := 13) (by decide +kernel)
theorem d_Mod_pieces_155 : decode b_Mod_pieces 155 = .ok (.aload_n 0, 1) := kq_42 byq_r (by decide +kernel)
theorem d_Mod_pieces_156 : decode b_Mod_pieces 156 = .ok (.iload_n 1, 1) := kq_27 byq_r (by decide +kernel)
theorem d_Mod_pieces_157 : decode b_Mod_pieces 157 = .ok (.invokevirtual 368, 3) := kq_182 byq_r (a := 1) (b := 112) (by decide +kernel)
theorem d_Mod_pieces_160 : decode b_Mod_pieces 160 = .ok (.istore_n 3, 1) := kq_62 byq_r (by decide +kernel)
theorem d_Mod_pieces_161 : decode b_Mod_pieces 161 = .ok (.iload 5, 2) := kq_21 byq_r (by decide +kernel)
theorem d_Mod_pieces_163 : decode b_Mod_pieces 163 = .ok (.istore 4, 2) := kq_54 byq_r (by decide +kernel)
theorem d_Mod_pieces_165 : decode b_Mod_pieces 165 = .ok (.iinc 5 1, 3) := kq_132 byq_r (b := 1) (by decide +kernel)
theorem d_Mod_pieces_168 : decode b_Mod_pieces 168 = .ok (.goto (-118), 3) := kq_167 byq_r (a := 255) (b := 138) (by decide +kernel)
theorem d_Mod_pieces_171 : decode b_Mod_pieces 171 = .ok (.aload_n 0, 1) := kq_42 byq_r (by decide +kernel)
theorem d_Mod_pieces_172 : decode b_Mod_pieces 172 = .ok (.iconst 0, 1) := kq_3 byq_r (by decide +kernel)
theorem d_Mod_pieces_173 : decode b_Mod_pieces 173 = .ok (.putfield 112, 3) := kq_181 byq_r (a := 0) (b := 112) (by decide +kernel)
theorem d_Mod_pieces_176 : decode b_Mod_pieces 176 = .ok (.aload_n 0, 1) := kq_42 byq_r (by decide +kernel)
theorem d_Mod_pieces_177 : decode b_Mod_pieces 177 = .ok (.iload_n 3, 1) := kq_29 byq_r (by decide +kernel)
theorem d_Mod_pieces_178 : decode b_Mod_pieces 178 = .ok (.invokevirtual 342, 3) := kq_182 byq_r (a := 1) (b := 86) (by decide +kernel)
theorem d_Mod_pieces_181 : decode b_Mod_pieces 181 = .ok (.aload_n 0, 1) := kq_42 byq_r (by decide +kernel)
theorem d_Mod_pieces_182 : decode b_Mod_pieces 182 = .ok (.iload 4, 2) := kq_21 byq_r (by decide +kernel)
theorem d_Mod_pieces_184 : decode b_Mod_pieces 184 = .ok (.invokevirtual 342, 3) := kq_182 byq_r (a := 1) (b := 86) (by decide +kernel)
theorem d_Mod_pieces_187 : decode b_Mod_pieces 187 = .ok (.iload_n 2, 1) := kq_28 byq_r (by decide +kernel)
theorem d_Mod_pieces_188 : decode b_Mod_pieces 188 = .ok (.ireturn, 1) := kq_172 byq_r (by decide +kernel)
theorem d_Mod_reach_0 : decode b_Mod_reach 0 = .ok (.aload_n 0, 1) := kq_42 byq_r (by decide +kernel)
theorem d_Mod_reach_1 : decode b_Mod_reach 1 = .ok (.iconst 0, 1) := kq_3 byq_r (by decide +kernel)
theorem d_Mod_reach_2 : decode b_Mod_reach 2 = .ok (.putfield 109, 3) := kq_181 byq_r (a := 0) (b := 109) (by decide +kernel)
theorem d_Mod_reach_5 : decode b_Mod_reach 5 = .ok (.iload_n 1, 1) := kq_27 byq_r (by decide +kernel)
theorem d_Mod_reach_6 : decode b_Mod_reach 6 = .ok (.iconst 0, 1) := kq_3 byq_r (by decide +kernel)
theorem d_Mod_reach_7 : decode b_Mod_reach 7 = .ok (.iconst 1, 1) := kq_4 byq_r (by decide +kernel)
theorem d_Mod_reach_8 : decode b_Mod_reach 8 = .ok (.invokestatic 119, 3) := kq_184 byq_r (a := 0) (b := 119) (by decide +kernel)
theorem d_Mod_reach_11 : decode b_Mod_reach 11 = .ok (.ifCond .eq 11, 3) := kq_153 byq_r (a := 0) (b := 11) (by decide +kernel)
theorem d_Mod_reach_14 : decode b_Mod_reach 14 = .ok (.aload_n 0, 1) := kq_42 byq_r (by decide +kernel)
theorem d_Mod_reach_15 : decode b_Mod_reach 15 = .ok (.iload_n 2, 1) := kq_28 byq_r (by decide +kernel)
theorem d_Mod_reach_16 : decode b_Mod_reach 16 = .ok (.invokevirtual 137, 3) := kq_182 byq_r (a := 0) (b := 137) (by decide +kernel)
theorem d_Mod_reach_19 : decode b_Mod_reach 19 = .ok (.ifCond .ne 5, 3) := kq_154 byq_r (a := 0) (b := 5) (by decide +kernel)
theorem d_Mod_reach_22 : decode b_Mod_reach 22 = .ok (.iconst (-1), 1) := kq_2 byq_r (by decide +kernel)
theorem d_Mod_reach_23 : decode b_Mod_reach 23 = .ok (.ireturn, 1) := kq_172 byq_r (by decide +kernel)
theorem d_Mod_reach_24 : decode b_Mod_reach 24 = .ok (.aload_n 0, 1) := kq_42 byq_r (by decide +kernel)
theorem d_Mod_reach_25 : decode b_Mod_reach 25 = .ok (.iload_n 1, 1) := kq_27 byq_r (by decide +kernel)
theorem d_Mod_reach_26 : decode b_Mod_reach 26 = .ok (.iload_n 2, 1) := kq_28 byq_r (by decide +kernel)
theorem d_Mod_reach_27 : decode b_Mod_reach 27 = .ok (.invokevirtual 140, 3) := kq_182 byq_r (a := 0) (b := 140) (by decide +kernel)
theorem d_Mod_reach_30 : decode b_Mod_reach 30 = .ok (.ifCond .ne 6, 3) := kq_154 byq_r (a := 0) (b := 6) (by decide +kernel)
theorem d_Mod_reach_33 : decode b_Mod_reach 33 = .ok (.bipush (-2), 2) := kq_16 byq_r (b := 254) (by decide +kernel)
theorem d_Mod_reach_35 : decode b_Mod_reach 35 = .ok (.ireturn, 1) := kq_172 byq_r (by decide +kernel)
theorem d_Mod_reach_36 : decode b_Mod_reach 36 = .ok (.aload_n 0, 1) := kq_42 byq_r (by decide +kernel)
theorem d_Mod_reach_37 : decode b_Mod_reach 37 = .ok (.iload_n 1, 1) := kq_27 byq_r (by decide +kernel)
theorem d_Mod_reach_38 : decode b_Mod_reach 38 = .ok (.iload_n 2, 1) := kq_28 byq_r (by decide +kernel)
theorem d_Mod_reach_39 : decode b_Mod_reach 39 = .ok (.invokestatic 154, 3) := kq_184 byq_r (a := 0) (b := 154) (by decide +kernel)
theorem d_Mod_reach_42 : decode b_Mod_reach 42 = .ok (.invokevirtual 365, 3) := kq_182 byq_r (a := 1) (b := 109) (by decide +kernel)
theorem d_Mod_reach_45 : decode b_Mod_reach 45 = .ok (.aload_n 0, 1) := kq_42 byq_r (by decide +kernel)
theorem d_Mod_reach_46 : decode b_Mod_reach 46 = .ok (.iconst 0, 1) := kq_3 byq_r (by decide +kernel)
theorem d_Mod_reach_47 : decode b_Mod_reach 47 = .ok (.putfield 112, 3) := kq_181 byq_r (a := 0) (b := 112) (by decide +kernel)
theorem d_Mod_reach_50 : decode b_Mod_reach 50 = .ok (.aload_n 0, 1) := kq_42 byq_r (by decide +kernel)
theorem d_Mod_reach_51 : decode b_Mod_reach 51 = .ok (.iload_n 1, 1) := kq_27 byq_r (by decide +kernel)
theorem d_Mod_reach_52 : decode b_Mod_reach 52 = .ok (.invokevirtual 371, 3) := kq_182 byq_r (a := 1) (b := 115) (by decide +kernel)
theorem d_Mod_reach_55 : decode b_Mod_reach 55 = .ok (.aload_n 0, 1) := kq_42 byq_r (by decide +kernel)
theorem d_Mod_reach_56 : decode b_Mod_reach 56 = .ok (.iload_n 1, 1) := kq_27 byq_r (by decide +kernel)
theorem d_Mod_reach_57 : decode b_Mod_reach 57 = .ok (.invokevirtual 368, 3) := kq_182 byq_r (a := 1) (b := 112) (by decide +kernel)
theorem d_Mod_reach_60 : decode b_Mod_reach 60 = .ok (.ireturn, 1) := kq_172 byq_r (by decide +kernel)
theorem d_Mod_path_0 : decode b_Mod_path 0 = .ok (.aload_n 0, 1) := kq_42 byq_r (by decide +kernel)
theorem d_Mod_path_1 : decode b_Mod_path 1 = .ok (.iconst 0, 1) := kq_3 byq_r (by decide +kernel)
theorem d_Mod_path_2 : decode b_Mod_path 2 = .ok (.putfield 109, 3) := kq_181 byq_r (a := 0) (b := 109) (by decide +kernel)
theorem d_Mod_path_5 : decode b_Mod_path 5 = .ok (.aload_n 0, 1) := kq_42 byq_r (by decide +kernel)
theorem d_Mod_path_6 : decode b_Mod_path 6 = .ok (.iload_n 1, 1) := kq_27 byq_r (by decide +kernel)
theorem d_Mod_path_7 : decode b_Mod_path 7 = .ok (.iload_n 2, 1) := kq_28 byq_r (by decide +kernel)
theorem d_Mod_path_8 : decode b_Mod_path 8 = .ok (.invokevirtual 374, 3) := kq_182 byq_r (a := 1) (b := 118) (by decide +kernel)
theorem d_Mod_path_11 : decode b_Mod_path 11 = .ok (.ifCond .eq 12, 3) := kq_153 byq_r (a := 0) (b := 12) (by decide +kernel)
theorem d_Mod_path_14 : decode b_Mod_path 14 = .ok (.aload_n 0, 1) := kq_42 byq_r (by decide +kernel)
theorem d_Mod_path_15 : decode b_Mod_path 15 = .ok (.iload_n 1, 1) := kq_27 byq_r (by decide +kernel)
theorem d_Mod_path_16 : decode b_Mod_path 16 = .ok (.iload_n 3, 1) := kq_29 byq_r (by decide +kernel)
theorem d_Mod_path_17 : decode b_Mod_path 17 = .ok (.invokevirtual 374, 3) := kq_182 byq_r (a := 1) (b := 118) (by decide +kernel)
theorem d_Mod_path_20 : decode b_Mod_path 20 = .ok (.ifCond .ne 5, 3) := kq_154 byq_r (a := 0) (b := 5) (by decide +kernel)
theorem d_Mod_path_23 : decode b_Mod_path 23 = .ok (.iconst (-1), 1) := kq_2 byq_r (by decide +kernel)
theorem d_Mod_path_24 : decode b_Mod_path 24 = .ok (.ireturn, 1) := kq_172 byq_r (by decide +kernel)
theorem d_Mod_path_25 : decode b_Mod_path 25 = .ok (.aload_n 0, 1) := kq_42 byq_r (by decide +kernel)
theorem d_Mod_path_26 : decode b_Mod_path 26 = .ok (.iload_n 1, 1) := kq_27 byq_r (by decide +kernel)
theorem d_Mod_path_27 : decode b_Mod_path 27 = .ok (.iload_n 3, 1) := kq_29 byq_r (by decide +kernel)
theorem d_Mod_path_28 : decode b_Mod_path 28 = .ok (.invokestatic 154, 3) := kq_184 byq_r (a := 0) (b := 154) (by decide +kernel)
theorem d_Mod_path_31 : decode b_Mod_path 31 = .ok (.invokevirtual 365, 3) := kq_182 byq_r (a := 1) (b := 109) (by decide +kernel)
theorem d_Mod_path_34 : decode b_Mod_path 34 = .ok (.iload_n 1, 1) := kq_27 byq_r (by decide +kernel)
theorem d_Mod_path_35 : decode b_Mod_path 35 = .ok (.iload_n 2, 1) := kq_28 byq_r (by decide +kernel)
theorem d_Mod_path_36 : decode b_Mod_path 36 = .ok (.invokestatic 154, 3) := kq_184 byq_r (a := 0) (b := 154) (by decide +kernel)
theorem d_Mod_path_39 : decode b_Mod_path 39 = .ok (.istore 4, 2) := kq_54 byq_r (by decide +kernel)
theorem d_Mod_path_41 : decode b_Mod_path 41 = .ok (.aload_n 0, 1) := kq_42 byq_r (by decide +kernel)
theorem d_Mod_path_42 : decode b_Mod_path 42 = .ok (.getfield 63, 3) := kq_180 byq_r (a := 0) (b := 63) (by decide +kernel)
theorem d_Mod_path_45 : decode b_Mod_path 45 = .ok (.iload 4, 2) := kq_21 byq_r (by decide +kernel)
theorem d_Mod_path_47 : decode b_Mod_path 47 = .ok (.iaload, 1) := kq_46 byq_r (by decide +kernel)
theorem d_Mod_path_48 : decode b_Mod_path 48 = .ok (.istore 5, 2) := kq_54 byq_r (by decide +kernel)
theorem d_Mod_path_50 : decode b_Mod_path 50 = .ok (.iload 5, 2) := kq_21 byq_r (by decide +kernel)
theorem d_Mod_path_52 : decode b_Mod_path 52 = .ok (.ldc_w 357, 3) := kq_19 byq_r (a := 1) (b := 101) (by decide +kernel)
theorem d_Mod_path_55 : decode b_Mod_path 55 = .ok (.if_icmp .lt 6, 3) := kq_161 byq_r (a := 0) (b := 6) (by decide +kernel)
theorem d_Mod_path_58 : decode b_Mod_path 58 = .ok (.bipush (-2), 2) := kq_16 byq_r (b := 254) (by decide +kernel)
theorem d_Mod_path_60 : decode b_Mod_path 60 = .ok (.ireturn, 1) := kq_172 byq_r (by decide +kernel)
theorem d_Mod_path_61 : decode b_Mod_path 61 = .ok (.aload_n 0, 1) := kq_42 byq_r (by decide +kernel)
theorem d_Mod_path_62 : decode b_Mod_path 62 = .ok (.iconst 0, 1) := kq_3 byq_r (by decide +kernel)
theorem d_Mod_path_63 : decode b_Mod_path 63 = .ok (.putfield 112, 3) := kq_181 byq_r (a := 0) (b := 112) (by decide +kernel)
theorem d_Mod_path_66 : decode b_Mod_path 66 = .ok (.iconst 0, 1) := kq_3 byq_r (by decide +kernel)
theorem d_Mod_path_67 : decode b_Mod_path 67 = .ok (.istore 6, 2) := kq_54 byq_r (by decide +kernel)
theorem d_Mod_path_69 : decode b_Mod_path 69 = .ok (.iload 6, 2) := kq_21 byq_r (by decide +kernel)
theorem d_Mod_path_71 : decode b_Mod_path 71 = .ok (.iload 5, 2) := kq_21 byq_r (by decide +kernel)
theorem d_Mod_path_73 : decode b_Mod_path 73 = .ok (.if_icmp .ge 90, 3) := kq_162 byq_r (a := 0) (b := 90) (by decide +kernel)
theorem d_Mod_path_76 : decode b_Mod_path 76 = .ok (.iconst 0, 1) := kq_3 byq_r (by decide +kernel)
theorem d_Mod_path_77 : decode b_Mod_path 77 = .ok (.istore 7, 2) := kq_54 byq_r (by decide +kernel)
theorem d_Mod_path_79 : decode b_Mod_path 79 = .ok (.aload_n 0, 1) := kq_42 byq_r (by decide +kernel)
theorem d_Mod_path_80 : decode b_Mod_path 80 = .ok (.aload_n 0, 1) := kq_42 byq_r (by decide +kernel)
theorem d_Mod_path_81 : decode b_Mod_path 81 = .ok (.getfield 9, 3) := kq_180 byq_r (a := 0) (b := 9) (by decide +kernel)
theorem d_Mod_path_84 : decode b_Mod_path 84 = .ok (.iload 4, 2) := kq_21 byq_r (by decide +kernel)
theorem d_Mod_path_86 : decode b_Mod_path 86 = .ok (.iload 7, 2) := kq_21 byq_r (by decide +kernel)
theorem d_Mod_path_88 : decode b_Mod_path 88 = .ok (.invokevirtual 252, 3) := kq_182 byq_r (a := 0) (b := 252) (by decide +kernel)
theorem d_Mod_path_91 : decode b_Mod_path 91 = .ok (.iconst (-1), 1) := kq_2 byq_r (by decide +kernel)
theorem d_Mod_path_92 : decode b_Mod_path 92 = .ok (.if_icmp .eq 32, 3) := kq_159 byq_r (a := 0) (b := 32) (by decide +kernel)
theorem d_Mod_path_95 : decode b_Mod_path 95 = .ok (.aload_n 0, 1) := kq_42 byq_r (by decide +kernel)
theorem d_Mod_path_96 : decode b_Mod_path 96 = .ok (.getfield 63, 3) := kq_180 byq_r (a := 0) (b := 63) (by decide +kernel)
theorem d_Mod_path_99 : decode b_Mod_path 99 = .ok (.aload_n 0, 1) := kq_42 byq_r (by decide +kernel)
theorem d_Mod_path_100 : decode b_Mod_path 100 = .ok (.aload_n 0, 1) := kq_42 byq_r (by decide +kernel)
theorem d_Mod_path_101 : decode b_Mod_path 101 = .ok (.getfield 9, 3) := kq_180 byq_r (a := 0) (b := 9) (by decide +kernel)
theorem d_Mod_path_104 : decode b_Mod_path 104 = .ok (.iload 4, 2) := kq_21 byq_r (by decide +kernel)
theorem d_Mod_path_106 : decode b_Mod_path 106 = .ok (.iload 7, 2) := kq_21 byq_r (by decide +kernel)
theorem d_Mod_path_108 : decode b_Mod_path 108 = .ok (.invokevirtual 252, 3) := kq_182 byq_r (a := 0) (b := 252) (by decide +kernel)
theorem d_Mod_path_111 : decode b_Mod_path 111 = .ok (.iaload, 1) := kq_46 byq_r (by decide +kernel)
theorem d_Mod_path_112 : decode b_Mod_path 112 = .ok (.aload_n 0, 1) := kq_42 byq_r (by decide +kernel)
theorem d_Mod_path_113 : decode b_Mod_path 113 = .ok (.getfield 63, 3) := kq_180 byq_r (a := 0) (b := 63) (by decide +kernel)
theorem d_Mod_path_116 : decode b_Mod_path 116 = .ok (.iload 4, 2) := kq_21 byq_r (by decide +kernel)
theorem d_Mod_path_118 : decode b_Mod_path 118 = .ok (.iaload, 1) := kq_46 byq_r (by decide +kernel)
theorem d_Mod_path_119 : decode b_Mod_path 119 = .ok (.iconst 1, 1) := kq_4 byq_r (by decide +kernel)
theorem d_Mod_path_120 : decode b_Mod_path 120 = .ok (.isub, 1) := kq_100 byq_r (by decide +kernel)
theorem d_Mod_path_121 : decode b_Mod_path 121 = .ok (.if_icmp .eq 9, 3) := kq_159 byq_r (a := 0) (b := 9) (by decide +kernel)
theorem d_Mod_path_124 : decode b_Mod_path 124 = .ok (.iinc 7 1, 3) := kq_132 byq_r (b := 1) (by decide +kernel)
theorem d_Mod_path_127 : decode b_Mod_path 127 = .ok (.goto (-48), 3) := kq_167 byq_r (a := 255) (b := 208) (by decide +kernel)
theorem d_Mod_path_130 : decode b_Mod_path 130 = .ok (.iload 6, 2) := kq_21 byq_r (by decide +kernel)
theorem d_Mod_path_132 : decode b_Mod_path 132 = .ok (.bipush 10, 2) := kq_16 byq_r (b := 10) (by decide +kernel)
theorem d_Mod_path_134 : decode b_Mod_path 134 = .ok (.if_icmp .ge 9, 3) := kq_162 byq_r (a := 0) (b := 9) (by decide +kernel)
theorem d_Mod_path_137 : decode b_Mod_path 137 = .ok (.aload_n 0, 1) := kq_42 byq_r (by decide +kernel)
theorem d_Mod_path_138 : decode b_Mod_path 138 = .ok (.iload 7, 2) := kq_21 byq_r (by decide +kernel)
theorem d_Mod_path_140 : decode b_Mod_path 140 = .ok (.invokevirtual 342, 3) := kq_182 byq_r (a := 1) (b := 86) (by decide +kernel)
theorem d_Mod_path_143 : decode b_Mod_path 143 = .ok (.aload_n 0, 1) := kq_42 byq_r (by decide +kernel)
theorem d_Mod_path_144 : decode b_Mod_path 144 = .ok (.aload_n 0, 1) := kq_42 byq_r (by decide +kernel)
theorem d_Mod_path_145 : decode b_Mod_path 145 = .ok (.getfield 9, 3) := kq_180 byq_r (a := 0) (b := 9) (by decide +kernel)
theorem d_Mod_path_148 : decode b_Mod_path 148 = .ok (.iload 4, 2) := kq_21 byq_r (by decide +kernel)
theorem d_Mod_path_150 : decode b_Mod_path 150 = .ok (.iload 7, 2) := kq_21 byq_r (by decide +kernel)
theorem d_Mod_path_152 : decode b_Mod_path 152 = .ok (.invokevirtual 252, 3) := kq_182 byq_r (a := 0) (b := 252) (by decide +kernel)
theorem d_Mod_path_155 : decode b_Mod_path 155 = .ok (.istore 4, 2) := kq_54 byq_r (by decide +kernel)
theorem d_Mod_path_157 : decode b_Mod_path 157 = .ok (.iinc 6 1, 3) := kq_132 byq_r (b := 1) (by decide +kernel)
theorem d_Mod_path_160 : decode b_Mod_path 160 = .ok (.goto (-91), 3) := kq_167 byq_r (a := 255) (b := 165) (by decide +kernel)
theorem d_Mod_path_163 : decode b_Mod_path 163 = .ok (.iload 5, 2) := kq_21 byq_r (by decide +kernel)
theorem d_Mod_path_165 : decode b_Mod_path 165 = .ok (.ireturn, 1) := kq_172 byq_r (by decide +kernel)
theorem d_Mod_lowerBoth_0 : decode b_Mod_lowerBoth 0 = .ok (.iload_n 1, 1) := kq_27 byq_r (by decide +kernel)
theorem d_Mod_lowerBoth_1 : decode b_Mod_lowerBoth 1 = .ok (.iconst (-1), 1) := kq_2 byq_r (by decide +kernel)
theorem d_Mod_lowerBoth_2 : decode b_Mod_lowerBoth 2 = .ok (.if_icmp .eq 13, 3) := kq_159 byq_r (a := 0) (b := 13) (by decide +kernel)
theorem d_Mod_lowerBoth_5 : decode b_Mod_lowerBoth 5 = .ok (.aload_n 0, 1) := kq_42 byq_r (by decide +kernel)
theorem d_Mod_lowerBoth_6 : decode b_Mod_lowerBoth 6 = .ok (.getfield 73, 3) := kq_180 byq_r (a := 0) (b := 73) (by decide +kernel)
theorem d_Mod_lowerBoth_9 : decode b_Mod_lowerBoth 9 = .ok (.iload_n 1, 1) := kq_27 byq_r (by decide +kernel)
theorem d_Mod_lowerBoth_10 : decode b_Mod_lowerBoth 10 = .ok (.iaload, 1) := kq_46 byq_r (by decide +kernel)
theorem d_Mod_lowerBoth_11 : decode b_Mod_lowerBoth 11 = .ok (.iload_n 2, 1) := kq_28 byq_r (by decide +kernel)
theorem d_Mod_lowerBoth_12 : decode b_Mod_lowerBoth 12 = .ok (.if_icmp .gt 5, 3) := kq_163 byq_r (a := 0) (b := 5) (by decide +kernel)
theorem d_Mod_lowerBoth_15 : decode b_Mod_lowerBoth 15 = .ok (.iconst 0, 1) := kq_3 byq_r (by decide +kernel)
theorem d_Mod_lowerBoth_16 : decode b_Mod_lowerBoth 16 = .ok (.ireturn, 1) := kq_172 byq_r (by decide +kernel)
theorem d_Mod_lowerBoth_17 : decode b_Mod_lowerBoth 17 = .ok (.aload_n 0, 1) := kq_42 byq_r (by decide +kernel)
theorem d_Mod_lowerBoth_18 : decode b_Mod_lowerBoth 18 = .ok (.getfield 73, 3) := kq_180 byq_r (a := 0) (b := 73) (by decide +kernel)
theorem d_Mod_lowerBoth_21 : decode b_Mod_lowerBoth 21 = .ok (.iload_n 1, 1) := kq_27 byq_r (by decide +kernel)
theorem d_Mod_lowerBoth_22 : decode b_Mod_lowerBoth 22 = .ok (.iload_n 2, 1) := kq_28 byq_r (by decide +kernel)
theorem d_Mod_lowerBoth_23 : decode b_Mod_lowerBoth 23 = .ok (.iastore, 1) := kq_79 byq_r (by decide +kernel)
theorem d_Mod_lowerBoth_24 : decode b_Mod_lowerBoth 24 = .ok (.iconst 1, 1) := kq_4 byq_r (by decide +kernel)
theorem d_Mod_lowerBoth_25 : decode b_Mod_lowerBoth 25 = .ok (.ireturn, 1) := kq_172 byq_r (by decide +kernel)
def j_Mod_known_44_22 (v1 : Int32) (v2 : Int32) (M : Mem) : Option ((Int32 × Int32 × Mem) ⊕ ((Int32 × Mem))) :=
  if (M.1 176 (93 : Int32).toNatClampNeg) = (((1 : Int32) <<< ((M.1 162 4) &&& 31)) - (1 : Int32)) then
  some (.inl (v2, (v2 + (1 : Int32)), M))
  else
  some (.inl (v1, (v2 + (1 : Int32)), M))
theorem j_Mod_known_44_22_ok {E : Ev} {G : Gw} {d : Nat} {post : Int32 → Mem → Prop} (X : Cx E G b_Mod_known "WomenByTheRoofsModel" 3 d (some .int)) (hD : 403 ≤ d)  (v1 : Int32) (v2 : Int32)  (M : Mem)  (o : (Int32 × Int32 × Mem) ⊕ ((Int32 × Mem))) (h : j_Mod_known_44_22 v1 v2 M = some o) (kc : ∀ s9 : Int32 × Int32 × Mem, o = .inl s9 → V E (0, 0) G 3 (QI E G post) s9.2.2 22 [(0, .ref (G.2.2 + 162)), (1, .int s9.1), (2, .int s9.2.1)] []) (kx0 : ∀ x9 : Int32 × Mem, o = .inr x9 → V E (0, 0) G 3 (QI E G post) x9.2 70 [(0, .ref (G.2.2 + 162)), (1, .int x9.1)] []) : V E (0, 0) G 3 (QI E G post) M 44 [(0, .ref (G.2.2 + 162)), (1, .int v1), (2, .int v2)] [] := by
  unfold j_Mod_known_44_22 at h
  refine V_aload_n (n := 0) X d_Mod_known_44 rfl rfl rfl ?_
  refine V_getr (k2 := 176) X fo_Mod_60 kd_162 rfl rf_162_34 d_Mod_known_45 rfl ?_
  refine V_bipush (v := 93) X d_Mod_known_48 (by decide) rfl ?_
  refine V_iald X kd_176 (inb_in ln_176 (by decide)) d_Mod_known_50 rfl ?_
  refine V_iconst (v := 1) X d_Mod_known_51 (by decide) rfl ?_
  refine V_aload_n (n := 0) X d_Mod_known_52 rfl rfl rfl ?_
  refine V_geti X fo_Mod_123 kd_162 rfl d_Mod_known_53 rfl ?_
  refine V_ishl X d_Mod_known_56 rfl ?_
  refine V_iconst (v := 1) X d_Mod_known_57 (by decide) rfl ?_
  refine V_isub X d_Mod_known_58 rfl ?_
  refine V_icmp_ne (tgt := 64) X d_Mod_known_59 (by decide) rfl (fun c3 => ?_) (fun c3 => ?_)
  · rw [if_neg c3] at h
    refine V_iinc (n := 2) (v := (v2 + (1 : Int32))) (lv' := [(2, .int (v2 + (1 : Int32))), (0, .ref (G.2.2 + 162)), (1, .int v1)]) X d_Mod_known_64 rfl rfl (by decide) rfl rfl ?_
    refine V_goto (pc' := 22) X d_Mod_known_67 (by decide) ?_
    refine V_sub (lv' := [(0, .ref (G.2.2 + 162)), (1, .int v1), (2, .int (v2 + (1 : Int32)))]) [1, 2, 0] rfl ?_
    exact kc (v1, (v2 + (1 : Int32)), M) (Option.some.inj h).symm
  · rw [if_pos c3] at h
    refine V_iload_n (n := 2) X d_Mod_known_62 rfl rfl rfl ?_
    refine V_istore_n (lv' := [(1, .int v2), (0, .ref (G.2.2 + 162)), (2, .int v2)]) X d_Mod_known_63 rfl (by decide) rfl rfl ?_
    refine V_iinc (n := 2) (v := (v2 + (1 : Int32))) (lv' := [(2, .int (v2 + (1 : Int32))), (1, .int v2), (0, .ref (G.2.2 + 162))]) X d_Mod_known_64 rfl rfl (by decide) rfl rfl ?_
    refine V_goto (pc' := 22) X d_Mod_known_67 (by decide) ?_
    refine V_sub (lv' := [(0, .ref (G.2.2 + 162)), (1, .int v2), (2, .int (v2 + (1 : Int32)))]) [2, 1, 0] rfl ?_
    exact kc (v2, (v2 + (1 : Int32)), M) (Option.some.inj h).symm
def lb_Mod_known_22  (s : Int32 × Int32 × Mem) : Option ((Int32 × Int32 × Mem) ⊕ ((Int32 × Mem))) :=
  if (60 : Int32) < s.2.1 then
  some (.inr (s.1, s.2.2))
  else
  if 0 ≤ s.1 then
  some (.inr (s.1, s.2.2))
  else
  if s.2.1 ≤ 0 then
  j_Mod_known_44_22 s.1 s.2.1 s.2.2
  else
  Option.bind (f_Mod_goMinute 176 s.2.2) fun x4 =>
  j_Mod_known_44_22 s.1 s.2.1 x4
theorem lb_Mod_known_22_ok {E : Ev} {G : Gw} {d : Nat} {post : Int32 → Mem → Prop} (X : Cx E G b_Mod_known "WomenByTheRoofsModel" 3 d (some .int)) (hD : 403 ≤ d)     (s : Int32 × Int32 × Mem) (o : (Int32 × Int32 × Mem) ⊕ ((Int32 × Mem))) (h : lb_Mod_known_22 s = some o) (kc : ∀ s9 : Int32 × Int32 × Mem, o = .inl s9 → V E (0, 0) G 3 (QI E G post) s9.2.2 22 [(0, .ref (G.2.2 + 162)), (1, .int s9.1), (2, .int s9.2.1)] []) (kx0 : ∀ x9 : Int32 × Mem, o = .inr x9 → V E (0, 0) G 3 (QI E G post) x9.2 70 [(0, .ref (G.2.2 + 162)), (1, .int x9.1)] []) : V E (0, 0) G 3 (QI E G post) s.2.2 22 [(0, .ref (G.2.2 + 162)), (1, .int s.1), (2, .int s.2.1)] [] := by
  unfold lb_Mod_known_22 at h
  refine V_iload_n (n := 2) X d_Mod_known_22 rfl rfl rfl ?_
  refine V_bipush (v := 60) X d_Mod_known_23 (by decide) rfl ?_
  refine V_icmp_gt (tgt := 70) X d_Mod_known_25 (by decide) rfl (fun c7 => ?_) (fun c7 => ?_)
  · rw [if_pos c7] at h
    refine V_sub (lv' := [(0, .ref (G.2.2 + 162)), (1, .int s.1)]) [0, 1] rfl ?_
    exact kx0 (s.1, s.2.2) (Option.some.inj h).symm
  · rw [if_neg c7] at h
    refine V_iload_n (n := 1) X d_Mod_known_28 rfl rfl rfl ?_
    refine V_if_ge (tgt := 70) X d_Mod_known_29 (by decide) rfl (fun c6 => ?_) (fun c6 => ?_)
    · rw [if_pos c6] at h
      refine V_sub (lv' := [(0, .ref (G.2.2 + 162)), (1, .int s.1)]) [0, 1] rfl ?_
      exact kx0 (s.1, s.2.2) (Option.some.inj h).symm
    · rw [if_neg c6] at h
      refine V_iload_n (n := 2) X d_Mod_known_32 rfl rfl rfl ?_
      refine V_if_le (tgt := 44) X d_Mod_known_33 (by decide) rfl (fun c5 => ?_) (fun c5 => ?_)
      · rw [if_pos c5] at h
        exact j_Mod_known_44_22_ok X hD s.1 s.2.1 s.2.2 _ h kc kx0
      · rw [if_neg c5] at h
        refine V_aload_n (n := 0) X d_Mod_known_36 rfl rfl rfl ?_
        refine V_aload_n (n := 0) X d_Mod_known_37 rfl rfl rfl ?_
        refine V_getr (k2 := 176) X fo_Mod_60 kd_162 rfl rf_162_34 d_Mod_known_38 rfl ?_
        obtain ⟨x4, hx4, h⟩ := ob_s h
        refine V_cv (As := [.ref (G.2.2 + 176)]) X (Z0 E) ml_Mod_339 yq_Mod_goMinute (c_Mod_goMinute E.2.1 G 176 s.2.2 x4 hx4 _ (Nat.le_refl _)) kd_162 rfl rfl (by omega) rfl (Nat.le_of_ble_eq_true rfl) d_Mod_known_41 rfl (fun M9 hq => ?_)
        rw [hq]
        exact j_Mod_known_44_22_ok X hD s.1 s.2.1 x4 _ h kc kx0
theorem lp_Mod_known_22_ok {E : Ev} {G : Gw} {d : Nat} {post : Int32 → Mem → Prop} (X : Cx E G b_Mod_known "WomenByTheRoofsModel" 3 d (some .int)) (hD : 403 ≤ d)     (n9 : Nat) (s : Int32 × Int32 × Mem) (x : (Int32 × Mem)) (h : iter (lb_Mod_known_22) n9 s = some x) (kx0 : ∀ x9 : Int32 × Mem, x = x9 → V E (0, 0) G 3 (QI E G post) x9.2 70 [(0, .ref (G.2.2 + 162)), (1, .int x9.1)] []) : V E (0, 0) G 3 (QI E G post) s.2.2 22 [(0, .ref (G.2.2 + 162)), (1, .int s.1), (2, .int s.2.1)] [] :=
  iter_P (P := fun s : Int32 × Int32 × Mem => V E (0, 0) G 3 (QI E G post) s.2.2 22 [(0, .ref (G.2.2 + 162)), (1, .int s.1), (2, .int s.2.1)] []) (fun s o hb kc ky => lb_Mod_known_22_ok X hD  s o hb kc (fun x9 e9 => kx0 x9 (ky _ e9).symm)) n9 s h
def j_Mod_known_70 (v1 : Int32) (M : Mem) : Option (Int32 × Mem) :=
  mem_ (s_i M 162 12 (0 : Int32)) fun M9 =>
  Option.bind (f_Mod_put (M9.1 176 (93 : Int32).toNatClampNeg) M9) fun x10 =>
  some (v1, x10)
theorem j_Mod_known_70_ok {E : Ev} {G : Gw} {d : Nat} {post : Int32 → Mem → Prop} (X : Cx E G b_Mod_known "WomenByTheRoofsModel" 3 d (some .int)) (hD : 403 ≤ d)  (v1 : Int32)  (M : Mem)  (o : Int32 × Mem) (h : j_Mod_known_70 v1 M = some o) (kr : ∀ x9 : Int32 × Mem, o = x9 → post x9.1 x9.2) : V E (0, 0) G 3 (QI E G post) M 70 [(0, .ref (G.2.2 + 162)), (1, .int v1)] [] := by
  unfold j_Mod_known_70 at h
  refine V_aload_n (n := 0) X d_Mod_known_70 rfl rfl rfl ?_
  refine V_iconst (v := 0) X d_Mod_known_71 (by decide) rfl ?_
  obtain ⟨M9, eM9, h⟩ := memS h
  refine V_putI X fp_Mod_112 kd_162 rfl d_Mod_known_72 rfl ?_
  rw [← eM9]
  refine V_aload_n (n := 0) X d_Mod_known_75 rfl rfl rfl ?_
  refine V_aload_n (n := 0) X d_Mod_known_76 rfl rfl rfl ?_
  refine V_getr (k2 := 176) X fo_Mod_60 kd_162 rfl rf_162_34 d_Mod_known_77 rfl ?_
  refine V_bipush (v := 93) X d_Mod_known_80 (by decide) rfl ?_
  refine V_iald X kd_176 (inb_in ln_176 (by decide)) d_Mod_known_82 rfl ?_
  obtain ⟨x10, hx10, h⟩ := ob_s h
  refine V_cv (As := [.int (M9.1 176 (93 : Int32).toNatClampNeg)]) X (Z0 E) ml_Mod_342 yq_Mod_put (c_Mod_put E.2.1 G (M9.1 176 (93 : Int32).toNatClampNeg) M9 x10 hx10 _ (Nat.le_refl _)) kd_162 rfl rfl (by omega) rfl (Nat.le_of_ble_eq_true rfl) d_Mod_known_83 rfl (fun M9 hq => ?_)
  rw [hq]
  refine V_iload_n (n := 1) X d_Mod_known_86 rfl rfl rfl ?_
  exact V_iret X (kr (v1, x10) (Option.some.inj h).symm) d_Mod_known_87
def f_Mod_known (M : Mem) : Option (Int32 × Mem) :=
  mem_ (s_i M 162 13 (0 : Int32)) fun M1 =>
  Option.bind (f_Mod_lay 163 176 (0 : Int32) M1) fun x2 =>
  Option.bind (iter (lb_Mod_known_22) FU ((-2 : Int32), (0 : Int32), x2)) fun x8 =>
  j_Mod_known_70 x8.1 x8.2
theorem c_Mod_known (l : Launch) (G : Gw)   (M : Mem) (x : Int32 × Mem) (h : f_Mod_known M = some x) (d : Nat) (hD : 403 ≤ d) : Ci l G y_Mod_known b_Mod_known 3 (some .int) d [.ref (G.2.2 + 162)] M (fun r9 M9 => r9 = x.1 ∧ M9 = x.2) := by
  refine Ci_of (by decide) (Nat.le_of_ble_eq_true rfl) (fun E hE X => ?_)
  subst hE
  have kr : ∀ x9 : Int32 × Mem, x = x9 → (fun r9 M9 => r9 = x.1 ∧ M9 = x.2) x9.1 x9.2 := fun x9 e9 => by subst e9; exact ⟨rfl, rfl⟩
  unfold f_Mod_known at h
  refine V_aload_n (n := 0) X d_Mod_known_0 rfl rfl rfl ?_
  refine V_iconst (v := 0) X d_Mod_known_1 (by decide) rfl ?_
  obtain ⟨M1, eM1, h⟩ := memS h
  refine V_putI X fp_Mod_109 kd_162 rfl d_Mod_known_2 rfl ?_
  rw [← eM1]
  refine V_aload_n (n := 0) X d_Mod_known_5 rfl rfl rfl ?_
  refine V_getr (k2 := 163) X fo_Mod_9 kd_162 rfl rf_162_0 d_Mod_known_6 rfl ?_
  refine V_aload_n (n := 0) X d_Mod_known_9 rfl rfl rfl ?_
  refine V_getr (k2 := 176) X fo_Mod_60 kd_162 rfl rf_162_34 d_Mod_known_10 rfl ?_
  refine V_iconst (v := 0) X d_Mod_known_13 (by decide) rfl ?_
  obtain ⟨x2, hx2, h⟩ := ob_s h
  refine V_sv (As := [.ref (G.2.2 + 163), .ref (G.2.2 + 176), .int (0 : Int32)]) X (Z0 E) ml_Mod_286 yq_Mod_lay (c_Mod_lay E.2.1 G 163 176 (0 : Int32) M1 x2 hx2 _ (Nat.le_refl _)) rfl (by omega) rfl (Nat.le_of_ble_eq_true rfl) d_Mod_known_14 rfl (fun M9 hq => ?_)
  rw [hq]
  refine V_bipush (v := -2) X d_Mod_known_17 (by decide) rfl ?_
  refine V_istore_n (lv' := [(1, .int (-2 : Int32)), (0, .ref (G.2.2 + 162))]) X d_Mod_known_19 rfl (by decide) rfl rfl ?_
  refine V_iconst (v := 0) X d_Mod_known_20 (by decide) rfl ?_
  refine V_istore_n (lv' := [(2, .int (0 : Int32)), (1, .int (-2 : Int32)), (0, .ref (G.2.2 + 162))]) X d_Mod_known_21 rfl (by decide) rfl rfl ?_
  refine V_sub (lv' := [(0, .ref (G.2.2 + 162)), (1, .int (-2 : Int32)), (2, .int (0 : Int32))]) [2, 1, 0] rfl ?_
  obtain ⟨x8, hx8, h⟩ := ob_s h
  refine lp_Mod_known_22_ok X hD  _ _ _ hx8 (fun x9 e9 => ?_)
  subst e9
  exact j_Mod_known_70_ok X hD x8.1 x8.2 _ h kr
def lb_Mod_gossip_93 (v1 : Int32) (v2 : Int32) (v3 : Int32) (v4 : Int32) (s : Int32 × Mem) : Option ((Int32 × Mem) ⊕ ((Mem))) :=
  if v1 ≤ s.1 then
  some (.inr s.2)
  else
  Option.bind (f_Mod_goMinute 176 s.2) fun x4 =>
  some (.inl ((s.1 + (1 : Int32)), x4))
theorem lb_Mod_gossip_93_ok {E : Ev} {G : Gw} {d : Nat} {post : Int32 → Mem → Prop} (X : Cx E G b_Mod_gossip "WomenByTheRoofsModel" 6 d (some .int)) (hD : 403 ≤ d)  (v1 : Int32) (v2 : Int32) (v3 : Int32) (v4 : Int32)   (s : Int32 × Mem) (o : (Int32 × Mem) ⊕ ((Mem))) (h : lb_Mod_gossip_93 v1 v2 v3 v4 s = some o) (kc : ∀ s9 : Int32 × Mem, o = .inl s9 → V E (0, 0) G 6 (QI E G post) s9.2 93 [(0, .ref (G.2.2 + 162)), (1, .int v1), (2, .int v2), (3, .int v3), (4, .int v4), (5, .int s9.1)] []) (kx0 : ∀ x9 : Mem, o = .inr x9 → V E (0, 0) G 6 (QI E G post) x9 113 [(0, .ref (G.2.2 + 162)), (1, .int v1), (2, .int v2), (3, .int v3), (4, .int v4)] []) : V E (0, 0) G 6 (QI E G post) s.2 93 [(0, .ref (G.2.2 + 162)), (1, .int v1), (2, .int v2), (3, .int v3), (4, .int v4), (5, .int s.1)] [] := by
  unfold lb_Mod_gossip_93 at h
  refine V_iload (n := 5) X d_Mod_gossip_93 rfl rfl ?_
  refine V_iload_n (n := 1) X d_Mod_gossip_95 rfl rfl rfl ?_
  refine V_icmp_ge (tgt := 113) X d_Mod_gossip_96 (by decide) rfl (fun c5 => ?_) (fun c5 => ?_)
  · rw [if_pos c5] at h
    refine V_sub (lv' := [(0, .ref (G.2.2 + 162)), (1, .int v1), (2, .int v2), (3, .int v3), (4, .int v4)]) [0, 1, 2, 3, 4] rfl ?_
    exact kx0 s.2 (Option.some.inj h).symm
  · rw [if_neg c5] at h
    refine V_aload_n (n := 0) X d_Mod_gossip_99 rfl rfl rfl ?_
    refine V_aload_n (n := 0) X d_Mod_gossip_100 rfl rfl rfl ?_
    refine V_getr (k2 := 176) X fo_Mod_60 kd_162 rfl rf_162_34 d_Mod_gossip_101 rfl ?_
    obtain ⟨x4, hx4, h⟩ := ob_s h
    refine V_cv (As := [.ref (G.2.2 + 176)]) X (Z0 E) ml_Mod_339 yq_Mod_goMinute (c_Mod_goMinute E.2.1 G 176 s.2 x4 hx4 _ (Nat.le_refl _)) kd_162 rfl rfl (by omega) rfl (Nat.le_of_ble_eq_true rfl) d_Mod_gossip_104 rfl (fun M9 hq => ?_)
    rw [hq]
    refine V_iinc (n := 5) (v := (s.1 + (1 : Int32))) (lv' := [(5, .int (s.1 + (1 : Int32))), (0, .ref (G.2.2 + 162)), (1, .int v1), (2, .int v2), (3, .int v3), (4, .int v4)]) X d_Mod_gossip_107 rfl rfl (by decide) rfl rfl ?_
    refine V_goto (pc' := 93) X d_Mod_gossip_110 (by decide) ?_
    refine V_sub (lv' := [(0, .ref (G.2.2 + 162)), (1, .int v1), (2, .int v2), (3, .int v3), (4, .int v4), (5, .int (s.1 + (1 : Int32)))]) [1, 2, 3, 4, 5, 0] rfl ?_
    exact kc ((s.1 + (1 : Int32)), x4) (Option.some.inj h).symm
theorem lp_Mod_gossip_93_ok {E : Ev} {G : Gw} {d : Nat} {post : Int32 → Mem → Prop} (X : Cx E G b_Mod_gossip "WomenByTheRoofsModel" 6 d (some .int)) (hD : 403 ≤ d)  (v1 : Int32) (v2 : Int32) (v3 : Int32) (v4 : Int32)   (n9 : Nat) (s : Int32 × Mem) (x : (Mem)) (h : iter (lb_Mod_gossip_93 v1 v2 v3 v4) n9 s = some x) (kx0 : ∀ x9 : Mem, x = x9 → V E (0, 0) G 6 (QI E G post) x9 113 [(0, .ref (G.2.2 + 162)), (1, .int v1), (2, .int v2), (3, .int v3), (4, .int v4)] []) : V E (0, 0) G 6 (QI E G post) s.2 93 [(0, .ref (G.2.2 + 162)), (1, .int v1), (2, .int v2), (3, .int v3), (4, .int v4), (5, .int s.1)] [] :=
  iter_P (P := fun s : Int32 × Mem => V E (0, 0) G 6 (QI E G post) s.2 93 [(0, .ref (G.2.2 + 162)), (1, .int v1), (2, .int v2), (3, .int v3), (4, .int v4), (5, .int s.1)] []) (fun s o hb kc ky => lb_Mod_gossip_93_ok X hD v1 v2 v3 v4 s o hb kc (fun x9 e9 => kx0 x9 (ky _ e9).symm)) n9 s h
def j_Mod_gossip_58_25 (v1 : Int32) (v2 : Int32) (v3 : Int32) (v4 : Int32) (M : Mem) : Option ((Int32 × Int32 × Int32 × Mem) ⊕ ((Int32 × Int32 × Mem))) :=
  Option.bind (f_Mod_lay 163 176 (0 : Int32) M) fun x3 =>
  if v4 = (-1 : Int32) then
  Option.bind (iter (lb_Mod_gossip_93 v1 v2 v3 v4) FU ((0 : Int32), x3)) fun x6 =>
  Option.bind (f_JInteger_bitCount (x6.1 176 (93 : Int32).toNatClampNeg)) fun x7 =>
  if v3 < x7 then
  some (.inl (v4, x7, (v4 + (1 : Int32)), x6))
  else
  some (.inl (v2, v3, (v4 + (1 : Int32)), x6))
  else
  mem_ (s_i x3 176 (93 : Int32).toNatClampNeg ((x3.1 176 (93 : Int32).toNatClampNeg) ||| ((1 : Int32) <<< (v4 &&& 31)))) fun M9 =>
  Option.bind (iter (lb_Mod_gossip_93 v1 v2 v3 v4) FU ((0 : Int32), M9)) fun x10 =>
  Option.bind (f_JInteger_bitCount (x10.1 176 (93 : Int32).toNatClampNeg)) fun x11 =>
  if v3 < x11 then
  some (.inl (v4, x11, (v4 + (1 : Int32)), x10))
  else
  some (.inl (v2, v3, (v4 + (1 : Int32)), x10))
theorem j_Mod_gossip_58_25_ok {E : Ev} {G : Gw} {d : Nat} {post : Int32 → Mem → Prop} (X : Cx E G b_Mod_gossip "WomenByTheRoofsModel" 6 d (some .int)) (hD : 403 ≤ d)  (v1 : Int32) (v2 : Int32) (v3 : Int32) (v4 : Int32)  (M : Mem)  (o : (Int32 × Int32 × Int32 × Mem) ⊕ ((Int32 × Int32 × Mem))) (h : j_Mod_gossip_58_25 v1 v2 v3 v4 M = some o) (kc : ∀ s9 : Int32 × Int32 × Int32 × Mem, o = .inl s9 → V E (0, 0) G 6 (QI E G post) s9.2.2.2 25 [(0, .ref (G.2.2 + 162)), (1, .int v1), (2, .int s9.1), (3, .int s9.2.1), (4, .int s9.2.2.1)] []) (kx0 : ∀ x9 : Int32 × Int32 × Mem, o = .inr x9 → V E (0, 0) G 6 (QI E G post) x9.2.2 146 [(0, .ref (G.2.2 + 162)), (2, .int x9.1), (3, .int x9.2.1)] []) : V E (0, 0) G 6 (QI E G post) M 58 [(0, .ref (G.2.2 + 162)), (1, .int v1), (2, .int v2), (3, .int v3), (4, .int v4)] [] := by
  unfold j_Mod_gossip_58_25 at h
  refine V_aload_n (n := 0) X d_Mod_gossip_58 rfl rfl rfl ?_
  refine V_getr (k2 := 163) X fo_Mod_9 kd_162 rfl rf_162_0 d_Mod_gossip_59 rfl ?_
  refine V_aload_n (n := 0) X d_Mod_gossip_62 rfl rfl rfl ?_
  refine V_getr (k2 := 176) X fo_Mod_60 kd_162 rfl rf_162_34 d_Mod_gossip_63 rfl ?_
  refine V_iconst (v := 0) X d_Mod_gossip_66 (by decide) rfl ?_
  obtain ⟨x3, hx3, h⟩ := ob_s h
  refine V_sv (As := [.ref (G.2.2 + 163), .ref (G.2.2 + 176), .int (0 : Int32)]) X (Z0 E) ml_Mod_286 yq_Mod_lay (c_Mod_lay E.2.1 G 163 176 (0 : Int32) M x3 hx3 _ (Nat.le_refl _)) rfl (by omega) rfl (Nat.le_of_ble_eq_true rfl) d_Mod_gossip_67 rfl (fun M9 hq => ?_)
  rw [hq]
  refine V_iload (n := 4) X d_Mod_gossip_70 rfl rfl ?_
  refine V_iconst (v := -1) X d_Mod_gossip_72 (by decide) rfl ?_
  refine V_icmp_eq (tgt := 90) X d_Mod_gossip_73 (by decide) rfl (fun c13 => ?_) (fun c13 => ?_)
  · rw [if_pos c13] at h
    refine V_iconst (v := 0) X d_Mod_gossip_90 (by decide) rfl ?_
    refine V_istore (lv' := [(5, .int (0 : Int32)), (0, .ref (G.2.2 + 162)), (1, .int v1), (2, .int v2), (3, .int v3), (4, .int v4)]) X d_Mod_gossip_91 (by decide) rfl rfl ?_
    refine V_sub (lv' := [(0, .ref (G.2.2 + 162)), (1, .int v1), (2, .int v2), (3, .int v3), (4, .int v4), (5, .int (0 : Int32))]) [1, 2, 3, 4, 5, 0] rfl ?_
    obtain ⟨x6, hx6, h⟩ := ob_s h
    refine lp_Mod_gossip_93_ok X hD v1 v2 v3 v4 _ _ _ hx6 (fun x9 e9 => ?_)
    subst e9
    refine V_aload_n (n := 0) X d_Mod_gossip_113 rfl rfl rfl ?_
    refine V_getr (k2 := 176) X fo_Mod_60 kd_162 rfl rf_162_34 d_Mod_gossip_114 rfl ?_
    refine V_bipush (v := 93) X d_Mod_gossip_117 (by decide) rfl ?_
    refine V_iald X kd_176 (inb_in ln_176 (by decide)) d_Mod_gossip_119 rfl ?_
    obtain ⟨x7, hx7, h⟩ := ob_s h
    refine V_si (As := [.int (x6.1 176 (93 : Int32).toNatClampNeg)]) X (Z0 E) ml_Mod_310 yq_JInteger_bitCount (c_JInteger_bitCount E.2.1 G (x6.1 176 (93 : Int32).toNatClampNeg) x6 x7 hx7 _ (Nat.le_refl _)) rfl (by omega) rfl (Nat.le_of_ble_eq_true rfl) d_Mod_gossip_120 rfl (fun r9 M9 hq => ?_)
    rw [hq.1, hq.2]
    refine V_istore (lv' := [(5, .int x7), (0, .ref (G.2.2 + 162)), (1, .int v1), (2, .int v2), (3, .int v3), (4, .int v4)]) X d_Mod_gossip_123 (by decide) rfl rfl ?_
    refine V_iload (n := 0) X d_Mod_gossip_125 rfl rfl ?_
    refine V_iload_n (n := 4) X d_Mod_gossip_127 rfl rfl rfl ?_
    refine V_icmp_gt (tgt := 134) X d_Mod_gossip_128 (by decide) rfl (fun c8 => ?_) (fun c8 => ?_)
    · rw [if_pos c8] at h
      refine V_iload (n := 5) X d_Mod_gossip_134 rfl rfl ?_
      refine V_istore_n (lv' := [(2, .int v4), (5, .int x7), (0, .ref (G.2.2 + 162)), (1, .int v1), (3, .int v3), (4, .int v4)]) X d_Mod_gossip_136 rfl (by decide) rfl rfl ?_
      refine V_iload (n := 1) X d_Mod_gossip_137 rfl rfl ?_
      refine V_istore_n (lv' := [(3, .int x7), (2, .int v4), (5, .int x7), (0, .ref (G.2.2 + 162)), (1, .int v1), (4, .int v4)]) X d_Mod_gossip_139 rfl (by decide) rfl rfl ?_
      refine V_iinc (n := 5) (v := (v4 + (1 : Int32))) (lv' := [(4, .int (v4 + (1 : Int32))), (3, .int x7), (2, .int v4), (5, .int x7), (0, .ref (G.2.2 + 162)), (1, .int v1)]) X d_Mod_gossip_140 rfl rfl (by decide) rfl rfl ?_
      refine V_goto (pc' := 25) X d_Mod_gossip_143 (by decide) ?_
      refine V_sub (lv' := [(0, .ref (G.2.2 + 162)), (1, .int v1), (2, .int v4), (3, .int x7), (4, .int (v4 + (1 : Int32)))]) [4, 5, 2, 1, 0] rfl ?_
      exact kc (v4, x7, (v4 + (1 : Int32)), x6) (Option.some.inj h).symm
    · rw [if_neg c8] at h
      refine V_goto (pc' := 140) X d_Mod_gossip_131 (by decide) ?_
      refine V_iinc (n := 5) (v := (v4 + (1 : Int32))) (lv' := [(4, .int (v4 + (1 : Int32))), (5, .int x7), (0, .ref (G.2.2 + 162)), (1, .int v1), (2, .int v2), (3, .int v3)]) X d_Mod_gossip_140 rfl rfl (by decide) rfl rfl ?_
      refine V_goto (pc' := 25) X d_Mod_gossip_143 (by decide) ?_
      refine V_sub (lv' := [(0, .ref (G.2.2 + 162)), (1, .int v1), (2, .int v2), (3, .int v3), (4, .int (v4 + (1 : Int32)))]) [2, 3, 4, 5, 0] rfl ?_
      exact kc (v2, v3, (v4 + (1 : Int32)), x6) (Option.some.inj h).symm
  · rw [if_neg c13] at h
    refine V_aload_n (n := 0) X d_Mod_gossip_76 rfl rfl rfl ?_
    refine V_getr (k2 := 176) X fo_Mod_60 kd_162 rfl rf_162_34 d_Mod_gossip_77 rfl ?_
    refine V_bipush (v := 93) X d_Mod_gossip_80 (by decide) rfl ?_
    refine V_dup2 X d_Mod_gossip_82 rfl rfl rfl ?_
    refine V_iald X kd_176 (inb_in ln_176 (by decide)) d_Mod_gossip_83 rfl ?_
    refine V_iconst (v := 1) X d_Mod_gossip_84 (by decide) rfl ?_
    refine V_iload (n := 4) X d_Mod_gossip_85 rfl rfl ?_
    refine V_ishl X d_Mod_gossip_87 rfl ?_
    refine V_ior X d_Mod_gossip_88 rfl ?_
    obtain ⟨M9, eM9, h⟩ := memS h
    refine V_iast X kd_176 (inb_in ln_176 (by decide)) d_Mod_gossip_89 rfl ?_
    rw [← eM9]
    refine V_iconst (v := 0) X d_Mod_gossip_90 (by decide) rfl ?_
    refine V_istore (lv' := [(5, .int (0 : Int32)), (0, .ref (G.2.2 + 162)), (1, .int v1), (2, .int v2), (3, .int v3), (4, .int v4)]) X d_Mod_gossip_91 (by decide) rfl rfl ?_
    refine V_sub (lv' := [(0, .ref (G.2.2 + 162)), (1, .int v1), (2, .int v2), (3, .int v3), (4, .int v4), (5, .int (0 : Int32))]) [1, 2, 3, 4, 5, 0] rfl ?_
    obtain ⟨x10, hx10, h⟩ := ob_s h
    refine lp_Mod_gossip_93_ok X hD v1 v2 v3 v4 _ _ _ hx10 (fun x9 e9 => ?_)
    subst e9
    refine V_aload_n (n := 0) X d_Mod_gossip_113 rfl rfl rfl ?_
    refine V_getr (k2 := 176) X fo_Mod_60 kd_162 rfl rf_162_34 d_Mod_gossip_114 rfl ?_
    refine V_bipush (v := 93) X d_Mod_gossip_117 (by decide) rfl ?_
    refine V_iald X kd_176 (inb_in ln_176 (by decide)) d_Mod_gossip_119 rfl ?_
    obtain ⟨x11, hx11, h⟩ := ob_s h
    refine V_si (As := [.int (x10.1 176 (93 : Int32).toNatClampNeg)]) X (Z0 E) ml_Mod_310 yq_JInteger_bitCount (c_JInteger_bitCount E.2.1 G (x10.1 176 (93 : Int32).toNatClampNeg) x10 x11 hx11 _ (Nat.le_refl _)) rfl (by omega) rfl (Nat.le_of_ble_eq_true rfl) d_Mod_gossip_120 rfl (fun r9 M9 hq => ?_)
    rw [hq.1, hq.2]
    refine V_istore (lv' := [(5, .int x11), (0, .ref (G.2.2 + 162)), (1, .int v1), (2, .int v2), (3, .int v3), (4, .int v4)]) X d_Mod_gossip_123 (by decide) rfl rfl ?_
    refine V_iload (n := 0) X d_Mod_gossip_125 rfl rfl ?_
    refine V_iload_n (n := 4) X d_Mod_gossip_127 rfl rfl rfl ?_
    refine V_icmp_gt (tgt := 134) X d_Mod_gossip_128 (by decide) rfl (fun c12 => ?_) (fun c12 => ?_)
    · rw [if_pos c12] at h
      refine V_iload (n := 5) X d_Mod_gossip_134 rfl rfl ?_
      refine V_istore_n (lv' := [(2, .int v4), (5, .int x11), (0, .ref (G.2.2 + 162)), (1, .int v1), (3, .int v3), (4, .int v4)]) X d_Mod_gossip_136 rfl (by decide) rfl rfl ?_
      refine V_iload (n := 1) X d_Mod_gossip_137 rfl rfl ?_
      refine V_istore_n (lv' := [(3, .int x11), (2, .int v4), (5, .int x11), (0, .ref (G.2.2 + 162)), (1, .int v1), (4, .int v4)]) X d_Mod_gossip_139 rfl (by decide) rfl rfl ?_
      refine V_iinc (n := 5) (v := (v4 + (1 : Int32))) (lv' := [(4, .int (v4 + (1 : Int32))), (3, .int x11), (2, .int v4), (5, .int x11), (0, .ref (G.2.2 + 162)), (1, .int v1)]) X d_Mod_gossip_140 rfl rfl (by decide) rfl rfl ?_
      refine V_goto (pc' := 25) X d_Mod_gossip_143 (by decide) ?_
      refine V_sub (lv' := [(0, .ref (G.2.2 + 162)), (1, .int v1), (2, .int v4), (3, .int x11), (4, .int (v4 + (1 : Int32)))]) [4, 5, 2, 1, 0] rfl ?_
      exact kc (v4, x11, (v4 + (1 : Int32)), x10) (Option.some.inj h).symm
    · rw [if_neg c12] at h
      refine V_goto (pc' := 140) X d_Mod_gossip_131 (by decide) ?_
      refine V_iinc (n := 5) (v := (v4 + (1 : Int32))) (lv' := [(4, .int (v4 + (1 : Int32))), (5, .int x11), (0, .ref (G.2.2 + 162)), (1, .int v1), (2, .int v2), (3, .int v3)]) X d_Mod_gossip_140 rfl rfl (by decide) rfl rfl ?_
      refine V_goto (pc' := 25) X d_Mod_gossip_143 (by decide) ?_
      refine V_sub (lv' := [(0, .ref (G.2.2 + 162)), (1, .int v1), (2, .int v2), (3, .int v3), (4, .int (v4 + (1 : Int32)))]) [2, 3, 4, 5, 0] rfl ?_
      exact kc (v2, v3, (v4 + (1 : Int32)), x10) (Option.some.inj h).symm
def lb_Mod_gossip_25 (v1 : Int32) (s : Int32 × Int32 × Int32 × Mem) : Option ((Int32 × Int32 × Int32 × Mem) ⊕ ((Int32 × Int32 × Mem))) :=
  if (s.2.2.2.1 162 4) ≤ s.2.2.1 then
  some (.inr (s.1, s.2.1, s.2.2.2))
  else
  if s.2.2.1 = (-1 : Int32) then
  j_Mod_gossip_58_25 v1 s.1 s.2.1 s.2.2.1 s.2.2.2
  else
  Option.bind (f_Mod_has (s.2.2.2.1 163 (93 : Int32).toNatClampNeg) s.2.2.1) fun x14 =>
  if x14 = 0 then
  j_Mod_gossip_58_25 v1 s.1 s.2.1 s.2.2.1 s.2.2.2
  else
  some (.inl (s.1, s.2.1, (s.2.2.1 + (1 : Int32)), s.2.2.2))
theorem lb_Mod_gossip_25_ok {E : Ev} {G : Gw} {d : Nat} {post : Int32 → Mem → Prop} (X : Cx E G b_Mod_gossip "WomenByTheRoofsModel" 6 d (some .int)) (hD : 403 ≤ d)  (v1 : Int32)   (s : Int32 × Int32 × Int32 × Mem) (o : (Int32 × Int32 × Int32 × Mem) ⊕ ((Int32 × Int32 × Mem))) (h : lb_Mod_gossip_25 v1 s = some o) (kc : ∀ s9 : Int32 × Int32 × Int32 × Mem, o = .inl s9 → V E (0, 0) G 6 (QI E G post) s9.2.2.2 25 [(0, .ref (G.2.2 + 162)), (1, .int v1), (2, .int s9.1), (3, .int s9.2.1), (4, .int s9.2.2.1)] []) (kx0 : ∀ x9 : Int32 × Int32 × Mem, o = .inr x9 → V E (0, 0) G 6 (QI E G post) x9.2.2 146 [(0, .ref (G.2.2 + 162)), (2, .int x9.1), (3, .int x9.2.1)] []) : V E (0, 0) G 6 (QI E G post) s.2.2.2 25 [(0, .ref (G.2.2 + 162)), (1, .int v1), (2, .int s.1), (3, .int s.2.1), (4, .int s.2.2.1)] [] := by
  unfold lb_Mod_gossip_25 at h
  refine V_iload (n := 4) X d_Mod_gossip_25 rfl rfl ?_
  refine V_aload_n (n := 0) X d_Mod_gossip_27 rfl rfl rfl ?_
  refine V_geti X fo_Mod_123 kd_162 rfl d_Mod_gossip_28 rfl ?_
  refine V_icmp_ge (tgt := 146) X d_Mod_gossip_31 (by decide) rfl (fun c17 => ?_) (fun c17 => ?_)
  · rw [if_pos c17] at h
    refine V_sub (lv' := [(0, .ref (G.2.2 + 162)), (2, .int s.1), (3, .int s.2.1)]) [0, 2, 3] rfl ?_
    exact kx0 (s.1, s.2.1, s.2.2.2) (Option.some.inj h).symm
  · rw [if_neg c17] at h
    refine V_iload (n := 4) X d_Mod_gossip_34 rfl rfl ?_
    refine V_iconst (v := -1) X d_Mod_gossip_36 (by decide) rfl ?_
    refine V_icmp_eq (tgt := 58) X d_Mod_gossip_37 (by decide) rfl (fun c16 => ?_) (fun c16 => ?_)
    · rw [if_pos c16] at h
      exact j_Mod_gossip_58_25_ok X hD v1 s.1 s.2.1 s.2.2.1 s.2.2.2 _ h kc kx0
    · rw [if_neg c16] at h
      refine V_aload_n (n := 0) X d_Mod_gossip_40 rfl rfl rfl ?_
      refine V_getr (k2 := 163) X fo_Mod_9 kd_162 rfl rf_162_0 d_Mod_gossip_41 rfl ?_
      refine V_bipush (v := 93) X d_Mod_gossip_44 (by decide) rfl ?_
      refine V_iald X kd_163 (inb_in ln_163 (by decide)) d_Mod_gossip_46 rfl ?_
      refine V_iload (n := 4) X d_Mod_gossip_47 rfl rfl ?_
      obtain ⟨x14, hx14, h⟩ := ob_s h
      refine V_si (As := [.int (s.2.2.2.1 163 (93 : Int32).toNatClampNeg), .int s.2.2.1]) X (Z0 E) ml_Mod_133 yq_Mod_has (c_Mod_has E.2.1 G (s.2.2.2.1 163 (93 : Int32).toNatClampNeg) s.2.2.1 s.2.2.2 x14 hx14 _ (Nat.le_refl _)) rfl (by omega) rfl (Nat.le_of_ble_eq_true rfl) d_Mod_gossip_49 rfl (fun r9 M9 hq => ?_)
      rw [hq.1, hq.2]
      refine V_if_eq (tgt := 58) X d_Mod_gossip_52 (by decide) rfl (fun c15 => ?_) (fun c15 => ?_)
      · rw [if_pos c15] at h
        exact j_Mod_gossip_58_25_ok X hD v1 s.1 s.2.1 s.2.2.1 s.2.2.2 _ h kc kx0
      · rw [if_neg c15] at h
        refine V_goto (pc' := 140) X d_Mod_gossip_55 (by decide) ?_
        refine V_iinc (n := 4) (v := (s.2.2.1 + (1 : Int32))) (lv' := [(4, .int (s.2.2.1 + (1 : Int32))), (0, .ref (G.2.2 + 162)), (1, .int v1), (2, .int s.1), (3, .int s.2.1)]) X d_Mod_gossip_140 rfl rfl (by decide) rfl rfl ?_
        refine V_goto (pc' := 25) X d_Mod_gossip_143 (by decide) ?_
        refine V_sub (lv' := [(0, .ref (G.2.2 + 162)), (1, .int v1), (2, .int s.1), (3, .int s.2.1), (4, .int (s.2.2.1 + (1 : Int32)))]) [1, 2, 3, 4, 0] rfl ?_
        exact kc (s.1, s.2.1, (s.2.2.1 + (1 : Int32)), s.2.2.2) (Option.some.inj h).symm
theorem lp_Mod_gossip_25_ok {E : Ev} {G : Gw} {d : Nat} {post : Int32 → Mem → Prop} (X : Cx E G b_Mod_gossip "WomenByTheRoofsModel" 6 d (some .int)) (hD : 403 ≤ d)  (v1 : Int32)   (n9 : Nat) (s : Int32 × Int32 × Int32 × Mem) (x : (Int32 × Int32 × Mem)) (h : iter (lb_Mod_gossip_25 v1) n9 s = some x) (kx0 : ∀ x9 : Int32 × Int32 × Mem, x = x9 → V E (0, 0) G 6 (QI E G post) x9.2.2 146 [(0, .ref (G.2.2 + 162)), (2, .int x9.1), (3, .int x9.2.1)] []) : V E (0, 0) G 6 (QI E G post) s.2.2.2 25 [(0, .ref (G.2.2 + 162)), (1, .int v1), (2, .int s.1), (3, .int s.2.1), (4, .int s.2.2.1)] [] :=
  iter_P (P := fun s : Int32 × Int32 × Int32 × Mem => V E (0, 0) G 6 (QI E G post) s.2.2.2 25 [(0, .ref (G.2.2 + 162)), (1, .int v1), (2, .int s.1), (3, .int s.2.1), (4, .int s.2.2.1)] []) (fun s o hb kc ky => lb_Mod_gossip_25_ok X hD v1 s o hb kc (fun x9 e9 => kx0 x9 (ky _ e9).symm)) n9 s h
def f_Mod_gossip (v1 : Int32) (M : Mem) : Option (Int32 × Mem) :=
  mem_ (s_i M 162 13 (0 : Int32)) fun M1 =>
  Option.bind (f_Mod_in v1 (0 : Int32) (60 : Int32)) fun x2 =>
  if x2 = 0 then
  some ((-2 : Int32), M1)
  else
  Option.bind (iter (lb_Mod_gossip_25 v1) FU ((-1 : Int32), (-1 : Int32), (-1 : Int32), M1)) fun x18 =>
  mem_ (s_i x18.2.2 162 12 (0 : Int32)) fun M19 =>
  Option.bind (f_Mod_put x18.2.1 M19) fun x20 =>
  some (x18.1, x20)
theorem c_Mod_gossip (l : Launch) (G : Gw)  (v1 : Int32) (M : Mem) (x : Int32 × Mem) (h : f_Mod_gossip v1 M = some x) (d : Nat) (hD : 403 ≤ d) : Ci l G y_Mod_gossip b_Mod_gossip 6 (some .int) d [.ref (G.2.2 + 162), .int v1] M (fun r9 M9 => r9 = x.1 ∧ M9 = x.2) := by
  refine Ci_of (by decide) (Nat.le_of_ble_eq_true rfl) (fun E hE X => ?_)
  subst hE
  have kr : ∀ x9 : Int32 × Mem, x = x9 → (fun r9 M9 => r9 = x.1 ∧ M9 = x.2) x9.1 x9.2 := fun x9 e9 => by subst e9; exact ⟨rfl, rfl⟩
  unfold f_Mod_gossip at h
  refine V_aload_n (n := 0) X d_Mod_gossip_0 rfl rfl rfl ?_
  refine V_iconst (v := 0) X d_Mod_gossip_1 (by decide) rfl ?_
  obtain ⟨M1, eM1, h⟩ := memS h
  refine V_putI X fp_Mod_109 kd_162 rfl d_Mod_gossip_2 rfl ?_
  rw [← eM1]
  refine V_iload_n (n := 1) X d_Mod_gossip_5 rfl rfl rfl ?_
  refine V_iconst (v := 0) X d_Mod_gossip_6 (by decide) rfl ?_
  refine V_bipush (v := 60) X d_Mod_gossip_7 (by decide) rfl ?_
  obtain ⟨x2, hx2, h⟩ := ob_s h
  refine V_si (As := [.int v1, .int (0 : Int32), .int (60 : Int32)]) X (Z0 E) ml_Mod_119 yq_Mod_in (c_Mod_in E.2.1 G v1 (0 : Int32) (60 : Int32) M1 x2 hx2 _ (Nat.le_refl _)) rfl (by omega) rfl (Nat.le_of_ble_eq_true rfl) d_Mod_gossip_9 rfl (fun r9 M9 hq => ?_)
  rw [hq.1, hq.2]
  refine V_if_ne (tgt := 18) X d_Mod_gossip_12 (by decide) rfl (fun c21 => ?_) (fun c21 => ?_)
  · rw [if_neg c21] at h
    refine V_iconst (v := -1) X d_Mod_gossip_18 (by decide) rfl ?_
    refine V_istore_n (lv' := [(2, .int (-1 : Int32)), (0, .ref (G.2.2 + 162)), (1, .int v1)]) X d_Mod_gossip_19 rfl (by decide) rfl rfl ?_
    refine V_iconst (v := -1) X d_Mod_gossip_20 (by decide) rfl ?_
    refine V_istore_n (lv' := [(3, .int (-1 : Int32)), (2, .int (-1 : Int32)), (0, .ref (G.2.2 + 162)), (1, .int v1)]) X d_Mod_gossip_21 rfl (by decide) rfl rfl ?_
    refine V_iconst (v := -1) X d_Mod_gossip_22 (by decide) rfl ?_
    refine V_istore (lv' := [(4, .int (-1 : Int32)), (3, .int (-1 : Int32)), (2, .int (-1 : Int32)), (0, .ref (G.2.2 + 162)), (1, .int v1)]) X d_Mod_gossip_23 (by decide) rfl rfl ?_
    refine V_sub (lv' := [(0, .ref (G.2.2 + 162)), (1, .int v1), (2, .int (-1 : Int32)), (3, .int (-1 : Int32)), (4, .int (-1 : Int32))]) [3, 4, 2, 1, 0] rfl ?_
    obtain ⟨x18, hx18, h⟩ := ob_s h
    refine lp_Mod_gossip_25_ok X hD v1 _ _ _ hx18 (fun x9 e9 => ?_)
    subst e9
    refine V_aload_n (n := 0) X d_Mod_gossip_146 rfl rfl rfl ?_
    refine V_iconst (v := 0) X d_Mod_gossip_147 (by decide) rfl ?_
    obtain ⟨M19, eM19, h⟩ := memS h
    refine V_putI X fp_Mod_112 kd_162 rfl d_Mod_gossip_148 rfl ?_
    rw [← eM19]
    refine V_aload_n (n := 0) X d_Mod_gossip_151 rfl rfl rfl ?_
    refine V_iload_n (n := 2) X d_Mod_gossip_152 rfl rfl rfl ?_
    obtain ⟨x20, hx20, h⟩ := ob_s h
    refine V_cv (As := [.int x18.2.1]) X (Z0 E) ml_Mod_342 yq_Mod_put (c_Mod_put E.2.1 G x18.2.1 M19 x20 hx20 _ (Nat.le_refl _)) kd_162 rfl rfl (by omega) rfl (Nat.le_of_ble_eq_true rfl) d_Mod_gossip_153 rfl (fun M9 hq => ?_)
    rw [hq]
    refine V_iload_n (n := 1) X d_Mod_gossip_156 rfl rfl rfl ?_
    exact V_iret X (kr (x18.1, x20) (Option.some.inj h).symm) d_Mod_gossip_157
  · rw [if_pos c21] at h
    refine V_bipush (v := -2) X d_Mod_gossip_15 (by decide) rfl ?_
    exact V_iret X (kr ((-2 : Int32), M1) (Option.some.inj h).symm) d_Mod_gossip_17
def f_Mod_lower (v1 : Int32) (v2 : Int32) (M : Mem) : Option (Int32 × Mem) :=
  if v1 = (-1 : Int32) then
  some ((0 : Int32), M)
  else
  if inb v1 72 = true then
  if v2 < (M.1 177 v1.toNatClampNeg) then
  if inb v1 72 = true then
  mem_ (s_i M 177 v1.toNatClampNeg v2) fun M1 =>
  some ((1 : Int32), M1)
  else none
  else
  some ((0 : Int32), M)
  else none
theorem c_Mod_lower (l : Launch) (G : Gw)  (v1 : Int32) (v2 : Int32) (M : Mem) (x : Int32 × Mem) (h : f_Mod_lower v1 v2 M = some x) (d : Nat) (hD : 1 ≤ d) : Ci l G y_Mod_lower b_Mod_lower 3 (some .boolean) d [.ref (G.2.2 + 162), .int v1, .int v2] M (fun r9 M9 => r9 = x.1 ∧ M9 = x.2) := by
  refine Ci_of (by decide) (Nat.le_of_ble_eq_true rfl) (fun E hE X => ?_)
  subst hE
  have kr : ∀ x9 : Int32 × Mem, x = x9 → (fun r9 M9 => r9 = x.1 ∧ M9 = x.2) x9.1 x9.2 := fun x9 e9 => by subst e9; exact ⟨rfl, rfl⟩
  unfold f_Mod_lower at h
  refine V_iload_n (n := 1) X d_Mod_lower_0 rfl rfl rfl ?_
  refine V_iconst (v := -1) X d_Mod_lower_1 (by decide) rfl ?_
  refine V_icmp_eq (tgt := 15) X d_Mod_lower_2 (by decide) rfl (fun c3 => ?_) (fun c3 => ?_)
  · rw [if_pos c3] at h
    refine V_iconst (v := 0) X d_Mod_lower_15 (by decide) rfl ?_
    exact V_zret X (kr ((0 : Int32), M) (Option.some.inj h).symm) (by decide) d_Mod_lower_16
  · rw [if_neg c3] at h
    refine V_aload_n (n := 0) X d_Mod_lower_5 rfl rfl rfl ?_
    refine V_getr (k2 := 177) X fo_Mod_63 kd_162 rfl rf_162_35 d_Mod_lower_6 rfl ?_
    refine V_iload_n (n := 1) X d_Mod_lower_9 rfl rfl rfl ?_
    obtain ⟨hb, h⟩ := ifn h
    refine V_iald X kd_177 (inb_in ln_177 hb) d_Mod_lower_10 rfl ?_
    refine V_iload_n (n := 2) X d_Mod_lower_11 rfl rfl rfl ?_
    refine V_icmp_gt (tgt := 17) X d_Mod_lower_12 (by decide) rfl (fun c2 => ?_) (fun c2 => ?_)
    · rw [if_pos c2] at h
      refine V_aload_n (n := 0) X d_Mod_lower_17 rfl rfl rfl ?_
      refine V_getr (k2 := 177) X fo_Mod_63 kd_162 rfl rf_162_35 d_Mod_lower_18 rfl ?_
      refine V_iload_n (n := 1) X d_Mod_lower_21 rfl rfl rfl ?_
      refine V_iload_n (n := 2) X d_Mod_lower_22 rfl rfl rfl ?_
      obtain ⟨hb, h⟩ := ifn h
      obtain ⟨M1, eM1, h⟩ := memS h
      refine V_iast X kd_177 (inb_in ln_177 hb) d_Mod_lower_23 rfl ?_
      rw [← eM1]
      refine V_iconst (v := 1) X d_Mod_lower_24 (by decide) rfl ?_
      exact V_zret X (kr ((1 : Int32), M1) (Option.some.inj h).symm) (by decide) d_Mod_lower_25
    · rw [if_neg c2] at h
      refine V_iconst (v := 0) X d_Mod_lower_15 (by decide) rfl ?_
      exact V_zret X (kr ((0 : Int32), M) (Option.some.inj h).symm) (by decide) d_Mod_lower_16
def lb_Mod_spread_34 (v1 : Int32) (v3 : Int32) (s : Int32 × Int32 × Mem) : Option ((Int32 × Int32 × Mem) ⊕ ((Int32 × Mem))) :=
  if (4 : Int32) ≤ s.2.1 then
  some (.inr (s.1, s.2.2))
  else
  Option.bind (f_Mod_go 163 v3 s.2.1 s.2.2) fun x1 =>
  if inb v3 72 = true then
  Option.bind (f_Mod_lower x1 ((s.2.2.1 177 v3.toNatClampNeg) + (1 : Int32)) s.2.2) fun x2 =>
  some (.inl ((s.1 ||| x2.1), (s.2.1 + (1 : Int32)), x2.2))
  else none
theorem lb_Mod_spread_34_ok {E : Ev} {G : Gw} {d : Nat} {post : Mem → Prop} (X : Cx E G b_Mod_spread "WomenByTheRoofsModel" 5 d none) (hD : 5 ≤ d)  (v1 : Int32) (v3 : Int32)   (s : Int32 × Int32 × Mem) (o : (Int32 × Int32 × Mem) ⊕ ((Int32 × Mem))) (h : lb_Mod_spread_34 v1 v3 s = some o) (kc : ∀ s9 : Int32 × Int32 × Mem, o = .inl s9 → V E (0, 0) G 5 (QV E G post) s9.2.2 34 [(0, .ref (G.2.2 + 162)), (1, .int v1), (2, .int s9.1), (3, .int v3), (4, .int s9.2.1)] []) (kx0 : ∀ x9 : Int32 × Mem, o = .inr x9 → V E (0, 0) G 5 (QV E G post) x9.2 72 [(0, .ref (G.2.2 + 162)), (1, .int v1), (2, .int x9.1), (3, .int v3)] []) : V E (0, 0) G 5 (QV E G post) s.2.2 34 [(0, .ref (G.2.2 + 162)), (1, .int v1), (2, .int s.1), (3, .int v3), (4, .int s.2.1)] [] := by
  unfold lb_Mod_spread_34 at h
  refine V_iload (n := 4) X d_Mod_spread_34 rfl rfl ?_
  refine V_iconst (v := 4) X d_Mod_spread_36 (by decide) rfl ?_
  refine V_icmp_ge (tgt := 72) X d_Mod_spread_37 (by decide) rfl (fun c3 => ?_) (fun c3 => ?_)
  · rw [if_pos c3] at h
    refine V_sub (lv' := [(0, .ref (G.2.2 + 162)), (1, .int v1), (2, .int s.1), (3, .int v3)]) [0, 1, 2, 3] rfl ?_
    exact kx0 (s.1, s.2.2) (Option.some.inj h).symm
  · rw [if_neg c3] at h
    refine V_iload_n (n := 2) X d_Mod_spread_40 rfl rfl rfl ?_
    refine V_aload_n (n := 0) X d_Mod_spread_41 rfl rfl rfl ?_
    refine V_aload_n (n := 0) X d_Mod_spread_42 rfl rfl rfl ?_
    refine V_aload_n (n := 0) X d_Mod_spread_43 rfl rfl rfl ?_
    refine V_getr (k2 := 163) X fo_Mod_9 kd_162 rfl rf_162_0 d_Mod_spread_44 rfl ?_
    refine V_iload_n (n := 3) X d_Mod_spread_47 rfl rfl rfl ?_
    refine V_iload (n := 4) X d_Mod_spread_48 rfl rfl ?_
    obtain ⟨x1, hx1, h⟩ := ob_s h
    refine V_ci (As := [.ref (G.2.2 + 163), .int v3, .int s.2.1]) X (Z0 E) ml_Mod_252 yq_Mod_go (c_Mod_go E.2.1 G 163 v3 s.2.1 s.2.2 x1 hx1 _ (Nat.le_refl _)) kd_162 rfl rfl (by omega) rfl (Nat.le_of_ble_eq_true rfl) d_Mod_spread_50 rfl (fun r9 M9 hq => ?_)
    rw [hq.1, hq.2]
    refine V_aload_n (n := 0) X d_Mod_spread_53 rfl rfl rfl ?_
    refine V_getr (k2 := 177) X fo_Mod_63 kd_162 rfl rf_162_35 d_Mod_spread_54 rfl ?_
    refine V_iload_n (n := 3) X d_Mod_spread_57 rfl rfl rfl ?_
    obtain ⟨hb, h⟩ := ifn h
    refine V_iald X kd_177 (inb_in ln_177 hb) d_Mod_spread_58 rfl ?_
    refine V_iconst (v := 1) X d_Mod_spread_59 (by decide) rfl ?_
    refine V_iadd X d_Mod_spread_60 rfl ?_
    obtain ⟨x2, hx2, h⟩ := ob_s h
    refine V_ci (As := [.int x1, .int ((s.2.2.1 177 v3.toNatClampNeg) + (1 : Int32))]) X (Z0 E) ml_Mod_358 yq_Mod_lower (c_Mod_lower E.2.1 G x1 ((s.2.2.1 177 v3.toNatClampNeg) + (1 : Int32)) s.2.2 x2 hx2 _ (Nat.le_refl _)) kd_162 rfl rfl (by omega) rfl (Nat.le_of_ble_eq_true rfl) d_Mod_spread_61 rfl (fun r9 M9 hq => ?_)
    rw [hq.1, hq.2]
    refine V_ior X d_Mod_spread_64 rfl ?_
    refine V_istore_n (lv' := [(2, .int (s.1 ||| x2.1)), (0, .ref (G.2.2 + 162)), (1, .int v1), (3, .int v3), (4, .int s.2.1)]) X d_Mod_spread_65 rfl (by decide) rfl rfl ?_
    refine V_iinc (n := 4) (v := (s.2.1 + (1 : Int32))) (lv' := [(4, .int (s.2.1 + (1 : Int32))), (2, .int (s.1 ||| x2.1)), (0, .ref (G.2.2 + 162)), (1, .int v1), (3, .int v3)]) X d_Mod_spread_66 rfl rfl (by decide) rfl rfl ?_
    refine V_goto (pc' := 34) X d_Mod_spread_69 (by decide) ?_
    refine V_sub (lv' := [(0, .ref (G.2.2 + 162)), (1, .int v1), (2, .int (s.1 ||| x2.1)), (3, .int v3), (4, .int (s.2.1 + (1 : Int32)))]) [2, 3, 1, 4, 0] rfl ?_
    exact kc ((s.1 ||| x2.1), (s.2.1 + (1 : Int32)), x2.2) (Option.some.inj h).symm
theorem lp_Mod_spread_34_ok {E : Ev} {G : Gw} {d : Nat} {post : Mem → Prop} (X : Cx E G b_Mod_spread "WomenByTheRoofsModel" 5 d none) (hD : 5 ≤ d)  (v1 : Int32) (v3 : Int32)   (n9 : Nat) (s : Int32 × Int32 × Mem) (x : (Int32 × Mem)) (h : iter (lb_Mod_spread_34 v1 v3) n9 s = some x) (kx0 : ∀ x9 : Int32 × Mem, x = x9 → V E (0, 0) G 5 (QV E G post) x9.2 72 [(0, .ref (G.2.2 + 162)), (1, .int v1), (2, .int x9.1), (3, .int v3)] []) : V E (0, 0) G 5 (QV E G post) s.2.2 34 [(0, .ref (G.2.2 + 162)), (1, .int v1), (2, .int s.1), (3, .int v3), (4, .int s.2.1)] [] :=
  iter_P (P := fun s : Int32 × Int32 × Mem => V E (0, 0) G 5 (QV E G post) s.2.2 34 [(0, .ref (G.2.2 + 162)), (1, .int v1), (2, .int s.1), (3, .int v3), (4, .int s.2.1)] []) (fun s o hb kc ky => lb_Mod_spread_34_ok X hD v1 v3 s o hb kc (fun x9 e9 => kx0 x9 (ky _ e9).symm)) n9 s h
def lb_Mod_spread_10 (v1 : Int32) (s : Int32 × Int32 × Mem) : Option ((Int32 × Int32 × Mem) ⊕ ((Int32 × Mem))) :=
  if (72 : Int32) ≤ s.2.1 then
  some (.inr (s.1, s.2.2))
  else
  if inb s.2.1 72 = true then
  if (s.2.2.1 177 s.2.1.toNatClampNeg) < (1000000 : Int32) then
  Option.bind (iter (lb_Mod_spread_34 v1 s.2.1) FU (s.1, (0 : Int32), s.2.2)) fun x4 =>
  if v1 = 0 then
  some (.inl (x4.1, (s.2.1 + (1 : Int32)), x4.2))
  else
  Option.bind (f_Mod_cellOf s.2.1) fun x5 =>
  if inb x5 36 = true then
  if (x4.2.1 164 x5.toNatClampNeg) = (3 : Int32) then
  Option.bind (f_Mod_levelOf s.2.1) fun x6 =>
  Option.bind (f_Mod_cellOf s.2.1) fun x7 =>
  Option.bind (f_Mod_placeOf ((1 : Int32) - x6) x7) fun x8 =>
  if inb s.2.1 72 = true then
  Option.bind (f_Mod_lower x8 (x4.2.1 177 s.2.1.toNatClampNeg) x4.2) fun x9 =>
  some (.inl ((x4.1 ||| x9.1), (s.2.1 + (1 : Int32)), x9.2))
  else none
  else
  some (.inl (x4.1, (s.2.1 + (1 : Int32)), x4.2))
  else none
  else
  some (.inl (s.1, (s.2.1 + (1 : Int32)), s.2.2))
  else none
theorem lb_Mod_spread_10_ok {E : Ev} {G : Gw} {d : Nat} {post : Mem → Prop} (X : Cx E G b_Mod_spread "WomenByTheRoofsModel" 5 d none) (hD : 5 ≤ d)  (v1 : Int32)   (s : Int32 × Int32 × Mem) (o : (Int32 × Int32 × Mem) ⊕ ((Int32 × Mem))) (h : lb_Mod_spread_10 v1 s = some o) (kc : ∀ s9 : Int32 × Int32 × Mem, o = .inl s9 → V E (0, 0) G 5 (QV E G post) s9.2.2 10 [(0, .ref (G.2.2 + 162)), (1, .int v1), (2, .int s9.1), (3, .int s9.2.1)] []) (kx0 : ∀ x9 : Int32 × Mem, o = .inr x9 → V E (0, 0) G 5 (QV E G post) x9.2 121 [(0, .ref (G.2.2 + 162)), (1, .int v1), (2, .int x9.1)] []) : V E (0, 0) G 5 (QV E G post) s.2.2 10 [(0, .ref (G.2.2 + 162)), (1, .int v1), (2, .int s.1), (3, .int s.2.1)] [] := by
  unfold lb_Mod_spread_10 at h
  refine V_iload_n (n := 3) X d_Mod_spread_10 rfl rfl rfl ?_
  refine V_bipush (v := 72) X d_Mod_spread_11 (by decide) rfl ?_
  refine V_icmp_ge (tgt := 121) X d_Mod_spread_13 (by decide) rfl (fun c13 => ?_) (fun c13 => ?_)
  · rw [if_pos c13] at h
    refine V_sub (lv' := [(0, .ref (G.2.2 + 162)), (1, .int v1), (2, .int s.1)]) [0, 1, 2] rfl ?_
    exact kx0 (s.1, s.2.2) (Option.some.inj h).symm
  · rw [if_neg c13] at h
    refine V_aload_n (n := 0) X d_Mod_spread_16 rfl rfl rfl ?_
    refine V_getr (k2 := 177) X fo_Mod_63 kd_162 rfl rf_162_35 d_Mod_spread_17 rfl ?_
    refine V_iload_n (n := 3) X d_Mod_spread_20 rfl rfl rfl ?_
    obtain ⟨hb, h⟩ := ifn h
    refine V_iald X kd_177 (inb_in ln_177 hb) d_Mod_spread_21 rfl ?_
    refine V_ldc_w (v := 1000000) X d_Mod_spread_22 kc_Mod_357 rfl ?_
    refine V_icmp_lt (tgt := 31) X d_Mod_spread_25 (by decide) rfl (fun c12 => ?_) (fun c12 => ?_)
    · rw [if_pos c12] at h
      refine V_iconst (v := 0) X d_Mod_spread_31 (by decide) rfl ?_
      refine V_istore (lv' := [(4, .int (0 : Int32)), (0, .ref (G.2.2 + 162)), (1, .int v1), (2, .int s.1), (3, .int s.2.1)]) X d_Mod_spread_32 (by decide) rfl rfl ?_
      refine V_sub (lv' := [(0, .ref (G.2.2 + 162)), (1, .int v1), (2, .int s.1), (3, .int s.2.1), (4, .int (0 : Int32))]) [1, 2, 3, 4, 0] rfl ?_
      obtain ⟨x4, hx4, h⟩ := ob_s h
      refine lp_Mod_spread_34_ok X hD v1 s.2.1 _ _ _ hx4 (fun x9 e9 => ?_)
      subst e9
      refine V_iload_n (n := 1) X d_Mod_spread_72 rfl rfl rfl ?_
      refine V_if_eq (tgt := 115) X d_Mod_spread_73 (by decide) rfl (fun c11 => ?_) (fun c11 => ?_)
      · rw [if_pos c11] at h
        refine V_iinc (n := 3) (v := (s.2.1 + (1 : Int32))) (lv' := [(3, .int (s.2.1 + (1 : Int32))), (0, .ref (G.2.2 + 162)), (1, .int v1), (2, .int x4.1)]) X d_Mod_spread_115 rfl rfl (by decide) rfl rfl ?_
        refine V_goto (pc' := 10) X d_Mod_spread_118 (by decide) ?_
        refine V_sub (lv' := [(0, .ref (G.2.2 + 162)), (1, .int v1), (2, .int x4.1), (3, .int (s.2.1 + (1 : Int32)))]) [1, 2, 3, 0] rfl ?_
        exact kc (x4.1, (s.2.1 + (1 : Int32)), x4.2) (Option.some.inj h).symm
      · rw [if_neg c11] at h
        refine V_aload_n (n := 0) X d_Mod_spread_76 rfl rfl rfl ?_
        refine V_getr (k2 := 164) X fo_Mod_13 kd_162 rfl rf_162_1 d_Mod_spread_77 rfl ?_
        refine V_iload_n (n := 3) X d_Mod_spread_80 rfl rfl rfl ?_
        obtain ⟨x5, hx5, h⟩ := ob_s h
        refine V_si (As := [.int s.2.1]) X (Z0 E) ml_Mod_147 yq_Mod_cellOf (c_Mod_cellOf E.2.1 G s.2.1 x4.2 x5 hx5 _ (Nat.le_refl _)) rfl (by omega) rfl (Nat.le_of_ble_eq_true rfl) d_Mod_spread_81 rfl (fun r9 M9 hq => ?_)
        rw [hq.1, hq.2]
        obtain ⟨hb, h⟩ := ifn h
        refine V_iald X kd_164 (inb_in ln_164 hb) d_Mod_spread_84 rfl ?_
        refine V_iconst (v := 3) X d_Mod_spread_85 (by decide) rfl ?_
        refine V_icmp_ne (tgt := 115) X d_Mod_spread_86 (by decide) rfl (fun c10 => ?_) (fun c10 => ?_)
        · rw [if_neg c10] at h
          refine V_iinc (n := 3) (v := (s.2.1 + (1 : Int32))) (lv' := [(3, .int (s.2.1 + (1 : Int32))), (0, .ref (G.2.2 + 162)), (1, .int v1), (2, .int x4.1)]) X d_Mod_spread_115 rfl rfl (by decide) rfl rfl ?_
          refine V_goto (pc' := 10) X d_Mod_spread_118 (by decide) ?_
          refine V_sub (lv' := [(0, .ref (G.2.2 + 162)), (1, .int v1), (2, .int x4.1), (3, .int (s.2.1 + (1 : Int32)))]) [1, 2, 3, 0] rfl ?_
          exact kc (x4.1, (s.2.1 + (1 : Int32)), x4.2) (Option.some.inj h).symm
        · rw [if_pos c10] at h
          refine V_iload_n (n := 2) X d_Mod_spread_89 rfl rfl rfl ?_
          refine V_aload_n (n := 0) X d_Mod_spread_90 rfl rfl rfl ?_
          refine V_iconst (v := 1) X d_Mod_spread_91 (by decide) rfl ?_
          refine V_iload_n (n := 3) X d_Mod_spread_92 rfl rfl rfl ?_
          obtain ⟨x6, hx6, h⟩ := ob_s h
          refine V_si (As := [.int s.2.1]) X (Z0 E) ml_Mod_143 yq_Mod_levelOf (c_Mod_levelOf E.2.1 G s.2.1 x4.2 x6 hx6 _ (Nat.le_refl _)) rfl (by omega) rfl (Nat.le_of_ble_eq_true rfl) d_Mod_spread_93 rfl (fun r9 M9 hq => ?_)
          rw [hq.1, hq.2]
          refine V_isub X d_Mod_spread_96 rfl ?_
          refine V_iload_n (n := 3) X d_Mod_spread_97 rfl rfl rfl ?_
          obtain ⟨x7, hx7, h⟩ := ob_s h
          refine V_si (As := [.int s.2.1]) X (Z0 E) ml_Mod_147 yq_Mod_cellOf (c_Mod_cellOf E.2.1 G s.2.1 x4.2 x7 hx7 _ (Nat.le_refl _)) rfl (by omega) rfl (Nat.le_of_ble_eq_true rfl) d_Mod_spread_98 rfl (fun r9 M9 hq => ?_)
          rw [hq.1, hq.2]
          obtain ⟨x8, hx8, h⟩ := ob_s h
          refine V_si (As := [.int ((1 : Int32) - x6), .int x7]) X (Z0 E) ml_Mod_154 yq_Mod_placeOf (c_Mod_placeOf E.2.1 G ((1 : Int32) - x6) x7 x4.2 x8 hx8 _ (Nat.le_refl _)) rfl (by omega) rfl (Nat.le_of_ble_eq_true rfl) d_Mod_spread_101 rfl (fun r9 M9 hq => ?_)
          rw [hq.1, hq.2]
          refine V_aload_n (n := 0) X d_Mod_spread_104 rfl rfl rfl ?_
          refine V_getr (k2 := 177) X fo_Mod_63 kd_162 rfl rf_162_35 d_Mod_spread_105 rfl ?_
          refine V_iload_n (n := 3) X d_Mod_spread_108 rfl rfl rfl ?_
          obtain ⟨hb, h⟩ := ifn h
          refine V_iald X kd_177 (inb_in ln_177 hb) d_Mod_spread_109 rfl ?_
          obtain ⟨x9, hx9, h⟩ := ob_s h
          refine V_ci (As := [.int x8, .int (x4.2.1 177 s.2.1.toNatClampNeg)]) X (Z0 E) ml_Mod_358 yq_Mod_lower (c_Mod_lower E.2.1 G x8 (x4.2.1 177 s.2.1.toNatClampNeg) x4.2 x9 hx9 _ (Nat.le_refl _)) kd_162 rfl rfl (by omega) rfl (Nat.le_of_ble_eq_true rfl) d_Mod_spread_110 rfl (fun r9 M9 hq => ?_)
          rw [hq.1, hq.2]
          refine V_ior X d_Mod_spread_113 rfl ?_
          refine V_istore_n (lv' := [(2, .int (x4.1 ||| x9.1)), (0, .ref (G.2.2 + 162)), (1, .int v1), (3, .int s.2.1)]) X d_Mod_spread_114 rfl (by decide) rfl rfl ?_
          refine V_iinc (n := 3) (v := (s.2.1 + (1 : Int32))) (lv' := [(3, .int (s.2.1 + (1 : Int32))), (2, .int (x4.1 ||| x9.1)), (0, .ref (G.2.2 + 162)), (1, .int v1)]) X d_Mod_spread_115 rfl rfl (by decide) rfl rfl ?_
          refine V_goto (pc' := 10) X d_Mod_spread_118 (by decide) ?_
          refine V_sub (lv' := [(0, .ref (G.2.2 + 162)), (1, .int v1), (2, .int (x4.1 ||| x9.1)), (3, .int (s.2.1 + (1 : Int32)))]) [2, 3, 1, 0] rfl ?_
          exact kc ((x4.1 ||| x9.1), (s.2.1 + (1 : Int32)), x9.2) (Option.some.inj h).symm
    · rw [if_neg c12] at h
      refine V_goto (pc' := 115) X d_Mod_spread_28 (by decide) ?_
      refine V_iinc (n := 3) (v := (s.2.1 + (1 : Int32))) (lv' := [(3, .int (s.2.1 + (1 : Int32))), (0, .ref (G.2.2 + 162)), (1, .int v1), (2, .int s.1)]) X d_Mod_spread_115 rfl rfl (by decide) rfl rfl ?_
      refine V_goto (pc' := 10) X d_Mod_spread_118 (by decide) ?_
      refine V_sub (lv' := [(0, .ref (G.2.2 + 162)), (1, .int v1), (2, .int s.1), (3, .int (s.2.1 + (1 : Int32)))]) [1, 2, 3, 0] rfl ?_
      exact kc (s.1, (s.2.1 + (1 : Int32)), s.2.2) (Option.some.inj h).symm
theorem lp_Mod_spread_10_ok {E : Ev} {G : Gw} {d : Nat} {post : Mem → Prop} (X : Cx E G b_Mod_spread "WomenByTheRoofsModel" 5 d none) (hD : 5 ≤ d)  (v1 : Int32)   (n9 : Nat) (s : Int32 × Int32 × Mem) (x : (Int32 × Mem)) (h : iter (lb_Mod_spread_10 v1) n9 s = some x) (kx0 : ∀ x9 : Int32 × Mem, x = x9 → V E (0, 0) G 5 (QV E G post) x9.2 121 [(0, .ref (G.2.2 + 162)), (1, .int v1), (2, .int x9.1)] []) : V E (0, 0) G 5 (QV E G post) s.2.2 10 [(0, .ref (G.2.2 + 162)), (1, .int v1), (2, .int s.1), (3, .int s.2.1)] [] :=
  iter_P (P := fun s : Int32 × Int32 × Mem => V E (0, 0) G 5 (QV E G post) s.2.2 10 [(0, .ref (G.2.2 + 162)), (1, .int v1), (2, .int s.1), (3, .int s.2.1)] []) (fun s o hb kc ky => lb_Mod_spread_10_ok X hD v1 s o hb kc (fun x9 e9 => kx0 x9 (ky _ e9).symm)) n9 s h
def lb_Mod_spread_2 (v1 : Int32) (s : Int32 × Mem) : Option ((Int32 × Mem) ⊕ ((Mem))) :=
  if s.1 = 0 then
  some (.inr s.2)
  else
  Option.bind (iter (lb_Mod_spread_10 v1) FU ((0 : Int32), (0 : Int32), s.2)) fun x14 =>
  some (.inl (x14.1, x14.2))
theorem lb_Mod_spread_2_ok {E : Ev} {G : Gw} {d : Nat} {post : Mem → Prop} (X : Cx E G b_Mod_spread "WomenByTheRoofsModel" 5 d none) (hD : 5 ≤ d)  (v1 : Int32)   (s : Int32 × Mem) (o : (Int32 × Mem) ⊕ ((Mem))) (h : lb_Mod_spread_2 v1 s = some o) (kc : ∀ s9 : Int32 × Mem, o = .inl s9 → V E (0, 0) G 5 (QV E G post) s9.2 2 [(0, .ref (G.2.2 + 162)), (1, .int v1), (2, .int s9.1)] []) (kx0 : ∀ x9 : Mem, o = .inr x9 → V E (0, 0) G 5 (QV E G post) x9 124 [] []) : V E (0, 0) G 5 (QV E G post) s.2 2 [(0, .ref (G.2.2 + 162)), (1, .int v1), (2, .int s.1)] [] := by
  unfold lb_Mod_spread_2 at h
  refine V_iload_n (n := 2) X d_Mod_spread_2 rfl rfl rfl ?_
  refine V_if_eq (tgt := 124) X d_Mod_spread_3 (by decide) rfl (fun c15 => ?_) (fun c15 => ?_)
  · rw [if_pos c15] at h
    refine V_sub (lv' := []) [] rfl ?_
    exact kx0 s.2 (Option.some.inj h).symm
  · rw [if_neg c15] at h
    refine V_iconst (v := 0) X d_Mod_spread_6 (by decide) rfl ?_
    refine V_istore_n (lv' := [(2, .int (0 : Int32)), (0, .ref (G.2.2 + 162)), (1, .int v1)]) X d_Mod_spread_7 rfl (by decide) rfl rfl ?_
    refine V_iconst (v := 0) X d_Mod_spread_8 (by decide) rfl ?_
    refine V_istore_n (lv' := [(3, .int (0 : Int32)), (2, .int (0 : Int32)), (0, .ref (G.2.2 + 162)), (1, .int v1)]) X d_Mod_spread_9 rfl (by decide) rfl rfl ?_
    refine V_sub (lv' := [(0, .ref (G.2.2 + 162)), (1, .int v1), (2, .int (0 : Int32)), (3, .int (0 : Int32))]) [2, 3, 1, 0] rfl ?_
    obtain ⟨x14, hx14, h⟩ := ob_s h
    refine lp_Mod_spread_10_ok X hD v1 _ _ _ hx14 (fun x9 e9 => ?_)
    subst e9
    refine V_goto (pc' := 2) X d_Mod_spread_121 (by decide) ?_
    exact kc (x14.1, x14.2) (Option.some.inj h).symm
theorem lp_Mod_spread_2_ok {E : Ev} {G : Gw} {d : Nat} {post : Mem → Prop} (X : Cx E G b_Mod_spread "WomenByTheRoofsModel" 5 d none) (hD : 5 ≤ d)  (v1 : Int32)   (n9 : Nat) (s : Int32 × Mem) (x : (Mem)) (h : iter (lb_Mod_spread_2 v1) n9 s = some x) (kx0 : ∀ x9 : Mem, x = x9 → V E (0, 0) G 5 (QV E G post) x9 124 [] []) : V E (0, 0) G 5 (QV E G post) s.2 2 [(0, .ref (G.2.2 + 162)), (1, .int v1), (2, .int s.1)] [] :=
  iter_P (P := fun s : Int32 × Mem => V E (0, 0) G 5 (QV E G post) s.2 2 [(0, .ref (G.2.2 + 162)), (1, .int v1), (2, .int s.1)] []) (fun s o hb kc ky => lb_Mod_spread_2_ok X hD v1 s o hb kc (fun x9 e9 => kx0 x9 (ky _ e9).symm)) n9 s h
def f_Mod_spread (v1 : Int32) (M : Mem) : Option (Mem) :=
  Option.bind (iter (lb_Mod_spread_2 v1) FU ((1 : Int32), M)) fun x16 =>
  some x16
theorem c_Mod_spread (l : Launch) (G : Gw)  (v1 : Int32) (M : Mem) (x : Mem) (h : f_Mod_spread v1 M = some x) (d : Nat) (hD : 5 ≤ d) : Cv l G y_Mod_spread b_Mod_spread 5 none d [.ref (G.2.2 + 162), .int v1] M (fun M9 => M9 = x) := by
  refine Cv_of (by decide) (Nat.le_of_ble_eq_true rfl) (fun E hE X => ?_)
  subst hE
  have kr : ∀ x9 : Mem, x = x9 → (fun M9 => M9 = x) x9 := fun x9 e9 => by subst e9; exact rfl
  unfold f_Mod_spread at h
  refine V_iconst (v := 1) X d_Mod_spread_0 (by decide) rfl ?_
  refine V_istore_n (lv' := [(2, .int (1 : Int32)), (0, .ref (G.2.2 + 162)), (1, .int v1)]) X d_Mod_spread_1 rfl (by decide) rfl rfl ?_
  refine V_sub (lv' := [(0, .ref (G.2.2 + 162)), (1, .int v1), (2, .int (1 : Int32))]) [1, 2, 0] rfl ?_
  obtain ⟨x16, hx16, h⟩ := ob_s h
  refine lp_Mod_spread_2_ok X hD v1 _ _ _ hx16 (fun x9 e9 => ?_)
  subst e9
  exact V_vret X (kr x16 (Option.some.inj h).symm) d_Mod_spread_124
def lb_Mod_findFar_2 (v1 : Int32) (s : Int32 × Mem) : Option ((Int32 × Mem) ⊕ ((Mem))) :=
  if (72 : Int32) ≤ s.1 then
  some (.inr s.2)
  else
  if inb s.1 72 = true then
  mem_ (s_i s.2 177 s.1.toNatClampNeg (1000000 : Int32)) fun M1 =>
  some (.inl ((s.1 + (1 : Int32)), M1))
  else none
theorem lb_Mod_findFar_2_ok {E : Ev} {G : Gw} {d : Nat} {post : Mem → Prop} (X : Cx E G b_Mod_findFar "WomenByTheRoofsModel" 3 d none) (hD : 6 ≤ d)  (v1 : Int32)   (s : Int32 × Mem) (o : (Int32 × Mem) ⊕ ((Mem))) (h : lb_Mod_findFar_2 v1 s = some o) (kc : ∀ s9 : Int32 × Mem, o = .inl s9 → V E (0, 0) G 3 (QV E G post) s9.2 2 [(0, .ref (G.2.2 + 162)), (1, .int v1), (2, .int s9.1)] []) (kx0 : ∀ x9 : Mem, o = .inr x9 → V E (0, 0) G 3 (QV E G post) x9 23 [(0, .ref (G.2.2 + 162)), (1, .int v1)] []) : V E (0, 0) G 3 (QV E G post) s.2 2 [(0, .ref (G.2.2 + 162)), (1, .int v1), (2, .int s.1)] [] := by
  unfold lb_Mod_findFar_2 at h
  refine V_iload_n (n := 2) X d_Mod_findFar_2 rfl rfl rfl ?_
  refine V_bipush (v := 72) X d_Mod_findFar_3 (by decide) rfl ?_
  refine V_icmp_ge (tgt := 23) X d_Mod_findFar_5 (by decide) rfl (fun c2 => ?_) (fun c2 => ?_)
  · rw [if_pos c2] at h
    refine V_sub (lv' := [(0, .ref (G.2.2 + 162)), (1, .int v1)]) [0, 1] rfl ?_
    exact kx0 s.2 (Option.some.inj h).symm
  · rw [if_neg c2] at h
    refine V_aload_n (n := 0) X d_Mod_findFar_8 rfl rfl rfl ?_
    refine V_getr (k2 := 177) X fo_Mod_63 kd_162 rfl rf_162_35 d_Mod_findFar_9 rfl ?_
    refine V_iload_n (n := 2) X d_Mod_findFar_12 rfl rfl rfl ?_
    refine V_ldc_w (v := 1000000) X d_Mod_findFar_13 kc_Mod_357 rfl ?_
    obtain ⟨hb, h⟩ := ifn h
    obtain ⟨M1, eM1, h⟩ := memS h
    refine V_iast X kd_177 (inb_in ln_177 hb) d_Mod_findFar_16 rfl ?_
    rw [← eM1]
    refine V_iinc (n := 2) (v := (s.1 + (1 : Int32))) (lv' := [(2, .int (s.1 + (1 : Int32))), (0, .ref (G.2.2 + 162)), (1, .int v1)]) X d_Mod_findFar_17 rfl rfl (by decide) rfl rfl ?_
    refine V_goto (pc' := 2) X d_Mod_findFar_20 (by decide) ?_
    refine V_sub (lv' := [(0, .ref (G.2.2 + 162)), (1, .int v1), (2, .int (s.1 + (1 : Int32)))]) [1, 2, 0] rfl ?_
    exact kc ((s.1 + (1 : Int32)), M1) (Option.some.inj h).symm
theorem lp_Mod_findFar_2_ok {E : Ev} {G : Gw} {d : Nat} {post : Mem → Prop} (X : Cx E G b_Mod_findFar "WomenByTheRoofsModel" 3 d none) (hD : 6 ≤ d)  (v1 : Int32)   (n9 : Nat) (s : Int32 × Mem) (x : (Mem)) (h : iter (lb_Mod_findFar_2 v1) n9 s = some x) (kx0 : ∀ x9 : Mem, x = x9 → V E (0, 0) G 3 (QV E G post) x9 23 [(0, .ref (G.2.2 + 162)), (1, .int v1)] []) : V E (0, 0) G 3 (QV E G post) s.2 2 [(0, .ref (G.2.2 + 162)), (1, .int v1), (2, .int s.1)] [] :=
  iter_P (P := fun s : Int32 × Mem => V E (0, 0) G 3 (QV E G post) s.2 2 [(0, .ref (G.2.2 + 162)), (1, .int v1), (2, .int s.1)] []) (fun s o hb kc ky => lb_Mod_findFar_2_ok X hD v1 s o hb kc (fun x9 e9 => kx0 x9 (ky _ e9).symm)) n9 s h
def f_Mod_findFar (v1 : Int32) (M : Mem) : Option (Mem) :=
  Option.bind (iter (lb_Mod_findFar_2 v1) FU ((0 : Int32), M)) fun x3 =>
  if inb v1 72 = true then
  mem_ (s_i x3 177 v1.toNatClampNeg (0 : Int32)) fun M4 =>
  Option.bind (f_Mod_spread (0 : Int32) M4) fun x5 =>
  some x5
  else none
theorem c_Mod_findFar (l : Launch) (G : Gw)  (v1 : Int32) (M : Mem) (x : Mem) (h : f_Mod_findFar v1 M = some x) (d : Nat) (hD : 6 ≤ d) : Cv l G y_Mod_findFar b_Mod_findFar 3 none d [.ref (G.2.2 + 162), .int v1] M (fun M9 => M9 = x) := by
  refine Cv_of (by decide) (Nat.le_of_ble_eq_true rfl) (fun E hE X => ?_)
  subst hE
  have kr : ∀ x9 : Mem, x = x9 → (fun M9 => M9 = x) x9 := fun x9 e9 => by subst e9; exact rfl
  unfold f_Mod_findFar at h
  refine V_iconst (v := 0) X d_Mod_findFar_0 (by decide) rfl ?_
  refine V_istore_n (lv' := [(2, .int (0 : Int32)), (0, .ref (G.2.2 + 162)), (1, .int v1)]) X d_Mod_findFar_1 rfl (by decide) rfl rfl ?_
  refine V_sub (lv' := [(0, .ref (G.2.2 + 162)), (1, .int v1), (2, .int (0 : Int32))]) [1, 2, 0] rfl ?_
  obtain ⟨x3, hx3, h⟩ := ob_s h
  refine lp_Mod_findFar_2_ok X hD v1 _ _ _ hx3 (fun x9 e9 => ?_)
  subst e9
  refine V_aload_n (n := 0) X d_Mod_findFar_23 rfl rfl rfl ?_
  refine V_getr (k2 := 177) X fo_Mod_63 kd_162 rfl rf_162_35 d_Mod_findFar_24 rfl ?_
  refine V_iload_n (n := 1) X d_Mod_findFar_27 rfl rfl rfl ?_
  refine V_iconst (v := 0) X d_Mod_findFar_28 (by decide) rfl ?_
  obtain ⟨hb, h⟩ := ifn h
  obtain ⟨M4, eM4, h⟩ := memS h
  refine V_iast X kd_177 (inb_in ln_177 hb) d_Mod_findFar_29 rfl ?_
  rw [← eM4]
  refine V_aload_n (n := 0) X d_Mod_findFar_30 rfl rfl rfl ?_
  refine V_iconst (v := 0) X d_Mod_findFar_31 (by decide) rfl ?_
  obtain ⟨x5, hx5, h⟩ := ob_s h
  refine V_cv (As := [.int (0 : Int32)]) X (Z0 E) ml_Mod_361 yq_Mod_spread (c_Mod_spread E.2.1 G (0 : Int32) M4 x5 hx5 _ (Nat.le_refl _)) kd_162 rfl rfl (by omega) rfl (Nat.le_of_ble_eq_true rfl) d_Mod_findFar_32 rfl (fun M9 hq => ?_)
  rw [hq]
  exact V_vret X (kr x5 (Option.some.inj h).symm) d_Mod_findFar_35
def lb_Mod_putCells_16 (v1 : Int32) (s : Int32 × Mem) : Option ((Int32 × Mem) ⊕ ((Mem))) :=
  if (36 : Int32) ≤ s.1 then
  some (.inr s.2)
  else
  Option.bind (f_Mod_placeOf v1 s.1) fun x3 =>
  if inb x3 72 = true then
  if (1000000 : Int32) ≤ (s.2.1 177 x3.toNatClampNeg) then
  some (.inl ((s.1 + (1 : Int32)), s.2))
  else
  if inb (s.1 / (18 : Int32)) 2 = true then
  if inb (s.1 / (18 : Int32)) 2 = true then
  mem_ (s_i s.2 178 (s.1 / (18 : Int32)).toNatClampNeg ((s.2.1 178 (s.1 / (18 : Int32)).toNatClampNeg) ||| ((1 : Int32) <<< ((s.1 - s.1 / (18 : Int32) * (18 : Int32)) &&& 31)))) fun M4 =>
  some (.inl ((s.1 + (1 : Int32)), M4))
  else none
  else none
  else none
theorem lb_Mod_putCells_16_ok {E : Ev} {G : Gw} {d : Nat} {post : Mem → Prop} (X : Cx E G b_Mod_putCells "WomenByTheRoofsModel" 3 d none) (hD : 2 ≤ d)  (v1 : Int32)   (s : Int32 × Mem) (o : (Int32 × Mem) ⊕ ((Mem))) (h : lb_Mod_putCells_16 v1 s = some o) (kc : ∀ s9 : Int32 × Mem, o = .inl s9 → V E (0, 0) G 3 (QV E G post) s9.2 16 [(0, .ref (G.2.2 + 162)), (1, .int v1), (2, .int s9.1)] []) (kx0 : ∀ x9 : Mem, o = .inr x9 → V E (0, 0) G 3 (QV E G post) x9 62 [(0, .ref (G.2.2 + 162))] []) : V E (0, 0) G 3 (QV E G post) s.2 16 [(0, .ref (G.2.2 + 162)), (1, .int v1), (2, .int s.1)] [] := by
  unfold lb_Mod_putCells_16 at h
  refine V_iload_n (n := 2) X d_Mod_putCells_16 rfl rfl rfl ?_
  refine V_bipush (v := 36) X d_Mod_putCells_17 (by decide) rfl ?_
  refine V_icmp_ge (tgt := 62) X d_Mod_putCells_19 (by decide) rfl (fun c6 => ?_) (fun c6 => ?_)
  · rw [if_pos c6] at h
    refine V_sub (lv' := [(0, .ref (G.2.2 + 162))]) [0] rfl ?_
    exact kx0 s.2 (Option.some.inj h).symm
  · rw [if_neg c6] at h
    refine V_aload_n (n := 0) X d_Mod_putCells_22 rfl rfl rfl ?_
    refine V_getr (k2 := 177) X fo_Mod_63 kd_162 rfl rf_162_35 d_Mod_putCells_23 rfl ?_
    refine V_iload_n (n := 1) X d_Mod_putCells_26 rfl rfl rfl ?_
    refine V_iload_n (n := 2) X d_Mod_putCells_27 rfl rfl rfl ?_
    obtain ⟨x3, hx3, h⟩ := ob_s h
    refine V_si (As := [.int v1, .int s.1]) X (Z0 E) ml_Mod_154 yq_Mod_placeOf (c_Mod_placeOf E.2.1 G v1 s.1 s.2 x3 hx3 _ (Nat.le_refl _)) rfl (by omega) rfl (Nat.le_of_ble_eq_true rfl) d_Mod_putCells_28 rfl (fun r9 M9 hq => ?_)
    rw [hq.1, hq.2]
    obtain ⟨hb, h⟩ := ifn h
    refine V_iald X kd_177 (inb_in ln_177 hb) d_Mod_putCells_31 rfl ?_
    refine V_ldc_w (v := 1000000) X d_Mod_putCells_32 kc_Mod_357 rfl ?_
    refine V_icmp_ge (tgt := 56) X d_Mod_putCells_35 (by decide) rfl (fun c5 => ?_) (fun c5 => ?_)
    · rw [if_pos c5] at h
      refine V_iinc (n := 2) (v := (s.1 + (1 : Int32))) (lv' := [(2, .int (s.1 + (1 : Int32))), (0, .ref (G.2.2 + 162)), (1, .int v1)]) X d_Mod_putCells_56 rfl rfl (by decide) rfl rfl ?_
      refine V_goto (pc' := 16) X d_Mod_putCells_59 (by decide) ?_
      refine V_sub (lv' := [(0, .ref (G.2.2 + 162)), (1, .int v1), (2, .int (s.1 + (1 : Int32)))]) [1, 2, 0] rfl ?_
      exact kc ((s.1 + (1 : Int32)), s.2) (Option.some.inj h).symm
    · rw [if_neg c5] at h
      refine V_aload_n (n := 0) X d_Mod_putCells_38 rfl rfl rfl ?_
      refine V_getr (k2 := 178) X fo_Mod_66 kd_162 rfl rf_162_36 d_Mod_putCells_39 rfl ?_
      refine V_iload_n (n := 2) X d_Mod_putCells_42 rfl rfl rfl ?_
      refine V_bipush (v := 18) X d_Mod_putCells_43 (by decide) rfl ?_
      refine V_idiv X d_Mod_putCells_45 (by decide) rfl ?_
      refine V_dup2 X d_Mod_putCells_46 rfl rfl rfl ?_
      obtain ⟨hb, h⟩ := ifn h
      refine V_iald X kd_178 (inb_in ln_178 hb) d_Mod_putCells_47 rfl ?_
      refine V_iconst (v := 1) X d_Mod_putCells_48 (by decide) rfl ?_
      refine V_iload_n (n := 2) X d_Mod_putCells_49 rfl rfl rfl ?_
      refine V_bipush (v := 18) X d_Mod_putCells_50 (by decide) rfl ?_
      refine V_irem X d_Mod_putCells_52 (by decide) rfl ?_
      refine V_ishl X d_Mod_putCells_53 rfl ?_
      refine V_ior X d_Mod_putCells_54 rfl ?_
      obtain ⟨hb, h⟩ := ifn h
      obtain ⟨M4, eM4, h⟩ := memS h
      refine V_iast X kd_178 (inb_in ln_178 hb) d_Mod_putCells_55 rfl ?_
      rw [← eM4]
      refine V_iinc (n := 2) (v := (s.1 + (1 : Int32))) (lv' := [(2, .int (s.1 + (1 : Int32))), (0, .ref (G.2.2 + 162)), (1, .int v1)]) X d_Mod_putCells_56 rfl rfl (by decide) rfl rfl ?_
      refine V_goto (pc' := 16) X d_Mod_putCells_59 (by decide) ?_
      refine V_sub (lv' := [(0, .ref (G.2.2 + 162)), (1, .int v1), (2, .int (s.1 + (1 : Int32)))]) [1, 2, 0] rfl ?_
      exact kc ((s.1 + (1 : Int32)), M4) (Option.some.inj h).symm
theorem lp_Mod_putCells_16_ok {E : Ev} {G : Gw} {d : Nat} {post : Mem → Prop} (X : Cx E G b_Mod_putCells "WomenByTheRoofsModel" 3 d none) (hD : 2 ≤ d)  (v1 : Int32)   (n9 : Nat) (s : Int32 × Mem) (x : (Mem)) (h : iter (lb_Mod_putCells_16 v1) n9 s = some x) (kx0 : ∀ x9 : Mem, x = x9 → V E (0, 0) G 3 (QV E G post) x9 62 [(0, .ref (G.2.2 + 162))] []) : V E (0, 0) G 3 (QV E G post) s.2 16 [(0, .ref (G.2.2 + 162)), (1, .int v1), (2, .int s.1)] [] :=
  iter_P (P := fun s : Int32 × Mem => V E (0, 0) G 3 (QV E G post) s.2 16 [(0, .ref (G.2.2 + 162)), (1, .int v1), (2, .int s.1)] []) (fun s o hb kc ky => lb_Mod_putCells_16_ok X hD v1 s o hb kc (fun x9 e9 => kx0 x9 (ky _ e9).symm)) n9 s h
def f_Mod_putCells (v1 : Int32) (M : Mem) : Option (Mem) :=
  mem_ (s_i M 178 (0 : Int32).toNatClampNeg (0 : Int32)) fun M1 =>
  mem_ (s_i M1 178 (1 : Int32).toNatClampNeg (0 : Int32)) fun M2 =>
  Option.bind (iter (lb_Mod_putCells_16 v1) FU ((0 : Int32), M2)) fun x7 =>
  Option.bind (f_Mod_put (x7.1 178 (0 : Int32).toNatClampNeg) x7) fun x8 =>
  Option.bind (f_Mod_put (x8.1 178 (1 : Int32).toNatClampNeg) x8) fun x9 =>
  some x9
theorem c_Mod_putCells (l : Launch) (G : Gw)  (v1 : Int32) (M : Mem) (x : Mem) (h : f_Mod_putCells v1 M = some x) (d : Nat) (hD : 2 ≤ d) : Cv l G y_Mod_putCells b_Mod_putCells 3 none d [.ref (G.2.2 + 162), .int v1] M (fun M9 => M9 = x) := by
  refine Cv_of (by decide) (Nat.le_of_ble_eq_true rfl) (fun E hE X => ?_)
  subst hE
  have kr : ∀ x9 : Mem, x = x9 → (fun M9 => M9 = x) x9 := fun x9 e9 => by subst e9; exact rfl
  unfold f_Mod_putCells at h
  refine V_aload_n (n := 0) X d_Mod_putCells_0 rfl rfl rfl ?_
  refine V_getr (k2 := 178) X fo_Mod_66 kd_162 rfl rf_162_36 d_Mod_putCells_1 rfl ?_
  refine V_iconst (v := 0) X d_Mod_putCells_4 (by decide) rfl ?_
  refine V_iconst (v := 0) X d_Mod_putCells_5 (by decide) rfl ?_
  obtain ⟨M1, eM1, h⟩ := memS h
  refine V_iast X kd_178 (inb_in ln_178 (by decide)) d_Mod_putCells_6 rfl ?_
  rw [← eM1]
  refine V_aload_n (n := 0) X d_Mod_putCells_7 rfl rfl rfl ?_
  refine V_getr (k2 := 178) X fo_Mod_66 kd_162 rfl rf_162_36 d_Mod_putCells_8 rfl ?_
  refine V_iconst (v := 1) X d_Mod_putCells_11 (by decide) rfl ?_
  refine V_iconst (v := 0) X d_Mod_putCells_12 (by decide) rfl ?_
  obtain ⟨M2, eM2, h⟩ := memS h
  refine V_iast X kd_178 (inb_in ln_178 (by decide)) d_Mod_putCells_13 rfl ?_
  rw [← eM2]
  refine V_iconst (v := 0) X d_Mod_putCells_14 (by decide) rfl ?_
  refine V_istore_n (lv' := [(2, .int (0 : Int32)), (0, .ref (G.2.2 + 162)), (1, .int v1)]) X d_Mod_putCells_15 rfl (by decide) rfl rfl ?_
  refine V_sub (lv' := [(0, .ref (G.2.2 + 162)), (1, .int v1), (2, .int (0 : Int32))]) [1, 2, 0] rfl ?_
  obtain ⟨x7, hx7, h⟩ := ob_s h
  refine lp_Mod_putCells_16_ok X hD v1 _ _ _ hx7 (fun x9 e9 => ?_)
  subst e9
  refine V_aload_n (n := 0) X d_Mod_putCells_62 rfl rfl rfl ?_
  refine V_aload_n (n := 0) X d_Mod_putCells_63 rfl rfl rfl ?_
  refine V_getr (k2 := 178) X fo_Mod_66 kd_162 rfl rf_162_36 d_Mod_putCells_64 rfl ?_
  refine V_iconst (v := 0) X d_Mod_putCells_67 (by decide) rfl ?_
  refine V_iald X kd_178 (inb_in ln_178 (by decide)) d_Mod_putCells_68 rfl ?_
  obtain ⟨x8, hx8, h⟩ := ob_s h
  refine V_cv (As := [.int (x7.1 178 (0 : Int32).toNatClampNeg)]) X (Z0 E) ml_Mod_342 yq_Mod_put (c_Mod_put E.2.1 G (x7.1 178 (0 : Int32).toNatClampNeg) x7 x8 hx8 _ (Nat.le_refl _)) kd_162 rfl rfl (by omega) rfl (Nat.le_of_ble_eq_true rfl) d_Mod_putCells_69 rfl (fun M9 hq => ?_)
  rw [hq]
  refine V_aload_n (n := 0) X d_Mod_putCells_72 rfl rfl rfl ?_
  refine V_aload_n (n := 0) X d_Mod_putCells_73 rfl rfl rfl ?_
  refine V_getr (k2 := 178) X fo_Mod_66 kd_162 rfl rf_162_36 d_Mod_putCells_74 rfl ?_
  refine V_iconst (v := 1) X d_Mod_putCells_77 (by decide) rfl ?_
  refine V_iald X kd_178 (inb_in ln_178 (by decide)) d_Mod_putCells_78 rfl ?_
  obtain ⟨x9, hx9, h⟩ := ob_s h
  refine V_cv (As := [.int (x8.1 178 (1 : Int32).toNatClampNeg)]) X (Z0 E) ml_Mod_342 yq_Mod_put (c_Mod_put E.2.1 G (x8.1 178 (1 : Int32).toNatClampNeg) x8 x9 hx9 _ (Nat.le_refl _)) kd_162 rfl rfl (by omega) rfl (Nat.le_of_ble_eq_true rfl) d_Mod_putCells_79 rfl (fun M9 hq => ?_)
  rw [hq]
  exact V_vret X (kr x9 (Option.some.inj h).symm) d_Mod_putCells_82
def lb_Mod_reached_4 (v1 : Int32) (M : Mem) (s : Int32 × Int32) : Option ((Int32 × Int32) ⊕ ((Int32))) :=
  if (36 : Int32) ≤ s.2 then
  some (.inr s.1)
  else
  Option.bind (f_Mod_placeOf v1 s.2) fun x1 =>
  if inb x1 72 = true then
  if (1000000 : Int32) ≤ (M.1 177 x1.toNatClampNeg) then
  some (.inl ((s.1 + (0 : Int32)), (s.2 + (1 : Int32))))
  else
  some (.inl ((s.1 + (1 : Int32)), (s.2 + (1 : Int32))))
  else none
theorem lb_Mod_reached_4_ok {E : Ev} {G : Gw} {d : Nat} {post : Int32 → Mem → Prop} (X : Cx E G b_Mod_reached "WomenByTheRoofsModel" 4 d (some .int)) (hD : 2 ≤ d)  (v1 : Int32)  (M : Mem) (s : Int32 × Int32) (o : (Int32 × Int32) ⊕ ((Int32))) (h : lb_Mod_reached_4 v1 M s = some o) (kc : ∀ s9 : Int32 × Int32, o = .inl s9 → V E (0, 0) G 4 (QI E G post) M 4 [(0, .ref (G.2.2 + 162)), (1, .int v1), (2, .int s9.1), (3, .int s9.2)] []) (kx0 : ∀ x9 : Int32, o = .inr x9 → V E (0, 0) G 4 (QI E G post) M 40 [(2, .int x9)] []) : V E (0, 0) G 4 (QI E G post) M 4 [(0, .ref (G.2.2 + 162)), (1, .int v1), (2, .int s.1), (3, .int s.2)] [] := by
  unfold lb_Mod_reached_4 at h
  refine V_iload_n (n := 3) X d_Mod_reached_4 rfl rfl rfl ?_
  refine V_bipush (v := 36) X d_Mod_reached_5 (by decide) rfl ?_
  refine V_icmp_ge (tgt := 40) X d_Mod_reached_7 (by decide) rfl (fun c3 => ?_) (fun c3 => ?_)
  · rw [if_pos c3] at h
    refine V_sub (lv' := [(2, .int s.1)]) [2] rfl ?_
    exact kx0 s.1 (Option.some.inj h).symm
  · rw [if_neg c3] at h
    refine V_iload_n (n := 2) X d_Mod_reached_10 rfl rfl rfl ?_
    refine V_aload_n (n := 0) X d_Mod_reached_11 rfl rfl rfl ?_
    refine V_getr (k2 := 177) X fo_Mod_63 kd_162 rfl rf_162_35 d_Mod_reached_12 rfl ?_
    refine V_iload_n (n := 1) X d_Mod_reached_15 rfl rfl rfl ?_
    refine V_iload_n (n := 3) X d_Mod_reached_16 rfl rfl rfl ?_
    obtain ⟨x1, hx1, h⟩ := ob_s h
    refine V_si (As := [.int v1, .int s.2]) X (Z0 E) ml_Mod_154 yq_Mod_placeOf (c_Mod_placeOf E.2.1 G v1 s.2 M x1 hx1 _ (Nat.le_refl _)) rfl (by omega) rfl (Nat.le_of_ble_eq_true rfl) d_Mod_reached_17 rfl (fun r9 M9 hq => ?_)
    rw [hq.1, hq.2]
    obtain ⟨hb, h⟩ := ifn h
    refine V_iald X kd_177 (inb_in ln_177 hb) d_Mod_reached_20 rfl ?_
    refine V_ldc_w (v := 1000000) X d_Mod_reached_21 kc_Mod_357 rfl ?_
    refine V_icmp_ge (tgt := 31) X d_Mod_reached_24 (by decide) rfl (fun c2 => ?_) (fun c2 => ?_)
    · rw [if_pos c2] at h
      refine V_iconst (v := 0) X d_Mod_reached_31 (by decide) rfl ?_
      refine V_iadd X d_Mod_reached_32 rfl ?_
      refine V_istore_n (lv' := [(2, .int (s.1 + (0 : Int32))), (0, .ref (G.2.2 + 162)), (1, .int v1), (3, .int s.2)]) X d_Mod_reached_33 rfl (by decide) rfl rfl ?_
      refine V_iinc (n := 3) (v := (s.2 + (1 : Int32))) (lv' := [(3, .int (s.2 + (1 : Int32))), (2, .int (s.1 + (0 : Int32))), (0, .ref (G.2.2 + 162)), (1, .int v1)]) X d_Mod_reached_34 rfl rfl (by decide) rfl rfl ?_
      refine V_goto (pc' := 4) X d_Mod_reached_37 (by decide) ?_
      refine V_sub (lv' := [(0, .ref (G.2.2 + 162)), (1, .int v1), (2, .int (s.1 + (0 : Int32))), (3, .int (s.2 + (1 : Int32)))]) [2, 3, 1, 0] rfl ?_
      exact kc ((s.1 + (0 : Int32)), (s.2 + (1 : Int32))) (Option.some.inj h).symm
    · rw [if_neg c2] at h
      refine V_iconst (v := 1) X d_Mod_reached_27 (by decide) rfl ?_
      refine V_goto (pc' := 32) X d_Mod_reached_28 (by decide) ?_
      refine V_iadd X d_Mod_reached_32 rfl ?_
      refine V_istore_n (lv' := [(2, .int (s.1 + (1 : Int32))), (0, .ref (G.2.2 + 162)), (1, .int v1), (3, .int s.2)]) X d_Mod_reached_33 rfl (by decide) rfl rfl ?_
      refine V_iinc (n := 3) (v := (s.2 + (1 : Int32))) (lv' := [(3, .int (s.2 + (1 : Int32))), (2, .int (s.1 + (1 : Int32))), (0, .ref (G.2.2 + 162)), (1, .int v1)]) X d_Mod_reached_34 rfl rfl (by decide) rfl rfl ?_
      refine V_goto (pc' := 4) X d_Mod_reached_37 (by decide) ?_
      refine V_sub (lv' := [(0, .ref (G.2.2 + 162)), (1, .int v1), (2, .int (s.1 + (1 : Int32))), (3, .int (s.2 + (1 : Int32)))]) [2, 3, 1, 0] rfl ?_
      exact kc ((s.1 + (1 : Int32)), (s.2 + (1 : Int32))) (Option.some.inj h).symm
theorem lp_Mod_reached_4_ok {E : Ev} {G : Gw} {d : Nat} {post : Int32 → Mem → Prop} (X : Cx E G b_Mod_reached "WomenByTheRoofsModel" 4 d (some .int)) (hD : 2 ≤ d)  (v1 : Int32)  (M : Mem) (n9 : Nat) (s : Int32 × Int32) (x : (Int32)) (h : iter (lb_Mod_reached_4 v1 M) n9 s = some x) (kx0 : ∀ x9 : Int32, x = x9 → V E (0, 0) G 4 (QI E G post) M 40 [(2, .int x9)] []) : V E (0, 0) G 4 (QI E G post) M 4 [(0, .ref (G.2.2 + 162)), (1, .int v1), (2, .int s.1), (3, .int s.2)] [] :=
  iter_P (P := fun s : Int32 × Int32 => V E (0, 0) G 4 (QI E G post) M 4 [(0, .ref (G.2.2 + 162)), (1, .int v1), (2, .int s.1), (3, .int s.2)] []) (fun s o hb kc ky => lb_Mod_reached_4_ok X hD v1 M s o hb kc (fun x9 e9 => kx0 x9 (ky _ e9).symm)) n9 s h
def f_Mod_reached (v1 : Int32) (M : Mem) : Option (Int32) :=
  Option.bind (iter (lb_Mod_reached_4 v1 M) FU ((0 : Int32), (0 : Int32))) fun x4 =>
  some x4
theorem c_Mod_reached (l : Launch) (G : Gw)  (v1 : Int32) (M : Mem) (x : Int32) (h : f_Mod_reached v1 M = some x) (d : Nat) (hD : 2 ≤ d) : Ci l G y_Mod_reached b_Mod_reached 4 (some .int) d [.ref (G.2.2 + 162), .int v1] M (fun r9 M9 => r9 = x ∧ M9 = M) := by
  refine Ci_of (by decide) (Nat.le_of_ble_eq_true rfl) (fun E hE X => ?_)
  subst hE
  have kr : ∀ x9 : Int32, x = x9 → (fun r9 M9 => r9 = x ∧ M9 = M) x9 M := fun x9 e9 => by subst e9; exact ⟨rfl, rfl⟩
  unfold f_Mod_reached at h
  refine V_iconst (v := 0) X d_Mod_reached_0 (by decide) rfl ?_
  refine V_istore_n (lv' := [(2, .int (0 : Int32)), (0, .ref (G.2.2 + 162)), (1, .int v1)]) X d_Mod_reached_1 rfl (by decide) rfl rfl ?_
  refine V_iconst (v := 0) X d_Mod_reached_2 (by decide) rfl ?_
  refine V_istore_n (lv' := [(3, .int (0 : Int32)), (2, .int (0 : Int32)), (0, .ref (G.2.2 + 162)), (1, .int v1)]) X d_Mod_reached_3 rfl (by decide) rfl rfl ?_
  refine V_sub (lv' := [(0, .ref (G.2.2 + 162)), (1, .int v1), (2, .int (0 : Int32)), (3, .int (0 : Int32))]) [2, 3, 1, 0] rfl ?_
  obtain ⟨x4, hx4, h⟩ := ob_s h
  refine lp_Mod_reached_4_ok X hD v1 M _ _ _ hx4 (fun x9 e9 => ?_)
  subst e9
  refine V_iload_n (n := 0) X d_Mod_reached_40 rfl rfl rfl ?_
  exact V_iret X (kr x4 (Option.some.inj h).symm) d_Mod_reached_41
def lb_Mod_pieces_26 (v1 : Int32) (v2 : Int32) (v3 : Int32) (v4 : Int32) (s : Int32 × Mem) : Option ((Int32 × Mem) ⊕ ((Mem))) :=
  if (36 : Int32) ≤ s.1 then
  some (.inr s.2)
  else
  if inb s.1 36 = true then
  mem_ (s_i s.2 179 s.1.toNatClampNeg (vp_nar .boolean (0 : Int32))) fun M3 =>
  some (.inl ((s.1 + (1 : Int32)), M3))
  else none
theorem lb_Mod_pieces_26_ok {E : Ev} {G : Gw} {d : Nat} {post : Int32 → Mem → Prop} (X : Cx E G b_Mod_pieces "WomenByTheRoofsModel" 7 d (some .int)) (hD : 7 ≤ d)  (v1 : Int32) (v2 : Int32) (v3 : Int32) (v4 : Int32)   (s : Int32 × Mem) (o : (Int32 × Mem) ⊕ ((Mem))) (h : lb_Mod_pieces_26 v1 v2 v3 v4 s = some o) (kc : ∀ s9 : Int32 × Mem, o = .inl s9 → V E (0, 0) G 7 (QI E G post) s9.2 26 [(0, .ref (G.2.2 + 162)), (1, .int v1), (2, .int v2), (3, .int v3), (4, .int v4), (5, .int s9.1)] []) (kx0 : ∀ x9 : Mem, o = .inr x9 → V E (0, 0) G 7 (QI E G post) x9 47 [(0, .ref (G.2.2 + 162)), (1, .int v1), (2, .int v2), (3, .int v3), (4, .int v4)] []) : V E (0, 0) G 7 (QI E G post) s.2 26 [(0, .ref (G.2.2 + 162)), (1, .int v1), (2, .int v2), (3, .int v3), (4, .int v4), (5, .int s.1)] [] := by
  unfold lb_Mod_pieces_26 at h
  refine V_iload (n := 5) X d_Mod_pieces_26 rfl rfl ?_
  refine V_bipush (v := 36) X d_Mod_pieces_28 (by decide) rfl ?_
  refine V_icmp_ge (tgt := 47) X d_Mod_pieces_30 (by decide) rfl (fun c4 => ?_) (fun c4 => ?_)
  · rw [if_pos c4] at h
    refine V_sub (lv' := [(0, .ref (G.2.2 + 162)), (1, .int v1), (2, .int v2), (3, .int v3), (4, .int v4)]) [0, 1, 2, 3, 4] rfl ?_
    exact kx0 s.2 (Option.some.inj h).symm
  · rw [if_neg c4] at h
    refine V_aload_n (n := 0) X d_Mod_pieces_33 rfl rfl rfl ?_
    refine V_getr (k2 := 179) X fo_Mod_69 kd_162 rfl rf_162_37 d_Mod_pieces_34 rfl ?_
    refine V_iload (n := 5) X d_Mod_pieces_37 rfl rfl ?_
    refine V_iconst (v := 0) X d_Mod_pieces_39 (by decide) rfl ?_
    obtain ⟨hb, h⟩ := ifn h
    obtain ⟨M3, eM3, h⟩ := memS h
    refine V_zast X kd_179 (inb_in ln_179 hb) d_Mod_pieces_40 rfl ?_
    rw [← eM3]
    refine V_iinc (n := 5) (v := (s.1 + (1 : Int32))) (lv' := [(5, .int (s.1 + (1 : Int32))), (0, .ref (G.2.2 + 162)), (1, .int v1), (2, .int v2), (3, .int v3), (4, .int v4)]) X d_Mod_pieces_41 rfl rfl (by decide) rfl rfl ?_
    refine V_goto (pc' := 26) X d_Mod_pieces_44 (by decide) ?_
    refine V_sub (lv' := [(0, .ref (G.2.2 + 162)), (1, .int v1), (2, .int v2), (3, .int v3), (4, .int v4), (5, .int (s.1 + (1 : Int32)))]) [1, 2, 3, 4, 5, 0] rfl ?_
    exact kc ((s.1 + (1 : Int32)), M3) (Option.some.inj h).symm
theorem lp_Mod_pieces_26_ok {E : Ev} {G : Gw} {d : Nat} {post : Int32 → Mem → Prop} (X : Cx E G b_Mod_pieces "WomenByTheRoofsModel" 7 d (some .int)) (hD : 7 ≤ d)  (v1 : Int32) (v2 : Int32) (v3 : Int32) (v4 : Int32)   (n9 : Nat) (s : Int32 × Mem) (x : (Mem)) (h : iter (lb_Mod_pieces_26 v1 v2 v3 v4) n9 s = some x) (kx0 : ∀ x9 : Mem, x = x9 → V E (0, 0) G 7 (QI E G post) x9 47 [(0, .ref (G.2.2 + 162)), (1, .int v1), (2, .int v2), (3, .int v3), (4, .int v4)] []) : V E (0, 0) G 7 (QI E G post) s.2 26 [(0, .ref (G.2.2 + 162)), (1, .int v1), (2, .int v2), (3, .int v3), (4, .int v4), (5, .int s.1)] [] :=
  iter_P (P := fun s : Int32 × Mem => V E (0, 0) G 7 (QI E G post) s.2 26 [(0, .ref (G.2.2 + 162)), (1, .int v1), (2, .int v2), (3, .int v3), (4, .int v4), (5, .int s.1)] []) (fun s o hb kc ky => lb_Mod_pieces_26_ok X hD v1 v2 v3 v4 s o hb kc (fun x9 e9 => kx0 x9 (ky _ e9).symm)) n9 s h
def lb_Mod_pieces_98 (v1 : Int32) (v2 : Int32) (v3 : Int32) (v4 : Int32) (v5 : Int32) (s : Int32 × Mem) : Option ((Int32 × Mem) ⊕ ((Mem))) :=
  if (36 : Int32) ≤ s.1 then
  some (.inr s.2)
  else
  if inb s.1 36 = true then
  Option.bind (f_Mod_placeOf v1 s.1) fun x10 =>
  if inb x10 72 = true then
  if (1000000 : Int32) ≤ (s.2.1 177 x10.toNatClampNeg) then
  if inb s.1 36 = true then
  mem_ (s_i s.2 179 s.1.toNatClampNeg (vp_nar .boolean ((s.2.1 179 s.1.toNatClampNeg) ||| (0 : Int32)))) fun M11 =>
  some (.inl ((s.1 + (1 : Int32)), M11))
  else none
  else
  if inb s.1 36 = true then
  mem_ (s_i s.2 179 s.1.toNatClampNeg (vp_nar .boolean ((s.2.1 179 s.1.toNatClampNeg) ||| (1 : Int32)))) fun M12 =>
  some (.inl ((s.1 + (1 : Int32)), M12))
  else none
  else none
  else none
theorem lb_Mod_pieces_98_ok {E : Ev} {G : Gw} {d : Nat} {post : Int32 → Mem → Prop} (X : Cx E G b_Mod_pieces "WomenByTheRoofsModel" 7 d (some .int)) (hD : 7 ≤ d)  (v1 : Int32) (v2 : Int32) (v3 : Int32) (v4 : Int32) (v5 : Int32)   (s : Int32 × Mem) (o : (Int32 × Mem) ⊕ ((Mem))) (h : lb_Mod_pieces_98 v1 v2 v3 v4 v5 s = some o) (kc : ∀ s9 : Int32 × Mem, o = .inl s9 → V E (0, 0) G 7 (QI E G post) s9.2 98 [(0, .ref (G.2.2 + 162)), (1, .int v1), (2, .int v2), (3, .int v3), (4, .int v4), (5, .int v5), (6, .int s9.1)] []) (kx0 : ∀ x9 : Mem, o = .inr x9 → V E (0, 0) G 7 (QI E G post) x9 143 [(0, .ref (G.2.2 + 162)), (1, .int v1), (2, .int v2), (3, .int v3), (4, .int v4), (5, .int v5)] []) : V E (0, 0) G 7 (QI E G post) s.2 98 [(0, .ref (G.2.2 + 162)), (1, .int v1), (2, .int v2), (3, .int v3), (4, .int v4), (5, .int v5), (6, .int s.1)] [] := by
  unfold lb_Mod_pieces_98 at h
  refine V_iload (n := 6) X d_Mod_pieces_98 rfl rfl ?_
  refine V_bipush (v := 36) X d_Mod_pieces_100 (by decide) rfl ?_
  refine V_icmp_ge (tgt := 143) X d_Mod_pieces_102 (by decide) rfl (fun c14 => ?_) (fun c14 => ?_)
  · rw [if_pos c14] at h
    refine V_sub (lv' := [(0, .ref (G.2.2 + 162)), (1, .int v1), (2, .int v2), (3, .int v3), (4, .int v4), (5, .int v5)]) [0, 1, 2, 3, 4, 5] rfl ?_
    exact kx0 s.2 (Option.some.inj h).symm
  · rw [if_neg c14] at h
    refine V_aload_n (n := 0) X d_Mod_pieces_105 rfl rfl rfl ?_
    refine V_getr (k2 := 179) X fo_Mod_69 kd_162 rfl rf_162_37 d_Mod_pieces_106 rfl ?_
    refine V_iload (n := 6) X d_Mod_pieces_109 rfl rfl ?_
    refine V_dup2 X d_Mod_pieces_111 rfl rfl rfl ?_
    obtain ⟨hb, h⟩ := ifn h
    refine V_zald X kd_179 (inb_in ln_179 hb) d_Mod_pieces_112 rfl ?_
    refine V_aload_n (n := 0) X d_Mod_pieces_113 rfl rfl rfl ?_
    refine V_getr (k2 := 177) X fo_Mod_63 kd_162 rfl rf_162_35 d_Mod_pieces_114 rfl ?_
    refine V_iload_n (n := 1) X d_Mod_pieces_117 rfl rfl rfl ?_
    refine V_iload (n := 6) X d_Mod_pieces_118 rfl rfl ?_
    obtain ⟨x10, hx10, h⟩ := ob_s h
    refine V_si (As := [.int v1, .int s.1]) X (Z0 E) ml_Mod_154 yq_Mod_placeOf (c_Mod_placeOf E.2.1 G v1 s.1 s.2 x10 hx10 _ (Nat.le_refl _)) rfl (by omega) rfl (Nat.le_of_ble_eq_true rfl) d_Mod_pieces_120 rfl (fun r9 M9 hq => ?_)
    rw [hq.1, hq.2]
    obtain ⟨hb, h⟩ := ifn h
    refine V_iald X kd_177 (inb_in ln_177 hb) d_Mod_pieces_123 rfl ?_
    refine V_ldc_w (v := 1000000) X d_Mod_pieces_124 kc_Mod_357 rfl ?_
    refine V_icmp_ge (tgt := 134) X d_Mod_pieces_127 (by decide) rfl (fun c13 => ?_) (fun c13 => ?_)
    · rw [if_pos c13] at h
      refine V_iconst (v := 0) X d_Mod_pieces_134 (by decide) rfl ?_
      refine V_ior X d_Mod_pieces_135 rfl ?_
      obtain ⟨hb, h⟩ := ifn h
      obtain ⟨M11, eM11, h⟩ := memS h
      refine V_zast X kd_179 (inb_in ln_179 hb) d_Mod_pieces_136 rfl ?_
      rw [← eM11]
      refine V_iinc (n := 6) (v := (s.1 + (1 : Int32))) (lv' := [(6, .int (s.1 + (1 : Int32))), (0, .ref (G.2.2 + 162)), (1, .int v1), (2, .int v2), (3, .int v3), (4, .int v4), (5, .int v5)]) X d_Mod_pieces_137 rfl rfl (by decide) rfl rfl ?_
      refine V_goto (pc' := 98) X d_Mod_pieces_140 (by decide) ?_
      refine V_sub (lv' := [(0, .ref (G.2.2 + 162)), (1, .int v1), (2, .int v2), (3, .int v3), (4, .int v4), (5, .int v5), (6, .int (s.1 + (1 : Int32)))]) [1, 2, 3, 4, 5, 6, 0] rfl ?_
      exact kc ((s.1 + (1 : Int32)), M11) (Option.some.inj h).symm
    · rw [if_neg c13] at h
      refine V_iconst (v := 1) X d_Mod_pieces_130 (by decide) rfl ?_
      refine V_goto (pc' := 135) X d_Mod_pieces_131 (by decide) ?_
      refine V_ior X d_Mod_pieces_135 rfl ?_
      obtain ⟨hb, h⟩ := ifn h
      obtain ⟨M12, eM12, h⟩ := memS h
      refine V_zast X kd_179 (inb_in ln_179 hb) d_Mod_pieces_136 rfl ?_
      rw [← eM12]
      refine V_iinc (n := 6) (v := (s.1 + (1 : Int32))) (lv' := [(6, .int (s.1 + (1 : Int32))), (0, .ref (G.2.2 + 162)), (1, .int v1), (2, .int v2), (3, .int v3), (4, .int v4), (5, .int v5)]) X d_Mod_pieces_137 rfl rfl (by decide) rfl rfl ?_
      refine V_goto (pc' := 98) X d_Mod_pieces_140 (by decide) ?_
      refine V_sub (lv' := [(0, .ref (G.2.2 + 162)), (1, .int v1), (2, .int v2), (3, .int v3), (4, .int v4), (5, .int v5), (6, .int (s.1 + (1 : Int32)))]) [1, 2, 3, 4, 5, 6, 0] rfl ?_
      exact kc ((s.1 + (1 : Int32)), M12) (Option.some.inj h).symm
theorem lp_Mod_pieces_98_ok {E : Ev} {G : Gw} {d : Nat} {post : Int32 → Mem → Prop} (X : Cx E G b_Mod_pieces "WomenByTheRoofsModel" 7 d (some .int)) (hD : 7 ≤ d)  (v1 : Int32) (v2 : Int32) (v3 : Int32) (v4 : Int32) (v5 : Int32)   (n9 : Nat) (s : Int32 × Mem) (x : (Mem)) (h : iter (lb_Mod_pieces_98 v1 v2 v3 v4 v5) n9 s = some x) (kx0 : ∀ x9 : Mem, x = x9 → V E (0, 0) G 7 (QI E G post) x9 143 [(0, .ref (G.2.2 + 162)), (1, .int v1), (2, .int v2), (3, .int v3), (4, .int v4), (5, .int v5)] []) : V E (0, 0) G 7 (QI E G post) s.2 98 [(0, .ref (G.2.2 + 162)), (1, .int v1), (2, .int v2), (3, .int v3), (4, .int v4), (5, .int v5), (6, .int s.1)] [] :=
  iter_P (P := fun s : Int32 × Mem => V E (0, 0) G 7 (QI E G post) s.2 98 [(0, .ref (G.2.2 + 162)), (1, .int v1), (2, .int v2), (3, .int v3), (4, .int v4), (5, .int v5), (6, .int s.1)] []) (fun s o hb kc ky => lb_Mod_pieces_98_ok X hD v1 v2 v3 v4 v5 s o hb kc (fun x9 e9 => kx0 x9 (ky _ e9).symm)) n9 s h
def lb_Mod_pieces_50 (v1 : Int32) (s : Int32 × Int32 × Int32 × Int32 × Mem) : Option ((Int32 × Int32 × Int32 × Int32 × Mem) ⊕ ((Int32 × Int32 × Int32 × Mem))) :=
  Option.bind (f_Mod_cells s.2.2.2.2) fun x6 =>
  if x6 ≤ s.2.2.2.1 then
  some (.inr (s.1, s.2.1, s.2.2.1, s.2.2.2.2))
  else
  Option.bind (f_Mod_isOf v1 s.2.2.2.1 s.2.2.2.2) fun x7 =>
  if x7 = 0 then
  some (.inl (s.1, s.2.1, s.2.2.1, (s.2.2.2.1 + (1 : Int32)), s.2.2.2.2))
  else
  if inb s.2.2.2.1 36 = true then
  if (s.2.2.2.2.1 179 s.2.2.2.1.toNatClampNeg) = 0 then
  Option.bind (f_Mod_placeOf v1 s.2.2.2.1) fun x8 =>
  Option.bind (f_Mod_findFar x8 s.2.2.2.2) fun x9 =>
  Option.bind (iter (lb_Mod_pieces_98 v1 (s.1 + (1 : Int32)) s.2.1 s.2.2.1 s.2.2.2.1) FU ((0 : Int32), x9)) fun x15 =>
  Option.bind (f_Mod_reached v1 x15) fun x16 =>
  if s.2.1 < x16 then
  Option.bind (f_Mod_reached v1 x15) fun x17 =>
  some (.inl ((s.1 + (1 : Int32)), x17, s.2.2.2.1, (s.2.2.2.1 + (1 : Int32)), x15))
  else
  some (.inl ((s.1 + (1 : Int32)), s.2.1, s.2.2.1, (s.2.2.2.1 + (1 : Int32)), x15))
  else
  some (.inl (s.1, s.2.1, s.2.2.1, (s.2.2.2.1 + (1 : Int32)), s.2.2.2.2))
  else none
theorem lb_Mod_pieces_50_ok {E : Ev} {G : Gw} {d : Nat} {post : Int32 → Mem → Prop} (X : Cx E G b_Mod_pieces "WomenByTheRoofsModel" 7 d (some .int)) (hD : 7 ≤ d)  (v1 : Int32)   (s : Int32 × Int32 × Int32 × Int32 × Mem) (o : (Int32 × Int32 × Int32 × Int32 × Mem) ⊕ ((Int32 × Int32 × Int32 × Mem))) (h : lb_Mod_pieces_50 v1 s = some o) (kc : ∀ s9 : Int32 × Int32 × Int32 × Int32 × Mem, o = .inl s9 → V E (0, 0) G 7 (QI E G post) s9.2.2.2.2 50 [(0, .ref (G.2.2 + 162)), (1, .int v1), (2, .int s9.1), (3, .int s9.2.1), (4, .int s9.2.2.1), (5, .int s9.2.2.2.1)] []) (kx0 : ∀ x9 : Int32 × Int32 × Int32 × Mem, o = .inr x9 → V E (0, 0) G 7 (QI E G post) x9.2.2.2 171 [(0, .ref (G.2.2 + 162)), (2, .int x9.1), (3, .int x9.2.1), (4, .int x9.2.2.1)] []) : V E (0, 0) G 7 (QI E G post) s.2.2.2.2 50 [(0, .ref (G.2.2 + 162)), (1, .int v1), (2, .int s.1), (3, .int s.2.1), (4, .int s.2.2.1), (5, .int s.2.2.2.1)] [] := by
  unfold lb_Mod_pieces_50 at h
  refine V_iload (n := 5) X d_Mod_pieces_50 rfl rfl ?_
  refine V_aload_n (n := 0) X d_Mod_pieces_52 rfl rfl rfl ?_
  obtain ⟨x6, hx6, h⟩ := ob_s h
  refine V_ci (As := []) X (Z0 E) ml_Mod_115 yq_Mod_cells (c_Mod_cells E.2.1 G  s.2.2.2.2 x6 hx6 _ (Nat.le_refl _)) kd_162 rfl rfl (by omega) rfl (Nat.le_of_ble_eq_true rfl) d_Mod_pieces_53 rfl (fun r9 M9 hq => ?_)
  rw [hq.1, hq.2]
  refine V_icmp_ge (tgt := 171) X d_Mod_pieces_56 (by decide) rfl (fun c21 => ?_) (fun c21 => ?_)
  · rw [if_pos c21] at h
    refine V_sub (lv' := [(0, .ref (G.2.2 + 162)), (2, .int s.1), (3, .int s.2.1), (4, .int s.2.2.1)]) [0, 2, 3, 4] rfl ?_
    exact kx0 (s.1, s.2.1, s.2.2.1, s.2.2.2.2) (Option.some.inj h).symm
  · rw [if_neg c21] at h
    refine V_aload_n (n := 0) X d_Mod_pieces_59 rfl rfl rfl ?_
    refine V_iload_n (n := 1) X d_Mod_pieces_60 rfl rfl rfl ?_
    refine V_iload (n := 5) X d_Mod_pieces_61 rfl rfl ?_
    obtain ⟨x7, hx7, h⟩ := ob_s h
    refine V_ci (As := [.int v1, .int s.2.2.2.1]) X (Z0 E) ml_Mod_140 yq_Mod_isOf (c_Mod_isOf E.2.1 G v1 s.2.2.2.1 s.2.2.2.2 x7 hx7 _ (Nat.le_refl _)) kd_162 rfl rfl (by omega) rfl (Nat.le_of_ble_eq_true rfl) d_Mod_pieces_63 rfl (fun r9 M9 hq => ?_)
    rw [hq.1, hq.2]
    refine V_if_eq (tgt := 165) X d_Mod_pieces_66 (by decide) rfl (fun c20 => ?_) (fun c20 => ?_)
    · rw [if_pos c20] at h
      refine V_iinc (n := 5) (v := (s.2.2.2.1 + (1 : Int32))) (lv' := [(5, .int (s.2.2.2.1 + (1 : Int32))), (0, .ref (G.2.2 + 162)), (1, .int v1), (2, .int s.1), (3, .int s.2.1), (4, .int s.2.2.1)]) X d_Mod_pieces_165 rfl rfl (by decide) rfl rfl ?_
      refine V_goto (pc' := 50) X d_Mod_pieces_168 (by decide) ?_
      refine V_sub (lv' := [(0, .ref (G.2.2 + 162)), (1, .int v1), (2, .int s.1), (3, .int s.2.1), (4, .int s.2.2.1), (5, .int (s.2.2.2.1 + (1 : Int32)))]) [1, 2, 3, 4, 5, 0] rfl ?_
      exact kc (s.1, s.2.1, s.2.2.1, (s.2.2.2.1 + (1 : Int32)), s.2.2.2.2) (Option.some.inj h).symm
    · rw [if_neg c20] at h
      refine V_aload_n (n := 0) X d_Mod_pieces_69 rfl rfl rfl ?_
      refine V_getr (k2 := 179) X fo_Mod_69 kd_162 rfl rf_162_37 d_Mod_pieces_70 rfl ?_
      refine V_iload (n := 5) X d_Mod_pieces_73 rfl rfl ?_
      obtain ⟨hb, h⟩ := ifn h
      refine V_zald X kd_179 (inb_in ln_179 hb) d_Mod_pieces_75 rfl ?_
      refine V_if_eq (tgt := 82) X d_Mod_pieces_76 (by decide) rfl (fun c19 => ?_) (fun c19 => ?_)
      · rw [if_pos c19] at h
        refine V_aload_n (n := 0) X d_Mod_pieces_82 rfl rfl rfl ?_
        refine V_iload_n (n := 1) X d_Mod_pieces_83 rfl rfl rfl ?_
        refine V_iload (n := 5) X d_Mod_pieces_84 rfl rfl ?_
        obtain ⟨x8, hx8, h⟩ := ob_s h
        refine V_si (As := [.int v1, .int s.2.2.2.1]) X (Z0 E) ml_Mod_154 yq_Mod_placeOf (c_Mod_placeOf E.2.1 G v1 s.2.2.2.1 s.2.2.2.2 x8 hx8 _ (Nat.le_refl _)) rfl (by omega) rfl (Nat.le_of_ble_eq_true rfl) d_Mod_pieces_86 rfl (fun r9 M9 hq => ?_)
        rw [hq.1, hq.2]
        obtain ⟨x9, hx9, h⟩ := ob_s h
        refine V_cv (As := [.int x8]) X (Z0 E) ml_Mod_365 yq_Mod_findFar (c_Mod_findFar E.2.1 G x8 s.2.2.2.2 x9 hx9 _ (Nat.le_refl _)) kd_162 rfl rfl (by omega) rfl (Nat.le_of_ble_eq_true rfl) d_Mod_pieces_89 rfl (fun M9 hq => ?_)
        rw [hq]
        refine V_iinc (n := 2) (v := (s.1 + (1 : Int32))) (lv' := [(2, .int (s.1 + (1 : Int32))), (0, .ref (G.2.2 + 162)), (1, .int v1), (3, .int s.2.1), (4, .int s.2.2.1), (5, .int s.2.2.2.1)]) X d_Mod_pieces_92 rfl rfl (by decide) rfl rfl ?_
        refine V_iconst (v := 0) X d_Mod_pieces_95 (by decide) rfl ?_
        refine V_istore (lv' := [(6, .int (0 : Int32)), (2, .int (s.1 + (1 : Int32))), (0, .ref (G.2.2 + 162)), (1, .int v1), (3, .int s.2.1), (4, .int s.2.2.1), (5, .int s.2.2.2.1)]) X d_Mod_pieces_96 (by decide) rfl rfl ?_
        refine V_sub (lv' := [(0, .ref (G.2.2 + 162)), (1, .int v1), (2, .int (s.1 + (1 : Int32))), (3, .int s.2.1), (4, .int s.2.2.1), (5, .int s.2.2.2.1), (6, .int (0 : Int32))]) [2, 3, 1, 4, 5, 6, 0] rfl ?_
        obtain ⟨x15, hx15, h⟩ := ob_s h
        refine lp_Mod_pieces_98_ok X hD v1 (s.1 + (1 : Int32)) s.2.1 s.2.2.1 s.2.2.2.1 _ _ _ hx15 (fun x9 e9 => ?_)
        subst e9
        refine V_aload_n (n := 0) X d_Mod_pieces_143 rfl rfl rfl ?_
        refine V_iload_n (n := 1) X d_Mod_pieces_144 rfl rfl rfl ?_
        obtain ⟨x16, hx16, h⟩ := ob_s h
        refine V_ci (As := [.int v1]) X (Z0 E) ml_Mod_368 yq_Mod_reached (c_Mod_reached E.2.1 G v1 x15 x16 hx16 _ (Nat.le_refl _)) kd_162 rfl rfl (by omega) rfl (Nat.le_of_ble_eq_true rfl) d_Mod_pieces_145 rfl (fun r9 M9 hq => ?_)
        rw [hq.1, hq.2]
        refine V_iload_n (n := 3) X d_Mod_pieces_148 rfl rfl rfl ?_
        refine V_icmp_gt (tgt := 155) X d_Mod_pieces_149 (by decide) rfl (fun c18 => ?_) (fun c18 => ?_)
        · rw [if_pos c18] at h
          refine V_aload_n (n := 0) X d_Mod_pieces_155 rfl rfl rfl ?_
          refine V_iload_n (n := 1) X d_Mod_pieces_156 rfl rfl rfl ?_
          obtain ⟨x17, hx17, h⟩ := ob_s h
          refine V_ci (As := [.int v1]) X (Z0 E) ml_Mod_368 yq_Mod_reached (c_Mod_reached E.2.1 G v1 x15 x17 hx17 _ (Nat.le_refl _)) kd_162 rfl rfl (by omega) rfl (Nat.le_of_ble_eq_true rfl) d_Mod_pieces_157 rfl (fun r9 M9 hq => ?_)
          rw [hq.1, hq.2]
          refine V_istore_n (lv' := [(3, .int x17), (0, .ref (G.2.2 + 162)), (1, .int v1), (2, .int (s.1 + (1 : Int32))), (4, .int s.2.2.1), (5, .int s.2.2.2.1)]) X d_Mod_pieces_160 rfl (by decide) rfl rfl ?_
          refine V_iload (n := 5) X d_Mod_pieces_161 rfl rfl ?_
          refine V_istore (lv' := [(4, .int s.2.2.2.1), (3, .int x17), (0, .ref (G.2.2 + 162)), (1, .int v1), (2, .int (s.1 + (1 : Int32))), (5, .int s.2.2.2.1)]) X d_Mod_pieces_163 (by decide) rfl rfl ?_
          refine V_iinc (n := 5) (v := (s.2.2.2.1 + (1 : Int32))) (lv' := [(5, .int (s.2.2.2.1 + (1 : Int32))), (4, .int s.2.2.2.1), (3, .int x17), (0, .ref (G.2.2 + 162)), (1, .int v1), (2, .int (s.1 + (1 : Int32)))]) X d_Mod_pieces_165 rfl rfl (by decide) rfl rfl ?_
          refine V_goto (pc' := 50) X d_Mod_pieces_168 (by decide) ?_
          refine V_sub (lv' := [(0, .ref (G.2.2 + 162)), (1, .int v1), (2, .int (s.1 + (1 : Int32))), (3, .int x17), (4, .int s.2.2.2.1), (5, .int (s.2.2.2.1 + (1 : Int32)))]) [3, 4, 5, 2, 1, 0] rfl ?_
          exact kc ((s.1 + (1 : Int32)), x17, s.2.2.2.1, (s.2.2.2.1 + (1 : Int32)), x15) (Option.some.inj h).symm
        · rw [if_neg c18] at h
          refine V_goto (pc' := 165) X d_Mod_pieces_152 (by decide) ?_
          refine V_iinc (n := 5) (v := (s.2.2.2.1 + (1 : Int32))) (lv' := [(5, .int (s.2.2.2.1 + (1 : Int32))), (0, .ref (G.2.2 + 162)), (1, .int v1), (2, .int (s.1 + (1 : Int32))), (3, .int s.2.1), (4, .int s.2.2.1)]) X d_Mod_pieces_165 rfl rfl (by decide) rfl rfl ?_
          refine V_goto (pc' := 50) X d_Mod_pieces_168 (by decide) ?_
          refine V_sub (lv' := [(0, .ref (G.2.2 + 162)), (1, .int v1), (2, .int (s.1 + (1 : Int32))), (3, .int s.2.1), (4, .int s.2.2.1), (5, .int (s.2.2.2.1 + (1 : Int32)))]) [1, 2, 3, 4, 5, 0] rfl ?_
          exact kc ((s.1 + (1 : Int32)), s.2.1, s.2.2.1, (s.2.2.2.1 + (1 : Int32)), x15) (Option.some.inj h).symm
      · rw [if_neg c19] at h
        refine V_goto (pc' := 165) X d_Mod_pieces_79 (by decide) ?_
        refine V_iinc (n := 5) (v := (s.2.2.2.1 + (1 : Int32))) (lv' := [(5, .int (s.2.2.2.1 + (1 : Int32))), (0, .ref (G.2.2 + 162)), (1, .int v1), (2, .int s.1), (3, .int s.2.1), (4, .int s.2.2.1)]) X d_Mod_pieces_165 rfl rfl (by decide) rfl rfl ?_
        refine V_goto (pc' := 50) X d_Mod_pieces_168 (by decide) ?_
        refine V_sub (lv' := [(0, .ref (G.2.2 + 162)), (1, .int v1), (2, .int s.1), (3, .int s.2.1), (4, .int s.2.2.1), (5, .int (s.2.2.2.1 + (1 : Int32)))]) [1, 2, 3, 4, 5, 0] rfl ?_
        exact kc (s.1, s.2.1, s.2.2.1, (s.2.2.2.1 + (1 : Int32)), s.2.2.2.2) (Option.some.inj h).symm
theorem lp_Mod_pieces_50_ok {E : Ev} {G : Gw} {d : Nat} {post : Int32 → Mem → Prop} (X : Cx E G b_Mod_pieces "WomenByTheRoofsModel" 7 d (some .int)) (hD : 7 ≤ d)  (v1 : Int32)   (n9 : Nat) (s : Int32 × Int32 × Int32 × Int32 × Mem) (x : (Int32 × Int32 × Int32 × Mem)) (h : iter (lb_Mod_pieces_50 v1) n9 s = some x) (kx0 : ∀ x9 : Int32 × Int32 × Int32 × Mem, x = x9 → V E (0, 0) G 7 (QI E G post) x9.2.2.2 171 [(0, .ref (G.2.2 + 162)), (2, .int x9.1), (3, .int x9.2.1), (4, .int x9.2.2.1)] []) : V E (0, 0) G 7 (QI E G post) s.2.2.2.2 50 [(0, .ref (G.2.2 + 162)), (1, .int v1), (2, .int s.1), (3, .int s.2.1), (4, .int s.2.2.1), (5, .int s.2.2.2.1)] [] :=
  iter_P (P := fun s : Int32 × Int32 × Int32 × Int32 × Mem => V E (0, 0) G 7 (QI E G post) s.2.2.2.2 50 [(0, .ref (G.2.2 + 162)), (1, .int v1), (2, .int s.1), (3, .int s.2.1), (4, .int s.2.2.1), (5, .int s.2.2.2.1)] []) (fun s o hb kc ky => lb_Mod_pieces_50_ok X hD v1 s o hb kc (fun x9 e9 => kx0 x9 (ky _ e9).symm)) n9 s h
def f_Mod_pieces (v1 : Int32) (M : Mem) : Option (Int32 × Mem) :=
  mem_ (s_i M 162 13 (0 : Int32)) fun M1 =>
  Option.bind (f_Mod_in v1 (0 : Int32) (1 : Int32)) fun x2 =>
  if x2 = 0 then
  some ((-1 : Int32), M1)
  else
  Option.bind (iter (lb_Mod_pieces_26 v1 (0 : Int32) (0 : Int32) (-1 : Int32)) FU ((0 : Int32), M1)) fun x5 =>
  Option.bind (iter (lb_Mod_pieces_50 v1) FU ((0 : Int32), (0 : Int32), (-1 : Int32), (0 : Int32), x5)) fun x22 =>
  mem_ (s_i x22.2.2.2 162 12 (0 : Int32)) fun M23 =>
  Option.bind (f_Mod_put x22.2.1 M23) fun x24 =>
  Option.bind (f_Mod_put x22.2.2.1 x24) fun x25 =>
  some (x22.1, x25)
theorem c_Mod_pieces (l : Launch) (G : Gw)  (v1 : Int32) (M : Mem) (x : Int32 × Mem) (h : f_Mod_pieces v1 M = some x) (d : Nat) (hD : 7 ≤ d) : Ci l G y_Mod_pieces b_Mod_pieces 7 (some .int) d [.ref (G.2.2 + 162), .int v1] M (fun r9 M9 => r9 = x.1 ∧ M9 = x.2) := by
  refine Ci_of (by decide) (Nat.le_of_ble_eq_true rfl) (fun E hE X => ?_)
  subst hE
  have kr : ∀ x9 : Int32 × Mem, x = x9 → (fun r9 M9 => r9 = x.1 ∧ M9 = x.2) x9.1 x9.2 := fun x9 e9 => by subst e9; exact ⟨rfl, rfl⟩
  unfold f_Mod_pieces at h
  refine V_aload_n (n := 0) X d_Mod_pieces_0 rfl rfl rfl ?_
  refine V_iconst (v := 0) X d_Mod_pieces_1 (by decide) rfl ?_
  obtain ⟨M1, eM1, h⟩ := memS h
  refine V_putI X fp_Mod_109 kd_162 rfl d_Mod_pieces_2 rfl ?_
  rw [← eM1]
  refine V_iload_n (n := 1) X d_Mod_pieces_5 rfl rfl rfl ?_
  refine V_iconst (v := 0) X d_Mod_pieces_6 (by decide) rfl ?_
  refine V_iconst (v := 1) X d_Mod_pieces_7 (by decide) rfl ?_
  obtain ⟨x2, hx2, h⟩ := ob_s h
  refine V_si (As := [.int v1, .int (0 : Int32), .int (1 : Int32)]) X (Z0 E) ml_Mod_119 yq_Mod_in (c_Mod_in E.2.1 G v1 (0 : Int32) (1 : Int32) M1 x2 hx2 _ (Nat.le_refl _)) rfl (by omega) rfl (Nat.le_of_ble_eq_true rfl) d_Mod_pieces_8 rfl (fun r9 M9 hq => ?_)
  rw [hq.1, hq.2]
  refine V_if_ne (tgt := 16) X d_Mod_pieces_11 (by decide) rfl (fun c26 => ?_) (fun c26 => ?_)
  · rw [if_neg c26] at h
    refine V_iconst (v := 0) X d_Mod_pieces_16 (by decide) rfl ?_
    refine V_istore_n (lv' := [(2, .int (0 : Int32)), (0, .ref (G.2.2 + 162)), (1, .int v1)]) X d_Mod_pieces_17 rfl (by decide) rfl rfl ?_
    refine V_iconst (v := 0) X d_Mod_pieces_18 (by decide) rfl ?_
    refine V_istore_n (lv' := [(3, .int (0 : Int32)), (2, .int (0 : Int32)), (0, .ref (G.2.2 + 162)), (1, .int v1)]) X d_Mod_pieces_19 rfl (by decide) rfl rfl ?_
    refine V_iconst (v := -1) X d_Mod_pieces_20 (by decide) rfl ?_
    refine V_istore (lv' := [(4, .int (-1 : Int32)), (3, .int (0 : Int32)), (2, .int (0 : Int32)), (0, .ref (G.2.2 + 162)), (1, .int v1)]) X d_Mod_pieces_21 (by decide) rfl rfl ?_
    refine V_iconst (v := 0) X d_Mod_pieces_23 (by decide) rfl ?_
    refine V_istore (lv' := [(5, .int (0 : Int32)), (4, .int (-1 : Int32)), (3, .int (0 : Int32)), (2, .int (0 : Int32)), (0, .ref (G.2.2 + 162)), (1, .int v1)]) X d_Mod_pieces_24 (by decide) rfl rfl ?_
    refine V_sub (lv' := [(0, .ref (G.2.2 + 162)), (1, .int v1), (2, .int (0 : Int32)), (3, .int (0 : Int32)), (4, .int (-1 : Int32)), (5, .int (0 : Int32))]) [4, 5, 3, 2, 1, 0] rfl ?_
    obtain ⟨x5, hx5, h⟩ := ob_s h
    refine lp_Mod_pieces_26_ok X hD v1 (0 : Int32) (0 : Int32) (-1 : Int32) _ _ _ hx5 (fun x9 e9 => ?_)
    subst e9
    refine V_iconst (v := 0) X d_Mod_pieces_47 (by decide) rfl ?_
    refine V_istore (lv' := [(5, .int (0 : Int32)), (0, .ref (G.2.2 + 162)), (1, .int v1), (2, .int (0 : Int32)), (3, .int (0 : Int32)), (4, .int (-1 : Int32))]) X d_Mod_pieces_48 (by decide) rfl rfl ?_
    refine V_sub (lv' := [(0, .ref (G.2.2 + 162)), (1, .int v1), (2, .int (0 : Int32)), (3, .int (0 : Int32)), (4, .int (-1 : Int32)), (5, .int (0 : Int32))]) [1, 2, 3, 4, 5, 0] rfl ?_
    obtain ⟨x22, hx22, h⟩ := ob_s h
    refine lp_Mod_pieces_50_ok X hD v1 _ _ _ hx22 (fun x9 e9 => ?_)
    subst e9
    refine V_aload_n (n := 0) X d_Mod_pieces_171 rfl rfl rfl ?_
    refine V_iconst (v := 0) X d_Mod_pieces_172 (by decide) rfl ?_
    obtain ⟨M23, eM23, h⟩ := memS h
    refine V_putI X fp_Mod_112 kd_162 rfl d_Mod_pieces_173 rfl ?_
    rw [← eM23]
    refine V_aload_n (n := 0) X d_Mod_pieces_176 rfl rfl rfl ?_
    refine V_iload_n (n := 2) X d_Mod_pieces_177 rfl rfl rfl ?_
    obtain ⟨x24, hx24, h⟩ := ob_s h
    refine V_cv (As := [.int x22.2.1]) X (Z0 E) ml_Mod_342 yq_Mod_put (c_Mod_put E.2.1 G x22.2.1 M23 x24 hx24 _ (Nat.le_refl _)) kd_162 rfl rfl (by omega) rfl (Nat.le_of_ble_eq_true rfl) d_Mod_pieces_178 rfl (fun M9 hq => ?_)
    rw [hq]
    refine V_aload_n (n := 0) X d_Mod_pieces_181 rfl rfl rfl ?_
    refine V_iload (n := 3) X d_Mod_pieces_182 rfl rfl ?_
    obtain ⟨x25, hx25, h⟩ := ob_s h
    refine V_cv (As := [.int x22.2.2.1]) X (Z0 E) ml_Mod_342 yq_Mod_put (c_Mod_put E.2.1 G x22.2.2.1 x24 x25 hx25 _ (Nat.le_refl _)) kd_162 rfl rfl (by omega) rfl (Nat.le_of_ble_eq_true rfl) d_Mod_pieces_184 rfl (fun M9 hq => ?_)
    rw [hq]
    refine V_iload_n (n := 1) X d_Mod_pieces_187 rfl rfl rfl ?_
    exact V_iret X (kr (x22.1, x25) (Option.some.inj h).symm) d_Mod_pieces_188
  · rw [if_pos c26] at h
    refine V_iconst (v := -1) X d_Mod_pieces_14 (by decide) rfl ?_
    exact V_iret X (kr ((-1 : Int32), M1) (Option.some.inj h).symm) d_Mod_pieces_15
def f_Mod_reach (v1 : Int32) (v2 : Int32) (M : Mem) : Option (Int32 × Mem) :=
  mem_ (s_i M 162 13 (0 : Int32)) fun M1 =>
  Option.bind (f_Mod_in v1 (0 : Int32) (1 : Int32)) fun x2 =>
  if x2 = 0 then
  some ((-1 : Int32), M1)
  else
  Option.bind (f_Mod_isCell v2 M1) fun x3 =>
  if x3 = 0 then
  some ((-1 : Int32), M1)
  else
  Option.bind (f_Mod_isOf v1 v2 M1) fun x4 =>
  if x4 = 0 then
  some ((-2 : Int32), M1)
  else
  Option.bind (f_Mod_placeOf v1 v2) fun x5 =>
  Option.bind (f_Mod_findFar x5 M1) fun x6 =>
  mem_ (s_i x6 162 12 (0 : Int32)) fun M7 =>
  Option.bind (f_Mod_putCells v1 M7) fun x8 =>
  Option.bind (f_Mod_reached v1 x8) fun x9 =>
  some (x9, x8)
theorem c_Mod_reach (l : Launch) (G : Gw)  (v1 : Int32) (v2 : Int32) (M : Mem) (x : Int32 × Mem) (h : f_Mod_reach v1 v2 M = some x) (d : Nat) (hD : 7 ≤ d) : Ci l G y_Mod_reach b_Mod_reach 3 (some .int) d [.ref (G.2.2 + 162), .int v1, .int v2] M (fun r9 M9 => r9 = x.1 ∧ M9 = x.2) := by
  refine Ci_of (by decide) (Nat.le_of_ble_eq_true rfl) (fun E hE X => ?_)
  subst hE
  have kr : ∀ x9 : Int32 × Mem, x = x9 → (fun r9 M9 => r9 = x.1 ∧ M9 = x.2) x9.1 x9.2 := fun x9 e9 => by subst e9; exact ⟨rfl, rfl⟩
  unfold f_Mod_reach at h
  refine V_aload_n (n := 0) X d_Mod_reach_0 rfl rfl rfl ?_
  refine V_iconst (v := 0) X d_Mod_reach_1 (by decide) rfl ?_
  obtain ⟨M1, eM1, h⟩ := memS h
  refine V_putI X fp_Mod_109 kd_162 rfl d_Mod_reach_2 rfl ?_
  rw [← eM1]
  refine V_iload_n (n := 1) X d_Mod_reach_5 rfl rfl rfl ?_
  refine V_iconst (v := 0) X d_Mod_reach_6 (by decide) rfl ?_
  refine V_iconst (v := 1) X d_Mod_reach_7 (by decide) rfl ?_
  obtain ⟨x2, hx2, h⟩ := ob_s h
  refine V_si (As := [.int v1, .int (0 : Int32), .int (1 : Int32)]) X (Z0 E) ml_Mod_119 yq_Mod_in (c_Mod_in E.2.1 G v1 (0 : Int32) (1 : Int32) M1 x2 hx2 _ (Nat.le_refl _)) rfl (by omega) rfl (Nat.le_of_ble_eq_true rfl) d_Mod_reach_8 rfl (fun r9 M9 hq => ?_)
  rw [hq.1, hq.2]
  refine V_if_eq (tgt := 22) X d_Mod_reach_11 (by decide) rfl (fun c12 => ?_) (fun c12 => ?_)
  · rw [if_pos c12] at h
    refine V_iconst (v := -1) X d_Mod_reach_22 (by decide) rfl ?_
    exact V_iret X (kr ((-1 : Int32), M1) (Option.some.inj h).symm) d_Mod_reach_23
  · rw [if_neg c12] at h
    refine V_aload_n (n := 0) X d_Mod_reach_14 rfl rfl rfl ?_
    refine V_iload_n (n := 2) X d_Mod_reach_15 rfl rfl rfl ?_
    obtain ⟨x3, hx3, h⟩ := ob_s h
    refine V_ci (As := [.int v2]) X (Z0 E) ml_Mod_137 yq_Mod_isCell (c_Mod_isCell E.2.1 G v2 M1 x3 hx3 _ (Nat.le_refl _)) kd_162 rfl rfl (by omega) rfl (Nat.le_of_ble_eq_true rfl) d_Mod_reach_16 rfl (fun r9 M9 hq => ?_)
    rw [hq.1, hq.2]
    refine V_if_ne (tgt := 24) X d_Mod_reach_19 (by decide) rfl (fun c11 => ?_) (fun c11 => ?_)
    · rw [if_neg c11] at h
      refine V_aload_n (n := 0) X d_Mod_reach_24 rfl rfl rfl ?_
      refine V_iload_n (n := 1) X d_Mod_reach_25 rfl rfl rfl ?_
      refine V_iload_n (n := 2) X d_Mod_reach_26 rfl rfl rfl ?_
      obtain ⟨x4, hx4, h⟩ := ob_s h
      refine V_ci (As := [.int v1, .int v2]) X (Z0 E) ml_Mod_140 yq_Mod_isOf (c_Mod_isOf E.2.1 G v1 v2 M1 x4 hx4 _ (Nat.le_refl _)) kd_162 rfl rfl (by omega) rfl (Nat.le_of_ble_eq_true rfl) d_Mod_reach_27 rfl (fun r9 M9 hq => ?_)
      rw [hq.1, hq.2]
      refine V_if_ne (tgt := 36) X d_Mod_reach_30 (by decide) rfl (fun c10 => ?_) (fun c10 => ?_)
      · rw [if_neg c10] at h
        refine V_aload_n (n := 0) X d_Mod_reach_36 rfl rfl rfl ?_
        refine V_iload_n (n := 1) X d_Mod_reach_37 rfl rfl rfl ?_
        refine V_iload_n (n := 2) X d_Mod_reach_38 rfl rfl rfl ?_
        obtain ⟨x5, hx5, h⟩ := ob_s h
        refine V_si (As := [.int v1, .int v2]) X (Z0 E) ml_Mod_154 yq_Mod_placeOf (c_Mod_placeOf E.2.1 G v1 v2 M1 x5 hx5 _ (Nat.le_refl _)) rfl (by omega) rfl (Nat.le_of_ble_eq_true rfl) d_Mod_reach_39 rfl (fun r9 M9 hq => ?_)
        rw [hq.1, hq.2]
        obtain ⟨x6, hx6, h⟩ := ob_s h
        refine V_cv (As := [.int x5]) X (Z0 E) ml_Mod_365 yq_Mod_findFar (c_Mod_findFar E.2.1 G x5 M1 x6 hx6 _ (Nat.le_refl _)) kd_162 rfl rfl (by omega) rfl (Nat.le_of_ble_eq_true rfl) d_Mod_reach_42 rfl (fun M9 hq => ?_)
        rw [hq]
        refine V_aload_n (n := 0) X d_Mod_reach_45 rfl rfl rfl ?_
        refine V_iconst (v := 0) X d_Mod_reach_46 (by decide) rfl ?_
        obtain ⟨M7, eM7, h⟩ := memS h
        refine V_putI X fp_Mod_112 kd_162 rfl d_Mod_reach_47 rfl ?_
        rw [← eM7]
        refine V_aload_n (n := 0) X d_Mod_reach_50 rfl rfl rfl ?_
        refine V_iload_n (n := 1) X d_Mod_reach_51 rfl rfl rfl ?_
        obtain ⟨x8, hx8, h⟩ := ob_s h
        refine V_cv (As := [.int v1]) X (Z0 E) ml_Mod_371 yq_Mod_putCells (c_Mod_putCells E.2.1 G v1 M7 x8 hx8 _ (Nat.le_refl _)) kd_162 rfl rfl (by omega) rfl (Nat.le_of_ble_eq_true rfl) d_Mod_reach_52 rfl (fun M9 hq => ?_)
        rw [hq]
        refine V_aload_n (n := 0) X d_Mod_reach_55 rfl rfl rfl ?_
        refine V_iload_n (n := 1) X d_Mod_reach_56 rfl rfl rfl ?_
        obtain ⟨x9, hx9, h⟩ := ob_s h
        refine V_ci (As := [.int v1]) X (Z0 E) ml_Mod_368 yq_Mod_reached (c_Mod_reached E.2.1 G v1 x8 x9 hx9 _ (Nat.le_refl _)) kd_162 rfl rfl (by omega) rfl (Nat.le_of_ble_eq_true rfl) d_Mod_reach_57 rfl (fun r9 M9 hq => ?_)
        rw [hq.1, hq.2]
        exact V_iret X (kr (x9, x8) (Option.some.inj h).symm) d_Mod_reach_60
      · rw [if_pos c10] at h
        refine V_bipush (v := -2) X d_Mod_reach_33 (by decide) rfl ?_
        exact V_iret X (kr ((-2 : Int32), M1) (Option.some.inj h).symm) d_Mod_reach_35
    · rw [if_pos c11] at h
      refine V_iconst (v := -1) X d_Mod_reach_22 (by decide) rfl ?_
      exact V_iret X (kr ((-1 : Int32), M1) (Option.some.inj h).symm) d_Mod_reach_23
def lb_Mod_path_79 (v4 : Int32) (v5 : Int32) (v6 : Int32) (M : Mem) (s : Int32) : Option ((Int32) ⊕ ((Int32))) :=
  Option.bind (f_Mod_go 163 v4 s M) fun x8 =>
  if x8 = (-1 : Int32) then
  some (.inl (s + (1 : Int32)))
  else
  Option.bind (f_Mod_go 163 v4 s M) fun x9 =>
  if inb x9 72 = true then
  if inb v4 72 = true then
  if (M.1 177 x9.toNatClampNeg) = ((M.1 177 v4.toNatClampNeg) - (1 : Int32)) then
  some (.inr s)
  else
  some (.inl (s + (1 : Int32)))
  else none
  else none
theorem lb_Mod_path_79_ok {E : Ev} {G : Gw} {d : Nat} {post : Int32 → Mem → Prop} (X : Cx E G b_Mod_path "WomenByTheRoofsModel" 8 d (some .int)) (hD : 7 ≤ d)  (v4 : Int32) (v5 : Int32) (v6 : Int32)  (M : Mem) (s : Int32) (o : (Int32) ⊕ ((Int32))) (h : lb_Mod_path_79 v4 v5 v6 M s = some o) (kc : ∀ s9 : Int32, o = .inl s9 → V E (0, 0) G 8 (QI E G post) M 79 [(0, .ref (G.2.2 + 162)), (4, .int v4), (5, .int v5), (6, .int v6), (7, .int s9)] []) (kx0 : ∀ x9 : Int32, o = .inr x9 → V E (0, 0) G 8 (QI E G post) M 130 [(0, .ref (G.2.2 + 162)), (4, .int v4), (5, .int v5), (6, .int v6), (7, .int x9)] []) : V E (0, 0) G 8 (QI E G post) M 79 [(0, .ref (G.2.2 + 162)), (4, .int v4), (5, .int v5), (6, .int v6), (7, .int s)] [] := by
  unfold lb_Mod_path_79 at h
  refine V_aload_n (n := 0) X d_Mod_path_79 rfl rfl rfl ?_
  refine V_aload_n (n := 0) X d_Mod_path_80 rfl rfl rfl ?_
  refine V_getr (k2 := 163) X fo_Mod_9 kd_162 rfl rf_162_0 d_Mod_path_81 rfl ?_
  refine V_iload (n := 1) X d_Mod_path_84 rfl rfl ?_
  refine V_iload (n := 4) X d_Mod_path_86 rfl rfl ?_
  obtain ⟨x8, hx8, h⟩ := ob_s h
  refine V_ci (As := [.ref (G.2.2 + 163), .int v4, .int s]) X (Z0 E) ml_Mod_252 yq_Mod_go (c_Mod_go E.2.1 G 163 v4 s M x8 hx8 _ (Nat.le_refl _)) kd_162 rfl rfl (by omega) rfl (Nat.le_of_ble_eq_true rfl) d_Mod_path_88 rfl (fun r9 M9 hq => ?_)
  rw [hq.1, hq.2]
  refine V_iconst (v := -1) X d_Mod_path_91 (by decide) rfl ?_
  refine V_icmp_eq (tgt := 124) X d_Mod_path_92 (by decide) rfl (fun c11 => ?_) (fun c11 => ?_)
  · rw [if_pos c11] at h
    refine V_iinc (n := 4) (v := (s + (1 : Int32))) (lv' := [(7, .int (s + (1 : Int32))), (0, .ref (G.2.2 + 162)), (4, .int v4), (5, .int v5), (6, .int v6)]) X d_Mod_path_124 rfl rfl (by decide) rfl rfl ?_
    refine V_goto (pc' := 79) X d_Mod_path_127 (by decide) ?_
    refine V_sub (lv' := [(0, .ref (G.2.2 + 162)), (4, .int v4), (5, .int v5), (6, .int v6), (7, .int (s + (1 : Int32)))]) [1, 2, 3, 4, 0] rfl ?_
    exact kc (s + (1 : Int32)) (Option.some.inj h).symm
  · rw [if_neg c11] at h
    refine V_aload_n (n := 0) X d_Mod_path_95 rfl rfl rfl ?_
    refine V_getr (k2 := 177) X fo_Mod_63 kd_162 rfl rf_162_35 d_Mod_path_96 rfl ?_
    refine V_aload_n (n := 0) X d_Mod_path_99 rfl rfl rfl ?_
    refine V_aload_n (n := 0) X d_Mod_path_100 rfl rfl rfl ?_
    refine V_getr (k2 := 163) X fo_Mod_9 kd_162 rfl rf_162_0 d_Mod_path_101 rfl ?_
    refine V_iload (n := 1) X d_Mod_path_104 rfl rfl ?_
    refine V_iload (n := 4) X d_Mod_path_106 rfl rfl ?_
    obtain ⟨x9, hx9, h⟩ := ob_s h
    refine V_ci (As := [.ref (G.2.2 + 163), .int v4, .int s]) X (Z0 E) ml_Mod_252 yq_Mod_go (c_Mod_go E.2.1 G 163 v4 s M x9 hx9 _ (Nat.le_refl _)) kd_162 rfl rfl (by omega) rfl (Nat.le_of_ble_eq_true rfl) d_Mod_path_108 rfl (fun r9 M9 hq => ?_)
    rw [hq.1, hq.2]
    obtain ⟨hb, h⟩ := ifn h
    refine V_iald X kd_177 (inb_in ln_177 hb) d_Mod_path_111 rfl ?_
    refine V_aload_n (n := 0) X d_Mod_path_112 rfl rfl rfl ?_
    refine V_getr (k2 := 177) X fo_Mod_63 kd_162 rfl rf_162_35 d_Mod_path_113 rfl ?_
    refine V_iload (n := 1) X d_Mod_path_116 rfl rfl ?_
    obtain ⟨hb, h⟩ := ifn h
    refine V_iald X kd_177 (inb_in ln_177 hb) d_Mod_path_118 rfl ?_
    refine V_iconst (v := 1) X d_Mod_path_119 (by decide) rfl ?_
    refine V_isub X d_Mod_path_120 rfl ?_
    refine V_icmp_eq (tgt := 130) X d_Mod_path_121 (by decide) rfl (fun c10 => ?_) (fun c10 => ?_)
    · rw [if_pos c10] at h
      exact kx0 s (Option.some.inj h).symm
    · rw [if_neg c10] at h
      refine V_iinc (n := 4) (v := (s + (1 : Int32))) (lv' := [(7, .int (s + (1 : Int32))), (0, .ref (G.2.2 + 162)), (4, .int v4), (5, .int v5), (6, .int v6)]) X d_Mod_path_124 rfl rfl (by decide) rfl rfl ?_
      refine V_goto (pc' := 79) X d_Mod_path_127 (by decide) ?_
      refine V_sub (lv' := [(0, .ref (G.2.2 + 162)), (4, .int v4), (5, .int v5), (6, .int v6), (7, .int (s + (1 : Int32)))]) [1, 2, 3, 4, 0] rfl ?_
      exact kc (s + (1 : Int32)) (Option.some.inj h).symm
theorem lp_Mod_path_79_ok {E : Ev} {G : Gw} {d : Nat} {post : Int32 → Mem → Prop} (X : Cx E G b_Mod_path "WomenByTheRoofsModel" 8 d (some .int)) (hD : 7 ≤ d)  (v4 : Int32) (v5 : Int32) (v6 : Int32)  (M : Mem) (n9 : Nat) (s : Int32) (x : (Int32)) (h : iter (lb_Mod_path_79 v4 v5 v6 M) n9 s = some x) (kx0 : ∀ x9 : Int32, x = x9 → V E (0, 0) G 8 (QI E G post) M 130 [(0, .ref (G.2.2 + 162)), (4, .int v4), (5, .int v5), (6, .int v6), (7, .int x9)] []) : V E (0, 0) G 8 (QI E G post) M 79 [(0, .ref (G.2.2 + 162)), (4, .int v4), (5, .int v5), (6, .int v6), (7, .int s)] [] :=
  iter_P (P := fun s : Int32 => V E (0, 0) G 8 (QI E G post) M 79 [(0, .ref (G.2.2 + 162)), (4, .int v4), (5, .int v5), (6, .int v6), (7, .int s)] []) (fun s o hb kc ky => lb_Mod_path_79_ok X hD v4 v5 v6 M s o hb kc (fun x9 e9 => kx0 x9 (ky _ e9).symm)) n9 s h
def j_Mod_path_143_69 (v4 : Int32) (v5 : Int32) (v6 : Int32) (v7 : Int32) (M : Mem) : Option ((Int32 × Int32 × Mem) ⊕ ((Mem))) :=
  Option.bind (f_Mod_go 163 v4 v7 M) fun x13 =>
  some (.inl (x13, (v6 + (1 : Int32)), M))
theorem j_Mod_path_143_69_ok {E : Ev} {G : Gw} {d : Nat} {post : Int32 → Mem → Prop} (X : Cx E G b_Mod_path "WomenByTheRoofsModel" 8 d (some .int)) (hD : 7 ≤ d)  (v4 : Int32) (v5 : Int32) (v6 : Int32) (v7 : Int32)  (M : Mem)  (o : (Int32 × Int32 × Mem) ⊕ ((Mem))) (h : j_Mod_path_143_69 v4 v5 v6 v7 M = some o) (kc : ∀ s9 : Int32 × Int32 × Mem, o = .inl s9 → V E (0, 0) G 8 (QI E G post) s9.2.2 69 [(0, .ref (G.2.2 + 162)), (4, .int s9.1), (5, .int v5), (6, .int s9.2.1)] []) (kx0 : ∀ x9 : Mem, o = .inr x9 → V E (0, 0) G 8 (QI E G post) x9 163 [(5, .int v5)] []) : V E (0, 0) G 8 (QI E G post) M 143 [(0, .ref (G.2.2 + 162)), (4, .int v4), (5, .int v5), (6, .int v6), (7, .int v7)] [] := by
  unfold j_Mod_path_143_69 at h
  refine V_aload_n (n := 0) X d_Mod_path_143 rfl rfl rfl ?_
  refine V_aload_n (n := 0) X d_Mod_path_144 rfl rfl rfl ?_
  refine V_getr (k2 := 163) X fo_Mod_9 kd_162 rfl rf_162_0 d_Mod_path_145 rfl ?_
  refine V_iload (n := 1) X d_Mod_path_148 rfl rfl ?_
  refine V_iload (n := 4) X d_Mod_path_150 rfl rfl ?_
  obtain ⟨x13, hx13, h⟩ := ob_s h
  refine V_ci (As := [.ref (G.2.2 + 163), .int v4, .int v7]) X (Z0 E) ml_Mod_252 yq_Mod_go (c_Mod_go E.2.1 G 163 v4 v7 M x13 hx13 _ (Nat.le_refl _)) kd_162 rfl rfl (by omega) rfl (Nat.le_of_ble_eq_true rfl) d_Mod_path_152 rfl (fun r9 M9 hq => ?_)
  rw [hq.1, hq.2]
  refine V_istore (lv' := [(4, .int x13), (0, .ref (G.2.2 + 162)), (5, .int v5), (6, .int v6), (7, .int v7)]) X d_Mod_path_155 (by decide) rfl rfl ?_
  refine V_iinc (n := 3) (v := (v6 + (1 : Int32))) (lv' := [(6, .int (v6 + (1 : Int32))), (4, .int x13), (0, .ref (G.2.2 + 162)), (5, .int v5), (7, .int v7)]) X d_Mod_path_157 rfl rfl (by decide) rfl rfl ?_
  refine V_goto (pc' := 69) X d_Mod_path_160 (by decide) ?_
  refine V_sub (lv' := [(0, .ref (G.2.2 + 162)), (4, .int x13), (5, .int v5), (6, .int (v6 + (1 : Int32)))]) [2, 1, 3, 0] rfl ?_
  exact kc (x13, (v6 + (1 : Int32)), M) (Option.some.inj h).symm
def lb_Mod_path_69 (v5 : Int32) (s : Int32 × Int32 × Mem) : Option ((Int32 × Int32 × Mem) ⊕ ((Mem))) :=
  if v5 ≤ s.2.1 then
  some (.inr s.2.2)
  else
  Option.bind (iter (lb_Mod_path_79 s.1 v5 s.2.1 s.2.2) FU (0 : Int32)) fun x12 =>
  if (10 : Int32) ≤ s.2.1 then
  j_Mod_path_143_69 s.1 v5 s.2.1 x12 s.2.2
  else
  Option.bind (f_Mod_put x12 s.2.2) fun x14 =>
  j_Mod_path_143_69 s.1 v5 s.2.1 x12 x14
theorem lb_Mod_path_69_ok {E : Ev} {G : Gw} {d : Nat} {post : Int32 → Mem → Prop} (X : Cx E G b_Mod_path "WomenByTheRoofsModel" 8 d (some .int)) (hD : 7 ≤ d)  (v5 : Int32)   (s : Int32 × Int32 × Mem) (o : (Int32 × Int32 × Mem) ⊕ ((Mem))) (h : lb_Mod_path_69 v5 s = some o) (kc : ∀ s9 : Int32 × Int32 × Mem, o = .inl s9 → V E (0, 0) G 8 (QI E G post) s9.2.2 69 [(0, .ref (G.2.2 + 162)), (4, .int s9.1), (5, .int v5), (6, .int s9.2.1)] []) (kx0 : ∀ x9 : Mem, o = .inr x9 → V E (0, 0) G 8 (QI E G post) x9 163 [(5, .int v5)] []) : V E (0, 0) G 8 (QI E G post) s.2.2 69 [(0, .ref (G.2.2 + 162)), (4, .int s.1), (5, .int v5), (6, .int s.2.1)] [] := by
  unfold lb_Mod_path_69 at h
  refine V_iload (n := 3) X d_Mod_path_69 rfl rfl ?_
  refine V_iload (n := 2) X d_Mod_path_71 rfl rfl ?_
  refine V_icmp_ge (tgt := 163) X d_Mod_path_73 (by decide) rfl (fun c16 => ?_) (fun c16 => ?_)
  · rw [if_pos c16] at h
    refine V_sub (lv' := [(5, .int v5)]) [2] rfl ?_
    exact kx0 s.2.2 (Option.some.inj h).symm
  · rw [if_neg c16] at h
    refine V_iconst (v := 0) X d_Mod_path_76 (by decide) rfl ?_
    refine V_istore (lv' := [(7, .int (0 : Int32)), (0, .ref (G.2.2 + 162)), (4, .int s.1), (5, .int v5), (6, .int s.2.1)]) X d_Mod_path_77 (by decide) rfl rfl ?_
    refine V_sub (lv' := [(0, .ref (G.2.2 + 162)), (4, .int s.1), (5, .int v5), (6, .int s.2.1), (7, .int (0 : Int32))]) [1, 2, 3, 4, 0] rfl ?_
    obtain ⟨x12, hx12, h⟩ := ob_s h
    refine lp_Mod_path_79_ok X hD s.1 v5 s.2.1 s.2.2 _ _ _ hx12 (fun x9 e9 => ?_)
    subst e9
    refine V_iload (n := 3) X d_Mod_path_130 rfl rfl ?_
    refine V_bipush (v := 10) X d_Mod_path_132 (by decide) rfl ?_
    refine V_icmp_ge (tgt := 143) X d_Mod_path_134 (by decide) rfl (fun c15 => ?_) (fun c15 => ?_)
    · rw [if_pos c15] at h
      exact j_Mod_path_143_69_ok X hD s.1 v5 s.2.1 x12 s.2.2 _ h kc kx0
    · rw [if_neg c15] at h
      refine V_aload_n (n := 0) X d_Mod_path_137 rfl rfl rfl ?_
      refine V_iload (n := 4) X d_Mod_path_138 rfl rfl ?_
      obtain ⟨x14, hx14, h⟩ := ob_s h
      refine V_cv (As := [.int x12]) X (Z0 E) ml_Mod_342 yq_Mod_put (c_Mod_put E.2.1 G x12 s.2.2 x14 hx14 _ (Nat.le_refl _)) kd_162 rfl rfl (by omega) rfl (Nat.le_of_ble_eq_true rfl) d_Mod_path_140 rfl (fun M9 hq => ?_)
      rw [hq]
      exact j_Mod_path_143_69_ok X hD s.1 v5 s.2.1 x12 x14 _ h kc kx0
theorem lp_Mod_path_69_ok {E : Ev} {G : Gw} {d : Nat} {post : Int32 → Mem → Prop} (X : Cx E G b_Mod_path "WomenByTheRoofsModel" 8 d (some .int)) (hD : 7 ≤ d)  (v5 : Int32)   (n9 : Nat) (s : Int32 × Int32 × Mem) (x : (Mem)) (h : iter (lb_Mod_path_69 v5) n9 s = some x) (kx0 : ∀ x9 : Mem, x = x9 → V E (0, 0) G 8 (QI E G post) x9 163 [(5, .int v5)] []) : V E (0, 0) G 8 (QI E G post) s.2.2 69 [(0, .ref (G.2.2 + 162)), (4, .int s.1), (5, .int v5), (6, .int s.2.1)] [] :=
  iter_P (P := fun s : Int32 × Int32 × Mem => V E (0, 0) G 8 (QI E G post) s.2.2 69 [(0, .ref (G.2.2 + 162)), (4, .int s.1), (5, .int v5), (6, .int s.2.1)] []) (fun s o hb kc ky => lb_Mod_path_69_ok X hD v5 s o hb kc (fun x9 e9 => kx0 x9 (ky _ e9).symm)) n9 s h
def f_Mod_path (v1 : Int32) (v2 : Int32) (v3 : Int32) (M : Mem) : Option (Int32 × Mem) :=
  mem_ (s_i M 162 13 (0 : Int32)) fun M1 =>
  Option.bind (f_Mod_isPlaceOf v1 v2 M1) fun x2 =>
  if x2 = 0 then
  some ((-1 : Int32), M1)
  else
  Option.bind (f_Mod_isPlaceOf v1 v3 M1) fun x3 =>
  if x3 = 0 then
  some ((-1 : Int32), M1)
  else
  Option.bind (f_Mod_placeOf v1 v3) fun x4 =>
  Option.bind (f_Mod_findFar x4 M1) fun x5 =>
  Option.bind (f_Mod_placeOf v1 v2) fun x6 =>
  if inb x6 72 = true then
  if (x5.1 177 x6.toNatClampNeg) < (1000000 : Int32) then
  mem_ (s_i x5 162 12 (0 : Int32)) fun M7 =>
  Option.bind (iter (lb_Mod_path_69 (x5.1 177 x6.toNatClampNeg)) FU (x6, (0 : Int32), M7)) fun x17 =>
  some ((x5.1 177 x6.toNatClampNeg), x17)
  else
  some ((-2 : Int32), x5)
  else none
theorem c_Mod_path (l : Launch) (G : Gw)  (v1 : Int32) (v2 : Int32) (v3 : Int32) (M : Mem) (x : Int32 × Mem) (h : f_Mod_path v1 v2 v3 M = some x) (d : Nat) (hD : 7 ≤ d) : Ci l G y_Mod_path b_Mod_path 8 (some .int) d [.ref (G.2.2 + 162), .int v1, .int v2, .int v3] M (fun r9 M9 => r9 = x.1 ∧ M9 = x.2) := by
  refine Ci_of (by decide) (Nat.le_of_ble_eq_true rfl) (fun E hE X => ?_)
  subst hE
  have kr : ∀ x9 : Int32 × Mem, x = x9 → (fun r9 M9 => r9 = x.1 ∧ M9 = x.2) x9.1 x9.2 := fun x9 e9 => by subst e9; exact ⟨rfl, rfl⟩
  unfold f_Mod_path at h
  refine V_aload_n (n := 0) X d_Mod_path_0 rfl rfl rfl ?_
  refine V_iconst (v := 0) X d_Mod_path_1 (by decide) rfl ?_
  obtain ⟨M1, eM1, h⟩ := memS h
  refine V_putI X fp_Mod_109 kd_162 rfl d_Mod_path_2 rfl ?_
  rw [← eM1]
  refine V_aload_n (n := 0) X d_Mod_path_5 rfl rfl rfl ?_
  refine V_iload_n (n := 1) X d_Mod_path_6 rfl rfl rfl ?_
  refine V_iload_n (n := 2) X d_Mod_path_7 rfl rfl rfl ?_
  obtain ⟨x2, hx2, h⟩ := ob_s h
  refine V_ci (As := [.int v1, .int v2]) X (Z0 E) ml_Mod_374 yq_Mod_isPlaceOf (c_Mod_isPlaceOf E.2.1 G v1 v2 M1 x2 hx2 _ (Nat.le_refl _)) kd_162 rfl rfl (by omega) rfl (Nat.le_of_ble_eq_true rfl) d_Mod_path_8 rfl (fun r9 M9 hq => ?_)
  rw [hq.1, hq.2]
  refine V_if_eq (tgt := 23) X d_Mod_path_11 (by decide) rfl (fun c20 => ?_) (fun c20 => ?_)
  · rw [if_pos c20] at h
    refine V_iconst (v := -1) X d_Mod_path_23 (by decide) rfl ?_
    exact V_iret X (kr ((-1 : Int32), M1) (Option.some.inj h).symm) d_Mod_path_24
  · rw [if_neg c20] at h
    refine V_aload_n (n := 0) X d_Mod_path_14 rfl rfl rfl ?_
    refine V_iload_n (n := 1) X d_Mod_path_15 rfl rfl rfl ?_
    refine V_iload_n (n := 3) X d_Mod_path_16 rfl rfl rfl ?_
    obtain ⟨x3, hx3, h⟩ := ob_s h
    refine V_ci (As := [.int v1, .int v3]) X (Z0 E) ml_Mod_374 yq_Mod_isPlaceOf (c_Mod_isPlaceOf E.2.1 G v1 v3 M1 x3 hx3 _ (Nat.le_refl _)) kd_162 rfl rfl (by omega) rfl (Nat.le_of_ble_eq_true rfl) d_Mod_path_17 rfl (fun r9 M9 hq => ?_)
    rw [hq.1, hq.2]
    refine V_if_ne (tgt := 25) X d_Mod_path_20 (by decide) rfl (fun c19 => ?_) (fun c19 => ?_)
    · rw [if_neg c19] at h
      refine V_aload_n (n := 0) X d_Mod_path_25 rfl rfl rfl ?_
      refine V_iload_n (n := 1) X d_Mod_path_26 rfl rfl rfl ?_
      refine V_iload_n (n := 3) X d_Mod_path_27 rfl rfl rfl ?_
      obtain ⟨x4, hx4, h⟩ := ob_s h
      refine V_si (As := [.int v1, .int v3]) X (Z0 E) ml_Mod_154 yq_Mod_placeOf (c_Mod_placeOf E.2.1 G v1 v3 M1 x4 hx4 _ (Nat.le_refl _)) rfl (by omega) rfl (Nat.le_of_ble_eq_true rfl) d_Mod_path_28 rfl (fun r9 M9 hq => ?_)
      rw [hq.1, hq.2]
      obtain ⟨x5, hx5, h⟩ := ob_s h
      refine V_cv (As := [.int x4]) X (Z0 E) ml_Mod_365 yq_Mod_findFar (c_Mod_findFar E.2.1 G x4 M1 x5 hx5 _ (Nat.le_refl _)) kd_162 rfl rfl (by omega) rfl (Nat.le_of_ble_eq_true rfl) d_Mod_path_31 rfl (fun M9 hq => ?_)
      rw [hq]
      refine V_iload_n (n := 1) X d_Mod_path_34 rfl rfl rfl ?_
      refine V_iload_n (n := 2) X d_Mod_path_35 rfl rfl rfl ?_
      obtain ⟨x6, hx6, h⟩ := ob_s h
      refine V_si (As := [.int v1, .int v2]) X (Z0 E) ml_Mod_154 yq_Mod_placeOf (c_Mod_placeOf E.2.1 G v1 v2 x5 x6 hx6 _ (Nat.le_refl _)) rfl (by omega) rfl (Nat.le_of_ble_eq_true rfl) d_Mod_path_36 rfl (fun r9 M9 hq => ?_)
      rw [hq.1, hq.2]
      refine V_istore (lv' := [(4, .int x6), (0, .ref (G.2.2 + 162)), (1, .int v1), (2, .int v2), (3, .int v3)]) X d_Mod_path_39 (by decide) rfl rfl ?_
      refine V_aload_n (n := 1) X d_Mod_path_41 rfl rfl rfl ?_
      refine V_getr (k2 := 177) X fo_Mod_63 kd_162 rfl rf_162_35 d_Mod_path_42 rfl ?_
      refine V_iload (n := 0) X d_Mod_path_45 rfl rfl ?_
      obtain ⟨hb, h⟩ := ifn h
      refine V_iald X kd_177 (inb_in ln_177 hb) d_Mod_path_47 rfl ?_
      refine V_istore (lv' := [(5, .int (x5.1 177 x6.toNatClampNeg)), (4, .int x6), (0, .ref (G.2.2 + 162)), (1, .int v1), (2, .int v2), (3, .int v3)]) X d_Mod_path_48 (by decide) rfl rfl ?_
      refine V_iload (n := 0) X d_Mod_path_50 rfl rfl ?_
      refine V_ldc_w (v := 1000000) X d_Mod_path_52 kc_Mod_357 rfl ?_
      refine V_icmp_lt (tgt := 61) X d_Mod_path_55 (by decide) rfl (fun c18 => ?_) (fun c18 => ?_)
      · rw [if_pos c18] at h
        refine V_aload_n (n := 2) X d_Mod_path_61 rfl rfl rfl ?_
        refine V_iconst (v := 0) X d_Mod_path_62 (by decide) rfl ?_
        obtain ⟨M7, eM7, h⟩ := memS h
        refine V_putI X fp_Mod_112 kd_162 rfl d_Mod_path_63 rfl ?_
        rw [← eM7]
        refine V_iconst (v := 0) X d_Mod_path_66 (by decide) rfl ?_
        refine V_istore (lv' := [(6, .int (0 : Int32)), (5, .int (x5.1 177 x6.toNatClampNeg)), (4, .int x6), (0, .ref (G.2.2 + 162)), (1, .int v1), (2, .int v2), (3, .int v3)]) X d_Mod_path_67 (by decide) rfl rfl ?_
        refine V_sub (lv' := [(0, .ref (G.2.2 + 162)), (4, .int x6), (5, .int (x5.1 177 x6.toNatClampNeg)), (6, .int (0 : Int32))]) [3, 2, 1, 0] rfl ?_
        obtain ⟨x17, hx17, h⟩ := ob_s h
        refine lp_Mod_path_69_ok X hD (x5.1 177 x6.toNatClampNeg) _ _ _ hx17 (fun x9 e9 => ?_)
        subst e9
        refine V_iload (n := 0) X d_Mod_path_163 rfl rfl ?_
        exact V_iret X (kr ((x5.1 177 x6.toNatClampNeg), x17) (Option.some.inj h).symm) d_Mod_path_165
      · rw [if_neg c18] at h
        refine V_bipush (v := -2) X d_Mod_path_58 (by decide) rfl ?_
        exact V_iret X (kr ((-2 : Int32), x5) (Option.some.inj h).symm) d_Mod_path_60
    · rw [if_pos c19] at h
      refine V_iconst (v := -1) X d_Mod_path_23 (by decide) rfl ?_
      exact V_iret X (kr ((-1 : Int32), M1) (Option.some.inj h).symm) d_Mod_path_24
def f_Mod_lowerBoth (v1 : Int32) (v2 : Int32) (M : Mem) : Option (Int32 × Mem) :=
  if v1 = (-1 : Int32) then
  some ((0 : Int32), M)
  else
  if inb v1 72 = true then
  if v2 < (M.1 180 v1.toNatClampNeg) then
  if inb v1 72 = true then
  mem_ (s_i M 180 v1.toNatClampNeg v2) fun M1 =>
  some ((1 : Int32), M1)
  else none
  else
  some ((0 : Int32), M)
  else none
theorem c_Mod_lowerBoth (l : Launch) (G : Gw)  (v1 : Int32) (v2 : Int32) (M : Mem) (x : Int32 × Mem) (h : f_Mod_lowerBoth v1 v2 M = some x) (d : Nat) (hD : 1 ≤ d) : Ci l G y_Mod_lowerBoth b_Mod_lowerBoth 3 (some .boolean) d [.ref (G.2.2 + 162), .int v1, .int v2] M (fun r9 M9 => r9 = x.1 ∧ M9 = x.2) := by
  refine Ci_of (by decide) (Nat.le_of_ble_eq_true rfl) (fun E hE X => ?_)
  subst hE
  have kr : ∀ x9 : Int32 × Mem, x = x9 → (fun r9 M9 => r9 = x.1 ∧ M9 = x.2) x9.1 x9.2 := fun x9 e9 => by subst e9; exact ⟨rfl, rfl⟩
  unfold f_Mod_lowerBoth at h
  refine V_iload_n (n := 1) X d_Mod_lowerBoth_0 rfl rfl rfl ?_
  refine V_iconst (v := -1) X d_Mod_lowerBoth_1 (by decide) rfl ?_
  refine V_icmp_eq (tgt := 15) X d_Mod_lowerBoth_2 (by decide) rfl (fun c3 => ?_) (fun c3 => ?_)
  · rw [if_pos c3] at h
    refine V_iconst (v := 0) X d_Mod_lowerBoth_15 (by decide) rfl ?_
    exact V_zret X (kr ((0 : Int32), M) (Option.some.inj h).symm) (by decide) d_Mod_lowerBoth_16
  · rw [if_neg c3] at h
    refine V_aload_n (n := 0) X d_Mod_lowerBoth_5 rfl rfl rfl ?_
    refine V_getr (k2 := 180) X fo_Mod_73 kd_162 rfl rf_162_38 d_Mod_lowerBoth_6 rfl ?_
    refine V_iload_n (n := 1) X d_Mod_lowerBoth_9 rfl rfl rfl ?_
    obtain ⟨hb, h⟩ := ifn h
    refine V_iald X kd_180 (inb_in ln_180 hb) d_Mod_lowerBoth_10 rfl ?_
    refine V_iload_n (n := 2) X d_Mod_lowerBoth_11 rfl rfl rfl ?_
    refine V_icmp_gt (tgt := 17) X d_Mod_lowerBoth_12 (by decide) rfl (fun c2 => ?_) (fun c2 => ?_)
    · rw [if_pos c2] at h
      refine V_aload_n (n := 0) X d_Mod_lowerBoth_17 rfl rfl rfl ?_
      refine V_getr (k2 := 180) X fo_Mod_73 kd_162 rfl rf_162_38 d_Mod_lowerBoth_18 rfl ?_
      refine V_iload_n (n := 1) X d_Mod_lowerBoth_21 rfl rfl rfl ?_
      refine V_iload_n (n := 2) X d_Mod_lowerBoth_22 rfl rfl rfl ?_
      obtain ⟨hb, h⟩ := ifn h
      obtain ⟨M1, eM1, h⟩ := memS h
      refine V_iast X kd_180 (inb_in ln_180 hb) d_Mod_lowerBoth_23 rfl ?_
      rw [← eM1]
      refine V_iconst (v := 1) X d_Mod_lowerBoth_24 (by decide) rfl ?_
      exact V_zret X (kr ((1 : Int32), M1) (Option.some.inj h).symm) (by decide) d_Mod_lowerBoth_25
    · rw [if_neg c2] at h
      refine V_iconst (v := 0) X d_Mod_lowerBoth_15 (by decide) rfl ?_
      exact V_zret X (kr ((0 : Int32), M) (Option.some.inj h).symm) (by decide) d_Mod_lowerBoth_16
