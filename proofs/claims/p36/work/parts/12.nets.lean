theorem d_Nets_isOf_0 : decode b_Nets_isOf 0 = .ok (.aload_n 0, 1) := kq_42 byq_r (by decide +kernel)
theorem d_Nets_isOf_1 : decode b_Nets_isOf 1 = .ok (.getfield 9, 3) := kq_180 byq_r (a := 0) (b := 9) (by decide +kernel)
theorem d_Nets_isOf_4 : decode b_Nets_isOf 4 = .ok (.iload_n 1, 1) := kq_27 byq_r (by decide +kernel)
theorem d_Nets_isOf_5 : decode b_Nets_isOf 5 = .ok (.laload, 1) := kq_47 byq_r (by decide +kernel)
theorem d_Nets_isOf_6 : decode b_Nets_isOf 6 = .ok (.iload_n 2, 1) := kq_28 byq_r (by decide +kernel)
theorem d_Nets_isOf_7 : decode b_Nets_isOf 7 = .ok (.lshr, 1) := kq_123 byq_r (by decide +kernel)
theorem d_Nets_isOf_8 : decode b_Nets_isOf 8 = .ok (.lconst 1, 1) := kq_10 byq_r (by decide +kernel)
theorem d_Nets_isOf_9 : decode b_Nets_isOf 9 = .ok (.land, 1) := kq_127 byq_r (by decide +kernel)
theorem d_Nets_isOf_10 : decode b_Nets_isOf 10 = .ok (.lconst 0, 1) := kq_9 byq_r (by decide +kernel)
theorem d_Nets_isOf_11 : decode b_Nets_isOf 11 = .ok (.lcmp, 1) := kq_148 byq_r (by decide +kernel)
theorem d_Nets_isOf_12 : decode b_Nets_isOf 12 = .ok (.ifCond .eq 7, 3) := kq_153 byq_r (a := 0) (b := 7) (by decide +kernel)
theorem d_Nets_isOf_15 : decode b_Nets_isOf 15 = .ok (.iconst 1, 1) := kq_4 byq_r (by decide +kernel)
theorem d_Nets_isOf_16 : decode b_Nets_isOf 16 = .ok (.goto 4, 3) := kq_167 byq_r (a := 0) (b := 4) (by decide +kernel)
theorem d_Nets_isOf_19 : decode b_Nets_isOf 19 = .ok (.iconst 0, 1) := kq_3 byq_r (by decide +kernel)
theorem d_Nets_isOf_20 : decode b_Nets_isOf 20 = .ok (.ireturn, 1) := kq_172 byq_r (by decide +kernel)
theorem d_Nets_link_0 : decode b_Nets_link 0 = .ok (.iload_n 2, 1) := kq_28 byq_r (by decide +kernel)
theorem d_Nets_link_1 : decode b_Nets_link 1 = .ok (.bipush 36, 2) := kq_16 byq_r (b := 36) (by decide +kernel)
theorem d_Nets_link_3 : decode b_Nets_link 3 = .ok (.imul, 1) := kq_104 byq_r (by decide +kernel)
theorem d_Nets_link_4 : decode b_Nets_link 4 = .ok (.iload_n 3, 1) := kq_29 byq_r (by decide +kernel)
theorem d_Nets_link_5 : decode b_Nets_link 5 = .ok (.iadd, 1) := kq_96 byq_r (by decide +kernel)
theorem d_Nets_link_6 : decode b_Nets_link 6 = .ok (.istore 4, 2) := kq_54 byq_r (by decide +kernel)
theorem d_Nets_link_8 : decode b_Nets_link 8 = .ok (.aload_n 0, 1) := kq_42 byq_r (by decide +kernel)
theorem d_Nets_link_9 : decode b_Nets_link 9 = .ok (.getfield 15, 3) := kq_180 byq_r (a := 0) (b := 15) (by decide +kernel)
theorem d_Nets_link_12 : decode b_Nets_link 12 = .ok (.iload 4, 2) := kq_21 byq_r (by decide +kernel)
theorem d_Nets_link_14 : decode b_Nets_link 14 = .ok (.lconst 0, 1) := kq_9 byq_r (by decide +kernel)
theorem d_Nets_link_15 : decode b_Nets_link 15 = .ok (.lastore, 1) := kq_80 byq_r (by decide +kernel)
theorem d_Nets_link_16 : decode b_Nets_link 16 = .ok (.iconst 0, 1) := kq_3 byq_r (by decide +kernel)
theorem d_Nets_link_17 : decode b_Nets_link 17 = .ok (.istore 5, 2) := kq_54 byq_r (by decide +kernel)
theorem d_Nets_link_19 : decode b_Nets_link 19 = .ok (.iload 5, 2) := kq_21 byq_r (by decide +kernel)
theorem d_Nets_link_21 : decode b_Nets_link 21 = .ok (.iconst 4, 1) := kq_7 byq_r (by decide +kernel)
theorem d_Nets_link_22 : decode b_Nets_link 22 = .ok (.if_icmp .ge 96, 3) := kq_162 byq_r (a := 0) (b := 96) (by decide +kernel)
theorem d_Nets_link_25 : decode b_Nets_link 25 = .ok (.aload_n 1, 1) := kq_43 byq_r (by decide +kernel)
theorem d_Nets_link_26 : decode b_Nets_link 26 = .ok (.iload_n 3, 1) := kq_29 byq_r (by decide +kernel)
theorem d_Nets_link_27 : decode b_Nets_link 27 = .ok (.iload 5, 2) := kq_21 byq_r (by decide +kernel)
theorem d_Nets_link_29 : decode b_Nets_link 29 = .ok (.invokevirtual 47, 3) := kq_182 byq_r (a := 0) (b := 47) (by decide +kernel)
theorem d_Nets_link_32 : decode b_Nets_link 32 = .ok (.istore 6, 2) := kq_54 byq_r (by decide +kernel)
theorem d_Nets_link_34 : decode b_Nets_link 34 = .ok (.iload 6, 2) := kq_21 byq_r (by decide +kernel)
theorem d_Nets_link_36 : decode b_Nets_link 36 = .ok (.iconst (-1), 1) := kq_2 byq_r (by decide +kernel)
theorem d_Nets_link_37 : decode b_Nets_link 37 = .ok (.if_icmp .eq 26, 3) := kq_159 byq_r (a := 0) (b := 26) (by decide +kernel)
theorem d_Nets_link_40 : decode b_Nets_link 40 = .ok (.aload_n 0, 1) := kq_42 byq_r (by decide +kernel)
theorem d_Nets_link_41 : decode b_Nets_link 41 = .ok (.iload_n 2, 1) := kq_28 byq_r (by decide +kernel)
theorem d_Nets_link_42 : decode b_Nets_link 42 = .ok (.iload_n 3, 1) := kq_29 byq_r (by decide +kernel)
theorem d_Nets_link_43 : decode b_Nets_link 43 = .ok (.invokevirtual 51, 3) := kq_182 byq_r (a := 0) (b := 51) (by decide +kernel)
theorem d_Nets_link_46 : decode b_Nets_link 46 = .ok (.ifCond .eq 17, 3) := kq_153 byq_r (a := 0) (b := 17) (by decide +kernel)
theorem d_Nets_link_49 : decode b_Nets_link 49 = .ok (.aload_n 0, 1) := kq_42 byq_r (by decide +kernel)
theorem d_Nets_link_50 : decode b_Nets_link 50 = .ok (.iload_n 2, 1) := kq_28 byq_r (by decide +kernel)
theorem d_Nets_link_51 : decode b_Nets_link 51 = .ok (.iload 6, 2) := kq_21 byq_r (by decide +kernel)
theorem d_Nets_link_53 : decode b_Nets_link 53 = .ok (.invokevirtual 51, 3) := kq_182 byq_r (a := 0) (b := 51) (by decide +kernel)
theorem d_Nets_link_56 : decode b_Nets_link 56 = .ok (.ifCond .eq 7, 3) := kq_153 byq_r (a := 0) (b := 7) (by decide +kernel)
theorem d_Nets_link_59 : decode b_Nets_link 59 = .ok (.iconst 1, 1) := kq_4 byq_r (by decide +kernel)
theorem d_Nets_link_60 : decode b_Nets_link 60 = .ok (.goto 4, 3) := kq_167 byq_r (a := 0) (b := 4) (by decide +kernel)
theorem d_Nets_link_63 : decode b_Nets_link 63 = .ok (.iconst 0, 1) := kq_3 byq_r (by decide +kernel)
theorem d_Nets_link_64 : decode b_Nets_link 64 = .ok (.istore 7, 2) := kq_54 byq_r (by decide +kernel)
theorem d_Nets_link_66 : decode b_Nets_link 66 = .ok (.aload_n 0, 1) := kq_42 byq_r (by decide +kernel)
theorem d_Nets_link_67 : decode b_Nets_link 67 = .ok (.getfield 18, 3) := kq_180 byq_r (a := 0) (b := 18) (by decide +kernel)
theorem d_Nets_link_70 : decode b_Nets_link 70 = .ok (.iload 4, 2) := kq_21 byq_r (by decide +kernel)
theorem d_Nets_link_72 : decode b_Nets_link 72 = .ok (.iconst 4, 1) := kq_7 byq_r (by decide +kernel)
theorem d_Nets_link_73 : decode b_Nets_link 73 = .ok (.imul, 1) := kq_104 byq_r (by decide +kernel)
theorem d_Nets_link_74 : decode b_Nets_link 74 = .ok (.iload 5, 2) := kq_21 byq_r (by decide +kernel)
theorem d_Nets_link_76 : decode b_Nets_link 76 = .ok (.iadd, 1) := kq_96 byq_r (by decide +kernel)
theorem d_Nets_link_77 : decode b_Nets_link 77 = .ok (.iload 7, 2) := kq_21 byq_r (by decide +kernel)
theorem d_Nets_link_79 : decode b_Nets_link 79 = .ok (.ifCond .eq 8, 3) := kq_153 byq_r (a := 0) (b := 8) (by decide +kernel)
theorem d_Nets_link_82 : decode b_Nets_link 82 = .ok (.iload 6, 2) := kq_21 byq_r (by decide +kernel)
theorem d_Nets_link_84 : decode b_Nets_link 84 = .ok (.goto 4, 3) := kq_167 byq_r (a := 0) (b := 4) (by decide +kernel)
theorem d_Nets_link_87 : decode b_Nets_link 87 = .ok (.iconst (-1), 1) := kq_2 byq_r (by decide +kernel)
theorem d_Nets_link_88 : decode b_Nets_link 88 = .ok (.iastore, 1) := kq_79 byq_r (by decide +kernel)
theorem d_Nets_link_89 : decode b_Nets_link 89 = .ok (.aload_n 0, 1) := kq_42 byq_r (by decide +kernel)
theorem d_Nets_link_90 : decode b_Nets_link 90 = .ok (.getfield 15, 3) := kq_180 byq_r (a := 0) (b := 15) (by decide +kernel)
theorem d_Nets_link_93 : decode b_Nets_link 93 = .ok (.iload 4, 2) := kq_21 byq_r (by decide +kernel)
theorem d_Nets_link_95 : decode b_Nets_link 95 = .ok (.dup2, 1) := kq_92 byq_r (by decide +kernel)
theorem d_Nets_link_96 : decode b_Nets_link 96 = .ok (.laload, 1) := kq_47 byq_r (by decide +kernel)
theorem d_Nets_link_97 : decode b_Nets_link 97 = .ok (.iload 7, 2) := kq_21 byq_r (by decide +kernel)
theorem d_Nets_link_99 : decode b_Nets_link 99 = .ok (.ifCond .eq 10, 3) := kq_153 byq_r (a := 0) (b := 10) (by decide +kernel)
theorem d_Nets_link_102 : decode b_Nets_link 102 = .ok (.lconst 1, 1) := kq_10 byq_r (by decide +kernel)
theorem d_Nets_link_103 : decode b_Nets_link 103 = .ok (.iload 6, 2) := kq_21 byq_r (by decide +kernel)
theorem d_Nets_link_105 : decode b_Nets_link 105 = .ok (.lshl, 1) := kq_121 byq_r (by decide +kernel)
theorem d_Nets_link_106 : decode b_Nets_link 106 = .ok (.goto 4, 3) := kq_167 byq_r (a := 0) (b := 4) (by decide +kernel)
theorem d_Nets_link_109 : decode b_Nets_link 109 = .ok (.lconst 0, 1) := kq_9 byq_r (by decide +kernel)
theorem d_Nets_link_110 : decode b_Nets_link 110 = .ok (.lor, 1) := kq_129 byq_r (by decide +kernel)
theorem d_Nets_link_111 : decode b_Nets_link 111 = .ok (.lastore, 1) := kq_80 byq_r (by decide +kernel)
theorem d_Nets_link_112 : decode b_Nets_link 112 = .ok (.iinc 5 1, 3) := kq_132 byq_r (b := 1) (by decide +kernel)
theorem d_Nets_link_115 : decode b_Nets_link 115 = .ok (.goto (-96), 3) := kq_167 byq_r (a := 255) (b := 160) (by decide +kernel)
theorem d_Nets_link_118 : decode b_Nets_link 118 = .ok (.return_, 1) := kq_177 byq_r (by decide +kernel)
theorem d_Nets_bridge_0 : decode b_Nets_bridge 0 = .ok (.aload_n 1, 1) := kq_43 byq_r (by decide +kernel)
theorem d_Nets_bridge_1 : decode b_Nets_bridge 1 = .ok (.iload_n 2, 1) := kq_28 byq_r (by decide +kernel)
theorem d_Nets_bridge_2 : decode b_Nets_bridge 2 = .ok (.iload_n 3, 1) := kq_29 byq_r (by decide +kernel)
theorem d_Nets_bridge_3 : decode b_Nets_bridge 3 = .ok (.invokevirtual 54, 3) := kq_182 byq_r (a := 0) (b := 54) (by decide +kernel)
theorem d_Nets_bridge_6 : decode b_Nets_bridge 6 = .ok (.istore 4, 2) := kq_54 byq_r (by decide +kernel)
theorem d_Nets_bridge_8 : decode b_Nets_bridge 8 = .ok (.iload 4, 2) := kq_21 byq_r (by decide +kernel)
theorem d_Nets_bridge_10 : decode b_Nets_bridge 10 = .ok (.iconst (-1), 1) := kq_2 byq_r (by decide +kernel)
theorem d_Nets_bridge_11 : decode b_Nets_bridge 11 = .ok (.if_icmp .eq 33, 3) := kq_159 byq_r (a := 0) (b := 33) (by decide +kernel)
theorem d_Nets_bridge_14 : decode b_Nets_bridge 14 = .ok (.aload_n 0, 1) := kq_42 byq_r (by decide +kernel)
theorem d_Nets_bridge_15 : decode b_Nets_bridge 15 = .ok (.getfield 18, 3) := kq_180 byq_r (a := 0) (b := 18) (by decide +kernel)
theorem d_Nets_bridge_18 : decode b_Nets_bridge 18 = .ok (.bipush 36, 2) := kq_16 byq_r (b := 36) (by decide +kernel)
theorem d_Nets_bridge_20 : decode b_Nets_bridge 20 = .ok (.iload_n 2, 1) := kq_28 byq_r (by decide +kernel)
theorem d_Nets_bridge_21 : decode b_Nets_bridge 21 = .ok (.iadd, 1) := kq_96 byq_r (by decide +kernel)
theorem d_Nets_bridge_22 : decode b_Nets_bridge 22 = .ok (.iconst 4, 1) := kq_7 byq_r (by decide +kernel)
theorem d_Nets_bridge_23 : decode b_Nets_bridge 23 = .ok (.imul, 1) := kq_104 byq_r (by decide +kernel)
theorem d_Nets_bridge_24 : decode b_Nets_bridge 24 = .ok (.iload 4, 2) := kq_21 byq_r (by decide +kernel)
theorem d_Nets_bridge_26 : decode b_Nets_bridge 26 = .ok (.iadd, 1) := kq_96 byq_r (by decide +kernel)
theorem d_Nets_bridge_27 : decode b_Nets_bridge 27 = .ok (.iload_n 3, 1) := kq_29 byq_r (by decide +kernel)
theorem d_Nets_bridge_28 : decode b_Nets_bridge 28 = .ok (.iastore, 1) := kq_79 byq_r (by decide +kernel)
theorem d_Nets_bridge_29 : decode b_Nets_bridge 29 = .ok (.aload_n 0, 1) := kq_42 byq_r (by decide +kernel)
theorem d_Nets_bridge_30 : decode b_Nets_bridge 30 = .ok (.getfield 15, 3) := kq_180 byq_r (a := 0) (b := 15) (by decide +kernel)
theorem d_Nets_bridge_33 : decode b_Nets_bridge 33 = .ok (.bipush 36, 2) := kq_16 byq_r (b := 36) (by decide +kernel)
theorem d_Nets_bridge_35 : decode b_Nets_bridge 35 = .ok (.iload_n 2, 1) := kq_28 byq_r (by decide +kernel)
theorem d_Nets_bridge_36 : decode b_Nets_bridge 36 = .ok (.iadd, 1) := kq_96 byq_r (by decide +kernel)
theorem d_Nets_bridge_37 : decode b_Nets_bridge 37 = .ok (.dup2, 1) := kq_92 byq_r (by decide +kernel)
theorem d_Nets_bridge_38 : decode b_Nets_bridge 38 = .ok (.laload, 1) := kq_47 byq_r (by decide +kernel)
theorem d_Nets_bridge_39 : decode b_Nets_bridge 39 = .ok (.lconst 1, 1) := kq_10 byq_r (by decide +kernel)
theorem d_Nets_bridge_40 : decode b_Nets_bridge 40 = .ok (.iload_n 3, 1) := kq_29 byq_r (by decide +kernel)
theorem d_Nets_bridge_41 : decode b_Nets_bridge 41 = .ok (.lshl, 1) := kq_121 byq_r (by decide +kernel)
theorem d_Nets_bridge_42 : decode b_Nets_bridge 42 = .ok (.lor, 1) := kq_129 byq_r (by decide +kernel)
theorem d_Nets_bridge_43 : decode b_Nets_bridge 43 = .ok (.lastore, 1) := kq_80 byq_r (by decide +kernel)
theorem d_Nets_bridge_44 : decode b_Nets_bridge 44 = .ok (.return_, 1) := kq_177 byq_r (by decide +kernel)
theorem d_Nets_lay_0 : decode b_Nets_lay 0 = .ok (.aload_n 0, 1) := kq_42 byq_r (by decide +kernel)
theorem d_Nets_lay_1 : decode b_Nets_lay 1 = .ok (.getfield 9, 3) := kq_180 byq_r (a := 0) (b := 9) (by decide +kernel)
theorem d_Nets_lay_4 : decode b_Nets_lay 4 = .ok (.iconst 0, 1) := kq_3 byq_r (by decide +kernel)
theorem d_Nets_lay_5 : decode b_Nets_lay 5 = .ok (.lconst 0, 1) := kq_9 byq_r (by decide +kernel)
theorem d_Nets_lay_6 : decode b_Nets_lay 6 = .ok (.lastore, 1) := kq_80 byq_r (by decide +kernel)
theorem d_Nets_lay_7 : decode b_Nets_lay 7 = .ok (.aload_n 0, 1) := kq_42 byq_r (by decide +kernel)
theorem d_Nets_lay_8 : decode b_Nets_lay 8 = .ok (.getfield 9, 3) := kq_180 byq_r (a := 0) (b := 9) (by decide +kernel)
theorem d_Nets_lay_11 : decode b_Nets_lay 11 = .ok (.iconst 1, 1) := kq_4 byq_r (by decide +kernel)
theorem d_Nets_lay_12 : decode b_Nets_lay 12 = .ok (.lconst 0, 1) := kq_9 byq_r (by decide +kernel)
theorem d_Nets_lay_13 : decode b_Nets_lay 13 = .ok (.lastore, 1) := kq_80 byq_r (by decide +kernel)
theorem d_Nets_lay_14 : decode b_Nets_lay 14 = .ok (.iconst 0, 1) := kq_3 byq_r (by decide +kernel)
theorem d_Nets_lay_15 : decode b_Nets_lay 15 = .ok (.istore 4, 2) := kq_54 byq_r (by decide +kernel)
theorem d_Nets_lay_17 : decode b_Nets_lay 17 = .ok (.iload 4, 2) := kq_21 byq_r (by decide +kernel)
theorem d_Nets_lay_19 : decode b_Nets_lay 19 = .ok (.bipush 36, 2) := kq_16 byq_r (b := 36) (by decide +kernel)
theorem d_Nets_lay_21 : decode b_Nets_lay 21 = .ok (.if_icmp .ge 55, 3) := kq_162 byq_r (a := 0) (b := 55) (by decide +kernel)
theorem d_Nets_lay_24 : decode b_Nets_lay 24 = .ok (.iconst 0, 1) := kq_3 byq_r (by decide +kernel)
theorem d_Nets_lay_25 : decode b_Nets_lay 25 = .ok (.istore 5, 2) := kq_54 byq_r (by decide +kernel)
theorem d_Nets_lay_27 : decode b_Nets_lay 27 = .ok (.iload 5, 2) := kq_21 byq_r (by decide +kernel)
theorem d_Nets_lay_29 : decode b_Nets_lay 29 = .ok (.iconst 1, 1) := kq_4 byq_r (by decide +kernel)
theorem d_Nets_lay_30 : decode b_Nets_lay 30 = .ok (.if_icmp .gt 40, 3) := kq_163 byq_r (a := 0) (b := 40) (by decide +kernel)
theorem d_Nets_lay_33 : decode b_Nets_lay 33 = .ok (.iload 4, 2) := kq_21 byq_r (by decide +kernel)
theorem d_Nets_lay_35 : decode b_Nets_lay 35 = .ok (.iload_n 3, 1) := kq_29 byq_r (by decide +kernel)
theorem d_Nets_lay_36 : decode b_Nets_lay 36 = .ok (.if_icmp .eq 14, 3) := kq_159 byq_r (a := 0) (b := 14) (by decide +kernel)
theorem d_Nets_lay_39 : decode b_Nets_lay 39 = .ok (.aload_n 1, 1) := kq_43 byq_r (by decide +kernel)
theorem d_Nets_lay_40 : decode b_Nets_lay 40 = .ok (.iload 5, 2) := kq_21 byq_r (by decide +kernel)
theorem d_Nets_lay_42 : decode b_Nets_lay 42 = .ok (.iload 4, 2) := kq_21 byq_r (by decide +kernel)
theorem d_Nets_lay_44 : decode b_Nets_lay 44 = .ok (.invokevirtual 22, 3) := kq_182 byq_r (a := 0) (b := 22) (by decide +kernel)
theorem d_Nets_lay_47 : decode b_Nets_lay 47 = .ok (.ifCond .eq 17, 3) := kq_153 byq_r (a := 0) (b := 17) (by decide +kernel)
theorem d_Nets_lay_50 : decode b_Nets_lay 50 = .ok (.aload_n 0, 1) := kq_42 byq_r (by decide +kernel)
theorem d_Nets_lay_51 : decode b_Nets_lay 51 = .ok (.getfield 9, 3) := kq_180 byq_r (a := 0) (b := 9) (by decide +kernel)
theorem d_Nets_lay_54 : decode b_Nets_lay 54 = .ok (.iload 5, 2) := kq_21 byq_r (by decide +kernel)
theorem d_Nets_lay_56 : decode b_Nets_lay 56 = .ok (.dup2, 1) := kq_92 byq_r (by decide +kernel)
theorem d_Nets_lay_57 : decode b_Nets_lay 57 = .ok (.laload, 1) := kq_47 byq_r (by decide +kernel)
theorem d_Nets_lay_58 : decode b_Nets_lay 58 = .ok (.lconst 1, 1) := kq_10 byq_r (by decide +kernel)
theorem d_Nets_lay_59 : decode b_Nets_lay 59 = .ok (.iload 4, 2) := kq_21 byq_r (by decide +kernel)
theorem d_Nets_lay_61 : decode b_Nets_lay 61 = .ok (.lshl, 1) := kq_121 byq_r (by decide +kernel)
theorem d_Nets_lay_62 : decode b_Nets_lay 62 = .ok (.lor, 1) := kq_129 byq_r (by decide +kernel)
theorem d_Nets_lay_63 : decode b_Nets_lay 63 = .ok (.lastore, 1) := kq_80 byq_r (by decide +kernel)
theorem d_Nets_lay_64 : decode b_Nets_lay 64 = .ok (.iinc 5 1, 3) := kq_132 byq_r (b := 1) (by decide +kernel)
theorem d_Nets_lay_67 : decode b_Nets_lay 67 = .ok (.goto (-40), 3) := kq_167 byq_r (a := 255) (b := 216) (by decide +kernel)
theorem d_Nets_lay_70 : decode b_Nets_lay 70 = .ok (.iinc 4 1, 3) := kq_132 byq_r (b := 1) (by decide +kernel)
theorem d_Nets_lay_73 : decode b_Nets_lay 73 = .ok (.goto (-56), 3) := kq_167 byq_r (a := 255) (b := 200) (by decide +kernel)
theorem d_Nets_lay_76 : decode b_Nets_lay 76 = .ok (.iconst 0, 1) := kq_3 byq_r (by decide +kernel)
theorem d_Nets_lay_77 : decode b_Nets_lay 77 = .ok (.istore 4, 2) := kq_54 byq_r (by decide +kernel)
theorem d_Nets_lay_79 : decode b_Nets_lay 79 = .ok (.iload 4, 2) := kq_21 byq_r (by decide +kernel)
theorem d_Nets_lay_81 : decode b_Nets_lay 81 = .ok (.bipush 36, 2) := kq_16 byq_r (b := 36) (by decide +kernel)
theorem d_Nets_lay_83 : decode b_Nets_lay 83 = .ok (.if_icmp .ge 25, 3) := kq_162 byq_r (a := 0) (b := 25) (by decide +kernel)
theorem d_Nets_lay_86 : decode b_Nets_lay 86 = .ok (.aload_n 0, 1) := kq_42 byq_r (by decide +kernel)
theorem d_Nets_lay_87 : decode b_Nets_lay 87 = .ok (.aload_n 1, 1) := kq_43 byq_r (by decide +kernel)
theorem d_Nets_lay_88 : decode b_Nets_lay 88 = .ok (.iconst 0, 1) := kq_3 byq_r (by decide +kernel)
theorem d_Nets_lay_89 : decode b_Nets_lay 89 = .ok (.iload 4, 2) := kq_21 byq_r (by decide +kernel)
theorem d_Nets_lay_91 : decode b_Nets_lay 91 = .ok (.invokevirtual 28, 3) := kq_182 byq_r (a := 0) (b := 28) (by decide +kernel)
theorem d_Nets_lay_94 : decode b_Nets_lay 94 = .ok (.aload_n 0, 1) := kq_42 byq_r (by decide +kernel)
theorem d_Nets_lay_95 : decode b_Nets_lay 95 = .ok (.aload_n 1, 1) := kq_43 byq_r (by decide +kernel)
theorem d_Nets_lay_96 : decode b_Nets_lay 96 = .ok (.iconst 1, 1) := kq_4 byq_r (by decide +kernel)
theorem d_Nets_lay_97 : decode b_Nets_lay 97 = .ok (.iload 4, 2) := kq_21 byq_r (by decide +kernel)
theorem d_Nets_lay_99 : decode b_Nets_lay 99 = .ok (.invokevirtual 28, 3) := kq_182 byq_r (a := 0) (b := 28) (by decide +kernel)
theorem d_Nets_lay_102 : decode b_Nets_lay 102 = .ok (.iinc 4 1, 3) := kq_132 byq_r (b := 1) (by decide +kernel)
theorem d_Nets_lay_105 : decode b_Nets_lay 105 = .ok (.goto (-26), 3) := kq_167 byq_r (a := 255) (b := 230) (by decide +kernel)
theorem d_Nets_lay_108 : decode b_Nets_lay 108 = .ok (.iconst 0, 1) := kq_3 byq_r (by decide +kernel)
theorem d_Nets_lay_109 : decode b_Nets_lay 109 = .ok (.istore 4, 2) := kq_54 byq_r (by decide +kernel)
theorem d_Nets_lay_111 : decode b_Nets_lay 111 = .ok (.iload 4, 2) := kq_21 byq_r (by decide +kernel)
theorem d_Nets_lay_113 : decode b_Nets_lay 113 = .ok (.aload_n 2, 1) := kq_44 byq_r (by decide +kernel)
theorem d_Nets_lay_114 : decode b_Nets_lay 114 = .ok (.getfield 32, 3) := kq_180 byq_r (a := 0) (b := 32) (by decide +kernel)
theorem d_Nets_lay_117 : decode b_Nets_lay 117 = .ok (.if_icmp .ge 54, 3) := kq_162 byq_r (a := 0) (b := 54) (by decide +kernel)
theorem d_Nets_lay_120 : decode b_Nets_lay 120 = .ok (.iload 4, 2) := kq_21 byq_r (by decide +kernel)
theorem d_Nets_lay_122 : decode b_Nets_lay 122 = .ok (.bipush 6, 2) := kq_16 byq_r (b := 6) (by decide +kernel)
theorem d_Nets_lay_124 : decode b_Nets_lay 124 = .ok (.if_icmp .ge 47, 3) := kq_162 byq_r (a := 0) (b := 47) (by decide +kernel)
theorem d_Nets_lay_127 : decode b_Nets_lay 127 = .ok (.aload_n 0, 1) := kq_42 byq_r (by decide +kernel)
theorem d_Nets_lay_128 : decode b_Nets_lay 128 = .ok (.aload_n 1, 1) := kq_43 byq_r (by decide +kernel)
theorem d_Nets_lay_129 : decode b_Nets_lay 129 = .ok (.aload_n 2, 1) := kq_44 byq_r (by decide +kernel)
theorem d_Nets_lay_130 : decode b_Nets_lay 130 = .ok (.getfield 38, 3) := kq_180 byq_r (a := 0) (b := 38) (by decide +kernel)
theorem d_Nets_lay_133 : decode b_Nets_lay 133 = .ok (.iload 4, 2) := kq_21 byq_r (by decide +kernel)
theorem d_Nets_lay_135 : decode b_Nets_lay 135 = .ok (.iaload, 1) := kq_46 byq_r (by decide +kernel)
theorem d_Nets_lay_136 : decode b_Nets_lay 136 = .ok (.aload_n 2, 1) := kq_44 byq_r (by decide +kernel)
theorem d_Nets_lay_137 : decode b_Nets_lay 137 = .ok (.getfield 41, 3) := kq_180 byq_r (a := 0) (b := 41) (by decide +kernel)
theorem d_Nets_lay_140 : decode b_Nets_lay 140 = .ok (.iload 4, 2) := kq_21 byq_r (by decide +kernel)
theorem d_Nets_lay_142 : decode b_Nets_lay 142 = .ok (.iaload, 1) := kq_46 byq_r (by decide +kernel)
theorem d_Nets_lay_143 : decode b_Nets_lay 143 = .ok (.invokevirtual 44, 3) := kq_182 byq_r (a := 0) (b := 44) (by decide +kernel)
theorem d_Nets_lay_146 : decode b_Nets_lay 146 = .ok (.aload_n 0, 1) := kq_42 byq_r (by decide +kernel)
theorem d_Nets_lay_147 : decode b_Nets_lay 147 = .ok (.aload_n 1, 1) := kq_43 byq_r (by decide +kernel)
theorem d_Nets_lay_148 : decode b_Nets_lay 148 = .ok (.aload_n 2, 1) := kq_44 byq_r (by decide +kernel)
theorem d_Nets_lay_149 : decode b_Nets_lay 149 = .ok (.getfield 41, 3) := kq_180 byq_r (a := 0) (b := 41) (by decide +kernel)
theorem d_Nets_lay_152 : decode b_Nets_lay 152 = .ok (.iload 4, 2) := kq_21 byq_r (by decide +kernel)
theorem d_Nets_lay_154 : decode b_Nets_lay 154 = .ok (.iaload, 1) := kq_46 byq_r (by decide +kernel)
theorem d_Nets_lay_155 : decode b_Nets_lay 155 = .ok (.aload_n 2, 1) := kq_44 byq_r (by decide +kernel)
theorem d_Nets_lay_156 : decode b_Nets_lay 156 = .ok (.getfield 38, 3) := kq_180 byq_r (a := 0) (b := 38) (by decide +kernel)
theorem d_Nets_lay_159 : decode b_Nets_lay 159 = .ok (.iload 4, 2) := kq_21 byq_r (by decide +kernel)
theorem d_Nets_lay_161 : decode b_Nets_lay 161 = .ok (.iaload, 1) := kq_46 byq_r (by decide +kernel)
theorem d_Nets_lay_162 : decode b_Nets_lay 162 = .ok (.invokevirtual 44, 3) := kq_182 byq_r (a := 0) (b := 44) (by decide +kernel)
theorem d_Nets_lay_165 : decode b_Nets_lay 165 = .ok (.iinc 4 1, 3) := kq_132 byq_r (b := 1) (by decide +kernel)
theorem d_Nets_lay_168 : decode b_Nets_lay 168 = .ok (.goto (-57), 3) := kq_167 byq_r (a := 255) (b := 199) (by decide +kernel)
theorem d_Nets_lay_171 : decode b_Nets_lay 171 = .ok (.return_, 1) := kq_177 byq_r (by decide +kernel)
theorem d_Nets_toward_0 : decode b_Nets_toward 0 = .ok (.iload_n 3, 1) := kq_29 byq_r (by decide +kernel)
theorem d_Nets_toward_1 : decode b_Nets_toward 1 = .ok (.iconst 4, 1) := kq_7 byq_r (by decide +kernel)
theorem d_Nets_toward_2 : decode b_Nets_toward 2 = .ok (.if_icmp .ne 5, 3) := kq_160 byq_r (a := 0) (b := 5) (by decide +kernel)
theorem d_Nets_toward_5 : decode b_Nets_toward 5 = .ok (.iload_n 2, 1) := kq_28 byq_r (by decide +kernel)
theorem d_Nets_toward_6 : decode b_Nets_toward 6 = .ok (.ireturn, 1) := kq_172 byq_r (by decide +kernel)
theorem d_Nets_toward_7 : decode b_Nets_toward 7 = .ok (.iload_n 1, 1) := kq_27 byq_r (by decide +kernel)
theorem d_Nets_toward_8 : decode b_Nets_toward 8 = .ok (.bipush 36, 2) := kq_16 byq_r (b := 36) (by decide +kernel)
theorem d_Nets_toward_10 : decode b_Nets_toward 10 = .ok (.imul, 1) := kq_104 byq_r (by decide +kernel)
theorem d_Nets_toward_11 : decode b_Nets_toward 11 = .ok (.iload_n 2, 1) := kq_28 byq_r (by decide +kernel)
theorem d_Nets_toward_12 : decode b_Nets_toward 12 = .ok (.iadd, 1) := kq_96 byq_r (by decide +kernel)
theorem d_Nets_toward_13 : decode b_Nets_toward 13 = .ok (.iconst 4, 1) := kq_7 byq_r (by decide +kernel)
theorem d_Nets_toward_14 : decode b_Nets_toward 14 = .ok (.imul, 1) := kq_104 byq_r (by decide +kernel)
theorem d_Nets_toward_15 : decode b_Nets_toward 15 = .ok (.iload_n 3, 1) := kq_29 byq_r (by decide +kernel)
theorem d_Nets_toward_16 : decode b_Nets_toward 16 = .ok (.iadd, 1) := kq_96 byq_r (by decide +kernel)
theorem d_Nets_toward_17 : decode b_Nets_toward 17 = .ok (.istore 4, 2) := kq_54 byq_r (by decide +kernel)
theorem d_Nets_toward_19 : decode b_Nets_toward 19 = .ok (.iload_n 3, 1) := kq_29 byq_r (by decide +kernel)
theorem d_Nets_toward_20 : decode b_Nets_toward 20 = .ok (.ifCond .lt 21, 3) := kq_155 byq_r (a := 0) (b := 21) (by decide +kernel)
theorem d_Nets_toward_23 : decode b_Nets_toward 23 = .ok (.iload_n 3, 1) := kq_29 byq_r (by decide +kernel)
theorem d_Nets_toward_24 : decode b_Nets_toward 24 = .ok (.iconst 4, 1) := kq_7 byq_r (by decide +kernel)
theorem d_Nets_toward_25 : decode b_Nets_toward 25 = .ok (.if_icmp .gt 16, 3) := kq_163 byq_r (a := 0) (b := 16) (by decide +kernel)
theorem d_Nets_toward_28 : decode b_Nets_toward 28 = .ok (.iload 4, 2) := kq_21 byq_r (by decide +kernel)
theorem d_Nets_toward_30 : decode b_Nets_toward 30 = .ok (.ifCond .lt 11, 3) := kq_155 byq_r (a := 0) (b := 11) (by decide +kernel)
theorem d_Nets_toward_33 : decode b_Nets_toward 33 = .ok (.iload 4, 2) := kq_21 byq_r (by decide +kernel)
theorem d_Nets_toward_35 : decode b_Nets_toward 35 = .ok (.sipush 288, 3) := kq_17 byq_r (a := 1) (b := 32) (by decide +kernel)
theorem d_Nets_toward_38 : decode b_Nets_toward 38 = .ok (.if_icmp .lt 5, 3) := kq_161 byq_r (a := 0) (b := 5) (by decide +kernel)
theorem d_Nets_toward_41 : decode b_Nets_toward 41 = .ok (.iconst (-1), 1) := kq_2 byq_r (by decide +kernel)
theorem d_Nets_toward_42 : decode b_Nets_toward 42 = .ok (.ireturn, 1) := kq_172 byq_r (by decide +kernel)
theorem d_Nets_toward_43 : decode b_Nets_toward 43 = .ok (.aload_n 0, 1) := kq_42 byq_r (by decide +kernel)
theorem d_Nets_toward_44 : decode b_Nets_toward 44 = .ok (.getfield 18, 3) := kq_180 byq_r (a := 0) (b := 18) (by decide +kernel)
theorem d_Nets_toward_47 : decode b_Nets_toward 47 = .ok (.iload 4, 2) := kq_21 byq_r (by decide +kernel)
theorem d_Nets_toward_49 : decode b_Nets_toward 49 = .ok (.iaload, 1) := kq_46 byq_r (by decide +kernel)
theorem d_Nets_toward_50 : decode b_Nets_toward 50 = .ok (.ireturn, 1) := kq_172 byq_r (by decide +kernel)
theorem d_Nets_flood_0 : decode b_Nets_flood 0 = .ok (.lconst 1, 1) := kq_10 byq_r (by decide +kernel)
theorem d_Nets_flood_1 : decode b_Nets_flood 1 = .ok (.iload_n 2, 1) := kq_28 byq_r (by decide +kernel)
theorem d_Nets_flood_2 : decode b_Nets_flood 2 = .ok (.lshl, 1) := kq_121 byq_r (by decide +kernel)
theorem d_Nets_flood_3 : decode b_Nets_flood 3 = .ok (.lstore 5, 2) := kq_55 byq_r (by decide +kernel)
theorem d_Nets_flood_5 : decode b_Nets_flood 5 = .ok (.lload 5, 2) := kq_22 byq_r (by decide +kernel)
theorem d_Nets_flood_7 : decode b_Nets_flood 7 = .ok (.lstore 7, 2) := kq_55 byq_r (by decide +kernel)
theorem d_Nets_flood_9 : decode b_Nets_flood 9 = .ok (.iconst 0, 1) := kq_3 byq_r (by decide +kernel)
theorem d_Nets_flood_10 : decode b_Nets_flood 10 = .ok (.istore 9, 2) := kq_54 byq_r (by decide +kernel)
theorem d_Nets_flood_12 : decode b_Nets_flood 12 = .ok (.iload 9, 2) := kq_21 byq_r (by decide +kernel)
theorem d_Nets_flood_14 : decode b_Nets_flood 14 = .ok (.bipush 36, 2) := kq_16 byq_r (b := 36) (by decide +kernel)
theorem d_Nets_flood_16 : decode b_Nets_flood 16 = .ok (.if_icmp .ge 84, 3) := kq_162 byq_r (a := 0) (b := 84) (by decide +kernel)
theorem d_Nets_flood_19 : decode b_Nets_flood 19 = .ok (.lload 7, 2) := kq_22 byq_r (by decide +kernel)
theorem d_Nets_flood_21 : decode b_Nets_flood 21 = .ok (.lconst 0, 1) := kq_9 byq_r (by decide +kernel)
theorem d_Nets_flood_22 : decode b_Nets_flood 22 = .ok (.lcmp, 1) := kq_148 byq_r (by decide +kernel)
theorem d_Nets_flood_23 : decode b_Nets_flood 23 = .ok (.ifCond .eq 77, 3) := kq_153 byq_r (a := 0) (b := 77) (by decide +kernel)
theorem d_Nets_flood_26 : decode b_Nets_flood 26 = .ok (.lload 7, 2) := kq_22 byq_r (by decide +kernel)
theorem d_Nets_flood_28 : decode b_Nets_flood 28 = .ok (.invokestatic 57, 3) := kq_184 byq_r (a := 0) (b := 57) (by decide +kernel)
theorem d_Nets_flood_31 : decode b_Nets_flood 31 = .ok (.istore 10, 2) := kq_54 byq_r (by decide +kernel)
theorem d_Nets_flood_33 : decode b_Nets_flood 33 = .ok (.lload 7, 2) := kq_22 byq_r (by decide +kernel)
theorem d_Nets_flood_35 : decode b_Nets_flood 35 = .ok (.lload 7, 2) := kq_22 byq_r (by decide +kernel)
theorem d_Nets_flood_37 : decode b_Nets_flood 37 = .ok (.lconst 1, 1) := kq_10 byq_r (by decide +kernel)
theorem d_Nets_flood_38 : decode b_Nets_flood 38 = .ok (.lsub, 1) := kq_101 byq_r (by decide +kernel)
theorem d_Nets_flood_39 : decode b_Nets_flood 39 = .ok (.land, 1) := kq_127 byq_r (by decide +kernel)
theorem d_Nets_flood_40 : decode b_Nets_flood 40 = .ok (.lstore 7, 2) := kq_55 byq_r (by decide +kernel)
theorem d_Nets_flood_42 : decode b_Nets_flood 42 = .ok (.iload 10, 2) := kq_21 byq_r (by decide +kernel)
theorem d_Nets_flood_44 : decode b_Nets_flood 44 = .ok (.bipush 36, 2) := kq_16 byq_r (b := 36) (by decide +kernel)
theorem d_Nets_flood_46 : decode b_Nets_flood 46 = .ok (.if_icmp .ge 31, 3) := kq_162 byq_r (a := 0) (b := 31) (by decide +kernel)
theorem d_Nets_flood_49 : decode b_Nets_flood 49 = .ok (.aload_n 0, 1) := kq_42 byq_r (by decide +kernel)
theorem d_Nets_flood_50 : decode b_Nets_flood 50 = .ok (.getfield 15, 3) := kq_180 byq_r (a := 0) (b := 15) (by decide +kernel)
theorem d_Nets_flood_53 : decode b_Nets_flood 53 = .ok (.iload_n 1, 1) := kq_27 byq_r (by decide +kernel)
theorem d_Nets_flood_54 : decode b_Nets_flood 54 = .ok (.bipush 36, 2) := kq_16 byq_r (b := 36) (by decide +kernel)
theorem d_Nets_flood_56 : decode b_Nets_flood 56 = .ok (.imul, 1) := kq_104 byq_r (by decide +kernel)
theorem d_Nets_flood_57 : decode b_Nets_flood 57 = .ok (.iload 10, 2) := kq_21 byq_r (by decide +kernel)
theorem d_Nets_flood_59 : decode b_Nets_flood 59 = .ok (.iadd, 1) := kq_96 byq_r (by decide +kernel)
theorem d_Nets_flood_60 : decode b_Nets_flood 60 = .ok (.laload, 1) := kq_47 byq_r (by decide +kernel)
theorem d_Nets_flood_61 : decode b_Nets_flood 61 = .ok (.lload 5, 2) := kq_22 byq_r (by decide +kernel)
theorem d_Nets_flood_63 : decode b_Nets_flood 63 = .ok (.ldc2_w 63, 3) := kq_20 byq_r (a := 0) (b := 63) (by decide +kernel)
theorem d_Nets_flood_66 : decode b_Nets_flood 66 = .ok (.lxor, 1) := kq_131 byq_r (by decide +kernel)
theorem d_Nets_flood_67 : decode b_Nets_flood 67 = .ok (.land, 1) := kq_127 byq_r (by decide +kernel)
theorem d_Nets_flood_68 : decode b_Nets_flood 68 = .ok (.lload_n 3, 1) := kq_33 byq_r (by decide +kernel)
theorem d_Nets_flood_69 : decode b_Nets_flood 69 = .ok (.ldc2_w 63, 3) := kq_20 byq_r (a := 0) (b := 63) (by decide +kernel)
theorem d_Nets_flood_72 : decode b_Nets_flood 72 = .ok (.lxor, 1) := kq_131 byq_r (by decide +kernel)
theorem d_Nets_flood_73 : decode b_Nets_flood 73 = .ok (.land, 1) := kq_127 byq_r (by decide +kernel)
theorem d_Nets_flood_74 : decode b_Nets_flood 74 = .ok (.goto 4, 3) := kq_167 byq_r (a := 0) (b := 4) (by decide +kernel)
theorem d_Nets_flood_77 : decode b_Nets_flood 77 = .ok (.lconst 0, 1) := kq_9 byq_r (by decide +kernel)
theorem d_Nets_flood_78 : decode b_Nets_flood 78 = .ok (.lstore 11, 2) := kq_55 byq_r (by decide +kernel)
theorem d_Nets_flood_80 : decode b_Nets_flood 80 = .ok (.lload 5, 2) := kq_22 byq_r (by decide +kernel)
theorem d_Nets_flood_82 : decode b_Nets_flood 82 = .ok (.lload 11, 2) := kq_22 byq_r (by decide +kernel)
theorem d_Nets_flood_84 : decode b_Nets_flood 84 = .ok (.lor, 1) := kq_129 byq_r (by decide +kernel)
theorem d_Nets_flood_85 : decode b_Nets_flood 85 = .ok (.lstore 5, 2) := kq_55 byq_r (by decide +kernel)
theorem d_Nets_flood_87 : decode b_Nets_flood 87 = .ok (.lload 7, 2) := kq_22 byq_r (by decide +kernel)
theorem d_Nets_flood_89 : decode b_Nets_flood 89 = .ok (.lload 11, 2) := kq_22 byq_r (by decide +kernel)
theorem d_Nets_flood_91 : decode b_Nets_flood 91 = .ok (.lor, 1) := kq_129 byq_r (by decide +kernel)
theorem d_Nets_flood_92 : decode b_Nets_flood 92 = .ok (.lstore 7, 2) := kq_55 byq_r (by decide +kernel)
theorem d_Nets_flood_94 : decode b_Nets_flood 94 = .ok (.iinc 9 1, 3) := kq_132 byq_r (b := 1) (by decide +kernel)
theorem d_Nets_flood_97 : decode b_Nets_flood 97 = .ok (.goto (-85), 3) := kq_167 byq_r (a := 255) (b := 171) (by decide +kernel)
theorem d_Nets_flood_100 : decode b_Nets_flood 100 = .ok (.lload 5, 2) := kq_22 byq_r (by decide +kernel)
theorem d_Nets_flood_102 : decode b_Nets_flood 102 = .ok (.lreturn, 1) := kq_173 byq_r (by decide +kernel)
theorem d_Nets_around_0 : decode b_Nets_around 0 = .ok (.lconst 0, 1) := kq_9 byq_r (by decide +kernel)
theorem d_Nets_around_1 : decode b_Nets_around 1 = .ok (.lstore 4, 2) := kq_55 byq_r (by decide +kernel)
theorem d_Nets_around_3 : decode b_Nets_around 3 = .ok (.iconst 0, 1) := kq_3 byq_r (by decide +kernel)
theorem d_Nets_around_4 : decode b_Nets_around 4 = .ok (.istore 6, 2) := kq_54 byq_r (by decide +kernel)
theorem d_Nets_around_6 : decode b_Nets_around 6 = .ok (.iload 6, 2) := kq_21 byq_r (by decide +kernel)
theorem d_Nets_around_8 : decode b_Nets_around 8 = .ok (.bipush 36, 2) := kq_16 byq_r (b := 36) (by decide +kernel)
theorem d_Nets_around_10 : decode b_Nets_around 10 = .ok (.if_icmp .ge 37, 3) := kq_162 byq_r (a := 0) (b := 37) (by decide +kernel)
theorem d_Nets_around_13 : decode b_Nets_around 13 = .ok (.lload_n 2, 1) := kq_32 byq_r (by decide +kernel)
theorem d_Nets_around_14 : decode b_Nets_around 14 = .ok (.iload 6, 2) := kq_21 byq_r (by decide +kernel)
theorem d_Nets_around_16 : decode b_Nets_around 16 = .ok (.lshr, 1) := kq_123 byq_r (by decide +kernel)
theorem d_Nets_around_17 : decode b_Nets_around 17 = .ok (.lconst 1, 1) := kq_10 byq_r (by decide +kernel)
theorem d_Nets_around_18 : decode b_Nets_around 18 = .ok (.land, 1) := kq_127 byq_r (by decide +kernel)
theorem d_Nets_around_19 : decode b_Nets_around 19 = .ok (.lconst 0, 1) := kq_9 byq_r (by decide +kernel)
theorem d_Nets_around_20 : decode b_Nets_around 20 = .ok (.lcmp, 1) := kq_148 byq_r (by decide +kernel)
theorem d_Nets_around_21 : decode b_Nets_around 21 = .ok (.ifCond .eq 20, 3) := kq_153 byq_r (a := 0) (b := 20) (by decide +kernel)
theorem d_Nets_around_24 : decode b_Nets_around 24 = .ok (.lload 4, 2) := kq_22 byq_r (by decide +kernel)
theorem d_Nets_around_26 : decode b_Nets_around 26 = .ok (.aload_n 0, 1) := kq_42 byq_r (by decide +kernel)
theorem d_Nets_around_27 : decode b_Nets_around 27 = .ok (.getfield 15, 3) := kq_180 byq_r (a := 0) (b := 15) (by decide +kernel)
theorem d_Nets_around_30 : decode b_Nets_around 30 = .ok (.iload_n 1, 1) := kq_27 byq_r (by decide +kernel)
theorem d_Nets_around_31 : decode b_Nets_around 31 = .ok (.bipush 36, 2) := kq_16 byq_r (b := 36) (by decide +kernel)
theorem d_Nets_around_33 : decode b_Nets_around 33 = .ok (.imul, 1) := kq_104 byq_r (by decide +kernel)
theorem d_Nets_around_34 : decode b_Nets_around 34 = .ok (.iload 6, 2) := kq_21 byq_r (by decide +kernel)
theorem d_Nets_around_36 : decode b_Nets_around 36 = .ok (.iadd, 1) := kq_96 byq_r (by decide +kernel)
theorem d_Nets_around_37 : decode b_Nets_around 37 = .ok (.laload, 1) := kq_47 byq_r (by decide +kernel)
theorem d_Nets_around_38 : decode b_Nets_around 38 = .ok (.lor, 1) := kq_129 byq_r (by decide +kernel)
theorem d_Nets_around_39 : decode b_Nets_around 39 = .ok (.lstore 4, 2) := kq_55 byq_r (by decide +kernel)
theorem d_Nets_around_41 : decode b_Nets_around 41 = .ok (.iinc 6 1, 3) := kq_132 byq_r (b := 1) (by decide +kernel)
theorem d_Nets_around_44 : decode b_Nets_around 44 = .ok (.goto (-38), 3) := kq_167 byq_r (a := 255) (b := 218) (by decide +kernel)
theorem d_Nets_around_47 : decode b_Nets_around 47 = .ok (.lload 4, 2) := kq_22 byq_r (by decide +kernel)
theorem d_Nets_around_49 : decode b_Nets_around 49 = .ok (.lreturn, 1) := kq_173 byq_r (by decide +kernel)
theorem d_Nets_measure_0 : decode b_Nets_measure 0 = .ok (.iconst 0, 1) := kq_3 byq_r (by decide +kernel)
theorem d_Nets_measure_1 : decode b_Nets_measure 1 = .ok (.istore 4, 2) := kq_54 byq_r (by decide +kernel)
theorem d_Nets_measure_3 : decode b_Nets_measure 3 = .ok (.iload 4, 2) := kq_21 byq_r (by decide +kernel)
theorem d_Nets_measure_5 : decode b_Nets_measure 5 = .ok (.bipush 36, 2) := kq_16 byq_r (b := 36) (by decide +kernel)
theorem d_Nets_measure_7 : decode b_Nets_measure 7 = .ok (.if_icmp .ge 15, 3) := kq_162 byq_r (a := 0) (b := 15) (by decide +kernel)
theorem d_Nets_measure_10 : decode b_Nets_measure 10 = .ok (.aload_n 3, 1) := kq_45 byq_r (by decide +kernel)
theorem d_Nets_measure_11 : decode b_Nets_measure 11 = .ok (.iload 4, 2) := kq_21 byq_r (by decide +kernel)
theorem d_Nets_measure_13 : decode b_Nets_measure 13 = .ok (.ldc 65, 2) := kq_18 byq_r (by decide +kernel)
theorem d_Nets_measure_15 : decode b_Nets_measure 15 = .ok (.iastore, 1) := kq_79 byq_r (by decide +kernel)
theorem d_Nets_measure_16 : decode b_Nets_measure 16 = .ok (.iinc 4 1, 3) := kq_132 byq_r (b := 1) (by decide +kernel)
theorem d_Nets_measure_19 : decode b_Nets_measure 19 = .ok (.goto (-16), 3) := kq_167 byq_r (a := 255) (b := 240) (by decide +kernel)
theorem d_Nets_measure_22 : decode b_Nets_measure 22 = .ok (.lconst 1, 1) := kq_10 byq_r (by decide +kernel)
theorem d_Nets_measure_23 : decode b_Nets_measure 23 = .ok (.iload_n 2, 1) := kq_28 byq_r (by decide +kernel)
theorem d_Nets_measure_24 : decode b_Nets_measure 24 = .ok (.lshl, 1) := kq_121 byq_r (by decide +kernel)
theorem d_Nets_measure_25 : decode b_Nets_measure 25 = .ok (.lstore 4, 2) := kq_55 byq_r (by decide +kernel)
theorem d_Nets_measure_27 : decode b_Nets_measure 27 = .ok (.lload 4, 2) := kq_22 byq_r (by decide +kernel)
theorem d_Nets_measure_29 : decode b_Nets_measure 29 = .ok (.lstore 6, 2) := kq_55 byq_r (by decide +kernel)
theorem d_Nets_measure_31 : decode b_Nets_measure 31 = .ok (.iconst 0, 1) := kq_3 byq_r (by decide +kernel)
theorem d_Nets_measure_32 : decode b_Nets_measure 32 = .ok (.istore 8, 2) := kq_54 byq_r (by decide +kernel)
theorem d_Nets_measure_34 : decode b_Nets_measure 34 = .ok (.iload 8, 2) := kq_21 byq_r (by decide +kernel)
theorem d_Nets_measure_36 : decode b_Nets_measure 36 = .ok (.bipush 36, 2) := kq_16 byq_r (b := 36) (by decide +kernel)
theorem d_Nets_measure_38 : decode b_Nets_measure 38 = .ok (.if_icmp .ge 73, 3) := kq_162 byq_r (a := 0) (b := 73) (by decide +kernel)
theorem d_Nets_measure_41 : decode b_Nets_measure 41 = .ok (.lload 6, 2) := kq_22 byq_r (by decide +kernel)
theorem d_Nets_measure_43 : decode b_Nets_measure 43 = .ok (.lconst 0, 1) := kq_9 byq_r (by decide +kernel)
theorem d_Nets_measure_44 : decode b_Nets_measure 44 = .ok (.lcmp, 1) := kq_148 byq_r (by decide +kernel)
theorem d_Nets_measure_45 : decode b_Nets_measure 45 = .ok (.ifCond .eq 66, 3) := kq_153 byq_r (a := 0) (b := 66) (by decide +kernel)
theorem d_Nets_measure_48 : decode b_Nets_measure 48 = .ok (.iconst 0, 1) := kq_3 byq_r (by decide +kernel)
theorem d_Nets_measure_49 : decode b_Nets_measure 49 = .ok (.istore 9, 2) := kq_54 byq_r (by decide +kernel)
theorem d_Nets_measure_51 : decode b_Nets_measure 51 = .ok (.iload 9, 2) := kq_21 byq_r (by decide +kernel)
theorem d_Nets_measure_53 : decode b_Nets_measure 53 = .ok (.bipush 36, 2) := kq_16 byq_r (b := 36) (by decide +kernel)
theorem d_Nets_measure_55 : decode b_Nets_measure 55 = .ok (.if_icmp .ge 27, 3) := kq_162 byq_r (a := 0) (b := 27) (by decide +kernel)
theorem d_Nets_measure_58 : decode b_Nets_measure 58 = .ok (.lload 6, 2) := kq_22 byq_r (by decide +kernel)
theorem d_Nets_measure_60 : decode b_Nets_measure 60 = .ok (.iload 9, 2) := kq_21 byq_r (by decide +kernel)
theorem d_Nets_measure_62 : decode b_Nets_measure 62 = .ok (.lshr, 1) := kq_123 byq_r (by decide +kernel)
theorem d_Nets_measure_63 : decode b_Nets_measure 63 = .ok (.lconst 1, 1) := kq_10 byq_r (by decide +kernel)
theorem d_Nets_measure_64 : decode b_Nets_measure 64 = .ok (.land, 1) := kq_127 byq_r (by decide +kernel)
theorem d_Nets_measure_65 : decode b_Nets_measure 65 = .ok (.lconst 0, 1) := kq_9 byq_r (by decide +kernel)
theorem d_Nets_measure_66 : decode b_Nets_measure 66 = .ok (.lcmp, 1) := kq_148 byq_r (by decide +kernel)
theorem d_Nets_measure_67 : decode b_Nets_measure 67 = .ok (.ifCond .eq 9, 3) := kq_153 byq_r (a := 0) (b := 9) (by decide +kernel)
theorem d_Nets_measure_70 : decode b_Nets_measure 70 = .ok (.aload_n 3, 1) := kq_45 byq_r (by decide +kernel)
theorem d_Nets_measure_71 : decode b_Nets_measure 71 = .ok (.iload 9, 2) := kq_21 byq_r (by decide +kernel)
theorem d_Nets_measure_73 : decode b_Nets_measure 73 = .ok (.iload 8, 2) := kq_21 byq_r (by decide +kernel)
theorem d_Nets_measure_75 : decode b_Nets_measure 75 = .ok (.iastore, 1) := kq_79 byq_r (by decide +kernel)
theorem d_Nets_measure_76 : decode b_Nets_measure 76 = .ok (.iinc 9 1, 3) := kq_132 byq_r (b := 1) (by decide +kernel)
theorem d_Nets_measure_79 : decode b_Nets_measure 79 = .ok (.goto (-28), 3) := kq_167 byq_r (a := 255) (b := 228) (by decide +kernel)
theorem d_Nets_measure_82 : decode b_Nets_measure 82 = .ok (.aload_n 0, 1) := kq_42 byq_r (by decide +kernel)
theorem d_Nets_measure_83 : decode b_Nets_measure 83 = .ok (.iload_n 1, 1) := kq_27 byq_r (by decide +kernel)
theorem d_Nets_measure_84 : decode b_Nets_measure 84 = .ok (.lload 6, 2) := kq_22 byq_r (by decide +kernel)
theorem d_Nets_measure_86 : decode b_Nets_measure 86 = .ok (.invokevirtual 66, 3) := kq_182 byq_r (a := 0) (b := 66) (by decide +kernel)
theorem d_Nets_measure_89 : decode b_Nets_measure 89 = .ok (.lload 4, 2) := kq_22 byq_r (by decide +kernel)
theorem d_Nets_measure_91 : decode b_Nets_measure 91 = .ok (.ldc2_w 63, 3) := kq_20 byq_r (a := 0) (b := 63) (by decide +kernel)
theorem d_Nets_measure_94 : decode b_Nets_measure 94 = .ok (.lxor, 1) := kq_131 byq_r (by decide +kernel)
theorem d_Nets_measure_95 : decode b_Nets_measure 95 = .ok (.land, 1) := kq_127 byq_r (by decide +kernel)
theorem d_Nets_measure_96 : decode b_Nets_measure 96 = .ok (.lstore 6, 2) := kq_55 byq_r (by decide +kernel)
theorem d_Nets_measure_98 : decode b_Nets_measure 98 = .ok (.lload 4, 2) := kq_22 byq_r (by decide +kernel)
theorem d_Nets_measure_100 : decode b_Nets_measure 100 = .ok (.lload 6, 2) := kq_22 byq_r (by decide +kernel)
theorem d_Nets_measure_102 : decode b_Nets_measure 102 = .ok (.lor, 1) := kq_129 byq_r (by decide +kernel)
theorem d_Nets_measure_103 : decode b_Nets_measure 103 = .ok (.lstore 4, 2) := kq_55 byq_r (by decide +kernel)
theorem d_Nets_measure_105 : decode b_Nets_measure 105 = .ok (.iinc 8 1, 3) := kq_132 byq_r (b := 1) (by decide +kernel)
theorem d_Nets_measure_108 : decode b_Nets_measure 108 = .ok (.goto (-74), 3) := kq_167 byq_r (a := 255) (b := 182) (by decide +kernel)
theorem d_Nets_measure_111 : decode b_Nets_measure 111 = .ok (.return_, 1) := kq_177 byq_r (by decide +kernel)
theorem d_Nets_stepNearer_0 : decode b_Nets_stepNearer 0 = .ok (.iconst 0, 1) := kq_3 byq_r (by decide +kernel)
theorem d_Nets_stepNearer_1 : decode b_Nets_stepNearer 1 = .ok (.istore 4, 2) := kq_54 byq_r (by decide +kernel)
theorem d_Nets_stepNearer_3 : decode b_Nets_stepNearer 3 = .ok (.iload 4, 2) := kq_21 byq_r (by decide +kernel)
theorem d_Nets_stepNearer_5 : decode b_Nets_stepNearer 5 = .ok (.iconst 4, 1) := kq_7 byq_r (by decide +kernel)
theorem d_Nets_stepNearer_6 : decode b_Nets_stepNearer 6 = .ok (.if_icmp .ge 38, 3) := kq_162 byq_r (a := 0) (b := 38) (by decide +kernel)
theorem d_Nets_stepNearer_9 : decode b_Nets_stepNearer 9 = .ok (.aload_n 0, 1) := kq_42 byq_r (by decide +kernel)
theorem d_Nets_stepNearer_10 : decode b_Nets_stepNearer 10 = .ok (.iload_n 1, 1) := kq_27 byq_r (by decide +kernel)
theorem d_Nets_stepNearer_11 : decode b_Nets_stepNearer 11 = .ok (.iload_n 2, 1) := kq_28 byq_r (by decide +kernel)
theorem d_Nets_stepNearer_12 : decode b_Nets_stepNearer 12 = .ok (.iload 4, 2) := kq_21 byq_r (by decide +kernel)
theorem d_Nets_stepNearer_14 : decode b_Nets_stepNearer 14 = .ok (.invokevirtual 70, 3) := kq_182 byq_r (a := 0) (b := 70) (by decide +kernel)
theorem d_Nets_stepNearer_17 : decode b_Nets_stepNearer 17 = .ok (.istore 5, 2) := kq_54 byq_r (by decide +kernel)
theorem d_Nets_stepNearer_19 : decode b_Nets_stepNearer 19 = .ok (.iload 5, 2) := kq_21 byq_r (by decide +kernel)
theorem d_Nets_stepNearer_21 : decode b_Nets_stepNearer 21 = .ok (.iconst (-1), 1) := kq_2 byq_r (by decide +kernel)
theorem d_Nets_stepNearer_22 : decode b_Nets_stepNearer 22 = .ok (.if_icmp .eq 16, 3) := kq_159 byq_r (a := 0) (b := 16) (by decide +kernel)
theorem d_Nets_stepNearer_25 : decode b_Nets_stepNearer 25 = .ok (.aload_n 3, 1) := kq_45 byq_r (by decide +kernel)
theorem d_Nets_stepNearer_26 : decode b_Nets_stepNearer 26 = .ok (.iload 5, 2) := kq_21 byq_r (by decide +kernel)
theorem d_Nets_stepNearer_28 : decode b_Nets_stepNearer 28 = .ok (.iaload, 1) := kq_46 byq_r (by decide +kernel)
theorem d_Nets_stepNearer_29 : decode b_Nets_stepNearer 29 = .ok (.aload_n 3, 1) := kq_45 byq_r (by decide +kernel)
theorem d_Nets_stepNearer_30 : decode b_Nets_stepNearer 30 = .ok (.iload_n 2, 1) := kq_28 byq_r (by decide +kernel)
theorem d_Nets_stepNearer_31 : decode b_Nets_stepNearer 31 = .ok (.iaload, 1) := kq_46 byq_r (by decide +kernel)
theorem d_Nets_stepNearer_32 : decode b_Nets_stepNearer 32 = .ok (.if_icmp .ge 6, 3) := kq_162 byq_r (a := 0) (b := 6) (by decide +kernel)
theorem d_Nets_stepNearer_35 : decode b_Nets_stepNearer 35 = .ok (.iload 4, 2) := kq_21 byq_r (by decide +kernel)
theorem d_Nets_stepNearer_37 : decode b_Nets_stepNearer 37 = .ok (.ireturn, 1) := kq_172 byq_r (by decide +kernel)
theorem d_Nets_stepNearer_38 : decode b_Nets_stepNearer 38 = .ok (.iinc 4 1, 3) := kq_132 byq_r (b := 1) (by decide +kernel)
theorem d_Nets_stepNearer_41 : decode b_Nets_stepNearer 41 = .ok (.goto (-38), 3) := kq_167 byq_r (a := 255) (b := 218) (by decide +kernel)
theorem d_Nets_stepNearer_44 : decode b_Nets_stepNearer 44 = .ok (.iconst (-1), 1) := kq_2 byq_r (by decide +kernel)
theorem d_Nets_stepNearer_45 : decode b_Nets_stepNearer 45 = .ok (.ireturn, 1) := kq_172 byq_r (by decide +kernel)
theorem d_Nets_stairs_0 : decode b_Nets_stairs 0 = .ok (.aload_n 0, 1) := kq_42 byq_r (by decide +kernel)
theorem d_Nets_stairs_1 : decode b_Nets_stairs 1 = .ok (.getfield 9, 3) := kq_180 byq_r (a := 0) (b := 9) (by decide +kernel)
theorem d_Nets_stairs_4 : decode b_Nets_stairs 4 = .ok (.iconst 0, 1) := kq_3 byq_r (by decide +kernel)
theorem d_Nets_stairs_5 : decode b_Nets_stairs 5 = .ok (.laload, 1) := kq_47 byq_r (by decide +kernel)
theorem d_Nets_stairs_6 : decode b_Nets_stairs 6 = .ok (.aload_n 0, 1) := kq_42 byq_r (by decide +kernel)
theorem d_Nets_stairs_7 : decode b_Nets_stairs 7 = .ok (.getfield 9, 3) := kq_180 byq_r (a := 0) (b := 9) (by decide +kernel)
theorem d_Nets_stairs_10 : decode b_Nets_stairs 10 = .ok (.iconst 1, 1) := kq_4 byq_r (by decide +kernel)
theorem d_Nets_stairs_11 : decode b_Nets_stairs 11 = .ok (.laload, 1) := kq_47 byq_r (by decide +kernel)
theorem d_Nets_stairs_12 : decode b_Nets_stairs 12 = .ok (.land, 1) := kq_127 byq_r (by decide +kernel)
theorem d_Nets_stairs_13 : decode b_Nets_stairs 13 = .ok (.lreturn, 1) := kq_173 byq_r (by decide +kernel)
def f_Nets_isOf (v0 : Nat) (v1 : Int32) (v2 : Int32) (M : Mem) : Option (Int32) :=
  if kd v0 = 10 + 6 then
  if inb v1 2 = true then
  if (lg_cmp (((M.2.1 (rf v0 0) v1.toNatClampNeg) >>> (v2.toInt64 &&& 63)) &&& (1 : Int64)) (0 : Int64)) = 0 then
  some (0 : Int32)
  else
  some (1 : Int32)
  else none
  else none
theorem c_Nets_isOf (l : Launch) (G : Gw)  (v0 : Nat) (v1 : Int32) (v2 : Int32) (M : Mem) (x : Int32) (h : f_Nets_isOf v0 v1 v2 M = some x) (d : Nat) (hD : 1 ≤ d) : Ci l G y_Nets_isOf b_Nets_isOf 3 (some .boolean) d [.ref (G.2.2 + v0), .int v1, .int v2] M (fun r9 M9 => r9 = x ∧ M9 = M) := by
  refine Ci_of (by decide) (Nat.le_of_ble_eq_true rfl) (fun E hE X => ?_)
  subst hE
  have kr : ∀ x9 : Int32, x = x9 → (fun r9 M9 => r9 = x ∧ M9 = M) x9 M := fun x9 e9 => by subst e9; exact ⟨rfl, rfl⟩
  unfold f_Nets_isOf at h
  obtain ⟨hk_v0, h⟩ := ifn h
  refine V_aload_n (n := 0) X d_Nets_isOf_0 rfl rfl rfl ?_
  refine V_getr X fo_Nets_9 hk_v0 rfl rfl d_Nets_isOf_1 rfl ?_
  refine V_iload_n (n := 1) X d_Nets_isOf_4 rfl rfl rfl ?_
  obtain ⟨hb, h⟩ := ifn h
  refine V_lald X (kdNets_0 hk_v0) (inb_in (lnNets_0 hk_v0) hb) d_Nets_isOf_5 rfl ?_
  refine V_iload_n (n := 2) X d_Nets_isOf_6 rfl rfl rfl ?_
  refine V_lshr X d_Nets_isOf_7 rfl ?_
  refine V_lconst (v := 1) X d_Nets_isOf_8 (by decide) rfl ?_
  refine V_land X d_Nets_isOf_9 rfl ?_
  refine V_lconst (v := 0) X d_Nets_isOf_10 (by decide) rfl ?_
  refine V_lcmp X d_Nets_isOf_11 rfl ?_
  refine V_if_eq (tgt := 19) X d_Nets_isOf_12 (by decide) rfl (fun c1 => ?_) (fun c1 => ?_)
  · rw [if_pos c1] at h
    refine V_iconst (v := 0) X d_Nets_isOf_19 (by decide) rfl ?_
    exact V_zret X (kr (0 : Int32) (Option.some.inj h).symm) (by decide) d_Nets_isOf_20
  · rw [if_neg c1] at h
    refine V_iconst (v := 1) X d_Nets_isOf_15 (by decide) rfl ?_
    refine V_goto (pc' := 20) X d_Nets_isOf_16 (by decide) ?_
    exact V_zret X (kr (1 : Int32) (Option.some.inj h).symm) (by decide) d_Nets_isOf_20
def j_Nets_link_88_19 (v0 : Nat) (v2 : Int32) (v3 : Int32) (v4 : Int32) (v5 : Int32) (v6 : Int32) (v7 : Int32) (w0 : Int32) (w1 : Int32) (w2 : Nat) (M : Mem) : Option ((Int32 × Mem) ⊕ ((Mem))) :=
  if inb w1 (ln w2) = true then
  mem_ (s_i M w2 w1.toNatClampNeg w0) fun M3 =>
  if inb v4 72 = true then
  if v7 = 0 then
  if inb v4 72 = true then
  mem_ (s_l M3 (rf v0 1) v4.toNatClampNeg ((M3.2.1 (rf v0 1) v4.toNatClampNeg) ||| (0 : Int64))) fun M4 =>
  some (.inl ((v5 + (1 : Int32)), M4))
  else none
  else
  if inb v4 72 = true then
  mem_ (s_l M3 (rf v0 1) v4.toNatClampNeg ((M3.2.1 (rf v0 1) v4.toNatClampNeg) ||| ((1 : Int64) <<< (v6.toInt64 &&& 63)))) fun M5 =>
  some (.inl ((v5 + (1 : Int32)), M5))
  else none
  else none
  else none
theorem j_Nets_link_88_19_ok {E : Ev} {G : Gw} {d : Nat} {post : Mem → Prop} (X : Cx E G b_Nets_link "WomenByTheRoofs$Nets" 8 d none) (hD : 2 ≤ d)  (v0 : Nat) (v2 : Int32) (v3 : Int32) (v4 : Int32) (v5 : Int32) (v6 : Int32) (v7 : Int32) (w0 : Int32) (w1 : Int32) (w2 : Nat) (hk_v0 : kd v0 = 10 + 6) (hk_w2 : kd w2 = 1)  (M : Mem)  (o : (Int32 × Mem) ⊕ ((Mem))) (h : j_Nets_link_88_19 v0 v2 v3 v4 v5 v6 v7 w0 w1 w2 M = some o) (kc : ∀ s9 : Int32 × Mem, o = .inl s9 → V E (0, 0) G 8 (QV E G post) s9.2 19 [(0, .ref (G.2.2 + v0)), (1, .ref (G.2.2 + 3)), (2, .int v2), (3, .int v3), (4, .int v4), (5, .int s9.1)] []) (kx0 : ∀ x9 : Mem, o = .inr x9 → V E (0, 0) G 8 (QV E G post) x9 118 [] []) : V E (0, 0) G 8 (QV E G post) M 88 [(0, .ref (G.2.2 + v0)), (1, .ref (G.2.2 + 3)), (2, .int v2), (3, .int v3), (4, .int v4), (5, .int v5), (6, .int v6), (7, .int v7)] [.int w0, .int w1, .ref (G.2.2 + w2)] := by
  unfold j_Nets_link_88_19 at h
  obtain ⟨hb, h⟩ := ifn h
  obtain ⟨M3, eM3, h⟩ := memS h
  refine V_iast X hk_w2 (inb_in rfl hb) d_Nets_link_88 rfl ?_
  rw [← eM3]
  refine V_aload_n (n := 0) X d_Nets_link_89 rfl rfl rfl ?_
  refine V_getr X fo_Nets_15 hk_v0 rfl rfl d_Nets_link_90 rfl ?_
  refine V_iload (n := 4) X d_Nets_link_93 rfl rfl ?_
  refine V_dup2 X d_Nets_link_95 rfl rfl rfl ?_
  obtain ⟨hb, h⟩ := ifn h
  refine V_lald X (kdNets_1 hk_v0) (inb_in (lnNets_1 hk_v0) hb) d_Nets_link_96 rfl ?_
  refine V_iload (n := 7) X d_Nets_link_97 rfl rfl ?_
  refine V_if_eq (tgt := 109) X d_Nets_link_99 (by decide) rfl (fun c6 => ?_) (fun c6 => ?_)
  · rw [if_pos c6] at h
    refine V_lconst (v := 0) X d_Nets_link_109 (by decide) rfl ?_
    refine V_lor X d_Nets_link_110 rfl ?_
    obtain ⟨hb, h⟩ := ifn h
    obtain ⟨M4, eM4, h⟩ := memS h
    refine V_last X (kdNets_1 hk_v0) (inb_in (lnNets_1 hk_v0) hb) d_Nets_link_111 rfl ?_
    rw [← eM4]
    refine V_iinc (n := 5) (v := (v5 + (1 : Int32))) (lv' := [(5, .int (v5 + (1 : Int32))), (0, .ref (G.2.2 + v0)), (1, .ref (G.2.2 + 3)), (2, .int v2), (3, .int v3), (4, .int v4), (6, .int v6), (7, .int v7)]) X d_Nets_link_112 rfl rfl (by decide) rfl rfl ?_
    refine V_goto (pc' := 19) X d_Nets_link_115 (by decide) ?_
    refine V_sub (lv' := [(0, .ref (G.2.2 + v0)), (1, .ref (G.2.2 + 3)), (2, .int v2), (3, .int v3), (4, .int v4), (5, .int (v5 + (1 : Int32)))]) [1, 2, 3, 4, 5, 0] rfl ?_
    exact kc ((v5 + (1 : Int32)), M4) (Option.some.inj h).symm
  · rw [if_neg c6] at h
    refine V_lconst (v := 1) X d_Nets_link_102 (by decide) rfl ?_
    refine V_iload (n := 6) X d_Nets_link_103 rfl rfl ?_
    refine V_lshl X d_Nets_link_105 rfl ?_
    refine V_goto (pc' := 110) X d_Nets_link_106 (by decide) ?_
    refine V_lor X d_Nets_link_110 rfl ?_
    obtain ⟨hb, h⟩ := ifn h
    obtain ⟨M5, eM5, h⟩ := memS h
    refine V_last X (kdNets_1 hk_v0) (inb_in (lnNets_1 hk_v0) hb) d_Nets_link_111 rfl ?_
    rw [← eM5]
    refine V_iinc (n := 5) (v := (v5 + (1 : Int32))) (lv' := [(5, .int (v5 + (1 : Int32))), (0, .ref (G.2.2 + v0)), (1, .ref (G.2.2 + 3)), (2, .int v2), (3, .int v3), (4, .int v4), (6, .int v6), (7, .int v7)]) X d_Nets_link_112 rfl rfl (by decide) rfl rfl ?_
    refine V_goto (pc' := 19) X d_Nets_link_115 (by decide) ?_
    refine V_sub (lv' := [(0, .ref (G.2.2 + v0)), (1, .ref (G.2.2 + 3)), (2, .int v2), (3, .int v3), (4, .int v4), (5, .int (v5 + (1 : Int32)))]) [1, 2, 3, 4, 5, 0] rfl ?_
    exact kc ((v5 + (1 : Int32)), M5) (Option.some.inj h).symm
def j_Nets_link_64_19 (v0 : Nat) (v2 : Int32) (v3 : Int32) (v4 : Int32) (v5 : Int32) (v6 : Int32) (w0 : Int32) (M : Mem) : Option ((Int32 × Mem) ⊕ ((Mem))) :=
  if w0 = 0 then
  j_Nets_link_88_19 v0 v2 v3 v4 v5 v6 w0 (-1 : Int32) ((v4 * (4 : Int32)) + v5) (rf v0 2) M
  else
  j_Nets_link_88_19 v0 v2 v3 v4 v5 v6 w0 v6 ((v4 * (4 : Int32)) + v5) (rf v0 2) M
theorem j_Nets_link_64_19_ok {E : Ev} {G : Gw} {d : Nat} {post : Mem → Prop} (X : Cx E G b_Nets_link "WomenByTheRoofs$Nets" 8 d none) (hD : 2 ≤ d)  (v0 : Nat) (v2 : Int32) (v3 : Int32) (v4 : Int32) (v5 : Int32) (v6 : Int32) (w0 : Int32) (hk_v0 : kd v0 = 10 + 6)  (M : Mem)  (o : (Int32 × Mem) ⊕ ((Mem))) (h : j_Nets_link_64_19 v0 v2 v3 v4 v5 v6 w0 M = some o) (kc : ∀ s9 : Int32 × Mem, o = .inl s9 → V E (0, 0) G 8 (QV E G post) s9.2 19 [(0, .ref (G.2.2 + v0)), (1, .ref (G.2.2 + 3)), (2, .int v2), (3, .int v3), (4, .int v4), (5, .int s9.1)] []) (kx0 : ∀ x9 : Mem, o = .inr x9 → V E (0, 0) G 8 (QV E G post) x9 118 [] []) : V E (0, 0) G 8 (QV E G post) M 64 [(0, .ref (G.2.2 + v0)), (1, .ref (G.2.2 + 3)), (2, .int v2), (3, .int v3), (4, .int v4), (5, .int v5), (6, .int v6)] [.int w0] := by
  unfold j_Nets_link_64_19 at h
  refine V_istore (lv' := [(7, .int w0), (0, .ref (G.2.2 + v0)), (1, .ref (G.2.2 + 3)), (2, .int v2), (3, .int v3), (4, .int v4), (5, .int v5), (6, .int v6)]) X d_Nets_link_64 (by decide) rfl rfl ?_
  refine V_aload_n (n := 1) X d_Nets_link_66 rfl rfl rfl ?_
  refine V_getr X fo_Nets_18 hk_v0 rfl rfl d_Nets_link_67 rfl ?_
  refine V_iload (n := 5) X d_Nets_link_70 rfl rfl ?_
  refine V_iconst (v := 4) X d_Nets_link_72 (by decide) rfl ?_
  refine V_imul X d_Nets_link_73 rfl ?_
  refine V_iload (n := 6) X d_Nets_link_74 rfl rfl ?_
  refine V_iadd X d_Nets_link_76 rfl ?_
  refine V_iload (n := 0) X d_Nets_link_77 rfl rfl ?_
  refine V_if_eq (tgt := 87) X d_Nets_link_79 (by decide) rfl (fun c7 => ?_) (fun c7 => ?_)
  · rw [if_pos c7] at h
    refine V_iconst (v := -1) X d_Nets_link_87 (by decide) rfl ?_
    refine V_sub (lv' := [(0, .ref (G.2.2 + v0)), (1, .ref (G.2.2 + 3)), (2, .int v2), (3, .int v3), (4, .int v4), (5, .int v5), (6, .int v6), (7, .int w0)]) [1, 2, 3, 4, 5, 6, 7, 0] rfl ?_
    exact j_Nets_link_88_19_ok X hD v0 v2 v3 v4 v5 v6 w0 (-1 : Int32) ((v4 * (4 : Int32)) + v5) (rf v0 2) hk_v0 (kdNets_2 hk_v0) M _ h kc kx0
  · rw [if_neg c7] at h
    refine V_iload (n := 7) X d_Nets_link_82 rfl rfl ?_
    refine V_goto (pc' := 88) X d_Nets_link_84 (by decide) ?_
    refine V_sub (lv' := [(0, .ref (G.2.2 + v0)), (1, .ref (G.2.2 + 3)), (2, .int v2), (3, .int v3), (4, .int v4), (5, .int v5), (6, .int v6), (7, .int w0)]) [1, 2, 3, 4, 5, 6, 7, 0] rfl ?_
    exact j_Nets_link_88_19_ok X hD v0 v2 v3 v4 v5 v6 w0 v6 ((v4 * (4 : Int32)) + v5) (rf v0 2) hk_v0 (kdNets_2 hk_v0) M _ h kc kx0
def lb_Nets_link_19 (v0 : Nat) (v2 : Int32) (v3 : Int32) (v4 : Int32) (s : Int32 × Mem) : Option ((Int32 × Mem) ⊕ ((Mem))) :=
  if (4 : Int32) ≤ s.1 then
  some (.inr s.2)
  else
  Option.bind (f_Ground_beside v3 s.1 s.2) fun x2 =>
  if x2 = (-1 : Int32) then
  j_Nets_link_64_19 v0 v2 v3 v4 s.1 x2 (0 : Int32) s.2
  else
  Option.bind (f_Nets_isOf v0 v2 v3 s.2) fun x8 =>
  if x8 = 0 then
  j_Nets_link_64_19 v0 v2 v3 v4 s.1 x2 (0 : Int32) s.2
  else
  Option.bind (f_Nets_isOf v0 v2 x2 s.2) fun x9 =>
  if x9 = 0 then
  j_Nets_link_64_19 v0 v2 v3 v4 s.1 x2 (0 : Int32) s.2
  else
  j_Nets_link_64_19 v0 v2 v3 v4 s.1 x2 (1 : Int32) s.2
theorem lb_Nets_link_19_ok {E : Ev} {G : Gw} {d : Nat} {post : Mem → Prop} (X : Cx E G b_Nets_link "WomenByTheRoofs$Nets" 8 d none) (hD : 2 ≤ d)  (v0 : Nat) (v2 : Int32) (v3 : Int32) (v4 : Int32) (hk_v0 : kd v0 = 10 + 6)  (s : Int32 × Mem) (o : (Int32 × Mem) ⊕ ((Mem))) (h : lb_Nets_link_19 v0 v2 v3 v4 s = some o) (kc : ∀ s9 : Int32 × Mem, o = .inl s9 → V E (0, 0) G 8 (QV E G post) s9.2 19 [(0, .ref (G.2.2 + v0)), (1, .ref (G.2.2 + 3)), (2, .int v2), (3, .int v3), (4, .int v4), (5, .int s9.1)] []) (kx0 : ∀ x9 : Mem, o = .inr x9 → V E (0, 0) G 8 (QV E G post) x9 118 [] []) : V E (0, 0) G 8 (QV E G post) s.2 19 [(0, .ref (G.2.2 + v0)), (1, .ref (G.2.2 + 3)), (2, .int v2), (3, .int v3), (4, .int v4), (5, .int s.1)] [] := by
  unfold lb_Nets_link_19 at h
  refine V_iload (n := 5) X d_Nets_link_19 rfl rfl ?_
  refine V_iconst (v := 4) X d_Nets_link_21 (by decide) rfl ?_
  refine V_icmp_ge (tgt := 118) X d_Nets_link_22 (by decide) rfl (fun c13 => ?_) (fun c13 => ?_)
  · rw [if_pos c13] at h
    refine V_sub (lv' := []) [] rfl ?_
    exact kx0 s.2 (Option.some.inj h).symm
  · rw [if_neg c13] at h
    refine V_aload_n (n := 1) X d_Nets_link_25 rfl rfl rfl ?_
    refine V_iload_n (n := 3) X d_Nets_link_26 rfl rfl rfl ?_
    refine V_iload (n := 5) X d_Nets_link_27 rfl rfl ?_
    obtain ⟨x2, hx2, h⟩ := ob_s h
    refine V_ci (As := [.int v3, .int s.1]) X (Z0 E) ml_Nets_47 yq_Ground_beside (c_Ground_beside E.2.1 G v3 s.1 s.2 x2 hx2 _ (Nat.le_refl _)) kd_3 rfl rfl (by omega) rfl (Nat.le_of_ble_eq_true rfl) d_Nets_link_29 rfl (fun r9 M9 hq => ?_)
    rw [hq.1, hq.2]
    refine V_istore (lv' := [(6, .int x2), (0, .ref (G.2.2 + v0)), (1, .ref (G.2.2 + 3)), (2, .int v2), (3, .int v3), (4, .int v4), (5, .int s.1)]) X d_Nets_link_32 (by decide) rfl rfl ?_
    refine V_iload (n := 0) X d_Nets_link_34 rfl rfl ?_
    refine V_iconst (v := -1) X d_Nets_link_36 (by decide) rfl ?_
    refine V_icmp_eq (tgt := 63) X d_Nets_link_37 (by decide) rfl (fun c12 => ?_) (fun c12 => ?_)
    · rw [if_pos c12] at h
      refine V_iconst (v := 0) X d_Nets_link_63 (by decide) rfl ?_
      refine V_sub (lv' := [(0, .ref (G.2.2 + v0)), (1, .ref (G.2.2 + 3)), (2, .int v2), (3, .int v3), (4, .int v4), (5, .int s.1), (6, .int x2)]) [1, 2, 3, 4, 5, 6, 0] rfl ?_
      exact j_Nets_link_64_19_ok X hD v0 v2 v3 v4 s.1 x2 (0 : Int32) hk_v0 s.2 _ h kc kx0
    · rw [if_neg c12] at h
      refine V_aload_n (n := 1) X d_Nets_link_40 rfl rfl rfl ?_
      refine V_iload_n (n := 3) X d_Nets_link_41 rfl rfl rfl ?_
      refine V_iload_n (n := 4) X d_Nets_link_42 rfl rfl rfl ?_
      obtain ⟨x8, hx8, h⟩ := ob_s h
      refine V_ci (As := [.int v2, .int v3]) X (Z0 E) ml_Nets_51 yq_Nets_isOf (c_Nets_isOf E.2.1 G v0 v2 v3 s.2 x8 hx8 _ (Nat.le_refl _)) hk_v0 rfl rfl (by omega) rfl (Nat.le_of_ble_eq_true rfl) d_Nets_link_43 rfl (fun r9 M9 hq => ?_)
      rw [hq.1, hq.2]
      refine V_if_eq (tgt := 63) X d_Nets_link_46 (by decide) rfl (fun c11 => ?_) (fun c11 => ?_)
      · rw [if_pos c11] at h
        refine V_iconst (v := 0) X d_Nets_link_63 (by decide) rfl ?_
        refine V_sub (lv' := [(0, .ref (G.2.2 + v0)), (1, .ref (G.2.2 + 3)), (2, .int v2), (3, .int v3), (4, .int v4), (5, .int s.1), (6, .int x2)]) [1, 2, 3, 4, 5, 6, 0] rfl ?_
        exact j_Nets_link_64_19_ok X hD v0 v2 v3 v4 s.1 x2 (0 : Int32) hk_v0 s.2 _ h kc kx0
      · rw [if_neg c11] at h
        refine V_aload_n (n := 1) X d_Nets_link_49 rfl rfl rfl ?_
        refine V_iload_n (n := 3) X d_Nets_link_50 rfl rfl rfl ?_
        refine V_iload (n := 0) X d_Nets_link_51 rfl rfl ?_
        obtain ⟨x9, hx9, h⟩ := ob_s h
        refine V_ci (As := [.int v2, .int x2]) X (Z0 E) ml_Nets_51 yq_Nets_isOf (c_Nets_isOf E.2.1 G v0 v2 x2 s.2 x9 hx9 _ (Nat.le_refl _)) hk_v0 rfl rfl (by omega) rfl (Nat.le_of_ble_eq_true rfl) d_Nets_link_53 rfl (fun r9 M9 hq => ?_)
        rw [hq.1, hq.2]
        refine V_if_eq (tgt := 63) X d_Nets_link_56 (by decide) rfl (fun c10 => ?_) (fun c10 => ?_)
        · rw [if_pos c10] at h
          refine V_iconst (v := 0) X d_Nets_link_63 (by decide) rfl ?_
          refine V_sub (lv' := [(0, .ref (G.2.2 + v0)), (1, .ref (G.2.2 + 3)), (2, .int v2), (3, .int v3), (4, .int v4), (5, .int s.1), (6, .int x2)]) [1, 2, 3, 4, 5, 6, 0] rfl ?_
          exact j_Nets_link_64_19_ok X hD v0 v2 v3 v4 s.1 x2 (0 : Int32) hk_v0 s.2 _ h kc kx0
        · rw [if_neg c10] at h
          refine V_iconst (v := 1) X d_Nets_link_59 (by decide) rfl ?_
          refine V_goto (pc' := 64) X d_Nets_link_60 (by decide) ?_
          refine V_sub (lv' := [(0, .ref (G.2.2 + v0)), (1, .ref (G.2.2 + 3)), (2, .int v2), (3, .int v3), (4, .int v4), (5, .int s.1), (6, .int x2)]) [1, 2, 3, 4, 5, 6, 0] rfl ?_
          exact j_Nets_link_64_19_ok X hD v0 v2 v3 v4 s.1 x2 (1 : Int32) hk_v0 s.2 _ h kc kx0
theorem lp_Nets_link_19_ok {E : Ev} {G : Gw} {d : Nat} {post : Mem → Prop} (X : Cx E G b_Nets_link "WomenByTheRoofs$Nets" 8 d none) (hD : 2 ≤ d)  (v0 : Nat) (v2 : Int32) (v3 : Int32) (v4 : Int32) (hk_v0 : kd v0 = 10 + 6)  (n9 : Nat) (s : Int32 × Mem) (x : (Mem)) (h : iter (lb_Nets_link_19 v0 v2 v3 v4) n9 s = some x) (kx0 : ∀ x9 : Mem, x = x9 → V E (0, 0) G 8 (QV E G post) x9 118 [] []) : V E (0, 0) G 8 (QV E G post) s.2 19 [(0, .ref (G.2.2 + v0)), (1, .ref (G.2.2 + 3)), (2, .int v2), (3, .int v3), (4, .int v4), (5, .int s.1)] [] :=
  iter_P (P := fun s : Int32 × Mem => V E (0, 0) G 8 (QV E G post) s.2 19 [(0, .ref (G.2.2 + v0)), (1, .ref (G.2.2 + 3)), (2, .int v2), (3, .int v3), (4, .int v4), (5, .int s.1)] []) (fun s o hb kc ky => lb_Nets_link_19_ok X hD v0 v2 v3 v4 hk_v0 s o hb kc (fun x9 e9 => kx0 x9 (ky _ e9).symm)) n9 s h
def f_Nets_link (v0 : Nat) (v2 : Int32) (v3 : Int32) (M : Mem) : Option (Mem) :=
  if kd v0 = 10 + 6 then
  if inb ((v2 * (36 : Int32)) + v3) 72 = true then
  mem_ (s_l M (rf v0 1) ((v2 * (36 : Int32)) + v3).toNatClampNeg (0 : Int64)) fun M1 =>
  Option.bind (iter (lb_Nets_link_19 v0 v2 v3 ((v2 * (36 : Int32)) + v3)) FU ((0 : Int32), M1)) fun x14 =>
  some x14
  else none
  else none
theorem c_Nets_link (l : Launch) (G : Gw)  (v0 : Nat) (v2 : Int32) (v3 : Int32) (M : Mem) (x : Mem) (h : f_Nets_link v0 v2 v3 M = some x) (d : Nat) (hD : 2 ≤ d) : Cv l G y_Nets_link b_Nets_link 8 none d [.ref (G.2.2 + v0), .ref (G.2.2 + 3), .int v2, .int v3] M (fun M9 => M9 = x) := by
  refine Cv_of (by decide) (Nat.le_of_ble_eq_true rfl) (fun E hE X => ?_)
  subst hE
  have kr : ∀ x9 : Mem, x = x9 → (fun M9 => M9 = x) x9 := fun x9 e9 => by subst e9; exact rfl
  unfold f_Nets_link at h
  obtain ⟨hk_v0, h⟩ := ifn h
  refine V_iload_n (n := 2) X d_Nets_link_0 rfl rfl rfl ?_
  refine V_bipush (v := 36) X d_Nets_link_1 (by decide) rfl ?_
  refine V_imul X d_Nets_link_3 rfl ?_
  refine V_iload_n (n := 3) X d_Nets_link_4 rfl rfl rfl ?_
  refine V_iadd X d_Nets_link_5 rfl ?_
  refine V_istore (lv' := [(4, .int ((v2 * (36 : Int32)) + v3)), (0, .ref (G.2.2 + v0)), (1, .ref (G.2.2 + 3)), (2, .int v2), (3, .int v3)]) X d_Nets_link_6 (by decide) rfl rfl ?_
  refine V_aload_n (n := 1) X d_Nets_link_8 rfl rfl rfl ?_
  refine V_getr X fo_Nets_15 hk_v0 rfl rfl d_Nets_link_9 rfl ?_
  refine V_iload (n := 0) X d_Nets_link_12 rfl rfl ?_
  refine V_lconst (v := 0) X d_Nets_link_14 (by decide) rfl ?_
  obtain ⟨hb, h⟩ := ifn h
  obtain ⟨M1, eM1, h⟩ := memS h
  refine V_last X (kdNets_1 hk_v0) (inb_in (lnNets_1 hk_v0) hb) d_Nets_link_15 rfl ?_
  rw [← eM1]
  refine V_iconst (v := 0) X d_Nets_link_16 (by decide) rfl ?_
  refine V_istore (lv' := [(5, .int (0 : Int32)), (4, .int ((v2 * (36 : Int32)) + v3)), (0, .ref (G.2.2 + v0)), (1, .ref (G.2.2 + 3)), (2, .int v2), (3, .int v3)]) X d_Nets_link_17 (by decide) rfl rfl ?_
  refine V_sub (lv' := [(0, .ref (G.2.2 + v0)), (1, .ref (G.2.2 + 3)), (2, .int v2), (3, .int v3), (4, .int ((v2 * (36 : Int32)) + v3)), (5, .int (0 : Int32))]) [2, 3, 4, 5, 1, 0] rfl ?_
  obtain ⟨x14, hx14, h⟩ := ob_s h
  refine (lp_Nets_link_19_ok X hD v0 v2 v3 ((v2 * (36 : Int32)) + v3) hk_v0 _ _ _ hx14 (fun x9 e9 => ?_) :)
  subst e9
  exact V_vret X (kr x14 (Option.some.inj h).symm) d_Nets_link_118
def f_Nets_bridge (v0 : Nat) (v2 : Int32) (v3 : Int32) (M : Mem) : Option (Mem) :=
  if kd v0 = 10 + 6 then
  Option.bind (f_Ground_across v2 v3 M) fun x1 =>
  if x1 = (-1 : Int32) then
  some M
  else
  if inb ((((36 : Int32) + v2) * (4 : Int32)) + x1) 288 = true then
  mem_ (s_i M (rf v0 2) ((((36 : Int32) + v2) * (4 : Int32)) + x1).toNatClampNeg v3) fun M2 =>
  if inb ((36 : Int32) + v2) 72 = true then
  if inb ((36 : Int32) + v2) 72 = true then
  mem_ (s_l M2 (rf v0 1) ((36 : Int32) + v2).toNatClampNeg ((M2.2.1 (rf v0 1) ((36 : Int32) + v2).toNatClampNeg) ||| ((1 : Int64) <<< (v3.toInt64 &&& 63)))) fun M3 =>
  some M3
  else none
  else none
  else none
  else none
theorem c_Nets_bridge (l : Launch) (G : Gw)  (v0 : Nat) (v2 : Int32) (v3 : Int32) (M : Mem) (x : Mem) (h : f_Nets_bridge v0 v2 v3 M = some x) (d : Nat) (hD : 3 ≤ d) : Cv l G y_Nets_bridge b_Nets_bridge 5 none d [.ref (G.2.2 + v0), .ref (G.2.2 + 3), .int v2, .int v3] M (fun M9 => M9 = x) := by
  refine Cv_of (by decide) (Nat.le_of_ble_eq_true rfl) (fun E hE X => ?_)
  subst hE
  have kr : ∀ x9 : Mem, x = x9 → (fun M9 => M9 = x) x9 := fun x9 e9 => by subst e9; exact rfl
  unfold f_Nets_bridge at h
  obtain ⟨hk_v0, h⟩ := ifn h
  refine V_aload_n (n := 1) X d_Nets_bridge_0 rfl rfl rfl ?_
  refine V_iload_n (n := 2) X d_Nets_bridge_1 rfl rfl rfl ?_
  refine V_iload_n (n := 3) X d_Nets_bridge_2 rfl rfl rfl ?_
  obtain ⟨x1, hx1, h⟩ := ob_s h
  refine V_ci (As := [.int v2, .int v3]) X (Z0 E) ml_Nets_54 yq_Ground_across (c_Ground_across E.2.1 G v2 v3 M x1 hx1 _ (Nat.le_refl _)) kd_3 rfl rfl (by omega) rfl (Nat.le_of_ble_eq_true rfl) d_Nets_bridge_3 rfl (fun r9 M9 hq => ?_)
  rw [hq.1, hq.2]
  refine V_istore (lv' := [(4, .int x1), (0, .ref (G.2.2 + v0)), (1, .ref (G.2.2 + 3)), (2, .int v2), (3, .int v3)]) X d_Nets_bridge_6 (by decide) rfl rfl ?_
  refine V_iload (n := 0) X d_Nets_bridge_8 rfl rfl ?_
  refine V_iconst (v := -1) X d_Nets_bridge_10 (by decide) rfl ?_
  refine V_icmp_eq (tgt := 44) X d_Nets_bridge_11 (by decide) rfl (fun c4 => ?_) (fun c4 => ?_)
  · rw [if_pos c4] at h
    exact V_vret X (kr M (Option.some.inj h).symm) d_Nets_bridge_44
  · rw [if_neg c4] at h
    refine V_aload_n (n := 1) X d_Nets_bridge_14 rfl rfl rfl ?_
    refine V_getr X fo_Nets_18 hk_v0 rfl rfl d_Nets_bridge_15 rfl ?_
    refine V_bipush (v := 36) X d_Nets_bridge_18 (by decide) rfl ?_
    refine V_iload_n (n := 3) X d_Nets_bridge_20 rfl rfl rfl ?_
    refine V_iadd X d_Nets_bridge_21 rfl ?_
    refine V_iconst (v := 4) X d_Nets_bridge_22 (by decide) rfl ?_
    refine V_imul X d_Nets_bridge_23 rfl ?_
    refine V_iload (n := 0) X d_Nets_bridge_24 rfl rfl ?_
    refine V_iadd X d_Nets_bridge_26 rfl ?_
    refine V_iload_n (n := 4) X d_Nets_bridge_27 rfl rfl rfl ?_
    obtain ⟨hb, h⟩ := ifn h
    obtain ⟨M2, eM2, h⟩ := memS h
    refine V_iast X (kdNets_2 hk_v0) (inb_in (lnNets_2 hk_v0) hb) d_Nets_bridge_28 rfl ?_
    rw [← eM2]
    refine V_aload_n (n := 1) X d_Nets_bridge_29 rfl rfl rfl ?_
    refine V_getr X fo_Nets_15 hk_v0 rfl rfl d_Nets_bridge_30 rfl ?_
    refine V_bipush (v := 36) X d_Nets_bridge_33 (by decide) rfl ?_
    refine V_iload_n (n := 3) X d_Nets_bridge_35 rfl rfl rfl ?_
    refine V_iadd X d_Nets_bridge_36 rfl ?_
    refine V_dup2 X d_Nets_bridge_37 rfl rfl rfl ?_
    obtain ⟨hb, h⟩ := ifn h
    refine V_lald X (kdNets_1 hk_v0) (inb_in (lnNets_1 hk_v0) hb) d_Nets_bridge_38 rfl ?_
    refine V_lconst (v := 1) X d_Nets_bridge_39 (by decide) rfl ?_
    refine V_iload_n (n := 4) X d_Nets_bridge_40 rfl rfl rfl ?_
    refine V_lshl X d_Nets_bridge_41 rfl ?_
    refine V_lor X d_Nets_bridge_42 rfl ?_
    obtain ⟨hb, h⟩ := ifn h
    obtain ⟨M3, eM3, h⟩ := memS h
    refine V_last X (kdNets_1 hk_v0) (inb_in (lnNets_1 hk_v0) hb) d_Nets_bridge_43 rfl ?_
    rw [← eM3]
    exact V_vret X (kr M3 (Option.some.inj h).symm) d_Nets_bridge_44
def j_Nets_lay_50_27 (v0 : Nat) (v2 : Nat) (v3 : Int32) (v4 : Int32) (v5 : Int32) (M : Mem) : Option ((Int32 × Mem) ⊕ ((Mem))) :=
  if inb v5 2 = true then
  if inb v5 2 = true then
  mem_ (s_l M (rf v0 0) v5.toNatClampNeg ((M.2.1 (rf v0 0) v5.toNatClampNeg) ||| ((1 : Int64) <<< (v4.toInt64 &&& 63)))) fun M3 =>
  some (.inl ((v5 + (1 : Int32)), M3))
  else none
  else none
theorem j_Nets_lay_50_27_ok {E : Ev} {G : Gw} {d : Nat} {post : Mem → Prop} (X : Cx E G b_Nets_lay "WomenByTheRoofs$Nets" 6 d none) (hD : 4 ≤ d)  (v0 : Nat) (v2 : Nat) (v3 : Int32) (v4 : Int32) (v5 : Int32) (hk_v0 : kd v0 = 10 + 6) (hk_v2 : kd v2 = 10 + 7)  (M : Mem)  (o : (Int32 × Mem) ⊕ ((Mem))) (h : j_Nets_lay_50_27 v0 v2 v3 v4 v5 M = some o) (kc : ∀ s9 : Int32 × Mem, o = .inl s9 → V E (0, 0) G 6 (QV E G post) s9.2 27 [(0, .ref (G.2.2 + v0)), (1, .ref (G.2.2 + 3)), (2, .ref (G.2.2 + v2)), (3, .int v3), (4, .int v4), (5, .int s9.1)] []) (kx0 : ∀ x9 : Mem, o = .inr x9 → V E (0, 0) G 6 (QV E G post) x9 70 [(0, .ref (G.2.2 + v0)), (1, .ref (G.2.2 + 3)), (2, .ref (G.2.2 + v2)), (3, .int v3), (4, .int v4)] []) : V E (0, 0) G 6 (QV E G post) M 50 [(0, .ref (G.2.2 + v0)), (1, .ref (G.2.2 + 3)), (2, .ref (G.2.2 + v2)), (3, .int v3), (4, .int v4), (5, .int v5)] [] := by
  unfold j_Nets_lay_50_27 at h
  refine V_aload_n (n := 0) X d_Nets_lay_50 rfl rfl rfl ?_
  refine V_getr X fo_Nets_9 hk_v0 rfl rfl d_Nets_lay_51 rfl ?_
  refine V_iload (n := 5) X d_Nets_lay_54 rfl rfl ?_
  refine V_dup2 X d_Nets_lay_56 rfl rfl rfl ?_
  obtain ⟨hb, h⟩ := ifn h
  refine V_lald X (kdNets_0 hk_v0) (inb_in (lnNets_0 hk_v0) hb) d_Nets_lay_57 rfl ?_
  refine V_lconst (v := 1) X d_Nets_lay_58 (by decide) rfl ?_
  refine V_iload (n := 4) X d_Nets_lay_59 rfl rfl ?_
  refine V_lshl X d_Nets_lay_61 rfl ?_
  refine V_lor X d_Nets_lay_62 rfl ?_
  obtain ⟨hb, h⟩ := ifn h
  obtain ⟨M3, eM3, h⟩ := memS h
  refine V_last X (kdNets_0 hk_v0) (inb_in (lnNets_0 hk_v0) hb) d_Nets_lay_63 rfl ?_
  rw [← eM3]
  refine V_iinc (n := 5) (v := (v5 + (1 : Int32))) (lv' := [(5, .int (v5 + (1 : Int32))), (0, .ref (G.2.2 + v0)), (1, .ref (G.2.2 + 3)), (2, .ref (G.2.2 + v2)), (3, .int v3), (4, .int v4)]) X d_Nets_lay_64 rfl rfl (by decide) rfl rfl ?_
  refine V_goto (pc' := 27) X d_Nets_lay_67 (by decide) ?_
  refine V_sub (lv' := [(0, .ref (G.2.2 + v0)), (1, .ref (G.2.2 + 3)), (2, .ref (G.2.2 + v2)), (3, .int v3), (4, .int v4), (5, .int (v5 + (1 : Int32)))]) [1, 2, 3, 4, 5, 0] rfl ?_
  exact kc ((v5 + (1 : Int32)), M3) (Option.some.inj h).symm
def lb_Nets_lay_27 (v0 : Nat) (v2 : Nat) (v3 : Int32) (v4 : Int32) (s : Int32 × Mem) : Option ((Int32 × Mem) ⊕ ((Mem))) :=
  if (1 : Int32) < s.1 then
  some (.inr s.2)
  else
  if v4 = v3 then
  j_Nets_lay_50_27 v0 v2 v3 v4 s.1 s.2
  else
  Option.bind (f_Ground_holds s.1 v4 s.2) fun x4 =>
  if x4 = 0 then
  some (.inl ((s.1 + (1 : Int32)), s.2))
  else
  j_Nets_lay_50_27 v0 v2 v3 v4 s.1 s.2
theorem lb_Nets_lay_27_ok {E : Ev} {G : Gw} {d : Nat} {post : Mem → Prop} (X : Cx E G b_Nets_lay "WomenByTheRoofs$Nets" 6 d none) (hD : 4 ≤ d)  (v0 : Nat) (v2 : Nat) (v3 : Int32) (v4 : Int32) (hk_v0 : kd v0 = 10 + 6) (hk_v2 : kd v2 = 10 + 7)  (s : Int32 × Mem) (o : (Int32 × Mem) ⊕ ((Mem))) (h : lb_Nets_lay_27 v0 v2 v3 v4 s = some o) (kc : ∀ s9 : Int32 × Mem, o = .inl s9 → V E (0, 0) G 6 (QV E G post) s9.2 27 [(0, .ref (G.2.2 + v0)), (1, .ref (G.2.2 + 3)), (2, .ref (G.2.2 + v2)), (3, .int v3), (4, .int v4), (5, .int s9.1)] []) (kx0 : ∀ x9 : Mem, o = .inr x9 → V E (0, 0) G 6 (QV E G post) x9 70 [(0, .ref (G.2.2 + v0)), (1, .ref (G.2.2 + 3)), (2, .ref (G.2.2 + v2)), (3, .int v3), (4, .int v4)] []) : V E (0, 0) G 6 (QV E G post) s.2 27 [(0, .ref (G.2.2 + v0)), (1, .ref (G.2.2 + 3)), (2, .ref (G.2.2 + v2)), (3, .int v3), (4, .int v4), (5, .int s.1)] [] := by
  unfold lb_Nets_lay_27 at h
  refine V_iload (n := 5) X d_Nets_lay_27 rfl rfl ?_
  refine V_iconst (v := 1) X d_Nets_lay_29 (by decide) rfl ?_
  refine V_icmp_gt (tgt := 70) X d_Nets_lay_30 (by decide) rfl (fun c7 => ?_) (fun c7 => ?_)
  · rw [if_pos c7] at h
    refine V_sub (lv' := [(0, .ref (G.2.2 + v0)), (1, .ref (G.2.2 + 3)), (2, .ref (G.2.2 + v2)), (3, .int v3), (4, .int v4)]) [0, 1, 2, 3, 4] rfl ?_
    exact kx0 s.2 (Option.some.inj h).symm
  · rw [if_neg c7] at h
    refine V_iload (n := 4) X d_Nets_lay_33 rfl rfl ?_
    refine V_iload_n (n := 3) X d_Nets_lay_35 rfl rfl rfl ?_
    refine V_icmp_eq (tgt := 50) X d_Nets_lay_36 (by decide) rfl (fun c6 => ?_) (fun c6 => ?_)
    · rw [if_pos c6] at h
      exact j_Nets_lay_50_27_ok X hD v0 v2 v3 v4 s.1 hk_v0 hk_v2 s.2 _ h kc kx0
    · rw [if_neg c6] at h
      refine V_aload_n (n := 1) X d_Nets_lay_39 rfl rfl rfl ?_
      refine V_iload (n := 5) X d_Nets_lay_40 rfl rfl ?_
      refine V_iload (n := 4) X d_Nets_lay_42 rfl rfl ?_
      obtain ⟨x4, hx4, h⟩ := ob_s h
      refine V_ci (As := [.int s.1, .int v4]) X (Z0 E) ml_Nets_22 yq_Ground_holds (c_Ground_holds E.2.1 G s.1 v4 s.2 x4 hx4 _ (Nat.le_refl _)) kd_3 rfl rfl (by omega) rfl (Nat.le_of_ble_eq_true rfl) d_Nets_lay_44 rfl (fun r9 M9 hq => ?_)
      rw [hq.1, hq.2]
      refine V_if_eq (tgt := 64) X d_Nets_lay_47 (by decide) rfl (fun c5 => ?_) (fun c5 => ?_)
      · rw [if_pos c5] at h
        refine V_iinc (n := 5) (v := (s.1 + (1 : Int32))) (lv' := [(5, .int (s.1 + (1 : Int32))), (0, .ref (G.2.2 + v0)), (1, .ref (G.2.2 + 3)), (2, .ref (G.2.2 + v2)), (3, .int v3), (4, .int v4)]) X d_Nets_lay_64 rfl rfl (by decide) rfl rfl ?_
        refine V_goto (pc' := 27) X d_Nets_lay_67 (by decide) ?_
        refine V_sub (lv' := [(0, .ref (G.2.2 + v0)), (1, .ref (G.2.2 + 3)), (2, .ref (G.2.2 + v2)), (3, .int v3), (4, .int v4), (5, .int (s.1 + (1 : Int32)))]) [1, 2, 3, 4, 5, 0] rfl ?_
        exact kc ((s.1 + (1 : Int32)), s.2) (Option.some.inj h).symm
      · rw [if_neg c5] at h
        exact j_Nets_lay_50_27_ok X hD v0 v2 v3 v4 s.1 hk_v0 hk_v2 s.2 _ h kc kx0
theorem lp_Nets_lay_27_ok {E : Ev} {G : Gw} {d : Nat} {post : Mem → Prop} (X : Cx E G b_Nets_lay "WomenByTheRoofs$Nets" 6 d none) (hD : 4 ≤ d)  (v0 : Nat) (v2 : Nat) (v3 : Int32) (v4 : Int32) (hk_v0 : kd v0 = 10 + 6) (hk_v2 : kd v2 = 10 + 7)  (n9 : Nat) (s : Int32 × Mem) (x : (Mem)) (h : iter (lb_Nets_lay_27 v0 v2 v3 v4) n9 s = some x) (kx0 : ∀ x9 : Mem, x = x9 → V E (0, 0) G 6 (QV E G post) x9 70 [(0, .ref (G.2.2 + v0)), (1, .ref (G.2.2 + 3)), (2, .ref (G.2.2 + v2)), (3, .int v3), (4, .int v4)] []) : V E (0, 0) G 6 (QV E G post) s.2 27 [(0, .ref (G.2.2 + v0)), (1, .ref (G.2.2 + 3)), (2, .ref (G.2.2 + v2)), (3, .int v3), (4, .int v4), (5, .int s.1)] [] :=
  iter_P (P := fun s : Int32 × Mem => V E (0, 0) G 6 (QV E G post) s.2 27 [(0, .ref (G.2.2 + v0)), (1, .ref (G.2.2 + 3)), (2, .ref (G.2.2 + v2)), (3, .int v3), (4, .int v4), (5, .int s.1)] []) (fun s o hb kc ky => lb_Nets_lay_27_ok X hD v0 v2 v3 v4 hk_v0 hk_v2 s o hb kc (fun x9 e9 => kx0 x9 (ky _ e9).symm)) n9 s h
def lb_Nets_lay_17 (v0 : Nat) (v2 : Nat) (v3 : Int32) (s : Int32 × Mem) : Option ((Int32 × Mem) ⊕ ((Mem))) :=
  if (36 : Int32) ≤ s.1 then
  some (.inr s.2)
  else
  Option.bind (iter (lb_Nets_lay_27 v0 v2 v3 s.1) FU ((0 : Int32), s.2)) fun x8 =>
  some (.inl ((s.1 + (1 : Int32)), x8))
theorem lb_Nets_lay_17_ok {E : Ev} {G : Gw} {d : Nat} {post : Mem → Prop} (X : Cx E G b_Nets_lay "WomenByTheRoofs$Nets" 6 d none) (hD : 4 ≤ d)  (v0 : Nat) (v2 : Nat) (v3 : Int32) (hk_v0 : kd v0 = 10 + 6) (hk_v2 : kd v2 = 10 + 7)  (s : Int32 × Mem) (o : (Int32 × Mem) ⊕ ((Mem))) (h : lb_Nets_lay_17 v0 v2 v3 s = some o) (kc : ∀ s9 : Int32 × Mem, o = .inl s9 → V E (0, 0) G 6 (QV E G post) s9.2 17 [(0, .ref (G.2.2 + v0)), (1, .ref (G.2.2 + 3)), (2, .ref (G.2.2 + v2)), (3, .int v3), (4, .int s9.1)] []) (kx0 : ∀ x9 : Mem, o = .inr x9 → V E (0, 0) G 6 (QV E G post) x9 76 [(0, .ref (G.2.2 + v0)), (1, .ref (G.2.2 + 3)), (2, .ref (G.2.2 + v2))] []) : V E (0, 0) G 6 (QV E G post) s.2 17 [(0, .ref (G.2.2 + v0)), (1, .ref (G.2.2 + 3)), (2, .ref (G.2.2 + v2)), (3, .int v3), (4, .int s.1)] [] := by
  unfold lb_Nets_lay_17 at h
  refine V_iload (n := 4) X d_Nets_lay_17 rfl rfl ?_
  refine V_bipush (v := 36) X d_Nets_lay_19 (by decide) rfl ?_
  refine V_icmp_ge (tgt := 76) X d_Nets_lay_21 (by decide) rfl (fun c9 => ?_) (fun c9 => ?_)
  · rw [if_pos c9] at h
    refine V_sub (lv' := [(0, .ref (G.2.2 + v0)), (1, .ref (G.2.2 + 3)), (2, .ref (G.2.2 + v2))]) [0, 1, 2] rfl ?_
    exact kx0 s.2 (Option.some.inj h).symm
  · rw [if_neg c9] at h
    refine V_iconst (v := 0) X d_Nets_lay_24 (by decide) rfl ?_
    refine V_istore (lv' := [(5, .int (0 : Int32)), (0, .ref (G.2.2 + v0)), (1, .ref (G.2.2 + 3)), (2, .ref (G.2.2 + v2)), (3, .int v3), (4, .int s.1)]) X d_Nets_lay_25 (by decide) rfl rfl ?_
    refine V_sub (lv' := [(0, .ref (G.2.2 + v0)), (1, .ref (G.2.2 + 3)), (2, .ref (G.2.2 + v2)), (3, .int v3), (4, .int s.1), (5, .int (0 : Int32))]) [1, 2, 3, 4, 5, 0] rfl ?_
    obtain ⟨x8, hx8, h⟩ := ob_s h
    refine (lp_Nets_lay_27_ok X hD v0 v2 v3 s.1 hk_v0 hk_v2 _ _ _ hx8 (fun x9 e9 => ?_) :)
    subst e9
    refine V_iinc (n := 4) (v := (s.1 + (1 : Int32))) (lv' := [(4, .int (s.1 + (1 : Int32))), (0, .ref (G.2.2 + v0)), (1, .ref (G.2.2 + 3)), (2, .ref (G.2.2 + v2)), (3, .int v3)]) X d_Nets_lay_70 rfl rfl (by decide) rfl rfl ?_
    refine V_goto (pc' := 17) X d_Nets_lay_73 (by decide) ?_
    refine V_sub (lv' := [(0, .ref (G.2.2 + v0)), (1, .ref (G.2.2 + 3)), (2, .ref (G.2.2 + v2)), (3, .int v3), (4, .int (s.1 + (1 : Int32)))]) [1, 2, 3, 4, 0] rfl ?_
    exact kc ((s.1 + (1 : Int32)), x8) (Option.some.inj h).symm
theorem lp_Nets_lay_17_ok {E : Ev} {G : Gw} {d : Nat} {post : Mem → Prop} (X : Cx E G b_Nets_lay "WomenByTheRoofs$Nets" 6 d none) (hD : 4 ≤ d)  (v0 : Nat) (v2 : Nat) (v3 : Int32) (hk_v0 : kd v0 = 10 + 6) (hk_v2 : kd v2 = 10 + 7)  (n9 : Nat) (s : Int32 × Mem) (x : (Mem)) (h : iter (lb_Nets_lay_17 v0 v2 v3) n9 s = some x) (kx0 : ∀ x9 : Mem, x = x9 → V E (0, 0) G 6 (QV E G post) x9 76 [(0, .ref (G.2.2 + v0)), (1, .ref (G.2.2 + 3)), (2, .ref (G.2.2 + v2))] []) : V E (0, 0) G 6 (QV E G post) s.2 17 [(0, .ref (G.2.2 + v0)), (1, .ref (G.2.2 + 3)), (2, .ref (G.2.2 + v2)), (3, .int v3), (4, .int s.1)] [] :=
  iter_P (P := fun s : Int32 × Mem => V E (0, 0) G 6 (QV E G post) s.2 17 [(0, .ref (G.2.2 + v0)), (1, .ref (G.2.2 + 3)), (2, .ref (G.2.2 + v2)), (3, .int v3), (4, .int s.1)] []) (fun s o hb kc ky => lb_Nets_lay_17_ok X hD v0 v2 v3 hk_v0 hk_v2 s o hb kc (fun x9 e9 => kx0 x9 (ky _ e9).symm)) n9 s h
def lb_Nets_lay_79 (v0 : Nat) (v2 : Nat) (s : Int32 × Mem) : Option ((Int32 × Mem) ⊕ ((Mem))) :=
  if (36 : Int32) ≤ s.1 then
  some (.inr s.2)
  else
  Option.bind (f_Nets_link v0 (0 : Int32) s.1 s.2) fun x11 =>
  Option.bind (f_Nets_link v0 (1 : Int32) s.1 x11) fun x12 =>
  some (.inl ((s.1 + (1 : Int32)), x12))
theorem lb_Nets_lay_79_ok {E : Ev} {G : Gw} {d : Nat} {post : Mem → Prop} (X : Cx E G b_Nets_lay "WomenByTheRoofs$Nets" 6 d none) (hD : 4 ≤ d)  (v0 : Nat) (v2 : Nat) (hk_v0 : kd v0 = 10 + 6) (hk_v2 : kd v2 = 10 + 7)  (s : Int32 × Mem) (o : (Int32 × Mem) ⊕ ((Mem))) (h : lb_Nets_lay_79 v0 v2 s = some o) (kc : ∀ s9 : Int32 × Mem, o = .inl s9 → V E (0, 0) G 6 (QV E G post) s9.2 79 [(0, .ref (G.2.2 + v0)), (1, .ref (G.2.2 + 3)), (2, .ref (G.2.2 + v2)), (4, .int s9.1)] []) (kx0 : ∀ x9 : Mem, o = .inr x9 → V E (0, 0) G 6 (QV E G post) x9 108 [(0, .ref (G.2.2 + v0)), (1, .ref (G.2.2 + 3)), (2, .ref (G.2.2 + v2))] []) : V E (0, 0) G 6 (QV E G post) s.2 79 [(0, .ref (G.2.2 + v0)), (1, .ref (G.2.2 + 3)), (2, .ref (G.2.2 + v2)), (4, .int s.1)] [] := by
  unfold lb_Nets_lay_79 at h
  refine V_iload (n := 3) X d_Nets_lay_79 rfl rfl ?_
  refine V_bipush (v := 36) X d_Nets_lay_81 (by decide) rfl ?_
  refine V_icmp_ge (tgt := 108) X d_Nets_lay_83 (by decide) rfl (fun c13 => ?_) (fun c13 => ?_)
  · rw [if_pos c13] at h
    refine V_sub (lv' := [(0, .ref (G.2.2 + v0)), (1, .ref (G.2.2 + 3)), (2, .ref (G.2.2 + v2))]) [0, 1, 2] rfl ?_
    exact kx0 s.2 (Option.some.inj h).symm
  · rw [if_neg c13] at h
    refine V_aload_n (n := 0) X d_Nets_lay_86 rfl rfl rfl ?_
    refine V_aload_n (n := 1) X d_Nets_lay_87 rfl rfl rfl ?_
    refine V_iconst (v := 0) X d_Nets_lay_88 (by decide) rfl ?_
    refine V_iload (n := 3) X d_Nets_lay_89 rfl rfl ?_
    obtain ⟨x11, hx11, h⟩ := ob_s h
    refine V_cv (As := [.ref (G.2.2 + 3), .int (0 : Int32), .int s.1]) X (Z0 E) ml_Nets_28 yq_Nets_link (c_Nets_link E.2.1 G v0 (0 : Int32) s.1 s.2 x11 hx11 _ (Nat.le_refl _)) hk_v0 rfl rfl (by omega) rfl (Nat.le_of_ble_eq_true rfl) d_Nets_lay_91 rfl (fun M9 hq => ?_)
    rw [hq]
    refine V_aload_n (n := 0) X d_Nets_lay_94 rfl rfl rfl ?_
    refine V_aload_n (n := 1) X d_Nets_lay_95 rfl rfl rfl ?_
    refine V_iconst (v := 1) X d_Nets_lay_96 (by decide) rfl ?_
    refine V_iload (n := 3) X d_Nets_lay_97 rfl rfl ?_
    obtain ⟨x12, hx12, h⟩ := ob_s h
    refine V_cv (As := [.ref (G.2.2 + 3), .int (1 : Int32), .int s.1]) X (Z0 E) ml_Nets_28 yq_Nets_link (c_Nets_link E.2.1 G v0 (1 : Int32) s.1 x11 x12 hx12 _ (Nat.le_refl _)) hk_v0 rfl rfl (by omega) rfl (Nat.le_of_ble_eq_true rfl) d_Nets_lay_99 rfl (fun M9 hq => ?_)
    rw [hq]
    refine V_iinc (n := 3) (v := (s.1 + (1 : Int32))) (lv' := [(4, .int (s.1 + (1 : Int32))), (0, .ref (G.2.2 + v0)), (1, .ref (G.2.2 + 3)), (2, .ref (G.2.2 + v2))]) X d_Nets_lay_102 rfl rfl (by decide) rfl rfl ?_
    refine V_goto (pc' := 79) X d_Nets_lay_105 (by decide) ?_
    refine V_sub (lv' := [(0, .ref (G.2.2 + v0)), (1, .ref (G.2.2 + 3)), (2, .ref (G.2.2 + v2)), (4, .int (s.1 + (1 : Int32)))]) [1, 2, 3, 0] rfl ?_
    exact kc ((s.1 + (1 : Int32)), x12) (Option.some.inj h).symm
theorem lp_Nets_lay_79_ok {E : Ev} {G : Gw} {d : Nat} {post : Mem → Prop} (X : Cx E G b_Nets_lay "WomenByTheRoofs$Nets" 6 d none) (hD : 4 ≤ d)  (v0 : Nat) (v2 : Nat) (hk_v0 : kd v0 = 10 + 6) (hk_v2 : kd v2 = 10 + 7)  (n9 : Nat) (s : Int32 × Mem) (x : (Mem)) (h : iter (lb_Nets_lay_79 v0 v2) n9 s = some x) (kx0 : ∀ x9 : Mem, x = x9 → V E (0, 0) G 6 (QV E G post) x9 108 [(0, .ref (G.2.2 + v0)), (1, .ref (G.2.2 + 3)), (2, .ref (G.2.2 + v2))] []) : V E (0, 0) G 6 (QV E G post) s.2 79 [(0, .ref (G.2.2 + v0)), (1, .ref (G.2.2 + 3)), (2, .ref (G.2.2 + v2)), (4, .int s.1)] [] :=
  iter_P (P := fun s : Int32 × Mem => V E (0, 0) G 6 (QV E G post) s.2 79 [(0, .ref (G.2.2 + v0)), (1, .ref (G.2.2 + 3)), (2, .ref (G.2.2 + v2)), (4, .int s.1)] []) (fun s o hb kc ky => lb_Nets_lay_79_ok X hD v0 v2 hk_v0 hk_v2 s o hb kc (fun x9 e9 => kx0 x9 (ky _ e9).symm)) n9 s h
def lb_Nets_lay_111 (v0 : Nat) (v2 : Nat) (s : Int32 × Mem) : Option ((Int32 × Mem) ⊕ ((Mem))) :=
  if (s.2.1 v2 6) ≤ s.1 then
  some (.inr s.2)
  else
  if (6 : Int32) ≤ s.1 then
  some (.inr s.2)
  else
  if inb s.1 6 = true then
  if inb s.1 6 = true then
  Option.bind (f_Nets_bridge v0 (s.2.1 (rf v2 4) s.1.toNatClampNeg) (s.2.1 (rf v2 5) s.1.toNatClampNeg) s.2) fun x15 =>
  if inb s.1 6 = true then
  if inb s.1 6 = true then
  Option.bind (f_Nets_bridge v0 (x15.1 (rf v2 5) s.1.toNatClampNeg) (x15.1 (rf v2 4) s.1.toNatClampNeg) x15) fun x16 =>
  some (.inl ((s.1 + (1 : Int32)), x16))
  else none
  else none
  else none
  else none
theorem lb_Nets_lay_111_ok {E : Ev} {G : Gw} {d : Nat} {post : Mem → Prop} (X : Cx E G b_Nets_lay "WomenByTheRoofs$Nets" 6 d none) (hD : 4 ≤ d)  (v0 : Nat) (v2 : Nat) (hk_v0 : kd v0 = 10 + 6) (hk_v2 : kd v2 = 10 + 7)  (s : Int32 × Mem) (o : (Int32 × Mem) ⊕ ((Mem))) (h : lb_Nets_lay_111 v0 v2 s = some o) (kc : ∀ s9 : Int32 × Mem, o = .inl s9 → V E (0, 0) G 6 (QV E G post) s9.2 111 [(0, .ref (G.2.2 + v0)), (1, .ref (G.2.2 + 3)), (2, .ref (G.2.2 + v2)), (4, .int s9.1)] []) (kx0 : ∀ x9 : Mem, o = .inr x9 → V E (0, 0) G 6 (QV E G post) x9 171 [] []) : V E (0, 0) G 6 (QV E G post) s.2 111 [(0, .ref (G.2.2 + v0)), (1, .ref (G.2.2 + 3)), (2, .ref (G.2.2 + v2)), (4, .int s.1)] [] := by
  unfold lb_Nets_lay_111 at h
  refine V_iload (n := 3) X d_Nets_lay_111 rfl rfl ?_
  refine V_aload_n (n := 2) X d_Nets_lay_113 rfl rfl rfl ?_
  refine V_geti X fo_Nets_32 hk_v2 rfl d_Nets_lay_114 rfl ?_
  refine V_icmp_ge (tgt := 171) X d_Nets_lay_117 (by decide) rfl (fun c18 => ?_) (fun c18 => ?_)
  · rw [if_pos c18] at h
    refine V_sub (lv' := []) [] rfl ?_
    exact kx0 s.2 (Option.some.inj h).symm
  · rw [if_neg c18] at h
    refine V_iload (n := 3) X d_Nets_lay_120 rfl rfl ?_
    refine V_bipush (v := 6) X d_Nets_lay_122 (by decide) rfl ?_
    refine V_icmp_ge (tgt := 171) X d_Nets_lay_124 (by decide) rfl (fun c17 => ?_) (fun c17 => ?_)
    · rw [if_pos c17] at h
      refine V_sub (lv' := []) [] rfl ?_
      exact kx0 s.2 (Option.some.inj h).symm
    · rw [if_neg c17] at h
      refine V_aload_n (n := 0) X d_Nets_lay_127 rfl rfl rfl ?_
      refine V_aload_n (n := 1) X d_Nets_lay_128 rfl rfl rfl ?_
      refine V_aload_n (n := 2) X d_Nets_lay_129 rfl rfl rfl ?_
      refine V_getr X fo_Nets_38 hk_v2 rfl rfl d_Nets_lay_130 rfl ?_
      refine V_iload (n := 3) X d_Nets_lay_133 rfl rfl ?_
      obtain ⟨hb, h⟩ := ifn h
      refine V_iald X (kdScene_4 hk_v2) (inb_in (lnScene_4 hk_v2) hb) d_Nets_lay_135 rfl ?_
      refine V_aload_n (n := 2) X d_Nets_lay_136 rfl rfl rfl ?_
      refine V_getr X fo_Nets_41 hk_v2 rfl rfl d_Nets_lay_137 rfl ?_
      refine V_iload (n := 3) X d_Nets_lay_140 rfl rfl ?_
      obtain ⟨hb, h⟩ := ifn h
      refine V_iald X (kdScene_5 hk_v2) (inb_in (lnScene_5 hk_v2) hb) d_Nets_lay_142 rfl ?_
      obtain ⟨x15, hx15, h⟩ := ob_s h
      refine V_cv (As := [.ref (G.2.2 + 3), .int (s.2.1 (rf v2 4) s.1.toNatClampNeg), .int (s.2.1 (rf v2 5) s.1.toNatClampNeg)]) X (Z0 E) ml_Nets_44 yq_Nets_bridge (c_Nets_bridge E.2.1 G v0 (s.2.1 (rf v2 4) s.1.toNatClampNeg) (s.2.1 (rf v2 5) s.1.toNatClampNeg) s.2 x15 hx15 _ (Nat.le_refl _)) hk_v0 rfl rfl (by omega) rfl (Nat.le_of_ble_eq_true rfl) d_Nets_lay_143 rfl (fun M9 hq => ?_)
      rw [hq]
      refine V_aload_n (n := 0) X d_Nets_lay_146 rfl rfl rfl ?_
      refine V_aload_n (n := 1) X d_Nets_lay_147 rfl rfl rfl ?_
      refine V_aload_n (n := 2) X d_Nets_lay_148 rfl rfl rfl ?_
      refine V_getr X fo_Nets_41 hk_v2 rfl rfl d_Nets_lay_149 rfl ?_
      refine V_iload (n := 3) X d_Nets_lay_152 rfl rfl ?_
      obtain ⟨hb, h⟩ := ifn h
      refine V_iald X (kdScene_5 hk_v2) (inb_in (lnScene_5 hk_v2) hb) d_Nets_lay_154 rfl ?_
      refine V_aload_n (n := 2) X d_Nets_lay_155 rfl rfl rfl ?_
      refine V_getr X fo_Nets_38 hk_v2 rfl rfl d_Nets_lay_156 rfl ?_
      refine V_iload (n := 3) X d_Nets_lay_159 rfl rfl ?_
      obtain ⟨hb, h⟩ := ifn h
      refine V_iald X (kdScene_4 hk_v2) (inb_in (lnScene_4 hk_v2) hb) d_Nets_lay_161 rfl ?_
      obtain ⟨x16, hx16, h⟩ := ob_s h
      refine V_cv (As := [.ref (G.2.2 + 3), .int (x15.1 (rf v2 5) s.1.toNatClampNeg), .int (x15.1 (rf v2 4) s.1.toNatClampNeg)]) X (Z0 E) ml_Nets_44 yq_Nets_bridge (c_Nets_bridge E.2.1 G v0 (x15.1 (rf v2 5) s.1.toNatClampNeg) (x15.1 (rf v2 4) s.1.toNatClampNeg) x15 x16 hx16 _ (Nat.le_refl _)) hk_v0 rfl rfl (by omega) rfl (Nat.le_of_ble_eq_true rfl) d_Nets_lay_162 rfl (fun M9 hq => ?_)
      rw [hq]
      refine V_iinc (n := 3) (v := (s.1 + (1 : Int32))) (lv' := [(4, .int (s.1 + (1 : Int32))), (0, .ref (G.2.2 + v0)), (1, .ref (G.2.2 + 3)), (2, .ref (G.2.2 + v2))]) X d_Nets_lay_165 rfl rfl (by decide) rfl rfl ?_
      refine V_goto (pc' := 111) X d_Nets_lay_168 (by decide) ?_
      refine V_sub (lv' := [(0, .ref (G.2.2 + v0)), (1, .ref (G.2.2 + 3)), (2, .ref (G.2.2 + v2)), (4, .int (s.1 + (1 : Int32)))]) [1, 2, 3, 0] rfl ?_
      exact kc ((s.1 + (1 : Int32)), x16) (Option.some.inj h).symm
theorem lp_Nets_lay_111_ok {E : Ev} {G : Gw} {d : Nat} {post : Mem → Prop} (X : Cx E G b_Nets_lay "WomenByTheRoofs$Nets" 6 d none) (hD : 4 ≤ d)  (v0 : Nat) (v2 : Nat) (hk_v0 : kd v0 = 10 + 6) (hk_v2 : kd v2 = 10 + 7)  (n9 : Nat) (s : Int32 × Mem) (x : (Mem)) (h : iter (lb_Nets_lay_111 v0 v2) n9 s = some x) (kx0 : ∀ x9 : Mem, x = x9 → V E (0, 0) G 6 (QV E G post) x9 171 [] []) : V E (0, 0) G 6 (QV E G post) s.2 111 [(0, .ref (G.2.2 + v0)), (1, .ref (G.2.2 + 3)), (2, .ref (G.2.2 + v2)), (4, .int s.1)] [] :=
  iter_P (P := fun s : Int32 × Mem => V E (0, 0) G 6 (QV E G post) s.2 111 [(0, .ref (G.2.2 + v0)), (1, .ref (G.2.2 + 3)), (2, .ref (G.2.2 + v2)), (4, .int s.1)] []) (fun s o hb kc ky => lb_Nets_lay_111_ok X hD v0 v2 hk_v0 hk_v2 s o hb kc (fun x9 e9 => kx0 x9 (ky _ e9).symm)) n9 s h
def f_Nets_lay (v0 : Nat) (v2 : Nat) (v3 : Int32) (M : Mem) : Option (Mem) :=
  if kd v0 = 10 + 6 then
  if kd v2 = 10 + 7 then
  mem_ (s_l M (rf v0 0) (0 : Int32).toNatClampNeg (0 : Int64)) fun M1 =>
  mem_ (s_l M1 (rf v0 0) (1 : Int32).toNatClampNeg (0 : Int64)) fun M2 =>
  Option.bind (iter (lb_Nets_lay_17 v0 v2 v3) FU ((0 : Int32), M2)) fun x10 =>
  Option.bind (iter (lb_Nets_lay_79 v0 v2) FU ((0 : Int32), x10)) fun x14 =>
  Option.bind (iter (lb_Nets_lay_111 v0 v2) FU ((0 : Int32), x14)) fun x19 =>
  some x19
  else none
  else none
theorem c_Nets_lay (l : Launch) (G : Gw)  (v0 : Nat) (v2 : Nat) (v3 : Int32) (M : Mem) (x : Mem) (h : f_Nets_lay v0 v2 v3 M = some x) (d : Nat) (hD : 4 ≤ d) : Cv l G y_Nets_lay b_Nets_lay 6 none d [.ref (G.2.2 + v0), .ref (G.2.2 + 3), .ref (G.2.2 + v2), .int v3] M (fun M9 => M9 = x) := by
  refine Cv_of (by decide) (Nat.le_of_ble_eq_true rfl) (fun E hE X => ?_)
  subst hE
  have kr : ∀ x9 : Mem, x = x9 → (fun M9 => M9 = x) x9 := fun x9 e9 => by subst e9; exact rfl
  unfold f_Nets_lay at h
  obtain ⟨hk_v0, h⟩ := ifn h
  obtain ⟨hk_v2, h⟩ := ifn h
  refine V_aload_n (n := 0) X d_Nets_lay_0 rfl rfl rfl ?_
  refine V_getr X fo_Nets_9 hk_v0 rfl rfl d_Nets_lay_1 rfl ?_
  refine V_iconst (v := 0) X d_Nets_lay_4 (by decide) rfl ?_
  refine V_lconst (v := 0) X d_Nets_lay_5 (by decide) rfl ?_
  obtain ⟨M1, eM1, h⟩ := memS h
  refine V_last X (kdNets_0 hk_v0) (inb_in (lnNets_0 hk_v0) (by decide)) d_Nets_lay_6 rfl ?_
  rw [← eM1]
  refine V_aload_n (n := 0) X d_Nets_lay_7 rfl rfl rfl ?_
  refine V_getr X fo_Nets_9 hk_v0 rfl rfl d_Nets_lay_8 rfl ?_
  refine V_iconst (v := 1) X d_Nets_lay_11 (by decide) rfl ?_
  refine V_lconst (v := 0) X d_Nets_lay_12 (by decide) rfl ?_
  obtain ⟨M2, eM2, h⟩ := memS h
  refine V_last X (kdNets_0 hk_v0) (inb_in (lnNets_0 hk_v0) (by decide)) d_Nets_lay_13 rfl ?_
  rw [← eM2]
  refine V_iconst (v := 0) X d_Nets_lay_14 (by decide) rfl ?_
  refine V_istore (lv' := [(4, .int (0 : Int32)), (0, .ref (G.2.2 + v0)), (1, .ref (G.2.2 + 3)), (2, .ref (G.2.2 + v2)), (3, .int v3)]) X d_Nets_lay_15 (by decide) rfl rfl ?_
  refine V_sub (lv' := [(0, .ref (G.2.2 + v0)), (1, .ref (G.2.2 + 3)), (2, .ref (G.2.2 + v2)), (3, .int v3), (4, .int (0 : Int32))]) [1, 2, 3, 4, 0] rfl ?_
  obtain ⟨x10, hx10, h⟩ := ob_s h
  refine (lp_Nets_lay_17_ok X hD v0 v2 v3 hk_v0 hk_v2 _ _ _ hx10 (fun x9 e9 => ?_) :)
  subst e9
  refine V_iconst (v := 0) X d_Nets_lay_76 (by decide) rfl ?_
  refine V_istore (lv' := [(4, .int (0 : Int32)), (0, .ref (G.2.2 + v0)), (1, .ref (G.2.2 + 3)), (2, .ref (G.2.2 + v2))]) X d_Nets_lay_77 (by decide) rfl rfl ?_
  refine V_sub (lv' := [(0, .ref (G.2.2 + v0)), (1, .ref (G.2.2 + 3)), (2, .ref (G.2.2 + v2)), (4, .int (0 : Int32))]) [1, 2, 3, 0] rfl ?_
  obtain ⟨x14, hx14, h⟩ := ob_s h
  refine (lp_Nets_lay_79_ok X hD v0 v2 hk_v0 hk_v2 _ _ _ hx14 (fun x9 e9 => ?_) :)
  subst e9
  refine V_iconst (v := 0) X d_Nets_lay_108 (by decide) rfl ?_
  refine V_istore (lv' := [(4, .int (0 : Int32)), (0, .ref (G.2.2 + v0)), (1, .ref (G.2.2 + 3)), (2, .ref (G.2.2 + v2))]) X d_Nets_lay_109 (by decide) rfl rfl ?_
  refine V_sub (lv' := [(0, .ref (G.2.2 + v0)), (1, .ref (G.2.2 + 3)), (2, .ref (G.2.2 + v2)), (4, .int (0 : Int32))]) [1, 2, 3, 0] rfl ?_
  obtain ⟨x19, hx19, h⟩ := ob_s h
  refine (lp_Nets_lay_111_ok X hD v0 v2 hk_v0 hk_v2 _ _ _ hx19 (fun x9 e9 => ?_) :)
  subst e9
  exact V_vret X (kr x19 (Option.some.inj h).symm) d_Nets_lay_171
def f_Nets_toward (v0 : Nat) (v1 : Int32) (v2 : Int32) (v3 : Int32) (M : Mem) : Option (Int32) :=
  if kd v0 = 10 + 6 then
  if v3 = (4 : Int32) then
  some v2
  else
  if v3 < 0 then
  some (-1 : Int32)
  else
  if (4 : Int32) < v3 then
  some (-1 : Int32)
  else
  if ((((v1 * (36 : Int32)) + v2) * (4 : Int32)) + v3) < 0 then
  some (-1 : Int32)
  else
  if ((((v1 * (36 : Int32)) + v2) * (4 : Int32)) + v3) < (288 : Int32) then
  if inb ((((v1 * (36 : Int32)) + v2) * (4 : Int32)) + v3) 288 = true then
  some (M.1 (rf v0 2) ((((v1 * (36 : Int32)) + v2) * (4 : Int32)) + v3).toNatClampNeg)
  else none
  else
  some (-1 : Int32)
  else none
theorem c_Nets_toward (l : Launch) (G : Gw)  (v0 : Nat) (v1 : Int32) (v2 : Int32) (v3 : Int32) (M : Mem) (x : Int32) (h : f_Nets_toward v0 v1 v2 v3 M = some x) (d : Nat) (hD : 1 ≤ d) : Ci l G y_Nets_toward b_Nets_toward 5 (some .int) d [.ref (G.2.2 + v0), .int v1, .int v2, .int v3] M (fun r9 M9 => r9 = x ∧ M9 = M) := by
  refine Ci_of (by decide) (Nat.le_of_ble_eq_true rfl) (fun E hE X => ?_)
  subst hE
  have kr : ∀ x9 : Int32, x = x9 → (fun r9 M9 => r9 = x ∧ M9 = M) x9 M := fun x9 e9 => by subst e9; exact ⟨rfl, rfl⟩
  unfold f_Nets_toward at h
  obtain ⟨hk_v0, h⟩ := ifn h
  refine V_iload_n (n := 3) X d_Nets_toward_0 rfl rfl rfl ?_
  refine V_iconst (v := 4) X d_Nets_toward_1 (by decide) rfl ?_
  refine V_icmp_ne (tgt := 7) X d_Nets_toward_2 (by decide) rfl (fun c5 => ?_) (fun c5 => ?_)
  · rw [if_neg c5] at h
    refine V_iload_n (n := 1) X d_Nets_toward_7 rfl rfl rfl ?_
    refine V_bipush (v := 36) X d_Nets_toward_8 (by decide) rfl ?_
    refine V_imul X d_Nets_toward_10 rfl ?_
    refine V_iload_n (n := 2) X d_Nets_toward_11 rfl rfl rfl ?_
    refine V_iadd X d_Nets_toward_12 rfl ?_
    refine V_iconst (v := 4) X d_Nets_toward_13 (by decide) rfl ?_
    refine V_imul X d_Nets_toward_14 rfl ?_
    refine V_iload_n (n := 3) X d_Nets_toward_15 rfl rfl rfl ?_
    refine V_iadd X d_Nets_toward_16 rfl ?_
    refine V_istore (lv' := [(4, .int ((((v1 * (36 : Int32)) + v2) * (4 : Int32)) + v3)), (0, .ref (G.2.2 + v0)), (1, .int v1), (2, .int v2), (3, .int v3)]) X d_Nets_toward_17 (by decide) rfl rfl ?_
    refine V_iload_n (n := 4) X d_Nets_toward_19 rfl rfl rfl ?_
    refine V_if_lt (tgt := 41) X d_Nets_toward_20 (by decide) rfl (fun c4 => ?_) (fun c4 => ?_)
    · rw [if_pos c4] at h
      refine V_iconst (v := -1) X d_Nets_toward_41 (by decide) rfl ?_
      exact V_iret X (kr (-1 : Int32) (Option.some.inj h).symm) d_Nets_toward_42
    · rw [if_neg c4] at h
      refine V_iload_n (n := 4) X d_Nets_toward_23 rfl rfl rfl ?_
      refine V_iconst (v := 4) X d_Nets_toward_24 (by decide) rfl ?_
      refine V_icmp_gt (tgt := 41) X d_Nets_toward_25 (by decide) rfl (fun c3 => ?_) (fun c3 => ?_)
      · rw [if_pos c3] at h
        refine V_iconst (v := -1) X d_Nets_toward_41 (by decide) rfl ?_
        exact V_iret X (kr (-1 : Int32) (Option.some.inj h).symm) d_Nets_toward_42
      · rw [if_neg c3] at h
        refine V_iload (n := 0) X d_Nets_toward_28 rfl rfl ?_
        refine V_if_lt (tgt := 41) X d_Nets_toward_30 (by decide) rfl (fun c2 => ?_) (fun c2 => ?_)
        · rw [if_pos c2] at h
          refine V_iconst (v := -1) X d_Nets_toward_41 (by decide) rfl ?_
          exact V_iret X (kr (-1 : Int32) (Option.some.inj h).symm) d_Nets_toward_42
        · rw [if_neg c2] at h
          refine V_iload (n := 0) X d_Nets_toward_33 rfl rfl ?_
          refine V_sipush (v := 288) X d_Nets_toward_35 (by decide) rfl ?_
          refine V_icmp_lt (tgt := 43) X d_Nets_toward_38 (by decide) rfl (fun c1 => ?_) (fun c1 => ?_)
          · rw [if_pos c1] at h
            refine V_aload_n (n := 1) X d_Nets_toward_43 rfl rfl rfl ?_
            refine V_getr X fo_Nets_18 hk_v0 rfl rfl d_Nets_toward_44 rfl ?_
            refine V_iload (n := 0) X d_Nets_toward_47 rfl rfl ?_
            obtain ⟨hb, h⟩ := ifn h
            refine V_iald X (kdNets_2 hk_v0) (inb_in (lnNets_2 hk_v0) hb) d_Nets_toward_49 rfl ?_
            exact V_iret X (kr (M.1 (rf v0 2) ((((v1 * (36 : Int32)) + v2) * (4 : Int32)) + v3).toNatClampNeg) (Option.some.inj h).symm) d_Nets_toward_50
          · rw [if_neg c1] at h
            refine V_iconst (v := -1) X d_Nets_toward_41 (by decide) rfl ?_
            exact V_iret X (kr (-1 : Int32) (Option.some.inj h).symm) d_Nets_toward_42
  · rw [if_pos c5] at h
    refine V_iload_n (n := 2) X d_Nets_toward_5 rfl rfl rfl ?_
    exact V_iret X (kr v2 (Option.some.inj h).symm) d_Nets_toward_6
def j_Nets_flood_78_12 (v0 : Nat) (v1 : Int32) (v3 : Int64) (v5 : Int64) (v7 : Int64) (v9 : Int32) (w0 : Int64) (M : Mem) : Option ((Int64 × Int64 × Int32) ⊕ ((Int64))) :=
  some (.inl ((v5 ||| w0), (v7 ||| w0), (v9 + (1 : Int32))))
theorem j_Nets_flood_78_12_ok {E : Ev} {G : Gw} {d : Nat} {post : Int64 → Mem → Prop} (X : Cx E G b_Nets_flood "WomenByTheRoofs$Nets" 13 d (some .long)) (hD : 3 ≤ d)  (v0 : Nat) (v1 : Int32) (v3 : Int64) (v5 : Int64) (v7 : Int64) (v9 : Int32) (w0 : Int64) (hk_v0 : kd v0 = 10 + 6)  (M : Mem)  (o : (Int64 × Int64 × Int32) ⊕ ((Int64))) (h : j_Nets_flood_78_12 v0 v1 v3 v5 v7 v9 w0 M = some o) (kc : ∀ s9 : Int64 × Int64 × Int32, o = .inl s9 → V E (0, 0) G 13 (QL E G post) M 12 [(0, .ref (G.2.2 + v0)), (1, .int v1), (3, .long v3), (5, .long s9.1), (7, .long s9.2.1), (9, .int s9.2.2)] []) (kx0 : ∀ x9 : Int64, o = .inr x9 → V E (0, 0) G 13 (QL E G post) M 100 [(5, .long x9)] []) : V E (0, 0) G 13 (QL E G post) M 78 [(0, .ref (G.2.2 + v0)), (1, .int v1), (3, .long v3), (5, .long v5), (7, .long v7), (9, .int v9)] [.long w0] := by
  unfold j_Nets_flood_78_12 at h
  refine V_lstore (lv' := [(11, .long w0), (0, .ref (G.2.2 + v0)), (1, .int v1), (3, .long v3), (5, .long v5), (7, .long v7), (9, .int v9)]) X d_Nets_flood_78 (by decide) rfl rfl ?_
  refine V_lload (n := 4) X d_Nets_flood_80 rfl rfl ?_
  refine V_lload (n := 0) X d_Nets_flood_82 rfl rfl ?_
  refine V_lor X d_Nets_flood_84 rfl ?_
  refine V_lstore (lv' := [(5, .long (v5 ||| w0)), (11, .long w0), (0, .ref (G.2.2 + v0)), (1, .int v1), (3, .long v3), (7, .long v7), (9, .int v9)]) X d_Nets_flood_85 (by decide) rfl rfl ?_
  refine V_lload (n := 5) X d_Nets_flood_87 rfl rfl ?_
  refine V_lload (n := 1) X d_Nets_flood_89 rfl rfl ?_
  refine V_lor X d_Nets_flood_91 rfl ?_
  refine V_lstore (lv' := [(7, .long (v7 ||| w0)), (5, .long (v5 ||| w0)), (11, .long w0), (0, .ref (G.2.2 + v0)), (1, .int v1), (3, .long v3), (9, .int v9)]) X d_Nets_flood_92 (by decide) rfl rfl ?_
  refine V_iinc (n := 6) (v := (v9 + (1 : Int32))) (lv' := [(9, .int (v9 + (1 : Int32))), (7, .long (v7 ||| w0)), (5, .long (v5 ||| w0)), (11, .long w0), (0, .ref (G.2.2 + v0)), (1, .int v1), (3, .long v3)]) X d_Nets_flood_94 rfl rfl (by decide) rfl rfl ?_
  refine V_goto (pc' := 12) X d_Nets_flood_97 (by decide) ?_
  refine V_sub (lv' := [(0, .ref (G.2.2 + v0)), (1, .int v1), (3, .long v3), (5, .long (v5 ||| w0)), (7, .long (v7 ||| w0)), (9, .int (v9 + (1 : Int32)))]) [4, 5, 6, 2, 1, 0] rfl ?_
  exact kc ((v5 ||| w0), (v7 ||| w0), (v9 + (1 : Int32))) (Option.some.inj h).symm
def lb_Nets_flood_12 (v0 : Nat) (v1 : Int32) (v3 : Int64) (M : Mem) (s : Int64 × Int64 × Int32) : Option ((Int64 × Int64 × Int32) ⊕ ((Int64))) :=
  if (36 : Int32) ≤ s.2.2 then
  some (.inr s.1)
  else
  if (lg_cmp s.2.1 (0 : Int64)) = 0 then
  some (.inr s.1)
  else
  Option.bind (f_JLong_numberOfTrailingZeros s.2.1) fun x1 =>
  if (36 : Int32) ≤ x1 then
  j_Nets_flood_78_12 v0 v1 v3 s.1 (s.2.1 &&& (s.2.1 - (1 : Int64))) s.2.2 (0 : Int64) M
  else
  if inb ((v1 * (36 : Int32)) + x1) 72 = true then
  j_Nets_flood_78_12 v0 v1 v3 s.1 (s.2.1 &&& (s.2.1 - (1 : Int64))) s.2.2 (((M.2.1 (rf v0 1) ((v1 * (36 : Int32)) + x1).toNatClampNeg) &&& (s.1 ^^^ (-1 : Int64))) &&& (v3 ^^^ (-1 : Int64))) M
  else none
theorem lb_Nets_flood_12_ok {E : Ev} {G : Gw} {d : Nat} {post : Int64 → Mem → Prop} (X : Cx E G b_Nets_flood "WomenByTheRoofs$Nets" 13 d (some .long)) (hD : 3 ≤ d)  (v0 : Nat) (v1 : Int32) (v3 : Int64) (hk_v0 : kd v0 = 10 + 6) (M : Mem) (s : Int64 × Int64 × Int32) (o : (Int64 × Int64 × Int32) ⊕ ((Int64))) (h : lb_Nets_flood_12 v0 v1 v3 M s = some o) (kc : ∀ s9 : Int64 × Int64 × Int32, o = .inl s9 → V E (0, 0) G 13 (QL E G post) M 12 [(0, .ref (G.2.2 + v0)), (1, .int v1), (3, .long v3), (5, .long s9.1), (7, .long s9.2.1), (9, .int s9.2.2)] []) (kx0 : ∀ x9 : Int64, o = .inr x9 → V E (0, 0) G 13 (QL E G post) M 100 [(5, .long x9)] []) : V E (0, 0) G 13 (QL E G post) M 12 [(0, .ref (G.2.2 + v0)), (1, .int v1), (3, .long v3), (5, .long s.1), (7, .long s.2.1), (9, .int s.2.2)] [] := by
  unfold lb_Nets_flood_12 at h
  refine V_iload (n := 5) X d_Nets_flood_12 rfl rfl ?_
  refine V_bipush (v := 36) X d_Nets_flood_14 (by decide) rfl ?_
  refine V_icmp_ge (tgt := 100) X d_Nets_flood_16 (by decide) rfl (fun c4 => ?_) (fun c4 => ?_)
  · rw [if_pos c4] at h
    refine V_sub (lv' := [(5, .long s.1)]) [3] rfl ?_
    exact kx0 s.1 (Option.some.inj h).symm
  · rw [if_neg c4] at h
    refine V_lload (n := 4) X d_Nets_flood_19 rfl rfl ?_
    refine V_lconst (v := 0) X d_Nets_flood_21 (by decide) rfl ?_
    refine V_lcmp X d_Nets_flood_22 rfl ?_
    refine V_if_eq (tgt := 100) X d_Nets_flood_23 (by decide) rfl (fun c3 => ?_) (fun c3 => ?_)
    · rw [if_pos c3] at h
      refine V_sub (lv' := [(5, .long s.1)]) [3] rfl ?_
      exact kx0 s.1 (Option.some.inj h).symm
    · rw [if_neg c3] at h
      refine V_lload (n := 4) X d_Nets_flood_26 rfl rfl ?_
      obtain ⟨x1, hx1, h⟩ := ob_s h
      refine V_si (As := [.long s.2.1]) X (Z0 E) ml_Nets_57 yq_JLong_numberOfTrailingZeros (c_JLong_numberOfTrailingZeros E.2.1 G s.2.1 M x1 hx1 _ (Nat.le_refl _)) rfl (by omega) rfl (Nat.le_of_ble_eq_true rfl) d_Nets_flood_28 rfl (fun r9 M9 hq => ?_)
      rw [hq.1, hq.2]
      refine V_istore (lv' := [(10, .int x1), (0, .ref (G.2.2 + v0)), (1, .int v1), (3, .long v3), (5, .long s.1), (7, .long s.2.1), (9, .int s.2.2)]) X d_Nets_flood_31 (by decide) rfl rfl ?_
      refine V_lload (n := 5) X d_Nets_flood_33 rfl rfl ?_
      refine V_lload (n := 5) X d_Nets_flood_35 rfl rfl ?_
      refine V_lconst (v := 1) X d_Nets_flood_37 (by decide) rfl ?_
      refine V_lsub X d_Nets_flood_38 rfl ?_
      refine V_land X d_Nets_flood_39 rfl ?_
      refine V_lstore (lv' := [(7, .long (s.2.1 &&& (s.2.1 - (1 : Int64)))), (10, .int x1), (0, .ref (G.2.2 + v0)), (1, .int v1), (3, .long v3), (5, .long s.1), (9, .int s.2.2)]) X d_Nets_flood_40 (by decide) rfl rfl ?_
      refine V_iload (n := 1) X d_Nets_flood_42 rfl rfl ?_
      refine V_bipush (v := 36) X d_Nets_flood_44 (by decide) rfl ?_
      refine V_icmp_ge (tgt := 77) X d_Nets_flood_46 (by decide) rfl (fun c2 => ?_) (fun c2 => ?_)
      · rw [if_pos c2] at h
        refine V_lconst (v := 0) X d_Nets_flood_77 (by decide) rfl ?_
        refine V_sub (lv' := [(0, .ref (G.2.2 + v0)), (1, .int v1), (3, .long v3), (5, .long s.1), (7, .long (s.2.1 &&& (s.2.1 - (1 : Int64)))), (9, .int s.2.2)]) [2, 3, 4, 5, 0, 6] rfl ?_
        exact j_Nets_flood_78_12_ok X hD v0 v1 v3 s.1 (s.2.1 &&& (s.2.1 - (1 : Int64))) s.2.2 (0 : Int64) hk_v0 M _ h kc kx0
      · rw [if_neg c2] at h
        refine V_aload_n (n := 2) X d_Nets_flood_49 rfl rfl rfl ?_
        refine V_getr X fo_Nets_15 hk_v0 rfl rfl d_Nets_flood_50 rfl ?_
        refine V_iload_n (n := 3) X d_Nets_flood_53 rfl rfl rfl ?_
        refine V_bipush (v := 36) X d_Nets_flood_54 (by decide) rfl ?_
        refine V_imul X d_Nets_flood_56 rfl ?_
        refine V_iload (n := 1) X d_Nets_flood_57 rfl rfl ?_
        refine V_iadd X d_Nets_flood_59 rfl ?_
        obtain ⟨hb, h⟩ := ifn h
        refine V_lald X (kdNets_1 hk_v0) (inb_in (lnNets_1 hk_v0) hb) d_Nets_flood_60 rfl ?_
        refine V_lload (n := 5) X d_Nets_flood_61 rfl rfl ?_
        refine V_ldc2_w (v := -1) X d_Nets_flood_63 kc_Nets_63 rfl ?_
        refine V_lxor X d_Nets_flood_66 rfl ?_
        refine V_land X d_Nets_flood_67 rfl ?_
        refine V_lload_n (n := 4) X d_Nets_flood_68 rfl rfl rfl ?_
        refine V_ldc2_w (v := -1) X d_Nets_flood_69 kc_Nets_63 rfl ?_
        refine V_lxor X d_Nets_flood_72 rfl ?_
        refine V_land X d_Nets_flood_73 rfl ?_
        refine V_goto (pc' := 78) X d_Nets_flood_74 (by decide) ?_
        refine V_sub (lv' := [(0, .ref (G.2.2 + v0)), (1, .int v1), (3, .long v3), (5, .long s.1), (7, .long (s.2.1 &&& (s.2.1 - (1 : Int64)))), (9, .int s.2.2)]) [2, 3, 4, 5, 0, 6] rfl ?_
        exact j_Nets_flood_78_12_ok X hD v0 v1 v3 s.1 (s.2.1 &&& (s.2.1 - (1 : Int64))) s.2.2 (((M.2.1 (rf v0 1) ((v1 * (36 : Int32)) + x1).toNatClampNeg) &&& (s.1 ^^^ (-1 : Int64))) &&& (v3 ^^^ (-1 : Int64))) hk_v0 M _ h kc kx0
theorem lp_Nets_flood_12_ok {E : Ev} {G : Gw} {d : Nat} {post : Int64 → Mem → Prop} (X : Cx E G b_Nets_flood "WomenByTheRoofs$Nets" 13 d (some .long)) (hD : 3 ≤ d)  (v0 : Nat) (v1 : Int32) (v3 : Int64) (hk_v0 : kd v0 = 10 + 6) (M : Mem) (n9 : Nat) (s : Int64 × Int64 × Int32) (x : (Int64)) (h : iter (lb_Nets_flood_12 v0 v1 v3 M) n9 s = some x) (kx0 : ∀ x9 : Int64, x = x9 → V E (0, 0) G 13 (QL E G post) M 100 [(5, .long x9)] []) : V E (0, 0) G 13 (QL E G post) M 12 [(0, .ref (G.2.2 + v0)), (1, .int v1), (3, .long v3), (5, .long s.1), (7, .long s.2.1), (9, .int s.2.2)] [] :=
  iter_P (P := fun s : Int64 × Int64 × Int32 => V E (0, 0) G 13 (QL E G post) M 12 [(0, .ref (G.2.2 + v0)), (1, .int v1), (3, .long v3), (5, .long s.1), (7, .long s.2.1), (9, .int s.2.2)] []) (fun s o hb kc ky => lb_Nets_flood_12_ok X hD v0 v1 v3 hk_v0 M s o hb kc (fun x9 e9 => kx0 x9 (ky _ e9).symm)) n9 s h
def f_Nets_flood (v0 : Nat) (v1 : Int32) (v2 : Int32) (v3 : Int64) (M : Mem) : Option (Int64) :=
  if kd v0 = 10 + 6 then
  Option.bind (iter (lb_Nets_flood_12 v0 v1 v3 M) FU (((1 : Int64) <<< (v2.toInt64 &&& 63)), ((1 : Int64) <<< (v2.toInt64 &&& 63)), (0 : Int32))) fun x5 =>
  some x5
  else none
theorem c_Nets_flood (l : Launch) (G : Gw)  (v0 : Nat) (v1 : Int32) (v2 : Int32) (v3 : Int64) (M : Mem) (x : Int64) (h : f_Nets_flood v0 v1 v2 v3 M = some x) (d : Nat) (hD : 3 ≤ d) : Cl l G y_Nets_flood b_Nets_flood 13 (some .long) d [.ref (G.2.2 + v0), .int v1, .int v2, .long v3] M (fun r9 M9 => r9 = x ∧ M9 = M) := by
  refine Cl_of (by decide) (Nat.le_of_ble_eq_true rfl) (fun E hE X => ?_)
  subst hE
  have kr : ∀ x9 : Int64, x = x9 → (fun r9 M9 => r9 = x ∧ M9 = M) x9 M := fun x9 e9 => by subst e9; exact ⟨rfl, rfl⟩
  unfold f_Nets_flood at h
  obtain ⟨hk_v0, h⟩ := ifn h
  refine V_lconst (v := 1) X d_Nets_flood_0 (by decide) rfl ?_
  refine V_iload_n (n := 2) X d_Nets_flood_1 rfl rfl rfl ?_
  refine V_lshl X d_Nets_flood_2 rfl ?_
  refine V_lstore (lv' := [(5, .long ((1 : Int64) <<< (v2.toInt64 &&& 63))), (0, .ref (G.2.2 + v0)), (1, .int v1), (2, .int v2), (3, .long v3)]) X d_Nets_flood_3 (by decide) rfl rfl ?_
  refine V_lload (n := 0) X d_Nets_flood_5 rfl rfl ?_
  refine V_lstore (lv' := [(7, .long ((1 : Int64) <<< (v2.toInt64 &&& 63))), (5, .long ((1 : Int64) <<< (v2.toInt64 &&& 63))), (0, .ref (G.2.2 + v0)), (1, .int v1), (2, .int v2), (3, .long v3)]) X d_Nets_flood_7 (by decide) rfl rfl ?_
  refine V_iconst (v := 0) X d_Nets_flood_9 (by decide) rfl ?_
  refine V_istore (lv' := [(9, .int (0 : Int32)), (7, .long ((1 : Int64) <<< (v2.toInt64 &&& 63))), (5, .long ((1 : Int64) <<< (v2.toInt64 &&& 63))), (0, .ref (G.2.2 + v0)), (1, .int v1), (2, .int v2), (3, .long v3)]) X d_Nets_flood_10 (by decide) rfl rfl ?_
  refine V_sub (lv' := [(0, .ref (G.2.2 + v0)), (1, .int v1), (3, .long v3), (5, .long ((1 : Int64) <<< (v2.toInt64 &&& 63))), (7, .long ((1 : Int64) <<< (v2.toInt64 &&& 63))), (9, .int (0 : Int32))]) [3, 4, 6, 2, 1, 0] rfl ?_
  obtain ⟨x5, hx5, h⟩ := ob_s h
  refine (lp_Nets_flood_12_ok X hD v0 v1 v3 hk_v0 M _ _ _ hx5 (fun x9 e9 => ?_) :)
  subst e9
  refine V_lload (n := 0) X d_Nets_flood_100 rfl rfl ?_
  exact V_lret X (kr x5 (Option.some.inj h).symm) d_Nets_flood_102
def lb_Nets_around_6 (v0 : Nat) (v1 : Int32) (v2 : Int64) (M : Mem) (s : Int64 × Int32) : Option ((Int64 × Int32) ⊕ ((Int64))) :=
  if (36 : Int32) ≤ s.2 then
  some (.inr s.1)
  else
  if (lg_cmp ((v2 >>> (s.2.toInt64 &&& 63)) &&& (1 : Int64)) (0 : Int64)) = 0 then
  some (.inl (s.1, (s.2 + (1 : Int32))))
  else
  if inb ((v1 * (36 : Int32)) + s.2) 72 = true then
  some (.inl ((s.1 ||| (M.2.1 (rf v0 1) ((v1 * (36 : Int32)) + s.2).toNatClampNeg)), (s.2 + (1 : Int32))))
  else none
theorem lb_Nets_around_6_ok {E : Ev} {G : Gw} {d : Nat} {post : Int64 → Mem → Prop} (X : Cx E G b_Nets_around "WomenByTheRoofs$Nets" 7 d (some .long)) (hD : 1 ≤ d)  (v0 : Nat) (v1 : Int32) (v2 : Int64) (hk_v0 : kd v0 = 10 + 6) (M : Mem) (s : Int64 × Int32) (o : (Int64 × Int32) ⊕ ((Int64))) (h : lb_Nets_around_6 v0 v1 v2 M s = some o) (kc : ∀ s9 : Int64 × Int32, o = .inl s9 → V E (0, 0) G 7 (QL E G post) M 6 [(0, .ref (G.2.2 + v0)), (1, .int v1), (2, .long v2), (4, .long s9.1), (6, .int s9.2)] []) (kx0 : ∀ x9 : Int64, o = .inr x9 → V E (0, 0) G 7 (QL E G post) M 47 [(4, .long x9)] []) : V E (0, 0) G 7 (QL E G post) M 6 [(0, .ref (G.2.2 + v0)), (1, .int v1), (2, .long v2), (4, .long s.1), (6, .int s.2)] [] := by
  unfold lb_Nets_around_6 at h
  refine V_iload (n := 4) X d_Nets_around_6 rfl rfl ?_
  refine V_bipush (v := 36) X d_Nets_around_8 (by decide) rfl ?_
  refine V_icmp_ge (tgt := 47) X d_Nets_around_10 (by decide) rfl (fun c2 => ?_) (fun c2 => ?_)
  · rw [if_pos c2] at h
    refine V_sub (lv' := [(4, .long s.1)]) [3] rfl ?_
    exact kx0 s.1 (Option.some.inj h).symm
  · rw [if_neg c2] at h
    refine V_lload_n (n := 2) X d_Nets_around_13 rfl rfl rfl ?_
    refine V_iload (n := 4) X d_Nets_around_14 rfl rfl ?_
    refine V_lshr X d_Nets_around_16 rfl ?_
    refine V_lconst (v := 1) X d_Nets_around_17 (by decide) rfl ?_
    refine V_land X d_Nets_around_18 rfl ?_
    refine V_lconst (v := 0) X d_Nets_around_19 (by decide) rfl ?_
    refine V_lcmp X d_Nets_around_20 rfl ?_
    refine V_if_eq (tgt := 41) X d_Nets_around_21 (by decide) rfl (fun c1 => ?_) (fun c1 => ?_)
    · rw [if_pos c1] at h
      refine V_iinc (n := 4) (v := (s.2 + (1 : Int32))) (lv' := [(6, .int (s.2 + (1 : Int32))), (0, .ref (G.2.2 + v0)), (1, .int v1), (2, .long v2), (4, .long s.1)]) X d_Nets_around_41 rfl rfl (by decide) rfl rfl ?_
      refine V_goto (pc' := 6) X d_Nets_around_44 (by decide) ?_
      refine V_sub (lv' := [(0, .ref (G.2.2 + v0)), (1, .int v1), (2, .long v2), (4, .long s.1), (6, .int (s.2 + (1 : Int32)))]) [1, 2, 3, 4, 0] rfl ?_
      exact kc (s.1, (s.2 + (1 : Int32))) (Option.some.inj h).symm
    · rw [if_neg c1] at h
      refine V_lload (n := 3) X d_Nets_around_24 rfl rfl ?_
      refine V_aload_n (n := 0) X d_Nets_around_26 rfl rfl rfl ?_
      refine V_getr X fo_Nets_15 hk_v0 rfl rfl d_Nets_around_27 rfl ?_
      refine V_iload_n (n := 1) X d_Nets_around_30 rfl rfl rfl ?_
      refine V_bipush (v := 36) X d_Nets_around_31 (by decide) rfl ?_
      refine V_imul X d_Nets_around_33 rfl ?_
      refine V_iload (n := 4) X d_Nets_around_34 rfl rfl ?_
      refine V_iadd X d_Nets_around_36 rfl ?_
      obtain ⟨hb, h⟩ := ifn h
      refine V_lald X (kdNets_1 hk_v0) (inb_in (lnNets_1 hk_v0) hb) d_Nets_around_37 rfl ?_
      refine V_lor X d_Nets_around_38 rfl ?_
      refine V_lstore (lv' := [(4, .long (s.1 ||| (M.2.1 (rf v0 1) ((v1 * (36 : Int32)) + s.2).toNatClampNeg))), (0, .ref (G.2.2 + v0)), (1, .int v1), (2, .long v2), (6, .int s.2)]) X d_Nets_around_39 (by decide) rfl rfl ?_
      refine V_iinc (n := 4) (v := (s.2 + (1 : Int32))) (lv' := [(6, .int (s.2 + (1 : Int32))), (4, .long (s.1 ||| (M.2.1 (rf v0 1) ((v1 * (36 : Int32)) + s.2).toNatClampNeg))), (0, .ref (G.2.2 + v0)), (1, .int v1), (2, .long v2)]) X d_Nets_around_41 rfl rfl (by decide) rfl rfl ?_
      refine V_goto (pc' := 6) X d_Nets_around_44 (by decide) ?_
      refine V_sub (lv' := [(0, .ref (G.2.2 + v0)), (1, .int v1), (2, .long v2), (4, .long (s.1 ||| (M.2.1 (rf v0 1) ((v1 * (36 : Int32)) + s.2).toNatClampNeg))), (6, .int (s.2 + (1 : Int32)))]) [2, 3, 4, 1, 0] rfl ?_
      exact kc ((s.1 ||| (M.2.1 (rf v0 1) ((v1 * (36 : Int32)) + s.2).toNatClampNeg)), (s.2 + (1 : Int32))) (Option.some.inj h).symm
theorem lp_Nets_around_6_ok {E : Ev} {G : Gw} {d : Nat} {post : Int64 → Mem → Prop} (X : Cx E G b_Nets_around "WomenByTheRoofs$Nets" 7 d (some .long)) (hD : 1 ≤ d)  (v0 : Nat) (v1 : Int32) (v2 : Int64) (hk_v0 : kd v0 = 10 + 6) (M : Mem) (n9 : Nat) (s : Int64 × Int32) (x : (Int64)) (h : iter (lb_Nets_around_6 v0 v1 v2 M) n9 s = some x) (kx0 : ∀ x9 : Int64, x = x9 → V E (0, 0) G 7 (QL E G post) M 47 [(4, .long x9)] []) : V E (0, 0) G 7 (QL E G post) M 6 [(0, .ref (G.2.2 + v0)), (1, .int v1), (2, .long v2), (4, .long s.1), (6, .int s.2)] [] :=
  iter_P (P := fun s : Int64 × Int32 => V E (0, 0) G 7 (QL E G post) M 6 [(0, .ref (G.2.2 + v0)), (1, .int v1), (2, .long v2), (4, .long s.1), (6, .int s.2)] []) (fun s o hb kc ky => lb_Nets_around_6_ok X hD v0 v1 v2 hk_v0 M s o hb kc (fun x9 e9 => kx0 x9 (ky _ e9).symm)) n9 s h
def f_Nets_around (v0 : Nat) (v1 : Int32) (v2 : Int64) (M : Mem) : Option (Int64) :=
  if kd v0 = 10 + 6 then
  Option.bind (iter (lb_Nets_around_6 v0 v1 v2 M) FU ((0 : Int64), (0 : Int32))) fun x3 =>
  some x3
  else none
theorem c_Nets_around (l : Launch) (G : Gw)  (v0 : Nat) (v1 : Int32) (v2 : Int64) (M : Mem) (x : Int64) (h : f_Nets_around v0 v1 v2 M = some x) (d : Nat) (hD : 1 ≤ d) : Cl l G y_Nets_around b_Nets_around 7 (some .long) d [.ref (G.2.2 + v0), .int v1, .long v2] M (fun r9 M9 => r9 = x ∧ M9 = M) := by
  refine Cl_of (by decide) (Nat.le_of_ble_eq_true rfl) (fun E hE X => ?_)
  subst hE
  have kr : ∀ x9 : Int64, x = x9 → (fun r9 M9 => r9 = x ∧ M9 = M) x9 M := fun x9 e9 => by subst e9; exact ⟨rfl, rfl⟩
  unfold f_Nets_around at h
  obtain ⟨hk_v0, h⟩ := ifn h
  refine V_lconst (v := 0) X d_Nets_around_0 (by decide) rfl ?_
  refine V_lstore (lv' := [(4, .long (0 : Int64)), (0, .ref (G.2.2 + v0)), (1, .int v1), (2, .long v2)]) X d_Nets_around_1 (by decide) rfl rfl ?_
  refine V_iconst (v := 0) X d_Nets_around_3 (by decide) rfl ?_
  refine V_istore (lv' := [(6, .int (0 : Int32)), (4, .long (0 : Int64)), (0, .ref (G.2.2 + v0)), (1, .int v1), (2, .long v2)]) X d_Nets_around_4 (by decide) rfl rfl ?_
  refine V_sub (lv' := [(0, .ref (G.2.2 + v0)), (1, .int v1), (2, .long v2), (4, .long (0 : Int64)), (6, .int (0 : Int32))]) [2, 3, 4, 1, 0] rfl ?_
  obtain ⟨x3, hx3, h⟩ := ob_s h
  refine (lp_Nets_around_6_ok X hD v0 v1 v2 hk_v0 M _ _ _ hx3 (fun x9 e9 => ?_) :)
  subst e9
  refine V_lload (n := 0) X d_Nets_around_47 rfl rfl ?_
  exact V_lret X (kr x3 (Option.some.inj h).symm) d_Nets_around_49
def lb_Nets_measure_3 (v0 : Nat) (v1 : Int32) (v2 : Int32) (v3 : Nat) (s : Int32 × Mem) : Option ((Int32 × Mem) ⊕ ((Mem))) :=
  if (36 : Int32) ≤ s.1 then
  some (.inr s.2)
  else
  if inb s.1 (ln v3) = true then
  mem_ (s_i s.2 v3 s.1.toNatClampNeg (1000000 : Int32)) fun M1 =>
  some (.inl ((s.1 + (1 : Int32)), M1))
  else none
theorem lb_Nets_measure_3_ok {E : Ev} {G : Gw} {d : Nat} {post : Mem → Prop} (X : Cx E G b_Nets_measure "WomenByTheRoofs$Nets" 10 d none) (hD : 2 ≤ d)  (v0 : Nat) (v1 : Int32) (v2 : Int32) (v3 : Nat) (hk_v0 : kd v0 = 10 + 6) (hk_v3 : kd v3 = 1)  (s : Int32 × Mem) (o : (Int32 × Mem) ⊕ ((Mem))) (h : lb_Nets_measure_3 v0 v1 v2 v3 s = some o) (kc : ∀ s9 : Int32 × Mem, o = .inl s9 → V E (0, 0) G 10 (QV E G post) s9.2 3 [(0, .ref (G.2.2 + v0)), (1, .int v1), (2, .int v2), (3, .ref (G.2.2 + v3)), (4, .int s9.1)] []) (kx0 : ∀ x9 : Mem, o = .inr x9 → V E (0, 0) G 10 (QV E G post) x9 22 [(0, .ref (G.2.2 + v0)), (1, .int v1), (2, .int v2), (3, .ref (G.2.2 + v3))] []) : V E (0, 0) G 10 (QV E G post) s.2 3 [(0, .ref (G.2.2 + v0)), (1, .int v1), (2, .int v2), (3, .ref (G.2.2 + v3)), (4, .int s.1)] [] := by
  unfold lb_Nets_measure_3 at h
  refine V_iload (n := 4) X d_Nets_measure_3 rfl rfl ?_
  refine V_bipush (v := 36) X d_Nets_measure_5 (by decide) rfl ?_
  refine V_icmp_ge (tgt := 22) X d_Nets_measure_7 (by decide) rfl (fun c2 => ?_) (fun c2 => ?_)
  · rw [if_pos c2] at h
    refine V_sub (lv' := [(0, .ref (G.2.2 + v0)), (1, .int v1), (2, .int v2), (3, .ref (G.2.2 + v3))]) [0, 1, 2, 3] rfl ?_
    exact kx0 s.2 (Option.some.inj h).symm
  · rw [if_neg c2] at h
    refine V_aload_n (n := 3) X d_Nets_measure_10 rfl rfl rfl ?_
    refine V_iload (n := 4) X d_Nets_measure_11 rfl rfl ?_
    refine V_ldc (v := 1000000) X d_Nets_measure_13 kc_Nets_65 rfl ?_
    obtain ⟨hb, h⟩ := ifn h
    obtain ⟨M1, eM1, h⟩ := memS h
    refine V_iast X hk_v3 (inb_in rfl hb) d_Nets_measure_15 rfl ?_
    rw [← eM1]
    refine V_iinc (n := 4) (v := (s.1 + (1 : Int32))) (lv' := [(4, .int (s.1 + (1 : Int32))), (0, .ref (G.2.2 + v0)), (1, .int v1), (2, .int v2), (3, .ref (G.2.2 + v3))]) X d_Nets_measure_16 rfl rfl (by decide) rfl rfl ?_
    refine V_goto (pc' := 3) X d_Nets_measure_19 (by decide) ?_
    refine V_sub (lv' := [(0, .ref (G.2.2 + v0)), (1, .int v1), (2, .int v2), (3, .ref (G.2.2 + v3)), (4, .int (s.1 + (1 : Int32)))]) [1, 2, 3, 4, 0] rfl ?_
    exact kc ((s.1 + (1 : Int32)), M1) (Option.some.inj h).symm
theorem lp_Nets_measure_3_ok {E : Ev} {G : Gw} {d : Nat} {post : Mem → Prop} (X : Cx E G b_Nets_measure "WomenByTheRoofs$Nets" 10 d none) (hD : 2 ≤ d)  (v0 : Nat) (v1 : Int32) (v2 : Int32) (v3 : Nat) (hk_v0 : kd v0 = 10 + 6) (hk_v3 : kd v3 = 1)  (n9 : Nat) (s : Int32 × Mem) (x : (Mem)) (h : iter (lb_Nets_measure_3 v0 v1 v2 v3) n9 s = some x) (kx0 : ∀ x9 : Mem, x = x9 → V E (0, 0) G 10 (QV E G post) x9 22 [(0, .ref (G.2.2 + v0)), (1, .int v1), (2, .int v2), (3, .ref (G.2.2 + v3))] []) : V E (0, 0) G 10 (QV E G post) s.2 3 [(0, .ref (G.2.2 + v0)), (1, .int v1), (2, .int v2), (3, .ref (G.2.2 + v3)), (4, .int s.1)] [] :=
  iter_P (P := fun s : Int32 × Mem => V E (0, 0) G 10 (QV E G post) s.2 3 [(0, .ref (G.2.2 + v0)), (1, .int v1), (2, .int v2), (3, .ref (G.2.2 + v3)), (4, .int s.1)] []) (fun s o hb kc ky => lb_Nets_measure_3_ok X hD v0 v1 v2 v3 hk_v0 hk_v3 s o hb kc (fun x9 e9 => kx0 x9 (ky _ e9).symm)) n9 s h
def lb_Nets_measure_51 (v0 : Nat) (v1 : Int32) (v3 : Nat) (v4 : Int64) (v6 : Int64) (v8 : Int32) (s : Int32 × Mem) : Option ((Int32 × Mem) ⊕ ((Mem))) :=
  if (36 : Int32) ≤ s.1 then
  some (.inr s.2)
  else
  if (lg_cmp ((v6 >>> (s.1.toInt64 &&& 63)) &&& (1 : Int64)) (0 : Int64)) = 0 then
  some (.inl ((s.1 + (1 : Int32)), s.2))
  else
  if inb s.1 (ln v3) = true then
  mem_ (s_i s.2 v3 s.1.toNatClampNeg v8) fun M4 =>
  some (.inl ((s.1 + (1 : Int32)), M4))
  else none
theorem lb_Nets_measure_51_ok {E : Ev} {G : Gw} {d : Nat} {post : Mem → Prop} (X : Cx E G b_Nets_measure "WomenByTheRoofs$Nets" 10 d none) (hD : 2 ≤ d)  (v0 : Nat) (v1 : Int32) (v3 : Nat) (v4 : Int64) (v6 : Int64) (v8 : Int32) (hk_v0 : kd v0 = 10 + 6) (hk_v3 : kd v3 = 1)  (s : Int32 × Mem) (o : (Int32 × Mem) ⊕ ((Mem))) (h : lb_Nets_measure_51 v0 v1 v3 v4 v6 v8 s = some o) (kc : ∀ s9 : Int32 × Mem, o = .inl s9 → V E (0, 0) G 10 (QV E G post) s9.2 51 [(0, .ref (G.2.2 + v0)), (1, .int v1), (3, .ref (G.2.2 + v3)), (4, .long v4), (6, .long v6), (8, .int v8), (9, .int s9.1)] []) (kx0 : ∀ x9 : Mem, o = .inr x9 → V E (0, 0) G 10 (QV E G post) x9 82 [(0, .ref (G.2.2 + v0)), (1, .int v1), (3, .ref (G.2.2 + v3)), (4, .long v4), (6, .long v6), (8, .int v8)] []) : V E (0, 0) G 10 (QV E G post) s.2 51 [(0, .ref (G.2.2 + v0)), (1, .int v1), (3, .ref (G.2.2 + v3)), (4, .long v4), (6, .long v6), (8, .int v8), (9, .int s.1)] [] := by
  unfold lb_Nets_measure_51 at h
  refine V_iload (n := 6) X d_Nets_measure_51 rfl rfl ?_
  refine V_bipush (v := 36) X d_Nets_measure_53 (by decide) rfl ?_
  refine V_icmp_ge (tgt := 82) X d_Nets_measure_55 (by decide) rfl (fun c6 => ?_) (fun c6 => ?_)
  · rw [if_pos c6] at h
    refine V_sub (lv' := [(0, .ref (G.2.2 + v0)), (1, .int v1), (3, .ref (G.2.2 + v3)), (4, .long v4), (6, .long v6), (8, .int v8)]) [0, 1, 2, 3, 4, 5] rfl ?_
    exact kx0 s.2 (Option.some.inj h).symm
  · rw [if_neg c6] at h
    refine V_lload (n := 4) X d_Nets_measure_58 rfl rfl ?_
    refine V_iload (n := 6) X d_Nets_measure_60 rfl rfl ?_
    refine V_lshr X d_Nets_measure_62 rfl ?_
    refine V_lconst (v := 1) X d_Nets_measure_63 (by decide) rfl ?_
    refine V_land X d_Nets_measure_64 rfl ?_
    refine V_lconst (v := 0) X d_Nets_measure_65 (by decide) rfl ?_
    refine V_lcmp X d_Nets_measure_66 rfl ?_
    refine V_if_eq (tgt := 76) X d_Nets_measure_67 (by decide) rfl (fun c5 => ?_) (fun c5 => ?_)
    · rw [if_pos c5] at h
      refine V_iinc (n := 6) (v := (s.1 + (1 : Int32))) (lv' := [(9, .int (s.1 + (1 : Int32))), (0, .ref (G.2.2 + v0)), (1, .int v1), (3, .ref (G.2.2 + v3)), (4, .long v4), (6, .long v6), (8, .int v8)]) X d_Nets_measure_76 rfl rfl (by decide) rfl rfl ?_
      refine V_goto (pc' := 51) X d_Nets_measure_79 (by decide) ?_
      refine V_sub (lv' := [(0, .ref (G.2.2 + v0)), (1, .int v1), (3, .ref (G.2.2 + v3)), (4, .long v4), (6, .long v6), (8, .int v8), (9, .int (s.1 + (1 : Int32)))]) [1, 2, 3, 4, 5, 6, 0] rfl ?_
      exact kc ((s.1 + (1 : Int32)), s.2) (Option.some.inj h).symm
    · rw [if_neg c5] at h
      refine V_aload_n (n := 2) X d_Nets_measure_70 rfl rfl rfl ?_
      refine V_iload (n := 6) X d_Nets_measure_71 rfl rfl ?_
      refine V_iload (n := 5) X d_Nets_measure_73 rfl rfl ?_
      obtain ⟨hb, h⟩ := ifn h
      obtain ⟨M4, eM4, h⟩ := memS h
      refine V_iast X hk_v3 (inb_in rfl hb) d_Nets_measure_75 rfl ?_
      rw [← eM4]
      refine V_iinc (n := 6) (v := (s.1 + (1 : Int32))) (lv' := [(9, .int (s.1 + (1 : Int32))), (0, .ref (G.2.2 + v0)), (1, .int v1), (3, .ref (G.2.2 + v3)), (4, .long v4), (6, .long v6), (8, .int v8)]) X d_Nets_measure_76 rfl rfl (by decide) rfl rfl ?_
      refine V_goto (pc' := 51) X d_Nets_measure_79 (by decide) ?_
      refine V_sub (lv' := [(0, .ref (G.2.2 + v0)), (1, .int v1), (3, .ref (G.2.2 + v3)), (4, .long v4), (6, .long v6), (8, .int v8), (9, .int (s.1 + (1 : Int32)))]) [1, 2, 3, 4, 5, 6, 0] rfl ?_
      exact kc ((s.1 + (1 : Int32)), M4) (Option.some.inj h).symm
theorem lp_Nets_measure_51_ok {E : Ev} {G : Gw} {d : Nat} {post : Mem → Prop} (X : Cx E G b_Nets_measure "WomenByTheRoofs$Nets" 10 d none) (hD : 2 ≤ d)  (v0 : Nat) (v1 : Int32) (v3 : Nat) (v4 : Int64) (v6 : Int64) (v8 : Int32) (hk_v0 : kd v0 = 10 + 6) (hk_v3 : kd v3 = 1)  (n9 : Nat) (s : Int32 × Mem) (x : (Mem)) (h : iter (lb_Nets_measure_51 v0 v1 v3 v4 v6 v8) n9 s = some x) (kx0 : ∀ x9 : Mem, x = x9 → V E (0, 0) G 10 (QV E G post) x9 82 [(0, .ref (G.2.2 + v0)), (1, .int v1), (3, .ref (G.2.2 + v3)), (4, .long v4), (6, .long v6), (8, .int v8)] []) : V E (0, 0) G 10 (QV E G post) s.2 51 [(0, .ref (G.2.2 + v0)), (1, .int v1), (3, .ref (G.2.2 + v3)), (4, .long v4), (6, .long v6), (8, .int v8), (9, .int s.1)] [] :=
  iter_P (P := fun s : Int32 × Mem => V E (0, 0) G 10 (QV E G post) s.2 51 [(0, .ref (G.2.2 + v0)), (1, .int v1), (3, .ref (G.2.2 + v3)), (4, .long v4), (6, .long v6), (8, .int v8), (9, .int s.1)] []) (fun s o hb kc ky => lb_Nets_measure_51_ok X hD v0 v1 v3 v4 v6 v8 hk_v0 hk_v3 s o hb kc (fun x9 e9 => kx0 x9 (ky _ e9).symm)) n9 s h
def lb_Nets_measure_34 (v0 : Nat) (v1 : Int32) (v3 : Nat) (s : Int64 × Int64 × Int32 × Mem) : Option ((Int64 × Int64 × Int32 × Mem) ⊕ ((Mem))) :=
  if (36 : Int32) ≤ s.2.2.1 then
  some (.inr s.2.2.2)
  else
  if (lg_cmp s.2.1 (0 : Int64)) = 0 then
  some (.inr s.2.2.2)
  else
  Option.bind (iter (lb_Nets_measure_51 v0 v1 v3 s.1 s.2.1 s.2.2.1) FU ((0 : Int32), s.2.2.2)) fun x7 =>
  Option.bind (f_Nets_around v0 v1 s.2.1 x7) fun x8 =>
  some (.inl ((s.1 ||| (x8 &&& (s.1 ^^^ (-1 : Int64)))), (x8 &&& (s.1 ^^^ (-1 : Int64))), (s.2.2.1 + (1 : Int32)), x7))
theorem lb_Nets_measure_34_ok {E : Ev} {G : Gw} {d : Nat} {post : Mem → Prop} (X : Cx E G b_Nets_measure "WomenByTheRoofs$Nets" 10 d none) (hD : 2 ≤ d)  (v0 : Nat) (v1 : Int32) (v3 : Nat) (hk_v0 : kd v0 = 10 + 6) (hk_v3 : kd v3 = 1)  (s : Int64 × Int64 × Int32 × Mem) (o : (Int64 × Int64 × Int32 × Mem) ⊕ ((Mem))) (h : lb_Nets_measure_34 v0 v1 v3 s = some o) (kc : ∀ s9 : Int64 × Int64 × Int32 × Mem, o = .inl s9 → V E (0, 0) G 10 (QV E G post) s9.2.2.2 34 [(0, .ref (G.2.2 + v0)), (1, .int v1), (3, .ref (G.2.2 + v3)), (4, .long s9.1), (6, .long s9.2.1), (8, .int s9.2.2.1)] []) (kx0 : ∀ x9 : Mem, o = .inr x9 → V E (0, 0) G 10 (QV E G post) x9 111 [] []) : V E (0, 0) G 10 (QV E G post) s.2.2.2 34 [(0, .ref (G.2.2 + v0)), (1, .int v1), (3, .ref (G.2.2 + v3)), (4, .long s.1), (6, .long s.2.1), (8, .int s.2.2.1)] [] := by
  unfold lb_Nets_measure_34 at h
  refine V_iload (n := 5) X d_Nets_measure_34 rfl rfl ?_
  refine V_bipush (v := 36) X d_Nets_measure_36 (by decide) rfl ?_
  refine V_icmp_ge (tgt := 111) X d_Nets_measure_38 (by decide) rfl (fun c10 => ?_) (fun c10 => ?_)
  · rw [if_pos c10] at h
    refine V_sub (lv' := []) [] rfl ?_
    exact kx0 s.2.2.2 (Option.some.inj h).symm
  · rw [if_neg c10] at h
    refine V_lload (n := 4) X d_Nets_measure_41 rfl rfl ?_
    refine V_lconst (v := 0) X d_Nets_measure_43 (by decide) rfl ?_
    refine V_lcmp X d_Nets_measure_44 rfl ?_
    refine V_if_eq (tgt := 111) X d_Nets_measure_45 (by decide) rfl (fun c9 => ?_) (fun c9 => ?_)
    · rw [if_pos c9] at h
      refine V_sub (lv' := []) [] rfl ?_
      exact kx0 s.2.2.2 (Option.some.inj h).symm
    · rw [if_neg c9] at h
      refine V_iconst (v := 0) X d_Nets_measure_48 (by decide) rfl ?_
      refine V_istore (lv' := [(9, .int (0 : Int32)), (0, .ref (G.2.2 + v0)), (1, .int v1), (3, .ref (G.2.2 + v3)), (4, .long s.1), (6, .long s.2.1), (8, .int s.2.2.1)]) X d_Nets_measure_49 (by decide) rfl rfl ?_
      refine V_sub (lv' := [(0, .ref (G.2.2 + v0)), (1, .int v1), (3, .ref (G.2.2 + v3)), (4, .long s.1), (6, .long s.2.1), (8, .int s.2.2.1), (9, .int (0 : Int32))]) [1, 2, 3, 4, 5, 6, 0] rfl ?_
      obtain ⟨x7, hx7, h⟩ := ob_s h
      refine (lp_Nets_measure_51_ok X hD v0 v1 v3 s.1 s.2.1 s.2.2.1 hk_v0 hk_v3 _ _ _ hx7 (fun x9 e9 => ?_) :)
      subst e9
      refine V_aload_n (n := 0) X d_Nets_measure_82 rfl rfl rfl ?_
      refine V_iload_n (n := 1) X d_Nets_measure_83 rfl rfl rfl ?_
      refine V_lload (n := 4) X d_Nets_measure_84 rfl rfl ?_
      obtain ⟨x8, hx8, h⟩ := ob_s h
      refine V_cl (As := [.int v1, .long s.2.1]) X (Z0 E) ml_Nets_66 yq_Nets_around (c_Nets_around E.2.1 G v0 v1 s.2.1 x7 x8 hx8 _ (Nat.le_refl _)) hk_v0 rfl rfl (by omega) rfl (Nat.le_of_ble_eq_true rfl) d_Nets_measure_86 rfl (fun r9 M9 hq => ?_)
      rw [hq.1, hq.2]
      refine V_lload (n := 3) X d_Nets_measure_89 rfl rfl ?_
      refine V_ldc2_w (v := -1) X d_Nets_measure_91 kc_Nets_63 rfl ?_
      refine V_lxor X d_Nets_measure_94 rfl ?_
      refine V_land X d_Nets_measure_95 rfl ?_
      refine V_lstore (lv' := [(6, .long (x8 &&& (s.1 ^^^ (-1 : Int64)))), (0, .ref (G.2.2 + v0)), (1, .int v1), (3, .ref (G.2.2 + v3)), (4, .long s.1), (8, .int s.2.2.1)]) X d_Nets_measure_96 (by decide) rfl rfl ?_
      refine V_lload (n := 4) X d_Nets_measure_98 rfl rfl ?_
      refine V_lload (n := 0) X d_Nets_measure_100 rfl rfl ?_
      refine V_lor X d_Nets_measure_102 rfl ?_
      refine V_lstore (lv' := [(4, .long (s.1 ||| (x8 &&& (s.1 ^^^ (-1 : Int64))))), (6, .long (x8 &&& (s.1 ^^^ (-1 : Int64)))), (0, .ref (G.2.2 + v0)), (1, .int v1), (3, .ref (G.2.2 + v3)), (8, .int s.2.2.1)]) X d_Nets_measure_103 (by decide) rfl rfl ?_
      refine V_iinc (n := 5) (v := (s.2.2.1 + (1 : Int32))) (lv' := [(8, .int (s.2.2.1 + (1 : Int32))), (4, .long (s.1 ||| (x8 &&& (s.1 ^^^ (-1 : Int64))))), (6, .long (x8 &&& (s.1 ^^^ (-1 : Int64)))), (0, .ref (G.2.2 + v0)), (1, .int v1), (3, .ref (G.2.2 + v3))]) X d_Nets_measure_105 rfl rfl (by decide) rfl rfl ?_
      refine V_goto (pc' := 34) X d_Nets_measure_108 (by decide) ?_
      refine V_sub (lv' := [(0, .ref (G.2.2 + v0)), (1, .int v1), (3, .ref (G.2.2 + v3)), (4, .long (s.1 ||| (x8 &&& (s.1 ^^^ (-1 : Int64))))), (6, .long (x8 &&& (s.1 ^^^ (-1 : Int64)))), (8, .int (s.2.2.1 + (1 : Int32)))]) [3, 4, 5, 1, 2, 0] rfl ?_
      exact kc ((s.1 ||| (x8 &&& (s.1 ^^^ (-1 : Int64)))), (x8 &&& (s.1 ^^^ (-1 : Int64))), (s.2.2.1 + (1 : Int32)), x7) (Option.some.inj h).symm
theorem lp_Nets_measure_34_ok {E : Ev} {G : Gw} {d : Nat} {post : Mem → Prop} (X : Cx E G b_Nets_measure "WomenByTheRoofs$Nets" 10 d none) (hD : 2 ≤ d)  (v0 : Nat) (v1 : Int32) (v3 : Nat) (hk_v0 : kd v0 = 10 + 6) (hk_v3 : kd v3 = 1)  (n9 : Nat) (s : Int64 × Int64 × Int32 × Mem) (x : (Mem)) (h : iter (lb_Nets_measure_34 v0 v1 v3) n9 s = some x) (kx0 : ∀ x9 : Mem, x = x9 → V E (0, 0) G 10 (QV E G post) x9 111 [] []) : V E (0, 0) G 10 (QV E G post) s.2.2.2 34 [(0, .ref (G.2.2 + v0)), (1, .int v1), (3, .ref (G.2.2 + v3)), (4, .long s.1), (6, .long s.2.1), (8, .int s.2.2.1)] [] :=
  iter_P (P := fun s : Int64 × Int64 × Int32 × Mem => V E (0, 0) G 10 (QV E G post) s.2.2.2 34 [(0, .ref (G.2.2 + v0)), (1, .int v1), (3, .ref (G.2.2 + v3)), (4, .long s.1), (6, .long s.2.1), (8, .int s.2.2.1)] []) (fun s o hb kc ky => lb_Nets_measure_34_ok X hD v0 v1 v3 hk_v0 hk_v3 s o hb kc (fun x9 e9 => kx0 x9 (ky _ e9).symm)) n9 s h
def f_Nets_measure (v0 : Nat) (v1 : Int32) (v2 : Int32) (v3 : Nat) (M : Mem) : Option (Mem) :=
  if kd v0 = 10 + 6 then
  if kd v3 = 1 then
  Option.bind (iter (lb_Nets_measure_3 v0 v1 v2 v3) FU ((0 : Int32), M)) fun x3 =>
  Option.bind (iter (lb_Nets_measure_34 v0 v1 v3) FU (((1 : Int64) <<< (v2.toInt64 &&& 63)), ((1 : Int64) <<< (v2.toInt64 &&& 63)), (0 : Int32), x3)) fun x11 =>
  some x11
  else none
  else none
theorem c_Nets_measure (l : Launch) (G : Gw)  (v0 : Nat) (v1 : Int32) (v2 : Int32) (v3 : Nat) (M : Mem) (x : Mem) (h : f_Nets_measure v0 v1 v2 v3 M = some x) (d : Nat) (hD : 2 ≤ d) : Cv l G y_Nets_measure b_Nets_measure 10 none d [.ref (G.2.2 + v0), .int v1, .int v2, .ref (G.2.2 + v3)] M (fun M9 => M9 = x) := by
  refine Cv_of (by decide) (Nat.le_of_ble_eq_true rfl) (fun E hE X => ?_)
  subst hE
  have kr : ∀ x9 : Mem, x = x9 → (fun M9 => M9 = x) x9 := fun x9 e9 => by subst e9; exact rfl
  unfold f_Nets_measure at h
  obtain ⟨hk_v0, h⟩ := ifn h
  obtain ⟨hk_v3, h⟩ := ifn h
  refine V_iconst (v := 0) X d_Nets_measure_0 (by decide) rfl ?_
  refine V_istore (lv' := [(4, .int (0 : Int32)), (0, .ref (G.2.2 + v0)), (1, .int v1), (2, .int v2), (3, .ref (G.2.2 + v3))]) X d_Nets_measure_1 (by decide) rfl rfl ?_
  refine V_sub (lv' := [(0, .ref (G.2.2 + v0)), (1, .int v1), (2, .int v2), (3, .ref (G.2.2 + v3)), (4, .int (0 : Int32))]) [1, 2, 3, 4, 0] rfl ?_
  obtain ⟨x3, hx3, h⟩ := ob_s h
  refine (lp_Nets_measure_3_ok X hD v0 v1 v2 v3 hk_v0 hk_v3 _ _ _ hx3 (fun x9 e9 => ?_) :)
  subst e9
  refine V_lconst (v := 1) X d_Nets_measure_22 (by decide) rfl ?_
  refine V_iload_n (n := 2) X d_Nets_measure_23 rfl rfl rfl ?_
  refine V_lshl X d_Nets_measure_24 rfl ?_
  refine V_lstore (lv' := [(4, .long ((1 : Int64) <<< (v2.toInt64 &&& 63))), (0, .ref (G.2.2 + v0)), (1, .int v1), (2, .int v2), (3, .ref (G.2.2 + v3))]) X d_Nets_measure_25 (by decide) rfl rfl ?_
  refine V_lload (n := 0) X d_Nets_measure_27 rfl rfl ?_
  refine V_lstore (lv' := [(6, .long ((1 : Int64) <<< (v2.toInt64 &&& 63))), (4, .long ((1 : Int64) <<< (v2.toInt64 &&& 63))), (0, .ref (G.2.2 + v0)), (1, .int v1), (2, .int v2), (3, .ref (G.2.2 + v3))]) X d_Nets_measure_29 (by decide) rfl rfl ?_
  refine V_iconst (v := 0) X d_Nets_measure_31 (by decide) rfl ?_
  refine V_istore (lv' := [(8, .int (0 : Int32)), (6, .long ((1 : Int64) <<< (v2.toInt64 &&& 63))), (4, .long ((1 : Int64) <<< (v2.toInt64 &&& 63))), (0, .ref (G.2.2 + v0)), (1, .int v1), (2, .int v2), (3, .ref (G.2.2 + v3))]) X d_Nets_measure_32 (by decide) rfl rfl ?_
  refine V_sub (lv' := [(0, .ref (G.2.2 + v0)), (1, .int v1), (3, .ref (G.2.2 + v3)), (4, .long ((1 : Int64) <<< (v2.toInt64 &&& 63))), (6, .long ((1 : Int64) <<< (v2.toInt64 &&& 63))), (8, .int (0 : Int32))]) [3, 4, 6, 2, 1, 0] rfl ?_
  obtain ⟨x11, hx11, h⟩ := ob_s h
  refine (lp_Nets_measure_34_ok X hD v0 v1 v3 hk_v0 hk_v3 _ _ _ hx11 (fun x9 e9 => ?_) :)
  subst e9
  exact V_vret X (kr x11 (Option.some.inj h).symm) d_Nets_measure_111
def lb_Nets_stepNearer_3 (v0 : Nat) (v1 : Int32) (v2 : Int32) (v3 : Nat) (M : Mem) (s : Int32) : Option ((Int32) ⊕ ((Unit) ⊕ (Int32))) :=
  if (4 : Int32) ≤ s then
  some (.inr (Sum.inl ()))
  else
  Option.bind (f_Nets_toward v0 v1 v2 s M) fun x1 =>
  if x1 = (-1 : Int32) then
  some (.inl (s + (1 : Int32)))
  else
  if inb x1 (ln v3) = true then
  if inb v2 (ln v3) = true then
  if (M.1 v3 v2.toNatClampNeg) ≤ (M.1 v3 x1.toNatClampNeg) then
  some (.inl (s + (1 : Int32)))
  else
  some (.inr (Sum.inr s))
  else none
  else none
theorem lb_Nets_stepNearer_3_ok {E : Ev} {G : Gw} {d : Nat} {post : Int32 → Mem → Prop} (X : Cx E G b_Nets_stepNearer "WomenByTheRoofs$Nets" 6 d (some .int)) (hD : 2 ≤ d)  (v0 : Nat) (v1 : Int32) (v2 : Int32) (v3 : Nat) (hk_v0 : kd v0 = 10 + 6) (hk_v3 : kd v3 = 1) (M : Mem) (s : Int32) (o : (Int32) ⊕ ((Unit) ⊕ (Int32))) (h : lb_Nets_stepNearer_3 v0 v1 v2 v3 M s = some o) (kc : ∀ s9 : Int32, o = .inl s9 → V E (0, 0) G 6 (QI E G post) M 3 [(0, .ref (G.2.2 + v0)), (1, .int v1), (2, .int v2), (3, .ref (G.2.2 + v3)), (4, .int s9)] []) (kx0 : ∀ x9 : Unit, o = .inr (Sum.inl x9) → V E (0, 0) G 6 (QI E G post) M 44 [] []) (kx1 : ∀ x9 : Int32, o = .inr (Sum.inr x9) → V E (0, 0) G 6 (QI E G post) M 35 [(4, .int x9)] []) : V E (0, 0) G 6 (QI E G post) M 3 [(0, .ref (G.2.2 + v0)), (1, .int v1), (2, .int v2), (3, .ref (G.2.2 + v3)), (4, .int s)] [] := by
  unfold lb_Nets_stepNearer_3 at h
  refine V_iload (n := 4) X d_Nets_stepNearer_3 rfl rfl ?_
  refine V_iconst (v := 4) X d_Nets_stepNearer_5 (by decide) rfl ?_
  refine V_icmp_ge (tgt := 44) X d_Nets_stepNearer_6 (by decide) rfl (fun c4 => ?_) (fun c4 => ?_)
  · rw [if_pos c4] at h
    refine V_sub (lv' := []) [] rfl ?_
    exact kx0 () (Option.some.inj h).symm
  · rw [if_neg c4] at h
    refine V_aload_n (n := 0) X d_Nets_stepNearer_9 rfl rfl rfl ?_
    refine V_iload_n (n := 1) X d_Nets_stepNearer_10 rfl rfl rfl ?_
    refine V_iload_n (n := 2) X d_Nets_stepNearer_11 rfl rfl rfl ?_
    refine V_iload (n := 4) X d_Nets_stepNearer_12 rfl rfl ?_
    obtain ⟨x1, hx1, h⟩ := ob_s h
    refine V_ci (As := [.int v1, .int v2, .int s]) X (Z0 E) ml_Nets_70 yq_Nets_toward (c_Nets_toward E.2.1 G v0 v1 v2 s M x1 hx1 _ (Nat.le_refl _)) hk_v0 rfl rfl (by omega) rfl (Nat.le_of_ble_eq_true rfl) d_Nets_stepNearer_14 rfl (fun r9 M9 hq => ?_)
    rw [hq.1, hq.2]
    refine V_istore (lv' := [(5, .int x1), (0, .ref (G.2.2 + v0)), (1, .int v1), (2, .int v2), (3, .ref (G.2.2 + v3)), (4, .int s)]) X d_Nets_stepNearer_17 (by decide) rfl rfl ?_
    refine V_iload (n := 0) X d_Nets_stepNearer_19 rfl rfl ?_
    refine V_iconst (v := -1) X d_Nets_stepNearer_21 (by decide) rfl ?_
    refine V_icmp_eq (tgt := 38) X d_Nets_stepNearer_22 (by decide) rfl (fun c3 => ?_) (fun c3 => ?_)
    · rw [if_pos c3] at h
      refine V_iinc (n := 5) (v := (s + (1 : Int32))) (lv' := [(4, .int (s + (1 : Int32))), (5, .int x1), (0, .ref (G.2.2 + v0)), (1, .int v1), (2, .int v2), (3, .ref (G.2.2 + v3))]) X d_Nets_stepNearer_38 rfl rfl (by decide) rfl rfl ?_
      refine V_goto (pc' := 3) X d_Nets_stepNearer_41 (by decide) ?_
      refine V_sub (lv' := [(0, .ref (G.2.2 + v0)), (1, .int v1), (2, .int v2), (3, .ref (G.2.2 + v3)), (4, .int (s + (1 : Int32)))]) [2, 3, 4, 5, 0] rfl ?_
      exact kc (s + (1 : Int32)) (Option.some.inj h).symm
    · rw [if_neg c3] at h
      refine V_aload_n (n := 4) X d_Nets_stepNearer_25 rfl rfl rfl ?_
      refine V_iload (n := 0) X d_Nets_stepNearer_26 rfl rfl ?_
      obtain ⟨hb, h⟩ := ifn h
      refine V_iald X hk_v3 (inb_in rfl hb) d_Nets_stepNearer_28 rfl ?_
      refine V_aload_n (n := 4) X d_Nets_stepNearer_29 rfl rfl rfl ?_
      refine V_iload_n (n := 3) X d_Nets_stepNearer_30 rfl rfl rfl ?_
      obtain ⟨hb, h⟩ := ifn h
      refine V_iald X hk_v3 (inb_in rfl hb) d_Nets_stepNearer_31 rfl ?_
      refine V_icmp_ge (tgt := 38) X d_Nets_stepNearer_32 (by decide) rfl (fun c2 => ?_) (fun c2 => ?_)
      · rw [if_pos c2] at h
        refine V_iinc (n := 5) (v := (s + (1 : Int32))) (lv' := [(4, .int (s + (1 : Int32))), (5, .int x1), (0, .ref (G.2.2 + v0)), (1, .int v1), (2, .int v2), (3, .ref (G.2.2 + v3))]) X d_Nets_stepNearer_38 rfl rfl (by decide) rfl rfl ?_
        refine V_goto (pc' := 3) X d_Nets_stepNearer_41 (by decide) ?_
        refine V_sub (lv' := [(0, .ref (G.2.2 + v0)), (1, .int v1), (2, .int v2), (3, .ref (G.2.2 + v3)), (4, .int (s + (1 : Int32)))]) [2, 3, 4, 5, 0] rfl ?_
        exact kc (s + (1 : Int32)) (Option.some.inj h).symm
      · rw [if_neg c2] at h
        refine V_sub (lv' := [(4, .int s)]) [5] rfl ?_
        exact kx1 s (Option.some.inj h).symm
theorem lp_Nets_stepNearer_3_ok {E : Ev} {G : Gw} {d : Nat} {post : Int32 → Mem → Prop} (X : Cx E G b_Nets_stepNearer "WomenByTheRoofs$Nets" 6 d (some .int)) (hD : 2 ≤ d)  (v0 : Nat) (v1 : Int32) (v2 : Int32) (v3 : Nat) (hk_v0 : kd v0 = 10 + 6) (hk_v3 : kd v3 = 1) (M : Mem) (n9 : Nat) (s : Int32) (x : (Unit) ⊕ (Int32)) (h : iter (lb_Nets_stepNearer_3 v0 v1 v2 v3 M) n9 s = some x) (kx0 : ∀ x9 : Unit, x = (Sum.inl x9) → V E (0, 0) G 6 (QI E G post) M 44 [] []) (kx1 : ∀ x9 : Int32, x = (Sum.inr x9) → V E (0, 0) G 6 (QI E G post) M 35 [(4, .int x9)] []) : V E (0, 0) G 6 (QI E G post) M 3 [(0, .ref (G.2.2 + v0)), (1, .int v1), (2, .int v2), (3, .ref (G.2.2 + v3)), (4, .int s)] [] :=
  iter_P (P := fun s : Int32 => V E (0, 0) G 6 (QI E G post) M 3 [(0, .ref (G.2.2 + v0)), (1, .int v1), (2, .int v2), (3, .ref (G.2.2 + v3)), (4, .int s)] []) (fun s o hb kc ky => lb_Nets_stepNearer_3_ok X hD v0 v1 v2 v3 hk_v0 hk_v3 M s o hb kc (fun x9 e9 => kx0 x9 (ky _ e9).symm) (fun x9 e9 => kx1 x9 (ky _ e9).symm)) n9 s h
def f_Nets_stepNearer (v0 : Nat) (v1 : Int32) (v2 : Int32) (v3 : Nat) (M : Mem) : Option (Int32) :=
  if kd v0 = 10 + 6 then
  if kd v3 = 1 then
  Option.bind (iter (lb_Nets_stepNearer_3 v0 v1 v2 v3 M) FU (0 : Int32)) (Sum.elim (fun y6 => some (-1 : Int32)) (fun y7 => some y7))
  else none
  else none
theorem c_Nets_stepNearer (l : Launch) (G : Gw)  (v0 : Nat) (v1 : Int32) (v2 : Int32) (v3 : Nat) (M : Mem) (x : Int32) (h : f_Nets_stepNearer v0 v1 v2 v3 M = some x) (d : Nat) (hD : 2 ≤ d) : Ci l G y_Nets_stepNearer b_Nets_stepNearer 6 (some .int) d [.ref (G.2.2 + v0), .int v1, .int v2, .ref (G.2.2 + v3)] M (fun r9 M9 => r9 = x ∧ M9 = M) := by
  refine Ci_of (by decide) (Nat.le_of_ble_eq_true rfl) (fun E hE X => ?_)
  subst hE
  have kr : ∀ x9 : Int32, x = x9 → (fun r9 M9 => r9 = x ∧ M9 = M) x9 M := fun x9 e9 => by subst e9; exact ⟨rfl, rfl⟩
  unfold f_Nets_stepNearer at h
  obtain ⟨hk_v0, h⟩ := ifn h
  obtain ⟨hk_v3, h⟩ := ifn h
  refine V_iconst (v := 0) X d_Nets_stepNearer_0 (by decide) rfl ?_
  refine V_istore (lv' := [(4, .int (0 : Int32)), (0, .ref (G.2.2 + v0)), (1, .int v1), (2, .int v2), (3, .ref (G.2.2 + v3))]) X d_Nets_stepNearer_1 (by decide) rfl rfl ?_
  refine V_sub (lv' := [(0, .ref (G.2.2 + v0)), (1, .int v1), (2, .int v2), (3, .ref (G.2.2 + v3)), (4, .int (0 : Int32))]) [1, 2, 3, 4, 0] rfl ?_
  obtain ⟨x5, hx5, h⟩ := ob_s h
  rcases x5 with y6 | y7
  · simp only [Sum.elim_inl, Sum.elim_inr] at h
    refine (lp_Nets_stepNearer_3_ok X hD v0 v1 v2 v3 hk_v0 hk_v3 M _ _ _ hx5 (fun x9 e9 => ?_) (fun x9 e9 => by cases e9) :)
    cases e9
    refine V_iconst (v := -1) X d_Nets_stepNearer_44 (by decide) rfl ?_
    exact V_iret X (kr (-1 : Int32) (Option.some.inj h).symm) d_Nets_stepNearer_45
  · simp only [Sum.elim_inl, Sum.elim_inr] at h
    refine (lp_Nets_stepNearer_3_ok X hD v0 v1 v2 v3 hk_v0 hk_v3 M _ _ _ hx5 (fun x9 e9 => by cases e9) (fun x9 e9 => ?_) :)
    cases e9
    refine V_iload (n := 0) X d_Nets_stepNearer_35 rfl rfl ?_
    exact V_iret X (kr y7 (Option.some.inj h).symm) d_Nets_stepNearer_37
def f_Nets_stairs (v0 : Nat) (M : Mem) : Option (Int64) :=
  if kd v0 = 10 + 6 then
  some ((M.2.1 (rf v0 0) (0 : Int32).toNatClampNeg) &&& (M.2.1 (rf v0 0) (1 : Int32).toNatClampNeg))
  else none
theorem c_Nets_stairs (l : Launch) (G : Gw)  (v0 : Nat) (M : Mem) (x : Int64) (h : f_Nets_stairs v0 M = some x) (d : Nat) (hD : 1 ≤ d) : Cl l G y_Nets_stairs b_Nets_stairs 1 (some .long) d [.ref (G.2.2 + v0)] M (fun r9 M9 => r9 = x ∧ M9 = M) := by
  refine Cl_of (by decide) (Nat.le_of_ble_eq_true rfl) (fun E hE X => ?_)
  subst hE
  have kr : ∀ x9 : Int64, x = x9 → (fun r9 M9 => r9 = x ∧ M9 = M) x9 M := fun x9 e9 => by subst e9; exact ⟨rfl, rfl⟩
  unfold f_Nets_stairs at h
  obtain ⟨hk_v0, h⟩ := ifn h
  refine V_aload_n (n := 0) X d_Nets_stairs_0 rfl rfl rfl ?_
  refine V_getr X fo_Nets_9 hk_v0 rfl rfl d_Nets_stairs_1 rfl ?_
  refine V_iconst (v := 0) X d_Nets_stairs_4 (by decide) rfl ?_
  refine V_lald X (kdNets_0 hk_v0) (inb_in (lnNets_0 hk_v0) (by decide)) d_Nets_stairs_5 rfl ?_
  refine V_aload_n (n := 0) X d_Nets_stairs_6 rfl rfl rfl ?_
  refine V_getr X fo_Nets_9 hk_v0 rfl rfl d_Nets_stairs_7 rfl ?_
  refine V_iconst (v := 1) X d_Nets_stairs_10 (by decide) rfl ?_
  refine V_lald X (kdNets_0 hk_v0) (inb_in (lnNets_0 hk_v0) (by decide)) d_Nets_stairs_11 rfl ?_
  refine V_land X d_Nets_stairs_12 rfl ?_
  exact V_lret X (kr ((M.2.1 (rf v0 0) (0 : Int32).toNatClampNeg) &&& (M.2.1 (rf v0 0) (1 : Int32).toNatClampNeg)) (Option.some.inj h).symm) d_Nets_stairs_13
