theorem d_Top_sign_0 : decode b_Top_sign 0 = .ok (.aload_n 0, 1) := kq_42 byq_r (by decide +kernel)
theorem d_Top_sign_1 : decode b_Top_sign 1 = .ok (.getfield 10, 3) := kq_180 byq_r (a := 0) (b := 10) (by decide +kernel)
theorem d_Top_sign_4 : decode b_Top_sign 4 = .ok (.iload_n 1, 1) := kq_27 byq_r (by decide +kernel)
theorem d_Top_sign_5 : decode b_Top_sign 5 = .ok (.invokevirtual 106, 3) := kq_182 byq_r (a := 0) (b := 106) (by decide +kernel)
theorem d_Top_sign_8 : decode b_Top_sign 8 = .ok (.ifCond .eq 13, 3) := kq_153 byq_r (a := 0) (b := 13) (by decide +kernel)
theorem d_Top_sign_11 : decode b_Top_sign 11 = .ok (.aload_n 0, 1) := kq_42 byq_r (by decide +kernel)
theorem d_Top_sign_12 : decode b_Top_sign 12 = .ok (.getfield 10, 3) := kq_180 byq_r (a := 0) (b := 10) (by decide +kernel)
theorem d_Top_sign_15 : decode b_Top_sign 15 = .ok (.getfield 110, 3) := kq_180 byq_r (a := 0) (b := 110) (by decide +kernel)
theorem d_Top_sign_18 : decode b_Top_sign 18 = .ok (.goto 4, 3) := kq_167 byq_r (a := 0) (b := 4) (by decide +kernel)
theorem d_Top_sign_21 : decode b_Top_sign 21 = .ok (.iconst (-1), 1) := kq_2 byq_r (by decide +kernel)
theorem d_Top_sign_22 : decode b_Top_sign 22 = .ok (.ireturn, 1) := kq_172 byq_r (by decide +kernel)
theorem d_Top_end_0 : decode b_Top_end 0 = .ok (.iload_n 1, 1) := kq_27 byq_r (by decide +kernel)
theorem d_Top_end_1 : decode b_Top_end 1 = .ok (.ifCond .lt 14, 3) := kq_155 byq_r (a := 0) (b := 14) (by decide +kernel)
theorem d_Top_end_4 : decode b_Top_end 4 = .ok (.iload_n 1, 1) := kq_27 byq_r (by decide +kernel)
theorem d_Top_end_5 : decode b_Top_end 5 = .ok (.aload_n 0, 1) := kq_42 byq_r (by decide +kernel)
theorem d_Top_end_6 : decode b_Top_end 6 = .ok (.getfield 10, 3) := kq_180 byq_r (a := 0) (b := 10) (by decide +kernel)
theorem d_Top_end_9 : decode b_Top_end 9 = .ok (.getfield 110, 3) := kq_180 byq_r (a := 0) (b := 110) (by decide +kernel)
theorem d_Top_end_12 : decode b_Top_end 12 = .ok (.if_icmp .le 5, 3) := kq_164 byq_r (a := 0) (b := 5) (by decide +kernel)
theorem d_Top_end_15 : decode b_Top_end 15 = .ok (.iconst 0, 1) := kq_3 byq_r (by decide +kernel)
theorem d_Top_end_16 : decode b_Top_end 16 = .ok (.ireturn, 1) := kq_172 byq_r (by decide +kernel)
theorem d_Top_end_17 : decode b_Top_end 17 = .ok (.aload_n 0, 1) := kq_42 byq_r (by decide +kernel)
theorem d_Top_end_18 : decode b_Top_end 18 = .ok (.getfield 10, 3) := kq_180 byq_r (a := 0) (b := 10) (by decide +kernel)
theorem d_Top_end_21 : decode b_Top_end 21 = .ok (.iload_n 1, 1) := kq_27 byq_r (by decide +kernel)
theorem d_Top_end_22 : decode b_Top_end 22 = .ok (.putfield 110, 3) := kq_181 byq_r (a := 0) (b := 110) (by decide +kernel)
theorem d_Top_end_25 : decode b_Top_end 25 = .ok (.iconst 1, 1) := kq_4 byq_r (by decide +kernel)
theorem d_Top_end_26 : decode b_Top_end 26 = .ok (.ireturn, 1) := kq_172 byq_r (by decide +kernel)
theorem d_Top_town_0 : decode b_Top_town 0 = .ok (.aload_n 0, 1) := kq_42 byq_r (by decide +kernel)
theorem d_Top_town_1 : decode b_Top_town 1 = .ok (.getfield 19, 3) := kq_180 byq_r (a := 0) (b := 19) (by decide +kernel)
theorem d_Top_town_4 : decode b_Top_town 4 = .ok (.aload_n 0, 1) := kq_42 byq_r (by decide +kernel)
theorem d_Top_town_5 : decode b_Top_town 5 = .ok (.getfield 10, 3) := kq_180 byq_r (a := 0) (b := 10) (by decide +kernel)
theorem d_Top_town_8 : decode b_Top_town 8 = .ok (.invokevirtual 113, 3) := kq_182 byq_r (a := 0) (b := 113) (by decide +kernel)
theorem d_Top_town_11 : decode b_Top_town 11 = .ok (.istore_n 1, 1) := kq_60 byq_r (by decide +kernel)
theorem d_Top_town_12 : decode b_Top_town 12 = .ok (.aload_n 0, 1) := kq_42 byq_r (by decide +kernel)
theorem d_Top_town_13 : decode b_Top_town 13 = .ok (.getfield 10, 3) := kq_180 byq_r (a := 0) (b := 10) (by decide +kernel)
theorem d_Top_town_16 : decode b_Top_town 16 = .ok (.iconst 0, 1) := kq_3 byq_r (by decide +kernel)
theorem d_Top_town_17 : decode b_Top_town 17 = .ok (.putfield 110, 3) := kq_181 byq_r (a := 0) (b := 110) (by decide +kernel)
theorem d_Top_town_20 : decode b_Top_town 20 = .ok (.iload_n 1, 1) := kq_27 byq_r (by decide +kernel)
theorem d_Top_town_21 : decode b_Top_town 21 = .ok (.ifCond .ge 5, 3) := kq_156 byq_r (a := 0) (b := 5) (by decide +kernel)
theorem d_Top_town_24 : decode b_Top_town 24 = .ok (.iload_n 1, 1) := kq_27 byq_r (by decide +kernel)
theorem d_Top_town_25 : decode b_Top_town 25 = .ok (.ireturn, 1) := kq_172 byq_r (by decide +kernel)
theorem d_Top_town_26 : decode b_Top_town 26 = .ok (.aload_n 0, 1) := kq_42 byq_r (by decide +kernel)
theorem d_Top_town_27 : decode b_Top_town 27 = .ok (.getfield 26, 3) := kq_180 byq_r (a := 0) (b := 26) (by decide +kernel)
theorem d_Top_town_30 : decode b_Top_town 30 = .ok (.invokevirtual 117, 3) := kq_182 byq_r (a := 0) (b := 117) (by decide +kernel)
theorem d_Top_town_33 : decode b_Top_town 33 = .ok (.aload_n 0, 1) := kq_42 byq_r (by decide +kernel)
theorem d_Top_town_34 : decode b_Top_town 34 = .ok (.getfield 33, 3) := kq_180 byq_r (a := 0) (b := 33) (by decide +kernel)
theorem d_Top_town_37 : decode b_Top_town 37 = .ok (.invokevirtual 120, 3) := kq_182 byq_r (a := 0) (b := 120) (by decide +kernel)
theorem d_Top_town_40 : decode b_Top_town 40 = .ok (.aload_n 0, 1) := kq_42 byq_r (by decide +kernel)
theorem d_Top_town_41 : decode b_Top_town 41 = .ok (.getfield 70, 3) := kq_180 byq_r (a := 0) (b := 70) (by decide +kernel)
theorem d_Top_town_44 : decode b_Top_town 44 = .ok (.invokevirtual 121, 3) := kq_182 byq_r (a := 0) (b := 121) (by decide +kernel)
theorem d_Top_town_47 : decode b_Top_town 47 = .ok (.aload_n 0, 1) := kq_42 byq_r (by decide +kernel)
theorem d_Top_town_48 : decode b_Top_town 48 = .ok (.iconst (-1), 1) := kq_2 byq_r (by decide +kernel)
theorem d_Top_town_49 : decode b_Top_town 49 = .ok (.putfield 103, 3) := kq_181 byq_r (a := 0) (b := 103) (by decide +kernel)
theorem d_Top_town_52 : decode b_Top_town 52 = .ok (.aload_n 0, 1) := kq_42 byq_r (by decide +kernel)
theorem d_Top_town_53 : decode b_Top_town 53 = .ok (.getfield 46, 3) := kq_180 byq_r (a := 0) (b := 46) (by decide +kernel)
theorem d_Top_town_56 : decode b_Top_town 56 = .ok (.aload_n 0, 1) := kq_42 byq_r (by decide +kernel)
theorem d_Top_town_57 : decode b_Top_town 57 = .ok (.getfield 19, 3) := kq_180 byq_r (a := 0) (b := 19) (by decide +kernel)
theorem d_Top_town_60 : decode b_Top_town 60 = .ok (.aload_n 0, 1) := kq_42 byq_r (by decide +kernel)
theorem d_Top_town_61 : decode b_Top_town 61 = .ok (.getfield 33, 3) := kq_180 byq_r (a := 0) (b := 33) (by decide +kernel)
theorem d_Top_town_64 : decode b_Top_town 64 = .ok (.iconst (-1), 1) := kq_2 byq_r (by decide +kernel)
theorem d_Top_town_65 : decode b_Top_town 65 = .ok (.invokevirtual 122, 3) := kq_182 byq_r (a := 0) (b := 122) (by decide +kernel)
theorem d_Top_town_68 : decode b_Top_town 68 = .ok (.iload_n 1, 1) := kq_27 byq_r (by decide +kernel)
theorem d_Top_town_69 : decode b_Top_town 69 = .ok (.ireturn, 1) := kq_172 byq_r (by decide +kernel)
theorem d_Top_folk_0 : decode b_Top_folk 0 = .ok (.aload_n 0, 1) := kq_42 byq_r (by decide +kernel)
theorem d_Top_folk_1 : decode b_Top_folk 1 = .ok (.getfield 26, 3) := kq_180 byq_r (a := 0) (b := 26) (by decide +kernel)
theorem d_Top_folk_4 : decode b_Top_folk 4 = .ok (.aload_n 0, 1) := kq_42 byq_r (by decide +kernel)
theorem d_Top_folk_5 : decode b_Top_folk 5 = .ok (.getfield 10, 3) := kq_180 byq_r (a := 0) (b := 10) (by decide +kernel)
theorem d_Top_folk_8 : decode b_Top_folk 8 = .ok (.aload_n 0, 1) := kq_42 byq_r (by decide +kernel)
theorem d_Top_folk_9 : decode b_Top_folk 9 = .ok (.getfield 19, 3) := kq_180 byq_r (a := 0) (b := 19) (by decide +kernel)
theorem d_Top_folk_12 : decode b_Top_folk 12 = .ok (.invokevirtual 126, 3) := kq_182 byq_r (a := 0) (b := 126) (by decide +kernel)
theorem d_Top_folk_15 : decode b_Top_folk 15 = .ok (.istore_n 1, 1) := kq_60 byq_r (by decide +kernel)
theorem d_Top_folk_16 : decode b_Top_folk 16 = .ok (.aload_n 0, 1) := kq_42 byq_r (by decide +kernel)
theorem d_Top_folk_17 : decode b_Top_folk 17 = .ok (.getfield 10, 3) := kq_180 byq_r (a := 0) (b := 10) (by decide +kernel)
theorem d_Top_folk_20 : decode b_Top_folk 20 = .ok (.iconst 0, 1) := kq_3 byq_r (by decide +kernel)
theorem d_Top_folk_21 : decode b_Top_folk 21 = .ok (.putfield 110, 3) := kq_181 byq_r (a := 0) (b := 110) (by decide +kernel)
theorem d_Top_folk_24 : decode b_Top_folk 24 = .ok (.iload_n 1, 1) := kq_27 byq_r (by decide +kernel)
theorem d_Top_folk_25 : decode b_Top_folk 25 = .ok (.ifCond .gt 5, 3) := kq_157 byq_r (a := 0) (b := 5) (by decide +kernel)
theorem d_Top_folk_28 : decode b_Top_folk 28 = .ok (.iload_n 1, 1) := kq_27 byq_r (by decide +kernel)
theorem d_Top_folk_29 : decode b_Top_folk 29 = .ok (.ireturn, 1) := kq_172 byq_r (by decide +kernel)
theorem d_Top_folk_30 : decode b_Top_folk 30 = .ok (.aload_n 0, 1) := kq_42 byq_r (by decide +kernel)
theorem d_Top_folk_31 : decode b_Top_folk 31 = .ok (.getfield 26, 3) := kq_180 byq_r (a := 0) (b := 26) (by decide +kernel)
theorem d_Top_folk_34 : decode b_Top_folk 34 = .ok (.getfield 129, 3) := kq_180 byq_r (a := 0) (b := 129) (by decide +kernel)
theorem d_Top_folk_37 : decode b_Top_folk 37 = .ok (.istore_n 2, 1) := kq_61 byq_r (by decide +kernel)
theorem d_Top_folk_38 : decode b_Top_folk 38 = .ok (.aload_n 0, 1) := kq_42 byq_r (by decide +kernel)
theorem d_Top_folk_39 : decode b_Top_folk 39 = .ok (.getfield 26, 3) := kq_180 byq_r (a := 0) (b := 26) (by decide +kernel)
theorem d_Top_folk_42 : decode b_Top_folk 42 = .ok (.iload_n 1, 1) := kq_27 byq_r (by decide +kernel)
theorem d_Top_folk_43 : decode b_Top_folk 43 = .ok (.invokevirtual 132, 3) := kq_182 byq_r (a := 0) (b := 132) (by decide +kernel)
theorem d_Top_folk_46 : decode b_Top_folk 46 = .ok (.iload_n 2, 1) := kq_28 byq_r (by decide +kernel)
theorem d_Top_folk_47 : decode b_Top_folk 47 = .ok (.istore_n 3, 1) := kq_62 byq_r (by decide +kernel)
theorem d_Top_folk_48 : decode b_Top_folk 48 = .ok (.iload_n 3, 1) := kq_29 byq_r (by decide +kernel)
theorem d_Top_folk_49 : decode b_Top_folk 49 = .ok (.aload_n 0, 1) := kq_42 byq_r (by decide +kernel)
theorem d_Top_folk_50 : decode b_Top_folk 50 = .ok (.getfield 26, 3) := kq_180 byq_r (a := 0) (b := 26) (by decide +kernel)
theorem d_Top_folk_53 : decode b_Top_folk 53 = .ok (.getfield 129, 3) := kq_180 byq_r (a := 0) (b := 129) (by decide +kernel)
theorem d_Top_folk_56 : decode b_Top_folk 56 = .ok (.if_icmp .ge 42, 3) := kq_162 byq_r (a := 0) (b := 42) (by decide +kernel)
theorem d_Top_folk_59 : decode b_Top_folk 59 = .ok (.aload_n 0, 1) := kq_42 byq_r (by decide +kernel)
theorem d_Top_folk_60 : decode b_Top_folk 60 = .ok (.getfield 33, 3) := kq_180 byq_r (a := 0) (b := 33) (by decide +kernel)
theorem d_Top_folk_63 : decode b_Top_folk 63 = .ok (.iload_n 3, 1) := kq_29 byq_r (by decide +kernel)
theorem d_Top_folk_64 : decode b_Top_folk 64 = .ok (.aload_n 0, 1) := kq_42 byq_r (by decide +kernel)
theorem d_Top_folk_65 : decode b_Top_folk 65 = .ok (.getfield 26, 3) := kq_180 byq_r (a := 0) (b := 26) (by decide +kernel)
theorem d_Top_folk_68 : decode b_Top_folk 68 = .ok (.getfield 136, 3) := kq_180 byq_r (a := 0) (b := 136) (by decide +kernel)
theorem d_Top_folk_71 : decode b_Top_folk 71 = .ok (.iload_n 3, 1) := kq_29 byq_r (by decide +kernel)
theorem d_Top_folk_72 : decode b_Top_folk 72 = .ok (.iaload, 1) := kq_46 byq_r (by decide +kernel)
theorem d_Top_folk_73 : decode b_Top_folk 73 = .ok (.aload_n 0, 1) := kq_42 byq_r (by decide +kernel)
theorem d_Top_folk_74 : decode b_Top_folk 74 = .ok (.getfield 26, 3) := kq_180 byq_r (a := 0) (b := 26) (by decide +kernel)
theorem d_Top_folk_77 : decode b_Top_folk 77 = .ok (.iload_n 3, 1) := kq_29 byq_r (by decide +kernel)
theorem d_Top_folk_78 : decode b_Top_folk 78 = .ok (.invokevirtual 139, 3) := kq_182 byq_r (a := 0) (b := 139) (by decide +kernel)
theorem d_Top_folk_81 : decode b_Top_folk 81 = .ok (.ifCond .eq 7, 3) := kq_153 byq_r (a := 0) (b := 7) (by decide +kernel)
theorem d_Top_folk_84 : decode b_Top_folk 84 = .ok (.iconst 1, 1) := kq_4 byq_r (by decide +kernel)
theorem d_Top_folk_85 : decode b_Top_folk 85 = .ok (.goto 4, 3) := kq_167 byq_r (a := 0) (b := 4) (by decide +kernel)
theorem d_Top_folk_88 : decode b_Top_folk 88 = .ok (.iconst 0, 1) := kq_3 byq_r (by decide +kernel)
theorem d_Top_folk_89 : decode b_Top_folk 89 = .ok (.invokevirtual 142, 3) := kq_182 byq_r (a := 0) (b := 142) (by decide +kernel)
theorem d_Top_folk_92 : decode b_Top_folk 92 = .ok (.iinc 3 1, 3) := kq_132 byq_r (b := 1) (by decide +kernel)
theorem d_Top_folk_95 : decode b_Top_folk 95 = .ok (.goto (-47), 3) := kq_167 byq_r (a := 255) (b := 209) (by decide +kernel)
theorem d_Top_folk_98 : decode b_Top_folk 98 = .ok (.aload_n 0, 1) := kq_42 byq_r (by decide +kernel)
theorem d_Top_folk_99 : decode b_Top_folk 99 = .ok (.getfield 70, 3) := kq_180 byq_r (a := 0) (b := 70) (by decide +kernel)
theorem d_Top_folk_102 : decode b_Top_folk 102 = .ok (.invokevirtual 146, 3) := kq_182 byq_r (a := 0) (b := 146) (by decide +kernel)
theorem d_Top_folk_105 : decode b_Top_folk 105 = .ok (.aload_n 0, 1) := kq_42 byq_r (by decide +kernel)
theorem d_Top_folk_106 : decode b_Top_folk 106 = .ok (.getfield 70, 3) := kq_180 byq_r (a := 0) (b := 70) (by decide +kernel)
theorem d_Top_folk_109 : decode b_Top_folk 109 = .ok (.invokevirtual 149, 3) := kq_182 byq_r (a := 0) (b := 149) (by decide +kernel)
theorem d_Top_folk_112 : decode b_Top_folk 112 = .ok (.iload_n 1, 1) := kq_27 byq_r (by decide +kernel)
theorem d_Top_folk_113 : decode b_Top_folk 113 = .ok (.ireturn, 1) := kq_172 byq_r (by decide +kernel)
theorem d_Top_rule_0 : decode b_Top_rule 0 = .ok (.aload_n 0, 1) := kq_42 byq_r (by decide +kernel)
theorem d_Top_rule_1 : decode b_Top_rule 1 = .ok (.getfield 56, 3) := kq_180 byq_r (a := 0) (b := 56) (by decide +kernel)
theorem d_Top_rule_4 : decode b_Top_rule 4 = .ok (.aload_n 0, 1) := kq_42 byq_r (by decide +kernel)
theorem d_Top_rule_5 : decode b_Top_rule 5 = .ok (.getfield 10, 3) := kq_180 byq_r (a := 0) (b := 10) (by decide +kernel)
theorem d_Top_rule_8 : decode b_Top_rule 8 = .ok (.invokevirtual 152, 3) := kq_182 byq_r (a := 0) (b := 152) (by decide +kernel)
theorem d_Top_rule_11 : decode b_Top_rule 11 = .ok (.istore_n 1, 1) := kq_60 byq_r (by decide +kernel)
theorem d_Top_rule_12 : decode b_Top_rule 12 = .ok (.aload_n 0, 1) := kq_42 byq_r (by decide +kernel)
theorem d_Top_rule_13 : decode b_Top_rule 13 = .ok (.getfield 10, 3) := kq_180 byq_r (a := 0) (b := 10) (by decide +kernel)
theorem d_Top_rule_16 : decode b_Top_rule 16 = .ok (.iconst 0, 1) := kq_3 byq_r (by decide +kernel)
theorem d_Top_rule_17 : decode b_Top_rule 17 = .ok (.putfield 110, 3) := kq_181 byq_r (a := 0) (b := 110) (by decide +kernel)
theorem d_Top_rule_20 : decode b_Top_rule 20 = .ok (.iload_n 1, 1) := kq_27 byq_r (by decide +kernel)
theorem d_Top_rule_21 : decode b_Top_rule 21 = .ok (.ireturn, 1) := kq_172 byq_r (by decide +kernel)
theorem d_Top_route_0 : decode b_Top_route 0 = .ok (.aload_n 0, 1) := kq_42 byq_r (by decide +kernel)
theorem d_Top_route_1 : decode b_Top_route 1 = .ok (.getfield 26, 3) := kq_180 byq_r (a := 0) (b := 26) (by decide +kernel)
theorem d_Top_route_4 : decode b_Top_route 4 = .ok (.iload_n 1, 1) := kq_27 byq_r (by decide +kernel)
theorem d_Top_route_5 : decode b_Top_route 5 = .ok (.invokevirtual 153, 3) := kq_182 byq_r (a := 0) (b := 153) (by decide +kernel)
theorem d_Top_route_8 : decode b_Top_route 8 = .ok (.ifCond .eq 18, 3) := kq_153 byq_r (a := 0) (b := 18) (by decide +kernel)
theorem d_Top_route_11 : decode b_Top_route 11 = .ok (.aload_n 0, 1) := kq_42 byq_r (by decide +kernel)
theorem d_Top_route_12 : decode b_Top_route 12 = .ok (.getfield 26, 3) := kq_180 byq_r (a := 0) (b := 26) (by decide +kernel)
theorem d_Top_route_15 : decode b_Top_route 15 = .ok (.iload_n 1, 1) := kq_27 byq_r (by decide +kernel)
theorem d_Top_route_16 : decode b_Top_route 16 = .ok (.aload_n 0, 1) := kq_42 byq_r (by decide +kernel)
theorem d_Top_route_17 : decode b_Top_route 17 = .ok (.getfield 10, 3) := kq_180 byq_r (a := 0) (b := 10) (by decide +kernel)
theorem d_Top_route_20 : decode b_Top_route 20 = .ok (.invokevirtual 156, 3) := kq_182 byq_r (a := 0) (b := 156) (by decide +kernel)
theorem d_Top_route_23 : decode b_Top_route 23 = .ok (.goto 5, 3) := kq_167 byq_r (a := 0) (b := 5) (by decide +kernel)
theorem d_Top_route_26 : decode b_Top_route 26 = .ok (.bipush (-100), 2) := kq_16 byq_r (b := 156) (by decide +kernel)
theorem d_Top_route_28 : decode b_Top_route 28 = .ok (.istore_n 2, 1) := kq_61 byq_r (by decide +kernel)
theorem d_Top_route_29 : decode b_Top_route 29 = .ok (.aload_n 0, 1) := kq_42 byq_r (by decide +kernel)
theorem d_Top_route_30 : decode b_Top_route 30 = .ok (.getfield 10, 3) := kq_180 byq_r (a := 0) (b := 10) (by decide +kernel)
theorem d_Top_route_33 : decode b_Top_route 33 = .ok (.iconst 0, 1) := kq_3 byq_r (by decide +kernel)
theorem d_Top_route_34 : decode b_Top_route 34 = .ok (.putfield 110, 3) := kq_181 byq_r (a := 0) (b := 110) (by decide +kernel)
theorem d_Top_route_37 : decode b_Top_route 37 = .ok (.iload_n 2, 1) := kq_28 byq_r (by decide +kernel)
theorem d_Top_route_38 : decode b_Top_route 38 = .ok (.ifCond .ge 5, 3) := kq_156 byq_r (a := 0) (b := 5) (by decide +kernel)
theorem d_Top_route_41 : decode b_Top_route 41 = .ok (.iload_n 2, 1) := kq_28 byq_r (by decide +kernel)
theorem d_Top_route_42 : decode b_Top_route 42 = .ok (.ireturn, 1) := kq_172 byq_r (by decide +kernel)
theorem d_Top_route_43 : decode b_Top_route 43 = .ok (.aload_n 0, 1) := kq_42 byq_r (by decide +kernel)
theorem d_Top_route_44 : decode b_Top_route 44 = .ok (.getfield 33, 3) := kq_180 byq_r (a := 0) (b := 33) (by decide +kernel)
theorem d_Top_route_47 : decode b_Top_route 47 = .ok (.getfield 160, 3) := kq_180 byq_r (a := 0) (b := 160) (by decide +kernel)
theorem d_Top_route_50 : decode b_Top_route 50 = .ok (.iload_n 1, 1) := kq_27 byq_r (by decide +kernel)
theorem d_Top_route_51 : decode b_Top_route 51 = .ok (.iconst 0, 1) := kq_3 byq_r (by decide +kernel)
theorem d_Top_route_52 : decode b_Top_route 52 = .ok (.iastore, 1) := kq_79 byq_r (by decide +kernel)
theorem d_Top_route_53 : decode b_Top_route 53 = .ok (.aload_n 0, 1) := kq_42 byq_r (by decide +kernel)
theorem d_Top_route_54 : decode b_Top_route 54 = .ok (.getfield 70, 3) := kq_180 byq_r (a := 0) (b := 70) (by decide +kernel)
theorem d_Top_route_57 : decode b_Top_route 57 = .ok (.invokevirtual 146, 3) := kq_182 byq_r (a := 0) (b := 146) (by decide +kernel)
theorem d_Top_route_60 : decode b_Top_route 60 = .ok (.aload_n 0, 1) := kq_42 byq_r (by decide +kernel)
theorem d_Top_route_61 : decode b_Top_route 61 = .ok (.getfield 70, 3) := kq_180 byq_r (a := 0) (b := 70) (by decide +kernel)
theorem d_Top_route_64 : decode b_Top_route 64 = .ok (.invokevirtual 149, 3) := kq_182 byq_r (a := 0) (b := 149) (by decide +kernel)
theorem d_Top_route_67 : decode b_Top_route 67 = .ok (.iload_n 2, 1) := kq_28 byq_r (by decide +kernel)
theorem d_Top_route_68 : decode b_Top_route 68 = .ok (.ireturn, 1) := kq_172 byq_r (by decide +kernel)
theorem d_Top_canBecome_0 : decode b_Top_canBecome 0 = .ok (.iconst 0, 1) := kq_3 byq_r (by decide +kernel)
theorem d_Top_canBecome_1 : decode b_Top_canBecome 1 = .ok (.istore_n 3, 1) := kq_62 byq_r (by decide +kernel)
theorem d_Top_canBecome_2 : decode b_Top_canBecome 2 = .ok (.iload_n 3, 1) := kq_29 byq_r (by decide +kernel)
theorem d_Top_canBecome_3 : decode b_Top_canBecome 3 = .ok (.iconst 1, 1) := kq_4 byq_r (by decide +kernel)
theorem d_Top_canBecome_4 : decode b_Top_canBecome 4 = .ok (.if_icmp .gt 50, 3) := kq_163 byq_r (a := 0) (b := 50) (by decide +kernel)
theorem d_Top_canBecome_7 : decode b_Top_canBecome 7 = .ok (.iload_n 2, 1) := kq_28 byq_r (by decide +kernel)
theorem d_Top_canBecome_8 : decode b_Top_canBecome 8 = .ok (.iload_n 3, 1) := kq_29 byq_r (by decide +kernel)
theorem d_Top_canBecome_9 : decode b_Top_canBecome 9 = .ok (.ishr, 1) := kq_122 byq_r (by decide +kernel)
theorem d_Top_canBecome_10 : decode b_Top_canBecome 10 = .ok (.iconst 1, 1) := kq_4 byq_r (by decide +kernel)
theorem d_Top_canBecome_11 : decode b_Top_canBecome 11 = .ok (.iand, 1) := kq_126 byq_r (by decide +kernel)
theorem d_Top_canBecome_12 : decode b_Top_canBecome 12 = .ok (.ifCond .ne 7, 3) := kq_154 byq_r (a := 0) (b := 7) (by decide +kernel)
theorem d_Top_canBecome_15 : decode b_Top_canBecome 15 = .ok (.iconst 1, 1) := kq_4 byq_r (by decide +kernel)
theorem d_Top_canBecome_16 : decode b_Top_canBecome 16 = .ok (.goto 4, 3) := kq_167 byq_r (a := 0) (b := 4) (by decide +kernel)
theorem d_Top_canBecome_19 : decode b_Top_canBecome 19 = .ok (.iconst 0, 1) := kq_3 byq_r (by decide +kernel)
theorem d_Top_canBecome_20 : decode b_Top_canBecome 20 = .ok (.istore 4, 2) := kq_54 byq_r (by decide +kernel)
theorem d_Top_canBecome_22 : decode b_Top_canBecome 22 = .ok (.iload 4, 2) := kq_21 byq_r (by decide +kernel)
theorem d_Top_canBecome_24 : decode b_Top_canBecome 24 = .ok (.ifCond .eq 24, 3) := kq_153 byq_r (a := 0) (b := 24) (by decide +kernel)
theorem d_Top_canBecome_27 : decode b_Top_canBecome 27 = .ok (.aload_n 0, 1) := kq_42 byq_r (by decide +kernel)
theorem d_Top_canBecome_28 : decode b_Top_canBecome 28 = .ok (.getfield 33, 3) := kq_180 byq_r (a := 0) (b := 33) (by decide +kernel)
theorem d_Top_canBecome_31 : decode b_Top_canBecome 31 = .ok (.iload_n 3, 1) := kq_29 byq_r (by decide +kernel)
theorem d_Top_canBecome_32 : decode b_Top_canBecome 32 = .ok (.iload_n 1, 1) := kq_27 byq_r (by decide +kernel)
theorem d_Top_canBecome_33 : decode b_Top_canBecome 33 = .ok (.aload_n 0, 1) := kq_42 byq_r (by decide +kernel)
theorem d_Top_canBecome_34 : decode b_Top_canBecome 34 = .ok (.getfield 26, 3) := kq_180 byq_r (a := 0) (b := 26) (by decide +kernel)
theorem d_Top_canBecome_37 : decode b_Top_canBecome 37 = .ok (.getfield 129, 3) := kq_180 byq_r (a := 0) (b := 129) (by decide +kernel)
theorem d_Top_canBecome_40 : decode b_Top_canBecome 40 = .ok (.invokevirtual 170, 3) := kq_182 byq_r (a := 0) (b := 170) (by decide +kernel)
theorem d_Top_canBecome_43 : decode b_Top_canBecome 43 = .ok (.ifCond .eq 5, 3) := kq_153 byq_r (a := 0) (b := 5) (by decide +kernel)
theorem d_Top_canBecome_46 : decode b_Top_canBecome 46 = .ok (.iconst 0, 1) := kq_3 byq_r (by decide +kernel)
theorem d_Top_canBecome_47 : decode b_Top_canBecome 47 = .ok (.ireturn, 1) := kq_172 byq_r (by decide +kernel)
theorem d_Top_canBecome_48 : decode b_Top_canBecome 48 = .ok (.iinc 3 1, 3) := kq_132 byq_r (b := 1) (by decide +kernel)
theorem d_Top_canBecome_51 : decode b_Top_canBecome 51 = .ok (.goto (-49), 3) := kq_167 byq_r (a := 255) (b := 207) (by decide +kernel)
theorem d_Top_canBecome_54 : decode b_Top_canBecome 54 = .ok (.iload_n 2, 1) := kq_28 byq_r (by decide +kernel)
theorem d_Top_canBecome_55 : decode b_Top_canBecome 55 = .ok (.iconst 1, 1) := kq_4 byq_r (by decide +kernel)
theorem d_Top_canBecome_56 : decode b_Top_canBecome 56 = .ok (.ishr, 1) := kq_122 byq_r (by decide +kernel)
theorem d_Top_canBecome_57 : decode b_Top_canBecome 57 = .ok (.iconst 1, 1) := kq_4 byq_r (by decide +kernel)
theorem d_Top_canBecome_58 : decode b_Top_canBecome 58 = .ok (.iand, 1) := kq_126 byq_r (by decide +kernel)
theorem d_Top_canBecome_59 : decode b_Top_canBecome 59 = .ok (.ifCond .eq 7, 3) := kq_153 byq_r (a := 0) (b := 7) (by decide +kernel)
theorem d_Top_canBecome_62 : decode b_Top_canBecome 62 = .ok (.iconst 1, 1) := kq_4 byq_r (by decide +kernel)
theorem d_Top_canBecome_63 : decode b_Top_canBecome 63 = .ok (.goto 4, 3) := kq_167 byq_r (a := 0) (b := 4) (by decide +kernel)
theorem d_Top_canBecome_66 : decode b_Top_canBecome 66 = .ok (.iconst 0, 1) := kq_3 byq_r (by decide +kernel)
theorem d_Top_canBecome_67 : decode b_Top_canBecome 67 = .ok (.istore_n 3, 1) := kq_62 byq_r (by decide +kernel)
theorem d_Top_canBecome_68 : decode b_Top_canBecome 68 = .ok (.iload_n 3, 1) := kq_29 byq_r (by decide +kernel)
theorem d_Top_canBecome_69 : decode b_Top_canBecome 69 = .ok (.ifCond .eq 26, 3) := kq_153 byq_r (a := 0) (b := 26) (by decide +kernel)
theorem d_Top_canBecome_72 : decode b_Top_canBecome 72 = .ok (.aload_n 0, 1) := kq_42 byq_r (by decide +kernel)
theorem d_Top_canBecome_73 : decode b_Top_canBecome 73 = .ok (.getfield 33, 3) := kq_180 byq_r (a := 0) (b := 33) (by decide +kernel)
theorem d_Top_canBecome_76 : decode b_Top_canBecome 76 = .ok (.aload_n 0, 1) := kq_42 byq_r (by decide +kernel)
theorem d_Top_canBecome_77 : decode b_Top_canBecome 77 = .ok (.getfield 19, 3) := kq_180 byq_r (a := 0) (b := 19) (by decide +kernel)
theorem d_Top_canBecome_80 : decode b_Top_canBecome 80 = .ok (.iload_n 1, 1) := kq_27 byq_r (by decide +kernel)
theorem d_Top_canBecome_81 : decode b_Top_canBecome 81 = .ok (.invokevirtual 457, 3) := kq_182 byq_r (a := 1) (b := 201) (by decide +kernel)
theorem d_Top_canBecome_84 : decode b_Top_canBecome 84 = .ok (.ifCond .ne 7, 3) := kq_154 byq_r (a := 0) (b := 7) (by decide +kernel)
theorem d_Top_canBecome_87 : decode b_Top_canBecome 87 = .ok (.iconst 1, 1) := kq_4 byq_r (by decide +kernel)
theorem d_Top_canBecome_88 : decode b_Top_canBecome 88 = .ok (.goto 23, 3) := kq_167 byq_r (a := 0) (b := 23) (by decide +kernel)
theorem d_Top_canBecome_91 : decode b_Top_canBecome 91 = .ok (.iconst 0, 1) := kq_3 byq_r (by decide +kernel)
theorem d_Top_canBecome_92 : decode b_Top_canBecome 92 = .ok (.goto 19, 3) := kq_167 byq_r (a := 0) (b := 19) (by decide +kernel)
theorem d_Top_canBecome_95 : decode b_Top_canBecome 95 = .ok (.aload_n 0, 1) := kq_42 byq_r (by decide +kernel)
theorem d_Top_canBecome_96 : decode b_Top_canBecome 96 = .ok (.getfield 33, 3) := kq_180 byq_r (a := 0) (b := 33) (by decide +kernel)
theorem d_Top_canBecome_99 : decode b_Top_canBecome 99 = .ok (.iload_n 1, 1) := kq_27 byq_r (by decide +kernel)
theorem d_Top_canBecome_100 : decode b_Top_canBecome 100 = .ok (.invokevirtual 174, 3) := kq_182 byq_r (a := 0) (b := 174) (by decide +kernel)
theorem d_Top_canBecome_103 : decode b_Top_canBecome 103 = .ok (.ifCond .ne 7, 3) := kq_154 byq_r (a := 0) (b := 7) (by decide +kernel)
theorem d_Top_canBecome_106 : decode b_Top_canBecome 106 = .ok (.iconst 1, 1) := kq_4 byq_r (by decide +kernel)
theorem d_Top_canBecome_107 : decode b_Top_canBecome 107 = .ok (.goto 4, 3) := kq_167 byq_r (a := 0) (b := 4) (by decide +kernel)
theorem d_Top_canBecome_110 : decode b_Top_canBecome 110 = .ok (.iconst 0, 1) := kq_3 byq_r (by decide +kernel)
theorem d_Top_canBecome_111 : decode b_Top_canBecome 111 = .ok (.ireturn, 1) := kq_172 byq_r (by decide +kernel)
theorem d_Top_build_0 : decode b_Top_build 0 = .ok (.aload_n 0, 1) := kq_42 byq_r (by decide +kernel)
theorem d_Top_build_1 : decode b_Top_build 1 = .ok (.getfield 19, 3) := kq_180 byq_r (a := 0) (b := 19) (by decide +kernel)
theorem d_Top_build_4 : decode b_Top_build 4 = .ok (.iload_n 1, 1) := kq_27 byq_r (by decide +kernel)
theorem d_Top_build_5 : decode b_Top_build 5 = .ok (.invokevirtual 163, 3) := kq_182 byq_r (a := 0) (b := 163) (by decide +kernel)
theorem d_Top_build_8 : decode b_Top_build 8 = .ok (.ifCond .eq 21, 3) := kq_153 byq_r (a := 0) (b := 21) (by decide +kernel)
theorem d_Top_build_11 : decode b_Top_build 11 = .ok (.iload_n 2, 1) := kq_28 byq_r (by decide +kernel)
theorem d_Top_build_12 : decode b_Top_build 12 = .ok (.ifCond .lt 17, 3) := kq_155 byq_r (a := 0) (b := 17) (by decide +kernel)
theorem d_Top_build_15 : decode b_Top_build 15 = .ok (.iload_n 2, 1) := kq_28 byq_r (by decide +kernel)
theorem d_Top_build_16 : decode b_Top_build 16 = .ok (.iconst 3, 1) := kq_6 byq_r (by decide +kernel)
theorem d_Top_build_17 : decode b_Top_build 17 = .ok (.if_icmp .gt 12, 3) := kq_163 byq_r (a := 0) (b := 12) (by decide +kernel)
theorem d_Top_build_20 : decode b_Top_build 20 = .ok (.aload_n 0, 1) := kq_42 byq_r (by decide +kernel)
theorem d_Top_build_21 : decode b_Top_build 21 = .ok (.iload_n 1, 1) := kq_27 byq_r (by decide +kernel)
theorem d_Top_build_22 : decode b_Top_build 22 = .ok (.iload_n 2, 1) := kq_28 byq_r (by decide +kernel)
theorem d_Top_build_23 : decode b_Top_build 23 = .ok (.invokevirtual 207, 3) := kq_182 byq_r (a := 0) (b := 207) (by decide +kernel)
theorem d_Top_build_26 : decode b_Top_build 26 = .ok (.ifCond .ne 5, 3) := kq_154 byq_r (a := 0) (b := 5) (by decide +kernel)
theorem d_Top_build_29 : decode b_Top_build 29 = .ok (.iconst (-1), 1) := kq_2 byq_r (by decide +kernel)
theorem d_Top_build_30 : decode b_Top_build 30 = .ok (.ireturn, 1) := kq_172 byq_r (by decide +kernel)
theorem d_Top_build_31 : decode b_Top_build 31 = .ok (.aload_n 0, 1) := kq_42 byq_r (by decide +kernel)
theorem d_Top_build_32 : decode b_Top_build 32 = .ok (.getfield 19, 3) := kq_180 byq_r (a := 0) (b := 19) (by decide +kernel)
theorem d_Top_build_35 : decode b_Top_build 35 = .ok (.getfield 167, 3) := kq_180 byq_r (a := 0) (b := 167) (by decide +kernel)
theorem d_Top_build_38 : decode b_Top_build 38 = .ok (.iload_n 1, 1) := kq_27 byq_r (by decide +kernel)
theorem d_Top_build_39 : decode b_Top_build 39 = .ok (.iaload, 1) := kq_46 byq_r (by decide +kernel)
theorem d_Top_build_40 : decode b_Top_build 40 = .ok (.istore_n 3, 1) := kq_62 byq_r (by decide +kernel)
theorem d_Top_build_41 : decode b_Top_build 41 = .ok (.aload_n 0, 1) := kq_42 byq_r (by decide +kernel)
theorem d_Top_build_42 : decode b_Top_build 42 = .ok (.getfield 19, 3) := kq_180 byq_r (a := 0) (b := 19) (by decide +kernel)
theorem d_Top_build_45 : decode b_Top_build 45 = .ok (.getfield 167, 3) := kq_180 byq_r (a := 0) (b := 167) (by decide +kernel)
theorem d_Top_build_48 : decode b_Top_build 48 = .ok (.iload_n 1, 1) := kq_27 byq_r (by decide +kernel)
theorem d_Top_build_49 : decode b_Top_build 49 = .ok (.iload_n 2, 1) := kq_28 byq_r (by decide +kernel)
theorem d_Top_build_50 : decode b_Top_build 50 = .ok (.iastore, 1) := kq_79 byq_r (by decide +kernel)
theorem d_Top_build_51 : decode b_Top_build 51 = .ok (.aload_n 0, 1) := kq_42 byq_r (by decide +kernel)
theorem d_Top_build_52 : decode b_Top_build 52 = .ok (.getfield 70, 3) := kq_180 byq_r (a := 0) (b := 70) (by decide +kernel)
theorem d_Top_build_55 : decode b_Top_build 55 = .ok (.invokevirtual 146, 3) := kq_182 byq_r (a := 0) (b := 146) (by decide +kernel)
theorem d_Top_build_58 : decode b_Top_build 58 = .ok (.aload_n 0, 1) := kq_42 byq_r (by decide +kernel)
theorem d_Top_build_59 : decode b_Top_build 59 = .ok (.getfield 70, 3) := kq_180 byq_r (a := 0) (b := 70) (by decide +kernel)
theorem d_Top_build_62 : decode b_Top_build 62 = .ok (.invokevirtual 149, 3) := kq_182 byq_r (a := 0) (b := 149) (by decide +kernel)
theorem d_Top_build_65 : decode b_Top_build 65 = .ok (.aload_n 0, 1) := kq_42 byq_r (by decide +kernel)
theorem d_Top_build_66 : decode b_Top_build 66 = .ok (.getfield 46, 3) := kq_180 byq_r (a := 0) (b := 46) (by decide +kernel)
theorem d_Top_build_69 : decode b_Top_build 69 = .ok (.aload_n 0, 1) := kq_42 byq_r (by decide +kernel)
theorem d_Top_build_70 : decode b_Top_build 70 = .ok (.getfield 19, 3) := kq_180 byq_r (a := 0) (b := 19) (by decide +kernel)
theorem d_Top_build_73 : decode b_Top_build 73 = .ok (.aload_n 0, 1) := kq_42 byq_r (by decide +kernel)
theorem d_Top_build_74 : decode b_Top_build 74 = .ok (.getfield 33, 3) := kq_180 byq_r (a := 0) (b := 33) (by decide +kernel)
theorem d_Top_build_77 : decode b_Top_build 77 = .ok (.iconst (-1), 1) := kq_2 byq_r (by decide +kernel)
theorem d_Top_build_78 : decode b_Top_build 78 = .ok (.invokevirtual 122, 3) := kq_182 byq_r (a := 0) (b := 122) (by decide +kernel)
theorem d_Top_build_81 : decode b_Top_build 81 = .ok (.iload_n 3, 1) := kq_29 byq_r (by decide +kernel)
theorem d_Top_build_82 : decode b_Top_build 82 = .ok (.ireturn, 1) := kq_172 byq_r (by decide +kernel)
theorem d_Top_lay_0 : decode b_Top_lay 0 = .ok (.aload_n 0, 1) := kq_42 byq_r (by decide +kernel)
theorem d_Top_lay_1 : decode b_Top_lay 1 = .ok (.getfield 19, 3) := kq_180 byq_r (a := 0) (b := 19) (by decide +kernel)
theorem d_Top_lay_4 : decode b_Top_lay 4 = .ok (.iload_n 1, 1) := kq_27 byq_r (by decide +kernel)
theorem d_Top_lay_5 : decode b_Top_lay 5 = .ok (.invokevirtual 163, 3) := kq_182 byq_r (a := 0) (b := 163) (by decide +kernel)
theorem d_Top_lay_8 : decode b_Top_lay 8 = .ok (.ifCond .eq 14, 3) := kq_153 byq_r (a := 0) (b := 14) (by decide +kernel)
theorem d_Top_lay_11 : decode b_Top_lay 11 = .ok (.aload_n 0, 1) := kq_42 byq_r (by decide +kernel)
theorem d_Top_lay_12 : decode b_Top_lay 12 = .ok (.getfield 19, 3) := kq_180 byq_r (a := 0) (b := 19) (by decide +kernel)
theorem d_Top_lay_15 : decode b_Top_lay 15 = .ok (.iload_n 2, 1) := kq_28 byq_r (by decide +kernel)
theorem d_Top_lay_16 : decode b_Top_lay 16 = .ok (.invokevirtual 163, 3) := kq_182 byq_r (a := 0) (b := 163) (by decide +kernel)
theorem d_Top_lay_19 : decode b_Top_lay 19 = .ok (.ifCond .ne 5, 3) := kq_154 byq_r (a := 0) (b := 5) (by decide +kernel)
theorem d_Top_lay_22 : decode b_Top_lay 22 = .ok (.iconst (-1), 1) := kq_2 byq_r (by decide +kernel)
theorem d_Top_lay_23 : decode b_Top_lay 23 = .ok (.ireturn, 1) := kq_172 byq_r (by decide +kernel)
theorem d_Top_lay_24 : decode b_Top_lay 24 = .ok (.aload_n 0, 1) := kq_42 byq_r (by decide +kernel)
theorem d_Top_lay_25 : decode b_Top_lay 25 = .ok (.getfield 19, 3) := kq_180 byq_r (a := 0) (b := 19) (by decide +kernel)
theorem d_Top_lay_28 : decode b_Top_lay 28 = .ok (.iload_n 1, 1) := kq_27 byq_r (by decide +kernel)
theorem d_Top_lay_29 : decode b_Top_lay 29 = .ok (.iload_n 2, 1) := kq_28 byq_r (by decide +kernel)
theorem d_Top_lay_30 : decode b_Top_lay 30 = .ok (.invokevirtual 461, 3) := kq_182 byq_r (a := 1) (b := 205) (by decide +kernel)
theorem d_Top_lay_33 : decode b_Top_lay 33 = .ok (.istore_n 3, 1) := kq_62 byq_r (by decide +kernel)
theorem d_Top_lay_34 : decode b_Top_lay 34 = .ok (.iload_n 3, 1) := kq_29 byq_r (by decide +kernel)
theorem d_Top_lay_35 : decode b_Top_lay 35 = .ok (.iconst (-1), 1) := kq_2 byq_r (by decide +kernel)
theorem d_Top_lay_36 : decode b_Top_lay 36 = .ok (.if_icmp .eq 39, 3) := kq_159 byq_r (a := 0) (b := 39) (by decide +kernel)
theorem d_Top_lay_39 : decode b_Top_lay 39 = .ok (.aload_n 0, 1) := kq_42 byq_r (by decide +kernel)
theorem d_Top_lay_40 : decode b_Top_lay 40 = .ok (.getfield 19, 3) := kq_180 byq_r (a := 0) (b := 19) (by decide +kernel)
theorem d_Top_lay_43 : decode b_Top_lay 43 = .ok (.iconst 1, 1) := kq_4 byq_r (by decide +kernel)
theorem d_Top_lay_44 : decode b_Top_lay 44 = .ok (.iload_n 1, 1) := kq_27 byq_r (by decide +kernel)
theorem d_Top_lay_45 : decode b_Top_lay 45 = .ok (.invokevirtual 305, 3) := kq_182 byq_r (a := 1) (b := 49) (by decide +kernel)
theorem d_Top_lay_48 : decode b_Top_lay 48 = .ok (.ifCond .eq 27, 3) := kq_153 byq_r (a := 0) (b := 27) (by decide +kernel)
theorem d_Top_lay_51 : decode b_Top_lay 51 = .ok (.aload_n 0, 1) := kq_42 byq_r (by decide +kernel)
theorem d_Top_lay_52 : decode b_Top_lay 52 = .ok (.getfield 19, 3) := kq_180 byq_r (a := 0) (b := 19) (by decide +kernel)
theorem d_Top_lay_55 : decode b_Top_lay 55 = .ok (.iconst 1, 1) := kq_4 byq_r (by decide +kernel)
theorem d_Top_lay_56 : decode b_Top_lay 56 = .ok (.iload_n 2, 1) := kq_28 byq_r (by decide +kernel)
theorem d_Top_lay_57 : decode b_Top_lay 57 = .ok (.invokevirtual 305, 3) := kq_182 byq_r (a := 1) (b := 49) (by decide +kernel)
theorem d_Top_lay_60 : decode b_Top_lay 60 = .ok (.ifCond .eq 15, 3) := kq_153 byq_r (a := 0) (b := 15) (by decide +kernel)
theorem d_Top_lay_63 : decode b_Top_lay 63 = .ok (.aload_n 0, 1) := kq_42 byq_r (by decide +kernel)
theorem d_Top_lay_64 : decode b_Top_lay 64 = .ok (.getfield 19, 3) := kq_180 byq_r (a := 0) (b := 19) (by decide +kernel)
theorem d_Top_lay_67 : decode b_Top_lay 67 = .ok (.iconst 1, 1) := kq_4 byq_r (by decide +kernel)
theorem d_Top_lay_68 : decode b_Top_lay 68 = .ok (.iload_n 3, 1) := kq_29 byq_r (by decide +kernel)
theorem d_Top_lay_69 : decode b_Top_lay 69 = .ok (.invokevirtual 305, 3) := kq_182 byq_r (a := 1) (b := 49) (by decide +kernel)
theorem d_Top_lay_72 : decode b_Top_lay 72 = .ok (.ifCond .eq 6, 3) := kq_153 byq_r (a := 0) (b := 6) (by decide +kernel)
theorem d_Top_lay_75 : decode b_Top_lay 75 = .ok (.bipush (-2), 2) := kq_16 byq_r (b := 254) (by decide +kernel)
theorem d_Top_lay_77 : decode b_Top_lay 77 = .ok (.ireturn, 1) := kq_172 byq_r (by decide +kernel)
theorem d_Top_lay_78 : decode b_Top_lay 78 = .ok (.aload_n 0, 1) := kq_42 byq_r (by decide +kernel)
theorem d_Top_lay_79 : decode b_Top_lay 79 = .ok (.getfield 33, 3) := kq_180 byq_r (a := 0) (b := 33) (by decide +kernel)
theorem d_Top_lay_82 : decode b_Top_lay 82 = .ok (.iload_n 1, 1) := kq_27 byq_r (by decide +kernel)
theorem d_Top_lay_83 : decode b_Top_lay 83 = .ok (.iload_n 2, 1) := kq_28 byq_r (by decide +kernel)
theorem d_Top_lay_84 : decode b_Top_lay 84 = .ok (.invokevirtual 464, 3) := kq_182 byq_r (a := 1) (b := 208) (by decide +kernel)
theorem d_Top_lay_87 : decode b_Top_lay 87 = .ok (.ifCond .eq 6, 3) := kq_153 byq_r (a := 0) (b := 6) (by decide +kernel)
theorem d_Top_lay_90 : decode b_Top_lay 90 = .ok (.bipush (-3), 2) := kq_16 byq_r (b := 253) (by decide +kernel)
theorem d_Top_lay_92 : decode b_Top_lay 92 = .ok (.ireturn, 1) := kq_172 byq_r (by decide +kernel)
theorem d_Top_lay_93 : decode b_Top_lay 93 = .ok (.aload_n 0, 1) := kq_42 byq_r (by decide +kernel)
theorem d_Top_lay_94 : decode b_Top_lay 94 = .ok (.getfield 33, 3) := kq_180 byq_r (a := 0) (b := 33) (by decide +kernel)
theorem d_Top_lay_97 : decode b_Top_lay 97 = .ok (.iload_n 1, 1) := kq_27 byq_r (by decide +kernel)
theorem d_Top_lay_98 : decode b_Top_lay 98 = .ok (.iload_n 2, 1) := kq_28 byq_r (by decide +kernel)
theorem d_Top_lay_99 : decode b_Top_lay 99 = .ok (.invokevirtual 467, 3) := kq_182 byq_r (a := 1) (b := 211) (by decide +kernel)
theorem d_Top_lay_102 : decode b_Top_lay 102 = .ok (.ifCond .ne 6, 3) := kq_154 byq_r (a := 0) (b := 6) (by decide +kernel)
theorem d_Top_lay_105 : decode b_Top_lay 105 = .ok (.bipush (-4), 2) := kq_16 byq_r (b := 252) (by decide +kernel)
theorem d_Top_lay_107 : decode b_Top_lay 107 = .ok (.ireturn, 1) := kq_172 byq_r (by decide +kernel)
theorem d_Top_lay_108 : decode b_Top_lay 108 = .ok (.aload_n 0, 1) := kq_42 byq_r (by decide +kernel)
theorem d_Top_lay_109 : decode b_Top_lay 109 = .ok (.getfield 46, 3) := kq_180 byq_r (a := 0) (b := 46) (by decide +kernel)
theorem d_Top_lay_112 : decode b_Top_lay 112 = .ok (.aload_n 0, 1) := kq_42 byq_r (by decide +kernel)
theorem d_Top_lay_113 : decode b_Top_lay 113 = .ok (.getfield 19, 3) := kq_180 byq_r (a := 0) (b := 19) (by decide +kernel)
theorem d_Top_lay_116 : decode b_Top_lay 116 = .ok (.aload_n 0, 1) := kq_42 byq_r (by decide +kernel)
theorem d_Top_lay_117 : decode b_Top_lay 117 = .ok (.getfield 33, 3) := kq_180 byq_r (a := 0) (b := 33) (by decide +kernel)
theorem d_Top_lay_120 : decode b_Top_lay 120 = .ok (.iconst (-1), 1) := kq_2 byq_r (by decide +kernel)
theorem d_Top_lay_121 : decode b_Top_lay 121 = .ok (.invokevirtual 122, 3) := kq_182 byq_r (a := 0) (b := 122) (by decide +kernel)
theorem d_Top_lay_124 : decode b_Top_lay 124 = .ok (.aload_n 0, 1) := kq_42 byq_r (by decide +kernel)
theorem d_Top_lay_125 : decode b_Top_lay 125 = .ok (.getfield 33, 3) := kq_180 byq_r (a := 0) (b := 33) (by decide +kernel)
theorem d_Top_lay_128 : decode b_Top_lay 128 = .ok (.getfield 224, 3) := kq_180 byq_r (a := 0) (b := 224) (by decide +kernel)
theorem d_Top_lay_131 : decode b_Top_lay 131 = .ok (.iconst 1, 1) := kq_4 byq_r (by decide +kernel)
theorem d_Top_lay_132 : decode b_Top_lay 132 = .ok (.isub, 1) := kq_100 byq_r (by decide +kernel)
theorem d_Top_lay_133 : decode b_Top_lay 133 = .ok (.ireturn, 1) := kq_172 byq_r (by decide +kernel)
theorem d_Top_plank_0 : decode b_Top_plank 0 = .ok (.aload_n 0, 1) := kq_42 byq_r (by decide +kernel)
theorem d_Top_plank_1 : decode b_Top_plank 1 = .ok (.getfield 37, 3) := kq_180 byq_r (a := 0) (b := 37) (by decide +kernel)
theorem d_Top_plank_4 : decode b_Top_plank 4 = .ok (.aload_n 0, 1) := kq_42 byq_r (by decide +kernel)
theorem d_Top_plank_5 : decode b_Top_plank 5 = .ok (.getfield 33, 3) := kq_180 byq_r (a := 0) (b := 33) (by decide +kernel)
theorem d_Top_plank_8 : decode b_Top_plank 8 = .ok (.invokevirtual 211, 3) := kq_182 byq_r (a := 0) (b := 211) (by decide +kernel)
theorem d_Top_plank_11 : decode b_Top_plank 11 = .ok (.aload_n 0, 1) := kq_42 byq_r (by decide +kernel)
theorem d_Top_plank_12 : decode b_Top_plank 12 = .ok (.iload_n 1, 1) := kq_27 byq_r (by decide +kernel)
theorem d_Top_plank_13 : decode b_Top_plank 13 = .ok (.iload_n 2, 1) := kq_28 byq_r (by decide +kernel)
theorem d_Top_plank_14 : decode b_Top_plank 14 = .ok (.invokevirtual 215, 3) := kq_182 byq_r (a := 0) (b := 215) (by decide +kernel)
theorem d_Top_plank_17 : decode b_Top_plank 17 = .ok (.istore_n 3, 1) := kq_62 byq_r (by decide +kernel)
theorem d_Top_plank_18 : decode b_Top_plank 18 = .ok (.iload_n 3, 1) := kq_29 byq_r (by decide +kernel)
theorem d_Top_plank_19 : decode b_Top_plank 19 = .ok (.ifCond .lt 14, 3) := kq_155 byq_r (a := 0) (b := 14) (by decide +kernel)
theorem d_Top_plank_22 : decode b_Top_plank 22 = .ok (.aload_n 0, 1) := kq_42 byq_r (by decide +kernel)
theorem d_Top_plank_23 : decode b_Top_plank 23 = .ok (.getfield 70, 3) := kq_180 byq_r (a := 0) (b := 70) (by decide +kernel)
theorem d_Top_plank_26 : decode b_Top_plank 26 = .ok (.aload_n 0, 1) := kq_42 byq_r (by decide +kernel)
theorem d_Top_plank_27 : decode b_Top_plank 27 = .ok (.getfield 37, 3) := kq_180 byq_r (a := 0) (b := 37) (by decide +kernel)
theorem d_Top_plank_30 : decode b_Top_plank 30 = .ok (.invokevirtual 218, 3) := kq_182 byq_r (a := 0) (b := 218) (by decide +kernel)
theorem d_Top_plank_33 : decode b_Top_plank 33 = .ok (.iload_n 3, 1) := kq_29 byq_r (by decide +kernel)
theorem d_Top_plank_34 : decode b_Top_plank 34 = .ok (.ireturn, 1) := kq_172 byq_r (by decide +kernel)
theorem d_Top_lift_0 : decode b_Top_lift 0 = .ok (.aload_n 0, 1) := kq_42 byq_r (by decide +kernel)
theorem d_Top_lift_1 : decode b_Top_lift 1 = .ok (.getfield 33, 3) := kq_180 byq_r (a := 0) (b := 33) (by decide +kernel)
theorem d_Top_lift_4 : decode b_Top_lift 4 = .ok (.getfield 224, 3) := kq_180 byq_r (a := 0) (b := 224) (by decide +kernel)
theorem d_Top_lift_7 : decode b_Top_lift 7 = .ok (.ifCond .gt 5, 3) := kq_157 byq_r (a := 0) (b := 5) (by decide +kernel)
theorem d_Top_lift_10 : decode b_Top_lift 10 = .ok (.iconst 0, 1) := kq_3 byq_r (by decide +kernel)
theorem d_Top_lift_11 : decode b_Top_lift 11 = .ok (.ireturn, 1) := kq_172 byq_r (by decide +kernel)
theorem d_Top_lift_12 : decode b_Top_lift 12 = .ok (.aload_n 0, 1) := kq_42 byq_r (by decide +kernel)
theorem d_Top_lift_13 : decode b_Top_lift 13 = .ok (.getfield 33, 3) := kq_180 byq_r (a := 0) (b := 33) (by decide +kernel)
theorem d_Top_lift_16 : decode b_Top_lift 16 = .ok (.dup, 1) := kq_89 byq_r (by decide +kernel)
theorem d_Top_lift_17 : decode b_Top_lift 17 = .ok (.getfield 224, 3) := kq_180 byq_r (a := 0) (b := 224) (by decide +kernel)
theorem d_Top_lift_20 : decode b_Top_lift 20 = .ok (.iconst 1, 1) := kq_4 byq_r (by decide +kernel)
theorem d_Top_lift_21 : decode b_Top_lift 21 = .ok (.isub, 1) := kq_100 byq_r (by decide +kernel)
theorem d_Top_lift_22 : decode b_Top_lift 22 = .ok (.putfield 224, 3) := kq_181 byq_r (a := 0) (b := 224) (by decide +kernel)
theorem d_Top_lift_25 : decode b_Top_lift 25 = .ok (.aload_n 0, 1) := kq_42 byq_r (by decide +kernel)
theorem d_Top_lift_26 : decode b_Top_lift 26 = .ok (.getfield 46, 3) := kq_180 byq_r (a := 0) (b := 46) (by decide +kernel)
theorem d_Top_lift_29 : decode b_Top_lift 29 = .ok (.aload_n 0, 1) := kq_42 byq_r (by decide +kernel)
theorem d_Top_lift_30 : decode b_Top_lift 30 = .ok (.getfield 19, 3) := kq_180 byq_r (a := 0) (b := 19) (by decide +kernel)
theorem d_Top_lift_33 : decode b_Top_lift 33 = .ok (.aload_n 0, 1) := kq_42 byq_r (by decide +kernel)
theorem d_Top_lift_34 : decode b_Top_lift 34 = .ok (.getfield 33, 3) := kq_180 byq_r (a := 0) (b := 33) (by decide +kernel)
theorem d_Top_lift_37 : decode b_Top_lift 37 = .ok (.iconst (-1), 1) := kq_2 byq_r (by decide +kernel)
theorem d_Top_lift_38 : decode b_Top_lift 38 = .ok (.invokevirtual 122, 3) := kq_182 byq_r (a := 0) (b := 122) (by decide +kernel)
theorem d_Top_lift_41 : decode b_Top_lift 41 = .ok (.iconst 1, 1) := kq_4 byq_r (by decide +kernel)
theorem d_Top_lift_42 : decode b_Top_lift 42 = .ok (.ireturn, 1) := kq_172 byq_r (by decide +kernel)
theorem d_Top_take_0 : decode b_Top_take 0 = .ok (.aload_n 0, 1) := kq_42 byq_r (by decide +kernel)
theorem d_Top_take_1 : decode b_Top_take 1 = .ok (.getfield 37, 3) := kq_180 byq_r (a := 0) (b := 37) (by decide +kernel)
theorem d_Top_take_4 : decode b_Top_take 4 = .ok (.aload_n 0, 1) := kq_42 byq_r (by decide +kernel)
theorem d_Top_take_5 : decode b_Top_take 5 = .ok (.getfield 33, 3) := kq_180 byq_r (a := 0) (b := 33) (by decide +kernel)
theorem d_Top_take_8 : decode b_Top_take 8 = .ok (.invokevirtual 211, 3) := kq_182 byq_r (a := 0) (b := 211) (by decide +kernel)
theorem d_Top_take_11 : decode b_Top_take 11 = .ok (.aload_n 0, 1) := kq_42 byq_r (by decide +kernel)
theorem d_Top_take_12 : decode b_Top_take 12 = .ok (.invokevirtual 220, 3) := kq_182 byq_r (a := 0) (b := 220) (by decide +kernel)
theorem d_Top_take_15 : decode b_Top_take 15 = .ok (.ifCond .ne 5, 3) := kq_154 byq_r (a := 0) (b := 5) (by decide +kernel)
theorem d_Top_take_18 : decode b_Top_take 18 = .ok (.iconst (-1), 1) := kq_2 byq_r (by decide +kernel)
theorem d_Top_take_19 : decode b_Top_take 19 = .ok (.ireturn, 1) := kq_172 byq_r (by decide +kernel)
theorem d_Top_take_20 : decode b_Top_take 20 = .ok (.aload_n 0, 1) := kq_42 byq_r (by decide +kernel)
theorem d_Top_take_21 : decode b_Top_take 21 = .ok (.getfield 70, 3) := kq_180 byq_r (a := 0) (b := 70) (by decide +kernel)
theorem d_Top_take_24 : decode b_Top_take 24 = .ok (.aload_n 0, 1) := kq_42 byq_r (by decide +kernel)
theorem d_Top_take_25 : decode b_Top_take 25 = .ok (.getfield 37, 3) := kq_180 byq_r (a := 0) (b := 37) (by decide +kernel)
theorem d_Top_take_28 : decode b_Top_take 28 = .ok (.invokevirtual 218, 3) := kq_182 byq_r (a := 0) (b := 218) (by decide +kernel)
theorem d_Top_take_31 : decode b_Top_take 31 = .ok (.aload_n 0, 1) := kq_42 byq_r (by decide +kernel)
theorem d_Top_take_32 : decode b_Top_take 32 = .ok (.getfield 33, 3) := kq_180 byq_r (a := 0) (b := 33) (by decide +kernel)
theorem d_Top_take_35 : decode b_Top_take 35 = .ok (.getfield 224, 3) := kq_180 byq_r (a := 0) (b := 224) (by decide +kernel)
theorem d_Top_take_38 : decode b_Top_take 38 = .ok (.ireturn, 1) := kq_172 byq_r (by decide +kernel)
theorem d_Top_narrow_0 : decode b_Top_narrow 0 = .ok (.iload_n 0, 1) := kq_26 byq_r (by decide +kernel)
theorem d_Top_narrow_1 : decode b_Top_narrow 1 = .ok (.ifCond .ne 6, 3) := kq_154 byq_r (a := 0) (b := 6) (by decide +kernel)
theorem d_Top_narrow_4 : decode b_Top_narrow 4 = .ok (.iload_n 1, 1) := kq_27 byq_r (by decide +kernel)
theorem d_Top_narrow_5 : decode b_Top_narrow 5 = .ok (.i2b, 1) := kq_145 byq_r (by decide +kernel)
theorem d_Top_narrow_6 : decode b_Top_narrow 6 = .ok (.ireturn, 1) := kq_172 byq_r (by decide +kernel)
theorem d_Top_narrow_7 : decode b_Top_narrow 7 = .ok (.iload_n 0, 1) := kq_26 byq_r (by decide +kernel)
theorem d_Top_narrow_8 : decode b_Top_narrow 8 = .ok (.iconst 1, 1) := kq_4 byq_r (by decide +kernel)
theorem d_Top_narrow_9 : decode b_Top_narrow 9 = .ok (.if_icmp .ne 8, 3) := kq_160 byq_r (a := 0) (b := 8) (by decide +kernel)
theorem d_Top_narrow_12 : decode b_Top_narrow 12 = .ok (.iload_n 1, 1) := kq_27 byq_r (by decide +kernel)
theorem d_Top_narrow_13 : decode b_Top_narrow 13 = .ok (.i2s, 1) := kq_147 byq_r (by decide +kernel)
theorem d_Top_narrow_14 : decode b_Top_narrow 14 = .ok (.goto 4, 3) := kq_167 byq_r (a := 0) (b := 4) (by decide +kernel)
theorem d_Top_narrow_17 : decode b_Top_narrow 17 = .ok (.iload_n 1, 1) := kq_27 byq_r (by decide +kernel)
theorem d_Top_narrow_18 : decode b_Top_narrow 18 = .ok (.ireturn, 1) := kq_172 byq_r (by decide +kernel)
theorem d_Top_sheet_0 : decode b_Top_sheet 0 = .ok (.iload_n 1, 1) := kq_27 byq_r (by decide +kernel)
theorem d_Top_sheet_1 : decode b_Top_sheet 1 = .ok (.ifCond .lt 14, 3) := kq_155 byq_r (a := 0) (b := 14) (by decide +kernel)
theorem d_Top_sheet_4 : decode b_Top_sheet 4 = .ok (.iload_n 1, 1) := kq_27 byq_r (by decide +kernel)
theorem d_Top_sheet_5 : decode b_Top_sheet 5 = .ok (.iconst 3, 1) := kq_6 byq_r (by decide +kernel)
theorem d_Top_sheet_6 : decode b_Top_sheet 6 = .ok (.if_icmp .gt 9, 3) := kq_163 byq_r (a := 0) (b := 9) (by decide +kernel)
theorem d_Top_sheet_9 : decode b_Top_sheet 9 = .ok (.iload_n 2, 1) := kq_28 byq_r (by decide +kernel)
theorem d_Top_sheet_10 : decode b_Top_sheet 10 = .ok (.bipush 8, 2) := kq_16 byq_r (b := 8) (by decide +kernel)
theorem d_Top_sheet_12 : decode b_Top_sheet 12 = .ok (.if_icmp .le 5, 3) := kq_164 byq_r (a := 0) (b := 5) (by decide +kernel)
theorem d_Top_sheet_15 : decode b_Top_sheet 15 = .ok (.iconst (-1), 1) := kq_2 byq_r (by decide +kernel)
theorem d_Top_sheet_16 : decode b_Top_sheet 16 = .ok (.ireturn, 1) := kq_172 byq_r (by decide +kernel)
theorem d_Top_sheet_17 : decode b_Top_sheet 17 = .ok (.iload_n 1, 1) := kq_27 byq_r (by decide +kernel)
theorem d_Top_sheet_18 : decode b_Top_sheet 18 = .ok (.iconst 3, 1) := kq_6 byq_r (by decide +kernel)
theorem d_Top_sheet_19 : decode b_Top_sheet 19 = .ok (.if_icmp .eq 10, 3) := kq_159 byq_r (a := 0) (b := 10) (by decide +kernel)
theorem d_Top_sheet_22 : decode b_Top_sheet 22 = .ok (.iload_n 2, 1) := kq_28 byq_r (by decide +kernel)
theorem d_Top_sheet_23 : decode b_Top_sheet 23 = .ok (.ifCond .ge 6, 3) := kq_156 byq_r (a := 0) (b := 6) (by decide +kernel)
theorem d_Top_sheet_26 : decode b_Top_sheet 26 = .ok (.bipush (-2), 2) := kq_16 byq_r (b := 254) (by decide +kernel)
theorem d_Top_sheet_28 : decode b_Top_sheet 28 = .ok (.ireturn, 1) := kq_172 byq_r (by decide +kernel)
theorem d_Top_sheet_29 : decode b_Top_sheet 29 = .ok (.iconst 0, 1) := kq_3 byq_r (by decide +kernel)
theorem d_Top_sheet_30 : decode b_Top_sheet 30 = .ok (.istore 5, 2) := kq_54 byq_r (by decide +kernel)
theorem d_Top_sheet_32 : decode b_Top_sheet 32 = .ok (.iconst 0, 1) := kq_3 byq_r (by decide +kernel)
theorem d_Top_sheet_33 : decode b_Top_sheet 33 = .ok (.istore 6, 2) := kq_54 byq_r (by decide +kernel)
theorem d_Top_sheet_35 : decode b_Top_sheet 35 = .ok (.iload 6, 2) := kq_21 byq_r (by decide +kernel)
theorem d_Top_sheet_37 : decode b_Top_sheet 37 = .ok (.bipush 8, 2) := kq_16 byq_r (b := 8) (by decide +kernel)
theorem d_Top_sheet_39 : decode b_Top_sheet 39 = .ok (.if_icmp .ge 64, 3) := kq_162 byq_r (a := 0) (b := 64) (by decide +kernel)
theorem d_Top_sheet_42 : decode b_Top_sheet 42 = .ok (.iconst 0, 1) := kq_3 byq_r (by decide +kernel)
theorem d_Top_sheet_43 : decode b_Top_sheet 43 = .ok (.istore 7, 2) := kq_54 byq_r (by decide +kernel)
theorem d_Top_sheet_45 : decode b_Top_sheet 45 = .ok (.iload_n 1, 1) := kq_27 byq_r (by decide +kernel)
theorem d_Top_sheet_46 : decode b_Top_sheet 46 = .ok (.iconst 3, 1) := kq_6 byq_r (by decide +kernel)
theorem d_Top_sheet_47 : decode b_Top_sheet 47 = .ok (.if_icmp .eq 31, 3) := kq_159 byq_r (a := 0) (b := 31) (by decide +kernel)
theorem d_Top_sheet_50 : decode b_Top_sheet 50 = .ok (.iload 6, 2) := kq_21 byq_r (by decide +kernel)
theorem d_Top_sheet_52 : decode b_Top_sheet 52 = .ok (.iload_n 2, 1) := kq_28 byq_r (by decide +kernel)
theorem d_Top_sheet_53 : decode b_Top_sheet 53 = .ok (.if_icmp .ge 25, 3) := kq_162 byq_r (a := 0) (b := 25) (by decide +kernel)
theorem d_Top_sheet_56 : decode b_Top_sheet 56 = .ok (.aload_n 0, 1) := kq_42 byq_r (by decide +kernel)
theorem d_Top_sheet_57 : decode b_Top_sheet 57 = .ok (.getfield 26, 3) := kq_180 byq_r (a := 0) (b := 26) (by decide +kernel)
theorem d_Top_sheet_60 : decode b_Top_sheet 60 = .ok (.iload 6, 2) := kq_21 byq_r (by decide +kernel)
theorem d_Top_sheet_62 : decode b_Top_sheet 62 = .ok (.iload_n 1, 1) := kq_27 byq_r (by decide +kernel)
theorem d_Top_sheet_63 : decode b_Top_sheet 63 = .ok (.iload_n 3, 1) := kq_29 byq_r (by decide +kernel)
theorem d_Top_sheet_64 : decode b_Top_sheet 64 = .ok (.iload 6, 2) := kq_21 byq_r (by decide +kernel)
theorem d_Top_sheet_66 : decode b_Top_sheet 66 = .ok (.iload 4, 2) := kq_21 byq_r (by decide +kernel)
theorem d_Top_sheet_68 : decode b_Top_sheet 68 = .ok (.imul, 1) := kq_104 byq_r (by decide +kernel)
theorem d_Top_sheet_69 : decode b_Top_sheet 69 = .ok (.iadd, 1) := kq_96 byq_r (by decide +kernel)
theorem d_Top_sheet_70 : decode b_Top_sheet 70 = .ok (.invokestatic 227, 3) := kq_184 byq_r (a := 0) (b := 227) (by decide +kernel)
theorem d_Top_sheet_73 : decode b_Top_sheet 73 = .ok (.invokevirtual 230, 3) := kq_182 byq_r (a := 0) (b := 230) (by decide +kernel)
theorem d_Top_sheet_76 : decode b_Top_sheet 76 = .ok (.istore 7, 2) := kq_54 byq_r (by decide +kernel)
theorem d_Top_sheet_78 : decode b_Top_sheet 78 = .ok (.aload_n 0, 1) := kq_42 byq_r (by decide +kernel)
theorem d_Top_sheet_79 : decode b_Top_sheet 79 = .ok (.getfield 33, 3) := kq_180 byq_r (a := 0) (b := 33) (by decide +kernel)
theorem d_Top_sheet_82 : decode b_Top_sheet 82 = .ok (.getfield 160, 3) := kq_180 byq_r (a := 0) (b := 160) (by decide +kernel)
theorem d_Top_sheet_85 : decode b_Top_sheet 85 = .ok (.iload 6, 2) := kq_21 byq_r (by decide +kernel)
theorem d_Top_sheet_87 : decode b_Top_sheet 87 = .ok (.iload 7, 2) := kq_21 byq_r (by decide +kernel)
theorem d_Top_sheet_89 : decode b_Top_sheet 89 = .ok (.iastore, 1) := kq_79 byq_r (by decide +kernel)
theorem d_Top_sheet_90 : decode b_Top_sheet 90 = .ok (.iload 5, 2) := kq_21 byq_r (by decide +kernel)
theorem d_Top_sheet_92 : decode b_Top_sheet 92 = .ok (.iload 7, 2) := kq_21 byq_r (by decide +kernel)
theorem d_Top_sheet_94 : decode b_Top_sheet 94 = .ok (.iadd, 1) := kq_96 byq_r (by decide +kernel)
theorem d_Top_sheet_95 : decode b_Top_sheet 95 = .ok (.istore 5, 2) := kq_54 byq_r (by decide +kernel)
theorem d_Top_sheet_97 : decode b_Top_sheet 97 = .ok (.iinc 6 1, 3) := kq_132 byq_r (b := 1) (by decide +kernel)
theorem d_Top_sheet_100 : decode b_Top_sheet 100 = .ok (.goto (-65), 3) := kq_167 byq_r (a := 255) (b := 191) (by decide +kernel)
theorem d_Top_sheet_103 : decode b_Top_sheet 103 = .ok (.iload_n 1, 1) := kq_27 byq_r (by decide +kernel)
theorem d_Top_sheet_104 : decode b_Top_sheet 104 = .ok (.iconst 3, 1) := kq_6 byq_r (by decide +kernel)
theorem d_Top_sheet_105 : decode b_Top_sheet 105 = .ok (.if_icmp .ne 8, 3) := kq_160 byq_r (a := 0) (b := 8) (by decide +kernel)
theorem d_Top_sheet_108 : decode b_Top_sheet 108 = .ok (.bipush (-3), 2) := kq_16 byq_r (b := 253) (by decide +kernel)
theorem d_Top_sheet_110 : decode b_Top_sheet 110 = .ok (.goto 5, 3) := kq_167 byq_r (a := 0) (b := 5) (by decide +kernel)
theorem d_Top_sheet_113 : decode b_Top_sheet 113 = .ok (.iload 5, 2) := kq_21 byq_r (by decide +kernel)
theorem d_Top_sheet_115 : decode b_Top_sheet 115 = .ok (.ireturn, 1) := kq_172 byq_r (by decide +kernel)
theorem d_Top_give_0 : decode b_Top_give 0 = .ok (.aload_n 0, 1) := kq_42 byq_r (by decide +kernel)
theorem d_Top_give_1 : decode b_Top_give 1 = .ok (.getfield 26, 3) := kq_180 byq_r (a := 0) (b := 26) (by decide +kernel)
theorem d_Top_give_4 : decode b_Top_give 4 = .ok (.iload_n 1, 1) := kq_27 byq_r (by decide +kernel)
theorem d_Top_give_5 : decode b_Top_give 5 = .ok (.invokevirtual 153, 3) := kq_182 byq_r (a := 0) (b := 153) (by decide +kernel)
theorem d_Top_give_8 : decode b_Top_give 8 = .ok (.ifCond .eq 17, 3) := kq_153 byq_r (a := 0) (b := 17) (by decide +kernel)
theorem d_Top_give_11 : decode b_Top_give 11 = .ok (.aload_n 0, 1) := kq_42 byq_r (by decide +kernel)
theorem d_Top_give_12 : decode b_Top_give 12 = .ok (.getfield 33, 3) := kq_180 byq_r (a := 0) (b := 33) (by decide +kernel)
theorem d_Top_give_15 : decode b_Top_give 15 = .ok (.getfield 197, 3) := kq_180 byq_r (a := 0) (b := 197) (by decide +kernel)
theorem d_Top_give_18 : decode b_Top_give 18 = .ok (.iload_n 1, 1) := kq_27 byq_r (by decide +kernel)
theorem d_Top_give_19 : decode b_Top_give 19 = .ok (.ishr, 1) := kq_122 byq_r (by decide +kernel)
theorem d_Top_give_20 : decode b_Top_give 20 = .ok (.iconst 1, 1) := kq_4 byq_r (by decide +kernel)
theorem d_Top_give_21 : decode b_Top_give 21 = .ok (.iand, 1) := kq_126 byq_r (by decide +kernel)
theorem d_Top_give_22 : decode b_Top_give 22 = .ok (.ifCond .eq 5, 3) := kq_153 byq_r (a := 0) (b := 5) (by decide +kernel)
theorem d_Top_give_25 : decode b_Top_give 25 = .ok (.iconst 0, 1) := kq_3 byq_r (by decide +kernel)
theorem d_Top_give_26 : decode b_Top_give 26 = .ok (.ireturn, 1) := kq_172 byq_r (by decide +kernel)
theorem d_Top_give_27 : decode b_Top_give 27 = .ok (.aload_n 0, 1) := kq_42 byq_r (by decide +kernel)
theorem d_Top_give_28 : decode b_Top_give 28 = .ok (.getfield 33, 3) := kq_180 byq_r (a := 0) (b := 33) (by decide +kernel)
theorem d_Top_give_31 : decode b_Top_give 31 = .ok (.dup, 1) := kq_89 byq_r (by decide +kernel)
theorem d_Top_give_32 : decode b_Top_give 32 = .ok (.getfield 197, 3) := kq_180 byq_r (a := 0) (b := 197) (by decide +kernel)
theorem d_Top_give_35 : decode b_Top_give 35 = .ok (.iconst 1, 1) := kq_4 byq_r (by decide +kernel)
theorem d_Top_give_36 : decode b_Top_give 36 = .ok (.iload_n 1, 1) := kq_27 byq_r (by decide +kernel)
theorem d_Top_give_37 : decode b_Top_give 37 = .ok (.ishl, 1) := kq_120 byq_r (by decide +kernel)
theorem d_Top_give_38 : decode b_Top_give 38 = .ok (.ior, 1) := kq_128 byq_r (by decide +kernel)
theorem d_Top_give_39 : decode b_Top_give 39 = .ok (.putfield 197, 3) := kq_181 byq_r (a := 0) (b := 197) (by decide +kernel)
theorem d_Top_give_42 : decode b_Top_give 42 = .ok (.iconst 1, 1) := kq_4 byq_r (by decide +kernel)
theorem d_Top_give_43 : decode b_Top_give 43 = .ok (.ireturn, 1) := kq_172 byq_r (by decide +kernel)
theorem d_Top_tell_0 : decode b_Top_tell 0 = .ok (.aload_n 0, 1) := kq_42 byq_r (by decide +kernel)
theorem d_Top_tell_1 : decode b_Top_tell 1 = .ok (.getfield 37, 3) := kq_180 byq_r (a := 0) (b := 37) (by decide +kernel)
theorem d_Top_tell_4 : decode b_Top_tell 4 = .ok (.aload_n 0, 1) := kq_42 byq_r (by decide +kernel)
theorem d_Top_tell_5 : decode b_Top_tell 5 = .ok (.getfield 33, 3) := kq_180 byq_r (a := 0) (b := 33) (by decide +kernel)
theorem d_Top_tell_8 : decode b_Top_tell 8 = .ok (.invokevirtual 211, 3) := kq_182 byq_r (a := 0) (b := 211) (by decide +kernel)
theorem d_Top_tell_11 : decode b_Top_tell 11 = .ok (.aload_n 0, 1) := kq_42 byq_r (by decide +kernel)
theorem d_Top_tell_12 : decode b_Top_tell 12 = .ok (.iload_n 1, 1) := kq_27 byq_r (by decide +kernel)
theorem d_Top_tell_13 : decode b_Top_tell 13 = .ok (.invokevirtual 233, 3) := kq_182 byq_r (a := 0) (b := 233) (by decide +kernel)
theorem d_Top_tell_16 : decode b_Top_tell 16 = .ok (.ifCond .ne 5, 3) := kq_154 byq_r (a := 0) (b := 5) (by decide +kernel)
theorem d_Top_tell_19 : decode b_Top_tell 19 = .ok (.iconst (-1), 1) := kq_2 byq_r (by decide +kernel)
theorem d_Top_tell_20 : decode b_Top_tell 20 = .ok (.ireturn, 1) := kq_172 byq_r (by decide +kernel)
theorem d_Top_tell_21 : decode b_Top_tell 21 = .ok (.aload_n 0, 1) := kq_42 byq_r (by decide +kernel)
theorem d_Top_tell_22 : decode b_Top_tell 22 = .ok (.getfield 70, 3) := kq_180 byq_r (a := 0) (b := 70) (by decide +kernel)
theorem d_Top_tell_25 : decode b_Top_tell 25 = .ok (.aload_n 0, 1) := kq_42 byq_r (by decide +kernel)
theorem d_Top_tell_26 : decode b_Top_tell 26 = .ok (.getfield 37, 3) := kq_180 byq_r (a := 0) (b := 37) (by decide +kernel)
theorem d_Top_tell_29 : decode b_Top_tell 29 = .ok (.invokevirtual 218, 3) := kq_182 byq_r (a := 0) (b := 218) (by decide +kernel)
theorem d_Top_tell_32 : decode b_Top_tell 32 = .ok (.aload_n 0, 1) := kq_42 byq_r (by decide +kernel)
theorem d_Top_tell_33 : decode b_Top_tell 33 = .ok (.getfield 33, 3) := kq_180 byq_r (a := 0) (b := 33) (by decide +kernel)
theorem d_Top_tell_36 : decode b_Top_tell 36 = .ok (.getfield 197, 3) := kq_180 byq_r (a := 0) (b := 197) (by decide +kernel)
theorem d_Top_tell_39 : decode b_Top_tell 39 = .ok (.invokestatic 236, 3) := kq_184 byq_r (a := 0) (b := 236) (by decide +kernel)
theorem d_Top_tell_42 : decode b_Top_tell 42 = .ok (.ireturn, 1) := kq_172 byq_r (by decide +kernel)
theorem d_Top_womenAreAstray_0 : decode b_Top_womenAreAstray 0 = .ok (.iconst 0, 1) := kq_3 byq_r (by decide +kernel)
theorem d_Top_womenAreAstray_1 : decode b_Top_womenAreAstray 1 = .ok (.istore_n 1, 1) := kq_60 byq_r (by decide +kernel)
theorem d_Top_womenAreAstray_2 : decode b_Top_womenAreAstray 2 = .ok (.iload_n 1, 1) := kq_27 byq_r (by decide +kernel)
theorem d_Top_womenAreAstray_3 : decode b_Top_womenAreAstray 3 = .ok (.aload_n 0, 1) := kq_42 byq_r (by decide +kernel)
theorem d_Top_womenAreAstray_4 : decode b_Top_womenAreAstray 4 = .ok (.getfield 26, 3) := kq_180 byq_r (a := 0) (b := 26) (by decide +kernel)
theorem d_Top_womenAreAstray_7 : decode b_Top_womenAreAstray 7 = .ok (.getfield 129, 3) := kq_180 byq_r (a := 0) (b := 129) (by decide +kernel)
theorem d_Top_womenAreAstray_10 : decode b_Top_womenAreAstray 10 = .ok (.if_icmp .ge 53, 3) := kq_162 byq_r (a := 0) (b := 53) (by decide +kernel)
theorem d_Top_womenAreAstray_13 : decode b_Top_womenAreAstray 13 = .ok (.aload_n 0, 1) := kq_42 byq_r (by decide +kernel)
theorem d_Top_womenAreAstray_14 : decode b_Top_womenAreAstray 14 = .ok (.getfield 26, 3) := kq_180 byq_r (a := 0) (b := 26) (by decide +kernel)
theorem d_Top_womenAreAstray_17 : decode b_Top_womenAreAstray 17 = .ok (.iload_n 1, 1) := kq_27 byq_r (by decide +kernel)
theorem d_Top_womenAreAstray_18 : decode b_Top_womenAreAstray 18 = .ok (.invokevirtual 139, 3) := kq_182 byq_r (a := 0) (b := 139) (by decide +kernel)
theorem d_Top_womenAreAstray_21 : decode b_Top_womenAreAstray 21 = .ok (.ifCond .eq 36, 3) := kq_153 byq_r (a := 0) (b := 36) (by decide +kernel)
theorem d_Top_womenAreAstray_24 : decode b_Top_womenAreAstray 24 = .ok (.aload_n 0, 1) := kq_42 byq_r (by decide +kernel)
theorem d_Top_womenAreAstray_25 : decode b_Top_womenAreAstray 25 = .ok (.getfield 33, 3) := kq_180 byq_r (a := 0) (b := 33) (by decide +kernel)
theorem d_Top_womenAreAstray_28 : decode b_Top_womenAreAstray 28 = .ok (.getfield 191, 3) := kq_180 byq_r (a := 0) (b := 191) (by decide +kernel)
theorem d_Top_womenAreAstray_31 : decode b_Top_womenAreAstray 31 = .ok (.iload_n 1, 1) := kq_27 byq_r (by decide +kernel)
theorem d_Top_womenAreAstray_32 : decode b_Top_womenAreAstray 32 = .ok (.iaload, 1) := kq_46 byq_r (by decide +kernel)
theorem d_Top_womenAreAstray_33 : decode b_Top_womenAreAstray 33 = .ok (.ifCond .ne 24, 3) := kq_154 byq_r (a := 0) (b := 24) (by decide +kernel)
theorem d_Top_womenAreAstray_36 : decode b_Top_womenAreAstray 36 = .ok (.aload_n 0, 1) := kq_42 byq_r (by decide +kernel)
theorem d_Top_womenAreAstray_37 : decode b_Top_womenAreAstray 37 = .ok (.getfield 19, 3) := kq_180 byq_r (a := 0) (b := 19) (by decide +kernel)
theorem d_Top_womenAreAstray_40 : decode b_Top_womenAreAstray 40 = .ok (.aload_n 0, 1) := kq_42 byq_r (by decide +kernel)
theorem d_Top_womenAreAstray_41 : decode b_Top_womenAreAstray 41 = .ok (.getfield 33, 3) := kq_180 byq_r (a := 0) (b := 33) (by decide +kernel)
theorem d_Top_womenAreAstray_44 : decode b_Top_womenAreAstray 44 = .ok (.getfield 188, 3) := kq_180 byq_r (a := 0) (b := 188) (by decide +kernel)
theorem d_Top_womenAreAstray_47 : decode b_Top_womenAreAstray 47 = .ok (.iload_n 1, 1) := kq_27 byq_r (by decide +kernel)
theorem d_Top_womenAreAstray_48 : decode b_Top_womenAreAstray 48 = .ok (.iaload, 1) := kq_46 byq_r (by decide +kernel)
theorem d_Top_womenAreAstray_49 : decode b_Top_womenAreAstray 49 = .ok (.invokevirtual 290, 3) := kq_182 byq_r (a := 1) (b := 34) (by decide +kernel)
theorem d_Top_womenAreAstray_52 : decode b_Top_womenAreAstray 52 = .ok (.ifCond .ne 5, 3) := kq_154 byq_r (a := 0) (b := 5) (by decide +kernel)
theorem d_Top_womenAreAstray_55 : decode b_Top_womenAreAstray 55 = .ok (.iconst 1, 1) := kq_4 byq_r (by decide +kernel)
theorem d_Top_womenAreAstray_56 : decode b_Top_womenAreAstray 56 = .ok (.ireturn, 1) := kq_172 byq_r (by decide +kernel)
theorem d_Top_womenAreAstray_57 : decode b_Top_womenAreAstray 57 = .ok (.iinc 1 1, 3) := kq_132 byq_r (b := 1) (by decide +kernel)
theorem d_Top_womenAreAstray_60 : decode b_Top_womenAreAstray 60 = .ok (.goto (-58), 3) := kq_167 byq_r (a := 255) (b := 198) (by decide +kernel)
theorem d_Top_womenAreAstray_63 : decode b_Top_womenAreAstray 63 = .ok (.iconst 0, 1) := kq_3 byq_r (by decide +kernel)
theorem d_Top_womenAreAstray_64 : decode b_Top_womenAreAstray 64 = .ok (.ireturn, 1) := kq_172 byq_r (by decide +kernel)
theorem d_Top_celebrate_0 : decode b_Top_celebrate 0 = .ok (.aload_n 0, 1) := kq_42 byq_r (by decide +kernel)
theorem d_Top_celebrate_1 : decode b_Top_celebrate 1 = .ok (.getfield 33, 3) := kq_180 byq_r (a := 0) (b := 33) (by decide +kernel)
theorem d_Top_celebrate_4 : decode b_Top_celebrate 4 = .ok (.getfield 450, 3) := kq_180 byq_r (a := 1) (b := 194) (by decide +kernel)
theorem d_Top_celebrate_7 : decode b_Top_celebrate 7 = .ok (.iload_n 1, 1) := kq_27 byq_r (by decide +kernel)
theorem d_Top_celebrate_8 : decode b_Top_celebrate 8 = .ok (.if_icmp .eq 14, 3) := kq_159 byq_r (a := 0) (b := 14) (by decide +kernel)
theorem d_Top_celebrate_11 : decode b_Top_celebrate 11 = .ok (.iload_n 1, 1) := kq_27 byq_r (by decide +kernel)
theorem d_Top_celebrate_12 : decode b_Top_celebrate 12 = .ok (.ifCond .ne 12, 3) := kq_154 byq_r (a := 0) (b := 12) (by decide +kernel)
theorem d_Top_celebrate_15 : decode b_Top_celebrate 15 = .ok (.aload_n 0, 1) := kq_42 byq_r (by decide +kernel)
theorem d_Top_celebrate_16 : decode b_Top_celebrate 16 = .ok (.invokevirtual 470, 3) := kq_182 byq_r (a := 1) (b := 214) (by decide +kernel)
theorem d_Top_celebrate_19 : decode b_Top_celebrate 19 = .ok (.ifCond .eq 5, 3) := kq_153 byq_r (a := 0) (b := 5) (by decide +kernel)
theorem d_Top_celebrate_22 : decode b_Top_celebrate 22 = .ok (.iconst 0, 1) := kq_3 byq_r (by decide +kernel)
theorem d_Top_celebrate_23 : decode b_Top_celebrate 23 = .ok (.ireturn, 1) := kq_172 byq_r (by decide +kernel)
theorem d_Top_celebrate_24 : decode b_Top_celebrate 24 = .ok (.aload_n 0, 1) := kq_42 byq_r (by decide +kernel)
theorem d_Top_celebrate_25 : decode b_Top_celebrate 25 = .ok (.getfield 33, 3) := kq_180 byq_r (a := 0) (b := 33) (by decide +kernel)
theorem d_Top_celebrate_28 : decode b_Top_celebrate 28 = .ok (.iload_n 1, 1) := kq_27 byq_r (by decide +kernel)
theorem d_Top_celebrate_29 : decode b_Top_celebrate 29 = .ok (.putfield 450, 3) := kq_181 byq_r (a := 1) (b := 194) (by decide +kernel)
theorem d_Top_celebrate_32 : decode b_Top_celebrate 32 = .ok (.iconst 0, 1) := kq_3 byq_r (by decide +kernel)
theorem d_Top_celebrate_33 : decode b_Top_celebrate 33 = .ok (.istore_n 2, 1) := kq_61 byq_r (by decide +kernel)
theorem d_Top_celebrate_34 : decode b_Top_celebrate 34 = .ok (.iload_n 2, 1) := kq_28 byq_r (by decide +kernel)
theorem d_Top_celebrate_35 : decode b_Top_celebrate 35 = .ok (.aload_n 0, 1) := kq_42 byq_r (by decide +kernel)
theorem d_Top_celebrate_36 : decode b_Top_celebrate 36 = .ok (.getfield 26, 3) := kq_180 byq_r (a := 0) (b := 26) (by decide +kernel)
theorem d_Top_celebrate_39 : decode b_Top_celebrate 39 = .ok (.getfield 129, 3) := kq_180 byq_r (a := 0) (b := 129) (by decide +kernel)
theorem d_Top_celebrate_42 : decode b_Top_celebrate 42 = .ok (.if_icmp .ge 58, 3) := kq_162 byq_r (a := 0) (b := 58) (by decide +kernel)
theorem d_Top_celebrate_45 : decode b_Top_celebrate 45 = .ok (.aload_n 0, 1) := kq_42 byq_r (by decide +kernel)
theorem d_Top_celebrate_46 : decode b_Top_celebrate 46 = .ok (.getfield 26, 3) := kq_180 byq_r (a := 0) (b := 26) (by decide +kernel)
theorem d_Top_celebrate_49 : decode b_Top_celebrate 49 = .ok (.iload_n 2, 1) := kq_28 byq_r (by decide +kernel)
theorem d_Top_celebrate_50 : decode b_Top_celebrate 50 = .ok (.invokevirtual 139, 3) := kq_182 byq_r (a := 0) (b := 139) (by decide +kernel)
theorem d_Top_celebrate_53 : decode b_Top_celebrate 53 = .ok (.ifCond .eq 41, 3) := kq_153 byq_r (a := 0) (b := 41) (by decide +kernel)
theorem d_Top_celebrate_56 : decode b_Top_celebrate 56 = .ok (.aload_n 0, 1) := kq_42 byq_r (by decide +kernel)
theorem d_Top_celebrate_57 : decode b_Top_celebrate 57 = .ok (.getfield 19, 3) := kq_180 byq_r (a := 0) (b := 19) (by decide +kernel)
theorem d_Top_celebrate_60 : decode b_Top_celebrate 60 = .ok (.aload_n 0, 1) := kq_42 byq_r (by decide +kernel)
theorem d_Top_celebrate_61 : decode b_Top_celebrate 61 = .ok (.getfield 33, 3) := kq_180 byq_r (a := 0) (b := 33) (by decide +kernel)
theorem d_Top_celebrate_64 : decode b_Top_celebrate 64 = .ok (.getfield 188, 3) := kq_180 byq_r (a := 0) (b := 188) (by decide +kernel)
theorem d_Top_celebrate_67 : decode b_Top_celebrate 67 = .ok (.iload_n 2, 1) := kq_28 byq_r (by decide +kernel)
theorem d_Top_celebrate_68 : decode b_Top_celebrate 68 = .ok (.iaload, 1) := kq_46 byq_r (by decide +kernel)
theorem d_Top_celebrate_69 : decode b_Top_celebrate 69 = .ok (.invokevirtual 290, 3) := kq_182 byq_r (a := 1) (b := 34) (by decide +kernel)
theorem d_Top_celebrate_72 : decode b_Top_celebrate 72 = .ok (.ifCond .eq 22, 3) := kq_153 byq_r (a := 0) (b := 22) (by decide +kernel)
theorem d_Top_celebrate_75 : decode b_Top_celebrate 75 = .ok (.aload_n 0, 1) := kq_42 byq_r (by decide +kernel)
theorem d_Top_celebrate_76 : decode b_Top_celebrate 76 = .ok (.getfield 33, 3) := kq_180 byq_r (a := 0) (b := 33) (by decide +kernel)
theorem d_Top_celebrate_79 : decode b_Top_celebrate 79 = .ok (.getfield 191, 3) := kq_180 byq_r (a := 0) (b := 191) (by decide +kernel)
theorem d_Top_celebrate_82 : decode b_Top_celebrate 82 = .ok (.iload_n 2, 1) := kq_28 byq_r (by decide +kernel)
theorem d_Top_celebrate_83 : decode b_Top_celebrate 83 = .ok (.iload_n 1, 1) := kq_27 byq_r (by decide +kernel)
theorem d_Top_celebrate_84 : decode b_Top_celebrate 84 = .ok (.iconst 1, 1) := kq_4 byq_r (by decide +kernel)
theorem d_Top_celebrate_85 : decode b_Top_celebrate 85 = .ok (.if_icmp .ne 7, 3) := kq_160 byq_r (a := 0) (b := 7) (by decide +kernel)
theorem d_Top_celebrate_88 : decode b_Top_celebrate 88 = .ok (.iconst 0, 1) := kq_3 byq_r (by decide +kernel)
theorem d_Top_celebrate_89 : decode b_Top_celebrate 89 = .ok (.goto 4, 3) := kq_167 byq_r (a := 0) (b := 4) (by decide +kernel)
theorem d_Top_celebrate_92 : decode b_Top_celebrate 92 = .ok (.iconst 1, 1) := kq_4 byq_r (by decide +kernel)
theorem d_Top_celebrate_93 : decode b_Top_celebrate 93 = .ok (.iastore, 1) := kq_79 byq_r (by decide +kernel)
theorem d_Top_celebrate_94 : decode b_Top_celebrate 94 = .ok (.iinc 2 1, 3) := kq_132 byq_r (b := 1) (by decide +kernel)
theorem d_Top_celebrate_97 : decode b_Top_celebrate 97 = .ok (.goto (-63), 3) := kq_167 byq_r (a := 255) (b := 193) (by decide +kernel)
theorem d_Top_celebrate_100 : decode b_Top_celebrate 100 = .ok (.iconst 1, 1) := kq_4 byq_r (by decide +kernel)
theorem d_Top_celebrate_101 : decode b_Top_celebrate 101 = .ok (.ireturn, 1) := kq_172 byq_r (by decide +kernel)
theorem d_Top_womenBelow_0 : decode b_Top_womenBelow 0 = .ok (.iconst 0, 1) := kq_3 byq_r (by decide +kernel)
theorem d_Top_womenBelow_1 : decode b_Top_womenBelow 1 = .ok (.istore_n 1, 1) := kq_60 byq_r (by decide +kernel)
theorem d_Top_womenBelow_2 : decode b_Top_womenBelow 2 = .ok (.iconst 0, 1) := kq_3 byq_r (by decide +kernel)
theorem d_Top_womenBelow_3 : decode b_Top_womenBelow 3 = .ok (.istore_n 2, 1) := kq_61 byq_r (by decide +kernel)
theorem d_Top_womenBelow_4 : decode b_Top_womenBelow 4 = .ok (.iload_n 2, 1) := kq_28 byq_r (by decide +kernel)
theorem d_Top_womenBelow_5 : decode b_Top_womenBelow 5 = .ok (.aload_n 0, 1) := kq_42 byq_r (by decide +kernel)
theorem d_Top_womenBelow_6 : decode b_Top_womenBelow 6 = .ok (.getfield 26, 3) := kq_180 byq_r (a := 0) (b := 26) (by decide +kernel)
theorem d_Top_womenBelow_9 : decode b_Top_womenBelow 9 = .ok (.getfield 129, 3) := kq_180 byq_r (a := 0) (b := 129) (by decide +kernel)
theorem d_Top_womenBelow_12 : decode b_Top_womenBelow 12 = .ok (.if_icmp .ge 35, 3) := kq_162 byq_r (a := 0) (b := 35) (by decide +kernel)
theorem d_Top_womenBelow_15 : decode b_Top_womenBelow 15 = .ok (.aload_n 0, 1) := kq_42 byq_r (by decide +kernel)
theorem d_Top_womenBelow_16 : decode b_Top_womenBelow 16 = .ok (.getfield 26, 3) := kq_180 byq_r (a := 0) (b := 26) (by decide +kernel)
theorem d_Top_womenBelow_19 : decode b_Top_womenBelow 19 = .ok (.iload_n 2, 1) := kq_28 byq_r (by decide +kernel)
theorem d_Top_womenBelow_20 : decode b_Top_womenBelow 20 = .ok (.invokevirtual 139, 3) := kq_182 byq_r (a := 0) (b := 139) (by decide +kernel)
theorem d_Top_womenBelow_23 : decode b_Top_womenBelow 23 = .ok (.ifCond .eq 18, 3) := kq_153 byq_r (a := 0) (b := 18) (by decide +kernel)
theorem d_Top_womenBelow_26 : decode b_Top_womenBelow 26 = .ok (.aload_n 0, 1) := kq_42 byq_r (by decide +kernel)
theorem d_Top_womenBelow_27 : decode b_Top_womenBelow 27 = .ok (.getfield 33, 3) := kq_180 byq_r (a := 0) (b := 33) (by decide +kernel)
theorem d_Top_womenBelow_30 : decode b_Top_womenBelow 30 = .ok (.getfield 191, 3) := kq_180 byq_r (a := 0) (b := 191) (by decide +kernel)
theorem d_Top_womenBelow_33 : decode b_Top_womenBelow 33 = .ok (.iload_n 2, 1) := kq_28 byq_r (by decide +kernel)
theorem d_Top_womenBelow_34 : decode b_Top_womenBelow 34 = .ok (.iaload, 1) := kq_46 byq_r (by decide +kernel)
theorem d_Top_womenBelow_35 : decode b_Top_womenBelow 35 = .ok (.ifCond .ne 6, 3) := kq_154 byq_r (a := 0) (b := 6) (by decide +kernel)
theorem d_Top_womenBelow_38 : decode b_Top_womenBelow 38 = .ok (.iinc 1 1, 3) := kq_132 byq_r (b := 1) (by decide +kernel)
theorem d_Top_womenBelow_41 : decode b_Top_womenBelow 41 = .ok (.iinc 2 1, 3) := kq_132 byq_r (b := 1) (by decide +kernel)
theorem d_Top_womenBelow_44 : decode b_Top_womenBelow 44 = .ok (.goto (-40), 3) := kq_167 byq_r (a := 255) (b := 216) (by decide +kernel)
theorem d_Top_womenBelow_47 : decode b_Top_womenBelow 47 = .ok (.iload_n 1, 1) := kq_27 byq_r (by decide +kernel)
theorem d_Top_womenBelow_48 : decode b_Top_womenBelow 48 = .ok (.ireturn, 1) := kq_172 byq_r (by decide +kernel)
theorem d_Top_feast_0 : decode b_Top_feast 0 = .ok (.aload_n 0, 1) := kq_42 byq_r (by decide +kernel)
theorem d_Top_feast_1 : decode b_Top_feast 1 = .ok (.getfield 37, 3) := kq_180 byq_r (a := 0) (b := 37) (by decide +kernel)
theorem d_Top_feast_4 : decode b_Top_feast 4 = .ok (.aload_n 0, 1) := kq_42 byq_r (by decide +kernel)
theorem d_Top_feast_5 : decode b_Top_feast 5 = .ok (.getfield 33, 3) := kq_180 byq_r (a := 0) (b := 33) (by decide +kernel)
theorem d_Top_feast_8 : decode b_Top_feast 8 = .ok (.invokevirtual 211, 3) := kq_182 byq_r (a := 0) (b := 211) (by decide +kernel)
theorem d_Top_feast_11 : decode b_Top_feast 11 = .ok (.iload_n 1, 1) := kq_27 byq_r (by decide +kernel)
theorem d_Top_feast_12 : decode b_Top_feast 12 = .ok (.ifCond .lt 16, 3) := kq_155 byq_r (a := 0) (b := 16) (by decide +kernel)
theorem d_Top_feast_15 : decode b_Top_feast 15 = .ok (.iload_n 1, 1) := kq_27 byq_r (by decide +kernel)
theorem d_Top_feast_16 : decode b_Top_feast 16 = .ok (.iconst 1, 1) := kq_4 byq_r (by decide +kernel)
theorem d_Top_feast_17 : decode b_Top_feast 17 = .ok (.if_icmp .gt 11, 3) := kq_163 byq_r (a := 0) (b := 11) (by decide +kernel)
theorem d_Top_feast_20 : decode b_Top_feast 20 = .ok (.aload_n 0, 1) := kq_42 byq_r (by decide +kernel)
theorem d_Top_feast_21 : decode b_Top_feast 21 = .ok (.iload_n 1, 1) := kq_27 byq_r (by decide +kernel)
theorem d_Top_feast_22 : decode b_Top_feast 22 = .ok (.invokevirtual 240, 3) := kq_182 byq_r (a := 0) (b := 240) (by decide +kernel)
theorem d_Top_feast_25 : decode b_Top_feast 25 = .ok (.ifCond .ne 5, 3) := kq_154 byq_r (a := 0) (b := 5) (by decide +kernel)
theorem d_Top_feast_28 : decode b_Top_feast 28 = .ok (.iconst (-1), 1) := kq_2 byq_r (by decide +kernel)
theorem d_Top_feast_29 : decode b_Top_feast 29 = .ok (.ireturn, 1) := kq_172 byq_r (by decide +kernel)
theorem d_Top_feast_30 : decode b_Top_feast 30 = .ok (.aload_n 0, 1) := kq_42 byq_r (by decide +kernel)
theorem d_Top_feast_31 : decode b_Top_feast 31 = .ok (.getfield 70, 3) := kq_180 byq_r (a := 0) (b := 70) (by decide +kernel)
theorem d_Top_feast_34 : decode b_Top_feast 34 = .ok (.aload_n 0, 1) := kq_42 byq_r (by decide +kernel)
theorem d_Top_feast_35 : decode b_Top_feast 35 = .ok (.getfield 37, 3) := kq_180 byq_r (a := 0) (b := 37) (by decide +kernel)
theorem d_Top_feast_38 : decode b_Top_feast 38 = .ok (.invokevirtual 218, 3) := kq_182 byq_r (a := 0) (b := 218) (by decide +kernel)
theorem d_Top_feast_41 : decode b_Top_feast 41 = .ok (.aload_n 0, 1) := kq_42 byq_r (by decide +kernel)
theorem d_Top_feast_42 : decode b_Top_feast 42 = .ok (.invokevirtual 243, 3) := kq_182 byq_r (a := 0) (b := 243) (by decide +kernel)
theorem d_Top_feast_45 : decode b_Top_feast 45 = .ok (.ireturn, 1) := kq_172 byq_r (by decide +kernel)
theorem d_Top_emptyRow_0 : decode b_Top_emptyRow 0 = .ok (.aload_n 0, 1) := kq_42 byq_r (by decide +kernel)
theorem d_Top_emptyRow_1 : decode b_Top_emptyRow 1 = .ok (.iconst 0, 1) := kq_3 byq_r (by decide +kernel)
theorem d_Top_emptyRow_2 : decode b_Top_emptyRow 2 = .ok (.putfield 99, 3) := kq_181 byq_r (a := 0) (b := 99) (by decide +kernel)
theorem d_Top_emptyRow_5 : decode b_Top_emptyRow 5 = .ok (.return_, 1) := kq_177 byq_r (by decide +kernel)
theorem d_Top_note_0 : decode b_Top_note 0 = .ok (.aload_n 0, 1) := kq_42 byq_r (by decide +kernel)
theorem d_Top_note_1 : decode b_Top_note 1 = .ok (.getfield 99, 3) := kq_180 byq_r (a := 0) (b := 99) (by decide +kernel)
theorem d_Top_note_4 : decode b_Top_note 4 = .ok (.ifCond .lt 32, 3) := kq_155 byq_r (a := 0) (b := 32) (by decide +kernel)
theorem d_Top_note_7 : decode b_Top_note 7 = .ok (.aload_n 0, 1) := kq_42 byq_r (by decide +kernel)
theorem d_Top_note_8 : decode b_Top_note 8 = .ok (.getfield 99, 3) := kq_180 byq_r (a := 0) (b := 99) (by decide +kernel)
theorem d_Top_note_11 : decode b_Top_note 11 = .ok (.bipush 10, 2) := kq_16 byq_r (b := 10) (by decide +kernel)
theorem d_Top_note_13 : decode b_Top_note 13 = .ok (.if_icmp .ge 23, 3) := kq_162 byq_r (a := 0) (b := 23) (by decide +kernel)
theorem d_Top_note_16 : decode b_Top_note 16 = .ok (.aload_n 0, 1) := kq_42 byq_r (by decide +kernel)
theorem d_Top_note_17 : decode b_Top_note 17 = .ok (.getfield 95, 3) := kq_180 byq_r (a := 0) (b := 95) (by decide +kernel)
theorem d_Top_note_20 : decode b_Top_note 20 = .ok (.aload_n 0, 1) := kq_42 byq_r (by decide +kernel)
theorem d_Top_note_21 : decode b_Top_note 21 = .ok (.getfield 99, 3) := kq_180 byq_r (a := 0) (b := 99) (by decide +kernel)
theorem d_Top_note_24 : decode b_Top_note 24 = .ok (.iload_n 1, 1) := kq_27 byq_r (by decide +kernel)
theorem d_Top_note_25 : decode b_Top_note 25 = .ok (.iastore, 1) := kq_79 byq_r (by decide +kernel)
theorem d_Top_note_26 : decode b_Top_note 26 = .ok (.aload_n 0, 1) := kq_42 byq_r (by decide +kernel)
theorem d_Top_note_27 : decode b_Top_note 27 = .ok (.dup, 1) := kq_89 byq_r (by decide +kernel)
theorem d_Top_note_28 : decode b_Top_note 28 = .ok (.getfield 99, 3) := kq_180 byq_r (a := 0) (b := 99) (by decide +kernel)
theorem d_Top_note_31 : decode b_Top_note 31 = .ok (.iconst 1, 1) := kq_4 byq_r (by decide +kernel)
theorem d_Top_note_32 : decode b_Top_note 32 = .ok (.iadd, 1) := kq_96 byq_r (by decide +kernel)
theorem d_Top_note_33 : decode b_Top_note 33 = .ok (.putfield 99, 3) := kq_181 byq_r (a := 0) (b := 99) (by decide +kernel)
theorem d_Top_note_36 : decode b_Top_note 36 = .ok (.return_, 1) := kq_177 byq_r (by decide +kernel)
theorem d_Top_minute_0 : decode b_Top_minute 0 = .ok (.aload_n 0, 1) := kq_42 byq_r (by decide +kernel)
theorem d_Top_minute_1 : decode b_Top_minute 1 = .ok (.getfield 37, 3) := kq_180 byq_r (a := 0) (b := 37) (by decide +kernel)
theorem d_Top_minute_4 : decode b_Top_minute 4 = .ok (.aload_n 0, 1) := kq_42 byq_r (by decide +kernel)
theorem d_Top_minute_5 : decode b_Top_minute 5 = .ok (.getfield 33, 3) := kq_180 byq_r (a := 0) (b := 33) (by decide +kernel)
theorem d_Top_minute_8 : decode b_Top_minute 8 = .ok (.invokevirtual 211, 3) := kq_182 byq_r (a := 0) (b := 211) (by decide +kernel)
theorem d_Top_minute_11 : decode b_Top_minute 11 = .ok (.aload_n 0, 1) := kq_42 byq_r (by decide +kernel)
theorem d_Top_minute_12 : decode b_Top_minute 12 = .ok (.getfield 63, 3) := kq_180 byq_r (a := 0) (b := 63) (by decide +kernel)
theorem d_Top_minute_15 : decode b_Top_minute 15 = .ok (.aload_n 0, 1) := kq_42 byq_r (by decide +kernel)
theorem d_Top_minute_16 : decode b_Top_minute 16 = .ok (.getfield 33, 3) := kq_180 byq_r (a := 0) (b := 33) (by decide +kernel)
theorem d_Top_minute_19 : decode b_Top_minute 19 = .ok (.aload_n 0, 1) := kq_42 byq_r (by decide +kernel)
theorem d_Top_minute_20 : decode b_Top_minute 20 = .ok (.getfield 26, 3) := kq_180 byq_r (a := 0) (b := 26) (by decide +kernel)
theorem d_Top_minute_23 : decode b_Top_minute 23 = .ok (.aload_n 0, 1) := kq_42 byq_r (by decide +kernel)
theorem d_Top_minute_24 : decode b_Top_minute 24 = .ok (.getfield 19, 3) := kq_180 byq_r (a := 0) (b := 19) (by decide +kernel)
theorem d_Top_minute_27 : decode b_Top_minute 27 = .ok (.aload_n 0, 1) := kq_42 byq_r (by decide +kernel)
theorem d_Top_minute_28 : decode b_Top_minute 28 = .ok (.getfield 56, 3) := kq_180 byq_r (a := 0) (b := 56) (by decide +kernel)
theorem d_Top_minute_31 : decode b_Top_minute 31 = .ok (.aload_n 0, 1) := kq_42 byq_r (by decide +kernel)
theorem d_Top_minute_32 : decode b_Top_minute 32 = .ok (.getfield 46, 3) := kq_180 byq_r (a := 0) (b := 46) (by decide +kernel)
theorem d_Top_minute_35 : decode b_Top_minute 35 = .ok (.invokevirtual 247, 3) := kq_182 byq_r (a := 0) (b := 247) (by decide +kernel)
theorem d_Top_minute_38 : decode b_Top_minute 38 = .ok (.aload_n 0, 1) := kq_42 byq_r (by decide +kernel)
theorem d_Top_minute_39 : decode b_Top_minute 39 = .ok (.getfield 70, 3) := kq_180 byq_r (a := 0) (b := 70) (by decide +kernel)
theorem d_Top_minute_42 : decode b_Top_minute 42 = .ok (.aload_n 0, 1) := kq_42 byq_r (by decide +kernel)
theorem d_Top_minute_43 : decode b_Top_minute 43 = .ok (.getfield 37, 3) := kq_180 byq_r (a := 0) (b := 37) (by decide +kernel)
theorem d_Top_minute_46 : decode b_Top_minute 46 = .ok (.invokevirtual 218, 3) := kq_182 byq_r (a := 0) (b := 218) (by decide +kernel)
theorem d_Top_minute_49 : decode b_Top_minute 49 = .ok (.aload_n 0, 1) := kq_42 byq_r (by decide +kernel)
theorem d_Top_minute_50 : decode b_Top_minute 50 = .ok (.invokevirtual 251, 3) := kq_182 byq_r (a := 0) (b := 251) (by decide +kernel)
theorem d_Top_minute_53 : decode b_Top_minute 53 = .ok (.aload_n 0, 1) := kq_42 byq_r (by decide +kernel)
theorem d_Top_minute_54 : decode b_Top_minute 54 = .ok (.aload_n 0, 1) := kq_42 byq_r (by decide +kernel)
theorem d_Top_minute_55 : decode b_Top_minute 55 = .ok (.getfield 63, 3) := kq_180 byq_r (a := 0) (b := 63) (by decide +kernel)
theorem d_Top_minute_58 : decode b_Top_minute 58 = .ok (.getfield 254, 3) := kq_180 byq_r (a := 0) (b := 254) (by decide +kernel)
theorem d_Top_minute_61 : decode b_Top_minute 61 = .ok (.invokevirtual 257, 3) := kq_182 byq_r (a := 1) (b := 1) (by decide +kernel)
theorem d_Top_minute_64 : decode b_Top_minute 64 = .ok (.aload_n 0, 1) := kq_42 byq_r (by decide +kernel)
theorem d_Top_minute_65 : decode b_Top_minute 65 = .ok (.aload_n 0, 1) := kq_42 byq_r (by decide +kernel)
theorem d_Top_minute_66 : decode b_Top_minute 66 = .ok (.getfield 63, 3) := kq_180 byq_r (a := 0) (b := 63) (by decide +kernel)
theorem d_Top_minute_69 : decode b_Top_minute 69 = .ok (.getfield 260, 3) := kq_180 byq_r (a := 1) (b := 4) (by decide +kernel)
theorem d_Top_minute_72 : decode b_Top_minute 72 = .ok (.invokevirtual 257, 3) := kq_182 byq_r (a := 1) (b := 1) (by decide +kernel)
theorem d_Top_minute_75 : decode b_Top_minute 75 = .ok (.aload_n 0, 1) := kq_42 byq_r (by decide +kernel)
theorem d_Top_minute_76 : decode b_Top_minute 76 = .ok (.getfield 63, 3) := kq_180 byq_r (a := 0) (b := 63) (by decide +kernel)
theorem d_Top_minute_79 : decode b_Top_minute 79 = .ok (.getfield 263, 3) := kq_180 byq_r (a := 1) (b := 7) (by decide +kernel)
theorem d_Top_minute_82 : decode b_Top_minute 82 = .ok (.ireturn, 1) := kq_172 byq_r (by decide +kernel)
theorem d_Top_minutes_0 : decode b_Top_minutes 0 = .ok (.iload_n 1, 1) := kq_27 byq_r (by decide +kernel)
theorem d_Top_minutes_1 : decode b_Top_minutes 1 = .ok (.ifCond .lt 9, 3) := kq_155 byq_r (a := 0) (b := 9) (by decide +kernel)
theorem d_Top_minutes_4 : decode b_Top_minutes 4 = .ok (.iload_n 1, 1) := kq_27 byq_r (by decide +kernel)
theorem d_Top_minutes_5 : decode b_Top_minutes 5 = .ok (.bipush 60, 2) := kq_16 byq_r (b := 60) (by decide +kernel)
theorem d_Top_minutes_7 : decode b_Top_minutes 7 = .ok (.if_icmp .le 5, 3) := kq_164 byq_r (a := 0) (b := 5) (by decide +kernel)
theorem d_Top_minutes_10 : decode b_Top_minutes 10 = .ok (.iconst (-1), 1) := kq_2 byq_r (by decide +kernel)
theorem d_Top_minutes_11 : decode b_Top_minutes 11 = .ok (.ireturn, 1) := kq_172 byq_r (by decide +kernel)
theorem d_Top_minutes_12 : decode b_Top_minutes 12 = .ok (.aload_n 0, 1) := kq_42 byq_r (by decide +kernel)
theorem d_Top_minutes_13 : decode b_Top_minutes 13 = .ok (.getfield 37, 3) := kq_180 byq_r (a := 0) (b := 37) (by decide +kernel)
theorem d_Top_minutes_16 : decode b_Top_minutes 16 = .ok (.aload_n 0, 1) := kq_42 byq_r (by decide +kernel)
theorem d_Top_minutes_17 : decode b_Top_minutes 17 = .ok (.getfield 33, 3) := kq_180 byq_r (a := 0) (b := 33) (by decide +kernel)
theorem d_Top_minutes_20 : decode b_Top_minutes 20 = .ok (.invokevirtual 211, 3) := kq_182 byq_r (a := 0) (b := 211) (by decide +kernel)
theorem d_Top_minutes_23 : decode b_Top_minutes 23 = .ok (.aload_n 0, 1) := kq_42 byq_r (by decide +kernel)
theorem d_Top_minutes_24 : decode b_Top_minutes 24 = .ok (.getfield 63, 3) := kq_180 byq_r (a := 0) (b := 63) (by decide +kernel)
theorem d_Top_minutes_27 : decode b_Top_minutes 27 = .ok (.invokevirtual 266, 3) := kq_182 byq_r (a := 1) (b := 10) (by decide +kernel)
theorem d_Top_minutes_30 : decode b_Top_minutes 30 = .ok (.iconst 0, 1) := kq_3 byq_r (by decide +kernel)
theorem d_Top_minutes_31 : decode b_Top_minutes 31 = .ok (.istore_n 2, 1) := kq_61 byq_r (by decide +kernel)
theorem d_Top_minutes_32 : decode b_Top_minutes 32 = .ok (.iload_n 2, 1) := kq_28 byq_r (by decide +kernel)
theorem d_Top_minutes_33 : decode b_Top_minutes 33 = .ok (.iload_n 1, 1) := kq_27 byq_r (by decide +kernel)
theorem d_Top_minutes_34 : decode b_Top_minutes 34 = .ok (.if_icmp .ge 36, 3) := kq_162 byq_r (a := 0) (b := 36) (by decide +kernel)
theorem d_Top_minutes_37 : decode b_Top_minutes 37 = .ok (.aload_n 0, 1) := kq_42 byq_r (by decide +kernel)
theorem d_Top_minutes_38 : decode b_Top_minutes 38 = .ok (.getfield 63, 3) := kq_180 byq_r (a := 0) (b := 63) (by decide +kernel)
theorem d_Top_minutes_41 : decode b_Top_minutes 41 = .ok (.aload_n 0, 1) := kq_42 byq_r (by decide +kernel)
theorem d_Top_minutes_42 : decode b_Top_minutes 42 = .ok (.getfield 33, 3) := kq_180 byq_r (a := 0) (b := 33) (by decide +kernel)
theorem d_Top_minutes_45 : decode b_Top_minutes 45 = .ok (.aload_n 0, 1) := kq_42 byq_r (by decide +kernel)
theorem d_Top_minutes_46 : decode b_Top_minutes 46 = .ok (.getfield 26, 3) := kq_180 byq_r (a := 0) (b := 26) (by decide +kernel)
theorem d_Top_minutes_49 : decode b_Top_minutes 49 = .ok (.aload_n 0, 1) := kq_42 byq_r (by decide +kernel)
theorem d_Top_minutes_50 : decode b_Top_minutes 50 = .ok (.getfield 19, 3) := kq_180 byq_r (a := 0) (b := 19) (by decide +kernel)
theorem d_Top_minutes_53 : decode b_Top_minutes 53 = .ok (.aload_n 0, 1) := kq_42 byq_r (by decide +kernel)
theorem d_Top_minutes_54 : decode b_Top_minutes 54 = .ok (.getfield 56, 3) := kq_180 byq_r (a := 0) (b := 56) (by decide +kernel)
theorem d_Top_minutes_57 : decode b_Top_minutes 57 = .ok (.aload_n 0, 1) := kq_42 byq_r (by decide +kernel)
theorem d_Top_minutes_58 : decode b_Top_minutes 58 = .ok (.getfield 46, 3) := kq_180 byq_r (a := 0) (b := 46) (by decide +kernel)
theorem d_Top_minutes_61 : decode b_Top_minutes 61 = .ok (.invokevirtual 247, 3) := kq_182 byq_r (a := 0) (b := 247) (by decide +kernel)
theorem d_Top_minutes_64 : decode b_Top_minutes 64 = .ok (.iinc 2 1, 3) := kq_132 byq_r (b := 1) (by decide +kernel)
theorem d_Top_minutes_67 : decode b_Top_minutes 67 = .ok (.goto (-35), 3) := kq_167 byq_r (a := 255) (b := 221) (by decide +kernel)
theorem d_Top_minutes_70 : decode b_Top_minutes 70 = .ok (.iload_n 1, 1) := kq_27 byq_r (by decide +kernel)
theorem d_Top_minutes_71 : decode b_Top_minutes 71 = .ok (.ifCond .le 14, 3) := kq_158 byq_r (a := 0) (b := 14) (by decide +kernel)
theorem d_Top_minutes_74 : decode b_Top_minutes 74 = .ok (.aload_n 0, 1) := kq_42 byq_r (by decide +kernel)
theorem d_Top_minutes_75 : decode b_Top_minutes 75 = .ok (.getfield 70, 3) := kq_180 byq_r (a := 0) (b := 70) (by decide +kernel)
theorem d_Top_minutes_78 : decode b_Top_minutes 78 = .ok (.aload_n 0, 1) := kq_42 byq_r (by decide +kernel)
theorem d_Top_minutes_79 : decode b_Top_minutes 79 = .ok (.getfield 37, 3) := kq_180 byq_r (a := 0) (b := 37) (by decide +kernel)
theorem d_Top_minutes_82 : decode b_Top_minutes 82 = .ok (.invokevirtual 218, 3) := kq_182 byq_r (a := 0) (b := 218) (by decide +kernel)
theorem d_Top_minutes_85 : decode b_Top_minutes 85 = .ok (.aload_n 0, 1) := kq_42 byq_r (by decide +kernel)
theorem d_Top_minutes_86 : decode b_Top_minutes 86 = .ok (.invokevirtual 251, 3) := kq_182 byq_r (a := 0) (b := 251) (by decide +kernel)
theorem d_Top_minutes_89 : decode b_Top_minutes 89 = .ok (.aload_n 0, 1) := kq_42 byq_r (by decide +kernel)
theorem d_Top_minutes_90 : decode b_Top_minutes 90 = .ok (.aload_n 0, 1) := kq_42 byq_r (by decide +kernel)
theorem d_Top_minutes_91 : decode b_Top_minutes 91 = .ok (.getfield 63, 3) := kq_180 byq_r (a := 0) (b := 63) (by decide +kernel)
theorem d_Top_minutes_94 : decode b_Top_minutes 94 = .ok (.getfield 269, 3) := kq_180 byq_r (a := 1) (b := 13) (by decide +kernel)
theorem d_Top_minutes_97 : decode b_Top_minutes 97 = .ok (.invokevirtual 257, 3) := kq_182 byq_r (a := 1) (b := 1) (by decide +kernel)
theorem d_Top_minutes_100 : decode b_Top_minutes 100 = .ok (.aload_n 0, 1) := kq_42 byq_r (by decide +kernel)
theorem d_Top_minutes_101 : decode b_Top_minutes 101 = .ok (.aload_n 0, 1) := kq_42 byq_r (by decide +kernel)
theorem d_Top_minutes_102 : decode b_Top_minutes 102 = .ok (.getfield 33, 3) := kq_180 byq_r (a := 0) (b := 33) (by decide +kernel)
theorem d_Top_minutes_105 : decode b_Top_minutes 105 = .ok (.getfield 197, 3) := kq_180 byq_r (a := 0) (b := 197) (by decide +kernel)
theorem d_Top_minutes_108 : decode b_Top_minutes 108 = .ok (.invokevirtual 257, 3) := kq_182 byq_r (a := 1) (b := 1) (by decide +kernel)
theorem d_Top_minutes_111 : decode b_Top_minutes 111 = .ok (.aload_n 0, 1) := kq_42 byq_r (by decide +kernel)
theorem d_Top_minutes_112 : decode b_Top_minutes 112 = .ok (.getfield 63, 3) := kq_180 byq_r (a := 0) (b := 63) (by decide +kernel)
theorem d_Top_minutes_115 : decode b_Top_minutes 115 = .ok (.getfield 272, 3) := kq_180 byq_r (a := 1) (b := 16) (by decide +kernel)
theorem d_Top_minutes_118 : decode b_Top_minutes 118 = .ok (.ireturn, 1) := kq_172 byq_r (by decide +kernel)
def f_Top_sign (v1 : Int32) (M : Mem) : Option (Int32 × Mem) :=
  Option.bind (f_Signs_add v1 M) fun x1 =>
  if x1.1 = 0 then
  some ((-1 : Int32), x1.2)
  else
  some ((x1.2.1 1 1), x1.2)
theorem c_Top_sign (l : Launch) (G : Gw)  (v1 : Int32) (M : Mem) (x : Int32 × Mem) (h : f_Top_sign v1 M = some x) (d : Nat) (hD : 2 ≤ d) : Ci l G y_Top_sign b_Top_sign 2 (some .int) d [.ref (G.2.2 + 0), .int v1] M (fun r9 M9 => r9 = x.1 ∧ M9 = x.2) := by
  refine Ci_of (by decide) (Nat.le_of_ble_eq_true rfl) (fun E hE X => ?_)
  subst hE
  have kr : ∀ x9 : Int32 × Mem, x = x9 → (fun r9 M9 => r9 = x.1 ∧ M9 = x.2) x9.1 x9.2 := fun x9 e9 => by subst e9; exact ⟨rfl, rfl⟩
  unfold f_Top_sign at h
  refine V_aload_n (n := 0) X d_Top_sign_0 rfl rfl rfl ?_
  refine V_getr (k2 := 1) X fo_Top_10 kd_0 rfl rf_0_0 d_Top_sign_1 rfl ?_
  refine V_iload_n (n := 1) X d_Top_sign_4 rfl rfl rfl ?_
  obtain ⟨x1, hx1, h⟩ := ob_s h
  refine V_ci (As := [.int v1]) X (Z0 E) ml_Top_106 yq_Signs_add (c_Signs_add E.2.1 G v1 M x1 hx1 _ (Nat.le_refl _)) kd_1 rfl rfl (by omega) rfl (Nat.le_of_ble_eq_true rfl) d_Top_sign_5 rfl (fun r9 M9 hq => ?_)
  rw [hq.1, hq.2]
  refine V_if_eq (tgt := 21) X d_Top_sign_8 (by decide) rfl (fun c2 => ?_) (fun c2 => ?_)
  · rw [if_pos c2] at h
    refine V_iconst (v := -1) X d_Top_sign_21 (by decide) rfl ?_
    exact V_iret X (kr ((-1 : Int32), x1.2) (Option.some.inj h).symm) d_Top_sign_22
  · rw [if_neg c2] at h
    refine V_aload_n (n := 0) X d_Top_sign_11 rfl rfl rfl ?_
    refine V_getr (k2 := 1) X fo_Top_10 kd_0 rfl rf_0_0 d_Top_sign_12 rfl ?_
    refine V_geti X fo_Top_110 kd_1 rfl d_Top_sign_15 rfl ?_
    refine V_goto (pc' := 22) X d_Top_sign_18 (by decide) ?_
    exact V_iret X (kr ((x1.2.1 1 1), x1.2) (Option.some.inj h).symm) d_Top_sign_22
def f_Top_end (v1 : Int32) (M : Mem) : Option (Int32 × Mem) :=
  if v1 < 0 then
  some ((0 : Int32), M)
  else
  if v1 ≤ (M.1 1 1) then
  mem_ (s_i M 1 1 v1) fun M1 =>
  some ((1 : Int32), M1)
  else
  some ((0 : Int32), M)
theorem c_Top_end (l : Launch) (G : Gw)  (v1 : Int32) (M : Mem) (x : Int32 × Mem) (h : f_Top_end v1 M = some x) (d : Nat) (hD : 1 ≤ d) : Ci l G y_Top_end b_Top_end 2 (some .boolean) d [.ref (G.2.2 + 0), .int v1] M (fun r9 M9 => r9 = x.1 ∧ M9 = x.2) := by
  refine Ci_of (by decide) (Nat.le_of_ble_eq_true rfl) (fun E hE X => ?_)
  subst hE
  have kr : ∀ x9 : Int32 × Mem, x = x9 → (fun r9 M9 => r9 = x.1 ∧ M9 = x.2) x9.1 x9.2 := fun x9 e9 => by subst e9; exact ⟨rfl, rfl⟩
  unfold f_Top_end at h
  refine V_iload_n (n := 1) X d_Top_end_0 rfl rfl rfl ?_
  refine V_if_lt (tgt := 15) X d_Top_end_1 (by decide) rfl (fun c3 => ?_) (fun c3 => ?_)
  · rw [if_pos c3] at h
    refine V_iconst (v := 0) X d_Top_end_15 (by decide) rfl ?_
    exact V_zret X (kr ((0 : Int32), M) (Option.some.inj h).symm) (by decide) d_Top_end_16
  · rw [if_neg c3] at h
    refine V_iload_n (n := 1) X d_Top_end_4 rfl rfl rfl ?_
    refine V_aload_n (n := 0) X d_Top_end_5 rfl rfl rfl ?_
    refine V_getr (k2 := 1) X fo_Top_10 kd_0 rfl rf_0_0 d_Top_end_6 rfl ?_
    refine V_geti X fo_Top_110 kd_1 rfl d_Top_end_9 rfl ?_
    refine V_icmp_le (tgt := 17) X d_Top_end_12 (by decide) rfl (fun c2 => ?_) (fun c2 => ?_)
    · rw [if_pos c2] at h
      refine V_aload_n (n := 0) X d_Top_end_17 rfl rfl rfl ?_
      refine V_getr (k2 := 1) X fo_Top_10 kd_0 rfl rf_0_0 d_Top_end_18 rfl ?_
      refine V_iload_n (n := 1) X d_Top_end_21 rfl rfl rfl ?_
      obtain ⟨M1, eM1, h⟩ := memS h
      refine V_putI X fp_Top_110 kd_1 rfl d_Top_end_22 rfl ?_
      rw [← eM1]
      refine V_iconst (v := 1) X d_Top_end_25 (by decide) rfl ?_
      exact V_zret X (kr ((1 : Int32), M1) (Option.some.inj h).symm) (by decide) d_Top_end_26
    · rw [if_neg c2] at h
      refine V_iconst (v := 0) X d_Top_end_15 (by decide) rfl ?_
      exact V_zret X (kr ((0 : Int32), M) (Option.some.inj h).symm) (by decide) d_Top_end_16
def f_Top_town (M : Mem) : Option (Int32 × Mem) :=
  Option.bind (f_Ground_read M) fun x1 =>
  mem_ (s_i x1.2 1 1 (0 : Int32)) fun M2 =>
  if 0 ≤ x1.1 then
  Option.bind (f_Crowd_clear M2) fun x3 =>
  Option.bind (f_Scene_clear 11 x3) fun x4 =>
  Option.bind (f_History_clear x4) fun x5 =>
  mem_ (s_i x5 0 16 (-1 : Int32)) fun M6 =>
  Option.bind (f_Nets_lay 32 11 (-1 : Int32) M6) fun x7 =>
  some (x1.1, x7)
  else
  some (x1.1, M2)
theorem c_Top_town (l : Launch) (G : Gw)   (M : Mem) (x : Int32 × Mem) (h : f_Top_town M = some x) (d : Nat) (hD : 5 ≤ d) : Ci l G y_Top_town b_Top_town 2 (some .int) d [.ref (G.2.2 + 0)] M (fun r9 M9 => r9 = x.1 ∧ M9 = x.2) := by
  refine Ci_of (by decide) (Nat.le_of_ble_eq_true rfl) (fun E hE X => ?_)
  subst hE
  have kr : ∀ x9 : Int32 × Mem, x = x9 → (fun r9 M9 => r9 = x.1 ∧ M9 = x.2) x9.1 x9.2 := fun x9 e9 => by subst e9; exact ⟨rfl, rfl⟩
  unfold f_Top_town at h
  refine V_aload_n (n := 0) X d_Top_town_0 rfl rfl rfl ?_
  refine V_getr (k2 := 3) X fo_Top_19 kd_0 rfl rf_0_1 d_Top_town_1 rfl ?_
  refine V_aload_n (n := 0) X d_Top_town_4 rfl rfl rfl ?_
  refine V_getr (k2 := 1) X fo_Top_10 kd_0 rfl rf_0_0 d_Top_town_5 rfl ?_
  obtain ⟨x1, hx1, h⟩ := ob_s h
  refine V_ci (As := [.ref (G.2.2 + 1)]) X (Z0 E) ml_Top_113 yq_Ground_read (c_Ground_read E.2.1 G  M x1 hx1 _ (Nat.le_refl _)) kd_3 rfl rfl (by omega) rfl (Nat.le_of_ble_eq_true rfl) d_Top_town_8 rfl (fun r9 M9 hq => ?_)
  rw [hq.1, hq.2]
  refine V_istore_n (lv' := [(1, .int x1.1), (0, .ref (G.2.2 + 0))]) X d_Top_town_11 rfl (by decide) rfl rfl ?_
  refine V_aload_n (n := 1) X d_Top_town_12 rfl rfl rfl ?_
  refine V_getr (k2 := 1) X fo_Top_10 kd_0 rfl rf_0_0 d_Top_town_13 rfl ?_
  refine V_iconst (v := 0) X d_Top_town_16 (by decide) rfl ?_
  obtain ⟨M2, eM2, h⟩ := memS h
  refine V_putI X fp_Top_110 kd_1 rfl d_Top_town_17 rfl ?_
  rw [← eM2]
  refine V_iload_n (n := 0) X d_Top_town_20 rfl rfl rfl ?_
  refine V_if_ge (tgt := 26) X d_Top_town_21 (by decide) rfl (fun c8 => ?_) (fun c8 => ?_)
  · rw [if_pos c8] at h
    refine V_aload_n (n := 1) X d_Top_town_26 rfl rfl rfl ?_
    refine V_getr (k2 := 6) X fo_Top_26 kd_0 rfl rf_0_2 d_Top_town_27 rfl ?_
    obtain ⟨x3, hx3, h⟩ := ob_s h
    refine V_cv (As := []) X (Z0 E) ml_Top_117 yq_Crowd_clear (c_Crowd_clear E.2.1 G  M2 x3 hx3 _ (Nat.le_refl _)) kd_6 rfl rfl (by omega) rfl (Nat.le_of_ble_eq_true rfl) d_Top_town_30 rfl (fun M9 hq => ?_)
    rw [hq]
    refine V_aload_n (n := 1) X d_Top_town_33 rfl rfl rfl ?_
    refine V_getr (k2 := 11) X fo_Top_33 kd_0 rfl rf_0_3 d_Top_town_34 rfl ?_
    obtain ⟨x4, hx4, h⟩ := ob_s h
    refine V_cv (As := []) X (Z0 E) ml_Top_120 yq_Scene_clear (c_Scene_clear E.2.1 G 11 x3 x4 hx4 _ (Nat.le_refl _)) kd_11 rfl rfl (by omega) rfl (Nat.le_of_ble_eq_true rfl) d_Top_town_37 rfl (fun M9 hq => ?_)
    rw [hq]
    refine V_aload_n (n := 1) X d_Top_town_40 rfl rfl rfl ?_
    refine V_getr (k2 := 46) X fo_Top_70 kd_0 rfl rf_0_10 d_Top_town_41 rfl ?_
    obtain ⟨x5, hx5, h⟩ := ob_s h
    refine V_cv (As := []) X (Z0 E) ml_Top_121 yq_History_clear (c_History_clear E.2.1 G  x4 x5 hx5 _ (Nat.le_refl _)) kd_46 rfl rfl (by omega) rfl (Nat.le_of_ble_eq_true rfl) d_Top_town_44 rfl (fun M9 hq => ?_)
    rw [hq]
    refine V_aload_n (n := 1) X d_Top_town_47 rfl rfl rfl ?_
    refine V_iconst (v := -1) X d_Top_town_48 (by decide) rfl ?_
    obtain ⟨M6, eM6, h⟩ := memS h
    refine V_putI X fp_Top_103 kd_0 rfl d_Top_town_49 rfl ?_
    rw [← eM6]
    refine V_aload_n (n := 1) X d_Top_town_52 rfl rfl rfl ?_
    refine V_getr (k2 := 32) X fo_Top_46 kd_0 rfl rf_0_6 d_Top_town_53 rfl ?_
    refine V_aload_n (n := 1) X d_Top_town_56 rfl rfl rfl ?_
    refine V_getr (k2 := 3) X fo_Top_19 kd_0 rfl rf_0_1 d_Top_town_57 rfl ?_
    refine V_aload_n (n := 1) X d_Top_town_60 rfl rfl rfl ?_
    refine V_getr (k2 := 11) X fo_Top_33 kd_0 rfl rf_0_3 d_Top_town_61 rfl ?_
    refine V_iconst (v := -1) X d_Top_town_64 (by decide) rfl ?_
    obtain ⟨x7, hx7, h⟩ := ob_s h
    refine V_cv (As := [.ref (G.2.2 + 3), .ref (G.2.2 + 11), .int (-1 : Int32)]) X (Z0 E) ml_Top_122 yq_Nets_lay (c_Nets_lay E.2.1 G 32 11 (-1 : Int32) M6 x7 hx7 _ (Nat.le_refl _)) kd_32 rfl rfl (by omega) rfl (Nat.le_of_ble_eq_true rfl) d_Top_town_65 rfl (fun M9 hq => ?_)
    rw [hq]
    refine V_iload_n (n := 0) X d_Top_town_68 rfl rfl rfl ?_
    exact V_iret X (kr (x1.1, x7) (Option.some.inj h).symm) d_Top_town_69
  · rw [if_neg c8] at h
    refine V_iload_n (n := 0) X d_Top_town_24 rfl rfl rfl ?_
    exact V_iret X (kr (x1.1, M2) (Option.some.inj h).symm) d_Top_town_25
def j_Top_folk_89_48 (v1 : Int32) (v3 : Int32) (w0 : Int32) (w1 : Int32) (w2 : Int32) (M : Mem) : Option ((Int32 × Mem) ⊕ ((Mem))) :=
  Option.bind (f_Scene_put 11 w2 w1 w0 M) fun x5 =>
  some (.inl ((v3 + (1 : Int32)), x5))
theorem j_Top_folk_89_48_ok {E : Ev} {G : Gw} {d : Nat} {post : Int32 → Mem → Prop} (X : Cx E G b_Top_folk "WomenByTheRoofs" 4 d (some .int)) (hD : 5 ≤ d)  (v1 : Int32) (v3 : Int32) (w0 : Int32) (w1 : Int32) (w2 : Int32)  (M : Mem)  (o : (Int32 × Mem) ⊕ ((Mem))) (h : j_Top_folk_89_48 v1 v3 w0 w1 w2 M = some o) (kc : ∀ s9 : Int32 × Mem, o = .inl s9 → V E (0, 0) G 4 (QI E G post) s9.2 48 [(0, .ref (G.2.2 + 0)), (1, .int v1), (3, .int s9.1)] []) (kx0 : ∀ x9 : Mem, o = .inr x9 → V E (0, 0) G 4 (QI E G post) x9 98 [(0, .ref (G.2.2 + 0)), (1, .int v1)] []) : V E (0, 0) G 4 (QI E G post) M 89 [(0, .ref (G.2.2 + 0)), (1, .int v1), (3, .int v3)] [.int w0, .int w1, .int w2, .ref (G.2.2 + 11)] := by
  unfold j_Top_folk_89_48 at h
  obtain ⟨x5, hx5, h⟩ := ob_s h
  refine V_cv (As := [.int w2, .int w1, .int w0]) X (Z0 E) ml_Top_142 yq_Scene_put (c_Scene_put E.2.1 G 11 w2 w1 w0 M x5 hx5 _ (Nat.le_refl _)) kd_11 rfl rfl (by omega) rfl (Nat.le_of_ble_eq_true rfl) d_Top_folk_89 rfl (fun M9 hq => ?_)
  rw [hq]
  refine V_iinc (n := 2) (v := (v3 + (1 : Int32))) (lv' := [(3, .int (v3 + (1 : Int32))), (0, .ref (G.2.2 + 0)), (1, .int v1)]) X d_Top_folk_92 rfl rfl (by decide) rfl rfl ?_
  refine V_goto (pc' := 48) X d_Top_folk_95 (by decide) ?_
  refine V_sub (lv' := [(0, .ref (G.2.2 + 0)), (1, .int v1), (3, .int (v3 + (1 : Int32)))]) [1, 2, 0] rfl ?_
  exact kc ((v3 + (1 : Int32)), x5) (Option.some.inj h).symm
def lb_Top_folk_48 (v1 : Int32) (s : Int32 × Mem) : Option ((Int32 × Mem) ⊕ ((Mem))) :=
  if (s.2.1 6 4) ≤ s.1 then
  some (.inr s.2)
  else
  if inb s.1 8 = true then
  Option.bind (f_Crowd_woman s.1 s.2) fun x4 =>
  if x4 = 0 then
  j_Top_folk_89_48 v1 s.1 (0 : Int32) (s.2.1 9 s.1.toNatClampNeg) s.1 s.2
  else
  j_Top_folk_89_48 v1 s.1 (1 : Int32) (s.2.1 9 s.1.toNatClampNeg) s.1 s.2
  else none
theorem lb_Top_folk_48_ok {E : Ev} {G : Gw} {d : Nat} {post : Int32 → Mem → Prop} (X : Cx E G b_Top_folk "WomenByTheRoofs" 4 d (some .int)) (hD : 5 ≤ d)  (v1 : Int32)   (s : Int32 × Mem) (o : (Int32 × Mem) ⊕ ((Mem))) (h : lb_Top_folk_48 v1 s = some o) (kc : ∀ s9 : Int32 × Mem, o = .inl s9 → V E (0, 0) G 4 (QI E G post) s9.2 48 [(0, .ref (G.2.2 + 0)), (1, .int v1), (3, .int s9.1)] []) (kx0 : ∀ x9 : Mem, o = .inr x9 → V E (0, 0) G 4 (QI E G post) x9 98 [(0, .ref (G.2.2 + 0)), (1, .int v1)] []) : V E (0, 0) G 4 (QI E G post) s.2 48 [(0, .ref (G.2.2 + 0)), (1, .int v1), (3, .int s.1)] [] := by
  unfold lb_Top_folk_48 at h
  refine V_iload_n (n := 2) X d_Top_folk_48 rfl rfl rfl ?_
  refine V_aload_n (n := 0) X d_Top_folk_49 rfl rfl rfl ?_
  refine V_getr (k2 := 6) X fo_Top_26 kd_0 rfl rf_0_2 d_Top_folk_50 rfl ?_
  refine V_geti X fo_Top_129 kd_6 rfl d_Top_folk_53 rfl ?_
  refine V_icmp_ge (tgt := 98) X d_Top_folk_56 (by decide) rfl (fun c7 => ?_) (fun c7 => ?_)
  · rw [if_pos c7] at h
    refine V_sub (lv' := [(0, .ref (G.2.2 + 0)), (1, .int v1)]) [0, 1] rfl ?_
    exact kx0 s.2 (Option.some.inj h).symm
  · rw [if_neg c7] at h
    refine V_aload_n (n := 0) X d_Top_folk_59 rfl rfl rfl ?_
    refine V_getr (k2 := 11) X fo_Top_33 kd_0 rfl rf_0_3 d_Top_folk_60 rfl ?_
    refine V_iload_n (n := 2) X d_Top_folk_63 rfl rfl rfl ?_
    refine V_aload_n (n := 0) X d_Top_folk_64 rfl rfl rfl ?_
    refine V_getr (k2 := 6) X fo_Top_26 kd_0 rfl rf_0_2 d_Top_folk_65 rfl ?_
    refine V_getr (k2 := 9) X fo_Top_136 kd_6 rfl rf_6_2 d_Top_folk_68 rfl ?_
    refine V_iload_n (n := 2) X d_Top_folk_71 rfl rfl rfl ?_
    obtain ⟨hb, h⟩ := ifn h
    refine V_iald X kd_9 (inb_in ln_9 hb) d_Top_folk_72 rfl ?_
    refine V_aload_n (n := 0) X d_Top_folk_73 rfl rfl rfl ?_
    refine V_getr (k2 := 6) X fo_Top_26 kd_0 rfl rf_0_2 d_Top_folk_74 rfl ?_
    refine V_iload_n (n := 2) X d_Top_folk_77 rfl rfl rfl ?_
    obtain ⟨x4, hx4, h⟩ := ob_s h
    refine V_ci (As := [.int s.1]) X (Z0 E) ml_Top_139 yq_Crowd_woman (c_Crowd_woman E.2.1 G s.1 s.2 x4 hx4 _ (Nat.le_refl _)) kd_6 rfl rfl (by omega) rfl (Nat.le_of_ble_eq_true rfl) d_Top_folk_78 rfl (fun r9 M9 hq => ?_)
    rw [hq.1, hq.2]
    refine V_if_eq (tgt := 88) X d_Top_folk_81 (by decide) rfl (fun c6 => ?_) (fun c6 => ?_)
    · rw [if_pos c6] at h
      refine V_iconst (v := 0) X d_Top_folk_88 (by decide) rfl ?_
      exact j_Top_folk_89_48_ok X hD v1 s.1 (0 : Int32) (s.2.1 9 s.1.toNatClampNeg) s.1 s.2 _ h kc kx0
    · rw [if_neg c6] at h
      refine V_iconst (v := 1) X d_Top_folk_84 (by decide) rfl ?_
      refine V_goto (pc' := 89) X d_Top_folk_85 (by decide) ?_
      exact j_Top_folk_89_48_ok X hD v1 s.1 (1 : Int32) (s.2.1 9 s.1.toNatClampNeg) s.1 s.2 _ h kc kx0
theorem lp_Top_folk_48_ok {E : Ev} {G : Gw} {d : Nat} {post : Int32 → Mem → Prop} (X : Cx E G b_Top_folk "WomenByTheRoofs" 4 d (some .int)) (hD : 5 ≤ d)  (v1 : Int32)   (n9 : Nat) (s : Int32 × Mem) (x : (Mem)) (h : iter (lb_Top_folk_48 v1) n9 s = some x) (kx0 : ∀ x9 : Mem, x = x9 → V E (0, 0) G 4 (QI E G post) x9 98 [(0, .ref (G.2.2 + 0)), (1, .int v1)] []) : V E (0, 0) G 4 (QI E G post) s.2 48 [(0, .ref (G.2.2 + 0)), (1, .int v1), (3, .int s.1)] [] :=
  iter_P (P := fun s : Int32 × Mem => V E (0, 0) G 4 (QI E G post) s.2 48 [(0, .ref (G.2.2 + 0)), (1, .int v1), (3, .int s.1)] []) (fun s o hb kc ky => lb_Top_folk_48_ok X hD v1 s o hb kc (fun x9 e9 => kx0 x9 (ky _ e9).symm)) n9 s h
def f_Top_folk (M : Mem) : Option (Int32 × Mem) :=
  Option.bind (f_Crowd_read M) fun x1 =>
  mem_ (s_i x1.2 1 1 (0 : Int32)) fun M2 =>
  if 0 < x1.1 then
  Option.bind (f_Crowd_letIn x1.1 M2) fun x3 =>
  Option.bind (iter (lb_Top_folk_48 x1.1) FU ((M2.1 6 4), x3)) fun x8 =>
  Option.bind (f_History_forget x8) fun x9 =>
  Option.bind (f_History_spoil x9) fun x10 =>
  some (x1.1, x10)
  else
  some (x1.1, M2)
theorem c_Top_folk (l : Launch) (G : Gw)   (M : Mem) (x : Int32 × Mem) (h : f_Top_folk M = some x) (d : Nat) (hD : 5 ≤ d) : Ci l G y_Top_folk b_Top_folk 4 (some .int) d [.ref (G.2.2 + 0)] M (fun r9 M9 => r9 = x.1 ∧ M9 = x.2) := by
  refine Ci_of (by decide) (Nat.le_of_ble_eq_true rfl) (fun E hE X => ?_)
  subst hE
  have kr : ∀ x9 : Int32 × Mem, x = x9 → (fun r9 M9 => r9 = x.1 ∧ M9 = x.2) x9.1 x9.2 := fun x9 e9 => by subst e9; exact ⟨rfl, rfl⟩
  unfold f_Top_folk at h
  refine V_aload_n (n := 0) X d_Top_folk_0 rfl rfl rfl ?_
  refine V_getr (k2 := 6) X fo_Top_26 kd_0 rfl rf_0_2 d_Top_folk_1 rfl ?_
  refine V_aload_n (n := 0) X d_Top_folk_4 rfl rfl rfl ?_
  refine V_getr (k2 := 1) X fo_Top_10 kd_0 rfl rf_0_0 d_Top_folk_5 rfl ?_
  refine V_aload_n (n := 0) X d_Top_folk_8 rfl rfl rfl ?_
  refine V_getr (k2 := 3) X fo_Top_19 kd_0 rfl rf_0_1 d_Top_folk_9 rfl ?_
  obtain ⟨x1, hx1, h⟩ := ob_s h
  refine V_ci (As := [.ref (G.2.2 + 1), .ref (G.2.2 + 3)]) X (Z0 E) ml_Top_126 yq_Crowd_read (c_Crowd_read E.2.1 G  M x1 hx1 _ (Nat.le_refl _)) kd_6 rfl rfl (by omega) rfl (Nat.le_of_ble_eq_true rfl) d_Top_folk_12 rfl (fun r9 M9 hq => ?_)
  rw [hq.1, hq.2]
  refine V_istore_n (lv' := [(1, .int x1.1), (0, .ref (G.2.2 + 0))]) X d_Top_folk_15 rfl (by decide) rfl rfl ?_
  refine V_aload_n (n := 1) X d_Top_folk_16 rfl rfl rfl ?_
  refine V_getr (k2 := 1) X fo_Top_10 kd_0 rfl rf_0_0 d_Top_folk_17 rfl ?_
  refine V_iconst (v := 0) X d_Top_folk_20 (by decide) rfl ?_
  obtain ⟨M2, eM2, h⟩ := memS h
  refine V_putI X fp_Top_110 kd_1 rfl d_Top_folk_21 rfl ?_
  rw [← eM2]
  refine V_iload_n (n := 0) X d_Top_folk_24 rfl rfl rfl ?_
  refine V_if_gt (tgt := 30) X d_Top_folk_25 (by decide) rfl (fun c11 => ?_) (fun c11 => ?_)
  · rw [if_pos c11] at h
    refine V_aload_n (n := 1) X d_Top_folk_30 rfl rfl rfl ?_
    refine V_getr (k2 := 6) X fo_Top_26 kd_0 rfl rf_0_2 d_Top_folk_31 rfl ?_
    refine V_geti X fo_Top_129 kd_6 rfl d_Top_folk_34 rfl ?_
    refine V_istore_n (lv' := [(2, .int (M2.1 6 4)), (1, .int x1.1), (0, .ref (G.2.2 + 0))]) X d_Top_folk_37 rfl (by decide) rfl rfl ?_
    refine V_aload_n (n := 2) X d_Top_folk_38 rfl rfl rfl ?_
    refine V_getr (k2 := 6) X fo_Top_26 kd_0 rfl rf_0_2 d_Top_folk_39 rfl ?_
    refine V_iload_n (n := 1) X d_Top_folk_42 rfl rfl rfl ?_
    obtain ⟨x3, hx3, h⟩ := ob_s h
    refine V_cv (As := [.int x1.1]) X (Z0 E) ml_Top_132 yq_Crowd_letIn (c_Crowd_letIn E.2.1 G x1.1 M2 x3 hx3 _ (Nat.le_refl _)) kd_6 rfl rfl (by omega) rfl (Nat.le_of_ble_eq_true rfl) d_Top_folk_43 rfl (fun M9 hq => ?_)
    rw [hq]
    refine V_iload_n (n := 0) X d_Top_folk_46 rfl rfl rfl ?_
    refine V_istore_n (lv' := [(3, .int (M2.1 6 4)), (2, .int (M2.1 6 4)), (1, .int x1.1), (0, .ref (G.2.2 + 0))]) X d_Top_folk_47 rfl (by decide) rfl rfl ?_
    refine V_sub (lv' := [(0, .ref (G.2.2 + 0)), (1, .int x1.1), (3, .int (M2.1 6 4))]) [3, 2, 0] rfl ?_
    obtain ⟨x8, hx8, h⟩ := ob_s h
    refine (lp_Top_folk_48_ok X hD x1.1 _ _ _ hx8 (fun x9 e9 => ?_) :)
    subst e9
    refine V_aload_n (n := 0) X d_Top_folk_98 rfl rfl rfl ?_
    refine V_getr (k2 := 46) X fo_Top_70 kd_0 rfl rf_0_10 d_Top_folk_99 rfl ?_
    obtain ⟨x9, hx9, h⟩ := ob_s h
    refine V_cv (As := []) X (Z0 E) ml_Top_146 yq_History_forget (c_History_forget E.2.1 G  x8 x9 hx9 _ (Nat.le_refl _)) kd_46 rfl rfl (by omega) rfl (Nat.le_of_ble_eq_true rfl) d_Top_folk_102 rfl (fun M9 hq => ?_)
    rw [hq]
    refine V_aload_n (n := 0) X d_Top_folk_105 rfl rfl rfl ?_
    refine V_getr (k2 := 46) X fo_Top_70 kd_0 rfl rf_0_10 d_Top_folk_106 rfl ?_
    obtain ⟨x10, hx10, h⟩ := ob_s h
    refine V_cv (As := []) X (Z0 E) ml_Top_149 yq_History_spoil (c_History_spoil E.2.1 G  x9 x10 hx10 _ (Nat.le_refl _)) kd_46 rfl rfl (by omega) rfl (Nat.le_of_ble_eq_true rfl) d_Top_folk_109 rfl (fun M9 hq => ?_)
    rw [hq]
    refine V_iload_n (n := 1) X d_Top_folk_112 rfl rfl rfl ?_
    exact V_iret X (kr (x1.1, x10) (Option.some.inj h).symm) d_Top_folk_113
  · rw [if_neg c11] at h
    refine V_iload_n (n := 0) X d_Top_folk_28 rfl rfl rfl ?_
    exact V_iret X (kr (x1.1, M2) (Option.some.inj h).symm) d_Top_folk_29
def f_Top_rule (M : Mem) : Option (Int32 × Mem) :=
  Option.bind (f_Law_read M) fun x1 =>
  mem_ (s_i x1.2 1 1 (0 : Int32)) fun M2 =>
  some (x1.1, M2)
theorem c_Top_rule (l : Launch) (G : Gw)   (M : Mem) (x : Int32 × Mem) (h : f_Top_rule M = some x) (d : Nat) (hD : 5 ≤ d) : Ci l G y_Top_rule b_Top_rule 2 (some .int) d [.ref (G.2.2 + 0)] M (fun r9 M9 => r9 = x.1 ∧ M9 = x.2) := by
  refine Ci_of (by decide) (Nat.le_of_ble_eq_true rfl) (fun E hE X => ?_)
  subst hE
  have kr : ∀ x9 : Int32 × Mem, x = x9 → (fun r9 M9 => r9 = x.1 ∧ M9 = x.2) x9.1 x9.2 := fun x9 e9 => by subst e9; exact ⟨rfl, rfl⟩
  unfold f_Top_rule at h
  refine V_aload_n (n := 0) X d_Top_rule_0 rfl rfl rfl ?_
  refine V_getr (k2 := 40) X fo_Top_56 kd_0 rfl rf_0_8 d_Top_rule_1 rfl ?_
  refine V_aload_n (n := 0) X d_Top_rule_4 rfl rfl rfl ?_
  refine V_getr (k2 := 1) X fo_Top_10 kd_0 rfl rf_0_0 d_Top_rule_5 rfl ?_
  obtain ⟨x1, hx1, h⟩ := ob_s h
  refine V_ci (As := [.ref (G.2.2 + 1)]) X (Z0 E) ml_Top_152 yq_Law_read (c_Law_read E.2.1 G  M x1 hx1 _ (Nat.le_refl _)) kd_40 rfl rfl (by omega) rfl (Nat.le_of_ble_eq_true rfl) d_Top_rule_8 rfl (fun r9 M9 hq => ?_)
  rw [hq.1, hq.2]
  refine V_istore_n (lv' := [(1, .int x1.1), (0, .ref (G.2.2 + 0))]) X d_Top_rule_11 rfl (by decide) rfl rfl ?_
  refine V_aload_n (n := 1) X d_Top_rule_12 rfl rfl rfl ?_
  refine V_getr (k2 := 1) X fo_Top_10 kd_0 rfl rf_0_0 d_Top_rule_13 rfl ?_
  refine V_iconst (v := 0) X d_Top_rule_16 (by decide) rfl ?_
  obtain ⟨M2, eM2, h⟩ := memS h
  refine V_putI X fp_Top_110 kd_1 rfl d_Top_rule_17 rfl ?_
  rw [← eM2]
  refine V_iload_n (n := 0) X d_Top_rule_20 rfl rfl rfl ?_
  exact V_iret X (kr (x1.1, M2) (Option.some.inj h).symm) d_Top_rule_21
def j_Top_route_28 (v1 : Int32) (w0 : Int32) (M : Mem) : Option (Int32 × Mem) :=
  mem_ (s_i M 1 1 (0 : Int32)) fun M2 =>
  if 0 ≤ w0 then
  if inb v1 8 = true then
  mem_ (s_i M2 14 v1.toNatClampNeg (0 : Int32)) fun M3 =>
  Option.bind (f_History_forget M3) fun x4 =>
  Option.bind (f_History_spoil x4) fun x5 =>
  some (w0, x5)
  else none
  else
  some (w0, M2)
theorem j_Top_route_28_ok {E : Ev} {G : Gw} {d : Nat} {post : Int32 → Mem → Prop} (X : Cx E G b_Top_route "WomenByTheRoofs" 3 d (some .int)) (hD : 4 ≤ d)  (v1 : Int32) (w0 : Int32)  (M : Mem)  (o : Int32 × Mem) (h : j_Top_route_28 v1 w0 M = some o) (kr : ∀ x9 : Int32 × Mem, o = x9 → post x9.1 x9.2) : V E (0, 0) G 3 (QI E G post) M 28 [(0, .ref (G.2.2 + 0)), (1, .int v1)] [.int w0] := by
  unfold j_Top_route_28 at h
  refine V_istore_n (lv' := [(2, .int w0), (0, .ref (G.2.2 + 0)), (1, .int v1)]) X d_Top_route_28 rfl (by decide) rfl rfl ?_
  refine V_aload_n (n := 1) X d_Top_route_29 rfl rfl rfl ?_
  refine V_getr (k2 := 1) X fo_Top_10 kd_0 rfl rf_0_0 d_Top_route_30 rfl ?_
  refine V_iconst (v := 0) X d_Top_route_33 (by decide) rfl ?_
  obtain ⟨M2, eM2, h⟩ := memS h
  refine V_putI X fp_Top_110 kd_1 rfl d_Top_route_34 rfl ?_
  rw [← eM2]
  refine V_iload_n (n := 0) X d_Top_route_37 rfl rfl rfl ?_
  refine V_if_ge (tgt := 43) X d_Top_route_38 (by decide) rfl (fun c6 => ?_) (fun c6 => ?_)
  · rw [if_pos c6] at h
    refine V_aload_n (n := 1) X d_Top_route_43 rfl rfl rfl ?_
    refine V_getr (k2 := 11) X fo_Top_33 kd_0 rfl rf_0_3 d_Top_route_44 rfl ?_
    refine V_getr (k2 := 14) X fo_Top_160 kd_11 rfl rf_11_2 d_Top_route_47 rfl ?_
    refine V_iload_n (n := 2) X d_Top_route_50 rfl rfl rfl ?_
    refine V_iconst (v := 0) X d_Top_route_51 (by decide) rfl ?_
    obtain ⟨hb, h⟩ := ifn h
    obtain ⟨M3, eM3, h⟩ := memS h
    refine V_iast X kd_14 (inb_in ln_14 hb) d_Top_route_52 rfl ?_
    rw [← eM3]
    refine V_aload_n (n := 1) X d_Top_route_53 rfl rfl rfl ?_
    refine V_getr (k2 := 46) X fo_Top_70 kd_0 rfl rf_0_10 d_Top_route_54 rfl ?_
    obtain ⟨x4, hx4, h⟩ := ob_s h
    refine V_cv (As := []) X (Z0 E) ml_Top_146 yq_History_forget (c_History_forget E.2.1 G  M3 x4 hx4 _ (Nat.le_refl _)) kd_46 rfl rfl (by omega) rfl (Nat.le_of_ble_eq_true rfl) d_Top_route_57 rfl (fun M9 hq => ?_)
    rw [hq]
    refine V_aload_n (n := 1) X d_Top_route_60 rfl rfl rfl ?_
    refine V_getr (k2 := 46) X fo_Top_70 kd_0 rfl rf_0_10 d_Top_route_61 rfl ?_
    obtain ⟨x5, hx5, h⟩ := ob_s h
    refine V_cv (As := []) X (Z0 E) ml_Top_149 yq_History_spoil (c_History_spoil E.2.1 G  x4 x5 hx5 _ (Nat.le_refl _)) kd_46 rfl rfl (by omega) rfl (Nat.le_of_ble_eq_true rfl) d_Top_route_64 rfl (fun M9 hq => ?_)
    rw [hq]
    refine V_iload_n (n := 0) X d_Top_route_67 rfl rfl rfl ?_
    exact V_iret X (kr (w0, x5) (Option.some.inj h).symm) d_Top_route_68
  · rw [if_neg c6] at h
    refine V_iload_n (n := 0) X d_Top_route_41 rfl rfl rfl ?_
    exact V_iret X (kr (w0, M2) (Option.some.inj h).symm) d_Top_route_42
def f_Top_route (v1 : Int32) (M : Mem) : Option (Int32 × Mem) :=
  Option.bind (f_Crowd_has v1 M) fun x1 =>
  if x1 = 0 then
  j_Top_route_28 v1 (-100 : Int32) M
  else
  Option.bind (f_Crowd_tellWay v1 M) fun x7 =>
  j_Top_route_28 v1 x7.1 x7.2
theorem c_Top_route (l : Launch) (G : Gw)  (v1 : Int32) (M : Mem) (x : Int32 × Mem) (h : f_Top_route v1 M = some x) (d : Nat) (hD : 4 ≤ d) : Ci l G y_Top_route b_Top_route 3 (some .int) d [.ref (G.2.2 + 0), .int v1] M (fun r9 M9 => r9 = x.1 ∧ M9 = x.2) := by
  refine Ci_of (by decide) (Nat.le_of_ble_eq_true rfl) (fun E hE X => ?_)
  subst hE
  have kr : ∀ x9 : Int32 × Mem, x = x9 → (fun r9 M9 => r9 = x.1 ∧ M9 = x.2) x9.1 x9.2 := fun x9 e9 => by subst e9; exact ⟨rfl, rfl⟩
  unfold f_Top_route at h
  refine V_aload_n (n := 0) X d_Top_route_0 rfl rfl rfl ?_
  refine V_getr (k2 := 6) X fo_Top_26 kd_0 rfl rf_0_2 d_Top_route_1 rfl ?_
  refine V_iload_n (n := 1) X d_Top_route_4 rfl rfl rfl ?_
  obtain ⟨x1, hx1, h⟩ := ob_s h
  refine V_ci (As := [.int v1]) X (Z0 E) ml_Top_153 yq_Crowd_has (c_Crowd_has E.2.1 G v1 M x1 hx1 _ (Nat.le_refl _)) kd_6 rfl rfl (by omega) rfl (Nat.le_of_ble_eq_true rfl) d_Top_route_5 rfl (fun r9 M9 hq => ?_)
  rw [hq.1, hq.2]
  refine V_if_eq (tgt := 26) X d_Top_route_8 (by decide) rfl (fun c8 => ?_) (fun c8 => ?_)
  · rw [if_pos c8] at h
    refine V_bipush (v := -100) X d_Top_route_26 (by decide) rfl ?_
    exact j_Top_route_28_ok X hD v1 (-100 : Int32) M _ h kr
  · rw [if_neg c8] at h
    refine V_aload_n (n := 0) X d_Top_route_11 rfl rfl rfl ?_
    refine V_getr (k2 := 6) X fo_Top_26 kd_0 rfl rf_0_2 d_Top_route_12 rfl ?_
    refine V_iload_n (n := 1) X d_Top_route_15 rfl rfl rfl ?_
    refine V_aload_n (n := 0) X d_Top_route_16 rfl rfl rfl ?_
    refine V_getr (k2 := 1) X fo_Top_10 kd_0 rfl rf_0_0 d_Top_route_17 rfl ?_
    obtain ⟨x7, hx7, h⟩ := ob_s h
    refine V_ci (As := [.int v1, .ref (G.2.2 + 1)]) X (Z0 E) ml_Top_156 yq_Crowd_tellWay (c_Crowd_tellWay E.2.1 G v1 M x7 hx7 _ (Nat.le_refl _)) kd_6 rfl rfl (by omega) rfl (Nat.le_of_ble_eq_true rfl) d_Top_route_20 rfl (fun r9 M9 hq => ?_)
    rw [hq.1, hq.2]
    refine V_goto (pc' := 28) X d_Top_route_23 (by decide) ?_
    exact j_Top_route_28_ok X hD v1 x7.1 x7.2 _ h kr
def j_Top_canBecome_20_2 (v1 : Int32) (v2 : Int32) (v3 : Int32) (w0 : Int32) (M : Mem) : Option ((Int32) ⊕ ((Unit) ⊕ (Unit))) :=
  if w0 = 0 then
  some (.inl (v3 + (1 : Int32)))
  else
  Option.bind (f_Scene_standing 11 v3 v1 (M.1 6 4) M) fun x1 =>
  if x1 = 0 then
  some (.inl (v3 + (1 : Int32)))
  else
  some (.inr (Sum.inr ()))
theorem j_Top_canBecome_20_2_ok {E : Ev} {G : Gw} {d : Nat} {post : Int32 → Mem → Prop} (X : Cx E G b_Top_canBecome "WomenByTheRoofs" 5 d (some .boolean)) (hD : 5 ≤ d)  (v1 : Int32) (v2 : Int32) (v3 : Int32) (w0 : Int32)  (M : Mem)  (o : (Int32) ⊕ ((Unit) ⊕ (Unit))) (h : j_Top_canBecome_20_2 v1 v2 v3 w0 M = some o) (kc : ∀ s9 : Int32, o = .inl s9 → V E (0, 0) G 5 (QI E G post) M 2 [(0, .ref (G.2.2 + 0)), (1, .int v1), (2, .int v2), (3, .int s9)] []) (kx0 : ∀ x9 : Unit, o = .inr (Sum.inl x9) → V E (0, 0) G 5 (QI E G post) M 54 [(0, .ref (G.2.2 + 0)), (1, .int v1), (2, .int v2)] []) (kx1 : ∀ x9 : Unit, o = .inr (Sum.inr x9) → V E (0, 0) G 5 (QI E G post) M 46 [] []) : V E (0, 0) G 5 (QI E G post) M 20 [(0, .ref (G.2.2 + 0)), (1, .int v1), (2, .int v2), (3, .int v3)] [.int w0] := by
  unfold j_Top_canBecome_20_2 at h
  refine V_istore (lv' := [(4, .int w0), (0, .ref (G.2.2 + 0)), (1, .int v1), (2, .int v2), (3, .int v3)]) X d_Top_canBecome_20 (by decide) rfl rfl ?_
  refine V_iload (n := 0) X d_Top_canBecome_22 rfl rfl ?_
  refine V_if_eq (tgt := 48) X d_Top_canBecome_24 (by decide) rfl (fun c3 => ?_) (fun c3 => ?_)
  · rw [if_pos c3] at h
    refine V_iinc (n := 4) (v := (v3 + (1 : Int32))) (lv' := [(3, .int (v3 + (1 : Int32))), (4, .int w0), (0, .ref (G.2.2 + 0)), (1, .int v1), (2, .int v2)]) X d_Top_canBecome_48 rfl rfl (by decide) rfl rfl ?_
    refine V_goto (pc' := 2) X d_Top_canBecome_51 (by decide) ?_
    refine V_sub (lv' := [(0, .ref (G.2.2 + 0)), (1, .int v1), (2, .int v2), (3, .int (v3 + (1 : Int32)))]) [2, 3, 4, 0] rfl ?_
    exact kc (v3 + (1 : Int32)) (Option.some.inj h).symm
  · rw [if_neg c3] at h
    refine V_aload_n (n := 1) X d_Top_canBecome_27 rfl rfl rfl ?_
    refine V_getr (k2 := 11) X fo_Top_33 kd_0 rfl rf_0_3 d_Top_canBecome_28 rfl ?_
    refine V_iload_n (n := 4) X d_Top_canBecome_31 rfl rfl rfl ?_
    refine V_iload_n (n := 2) X d_Top_canBecome_32 rfl rfl rfl ?_
    refine V_aload_n (n := 1) X d_Top_canBecome_33 rfl rfl rfl ?_
    refine V_getr (k2 := 6) X fo_Top_26 kd_0 rfl rf_0_2 d_Top_canBecome_34 rfl ?_
    refine V_geti X fo_Top_129 kd_6 rfl d_Top_canBecome_37 rfl ?_
    obtain ⟨x1, hx1, h⟩ := ob_s h
    refine V_ci (As := [.int v3, .int v1, .int (M.1 6 4)]) X (Z0 E) ml_Top_170 yq_Scene_standing (c_Scene_standing E.2.1 G 11 v3 v1 (M.1 6 4) M x1 hx1 _ (Nat.le_refl _)) kd_11 rfl rfl (by omega) rfl (Nat.le_of_ble_eq_true rfl) d_Top_canBecome_40 rfl (fun r9 M9 hq => ?_)
    rw [hq.1, hq.2]
    refine V_if_eq (tgt := 48) X d_Top_canBecome_43 (by decide) rfl (fun c2 => ?_) (fun c2 => ?_)
    · rw [if_pos c2] at h
      refine V_iinc (n := 4) (v := (v3 + (1 : Int32))) (lv' := [(3, .int (v3 + (1 : Int32))), (4, .int w0), (0, .ref (G.2.2 + 0)), (1, .int v1), (2, .int v2)]) X d_Top_canBecome_48 rfl rfl (by decide) rfl rfl ?_
      refine V_goto (pc' := 2) X d_Top_canBecome_51 (by decide) ?_
      refine V_sub (lv' := [(0, .ref (G.2.2 + 0)), (1, .int v1), (2, .int v2), (3, .int (v3 + (1 : Int32)))]) [2, 3, 4, 0] rfl ?_
      exact kc (v3 + (1 : Int32)) (Option.some.inj h).symm
    · rw [if_neg c2] at h
      refine V_sub (lv' := []) [] rfl ?_
      exact kx1 () (Option.some.inj h).symm
def lb_Top_canBecome_2 (v1 : Int32) (v2 : Int32) (M : Mem) (s : Int32) : Option ((Int32) ⊕ ((Unit) ⊕ (Unit))) :=
  if (1 : Int32) < s then
  some (.inr (Sum.inl ()))
  else
  if ((v2 >>> (s &&& 31)) &&& (1 : Int32)) = 0 then
  j_Top_canBecome_20_2 v1 v2 s (1 : Int32) M
  else
  j_Top_canBecome_20_2 v1 v2 s (0 : Int32) M
theorem lb_Top_canBecome_2_ok {E : Ev} {G : Gw} {d : Nat} {post : Int32 → Mem → Prop} (X : Cx E G b_Top_canBecome "WomenByTheRoofs" 5 d (some .boolean)) (hD : 5 ≤ d)  (v1 : Int32) (v2 : Int32)  (M : Mem) (s : Int32) (o : (Int32) ⊕ ((Unit) ⊕ (Unit))) (h : lb_Top_canBecome_2 v1 v2 M s = some o) (kc : ∀ s9 : Int32, o = .inl s9 → V E (0, 0) G 5 (QI E G post) M 2 [(0, .ref (G.2.2 + 0)), (1, .int v1), (2, .int v2), (3, .int s9)] []) (kx0 : ∀ x9 : Unit, o = .inr (Sum.inl x9) → V E (0, 0) G 5 (QI E G post) M 54 [(0, .ref (G.2.2 + 0)), (1, .int v1), (2, .int v2)] []) (kx1 : ∀ x9 : Unit, o = .inr (Sum.inr x9) → V E (0, 0) G 5 (QI E G post) M 46 [] []) : V E (0, 0) G 5 (QI E G post) M 2 [(0, .ref (G.2.2 + 0)), (1, .int v1), (2, .int v2), (3, .int s)] [] := by
  unfold lb_Top_canBecome_2 at h
  refine V_iload_n (n := 3) X d_Top_canBecome_2 rfl rfl rfl ?_
  refine V_iconst (v := 1) X d_Top_canBecome_3 (by decide) rfl ?_
  refine V_icmp_gt (tgt := 54) X d_Top_canBecome_4 (by decide) rfl (fun c5 => ?_) (fun c5 => ?_)
  · rw [if_pos c5] at h
    refine V_sub (lv' := [(0, .ref (G.2.2 + 0)), (1, .int v1), (2, .int v2)]) [0, 1, 2] rfl ?_
    exact kx0 () (Option.some.inj h).symm
  · rw [if_neg c5] at h
    refine V_iload_n (n := 2) X d_Top_canBecome_7 rfl rfl rfl ?_
    refine V_iload_n (n := 3) X d_Top_canBecome_8 rfl rfl rfl ?_
    refine V_ishr X d_Top_canBecome_9 rfl ?_
    refine V_iconst (v := 1) X d_Top_canBecome_10 (by decide) rfl ?_
    refine V_iand X d_Top_canBecome_11 rfl ?_
    refine V_if_ne (tgt := 19) X d_Top_canBecome_12 (by decide) rfl (fun c4 => ?_) (fun c4 => ?_)
    · rw [if_neg c4] at h
      refine V_iconst (v := 0) X d_Top_canBecome_19 (by decide) rfl ?_
      exact j_Top_canBecome_20_2_ok X hD v1 v2 s (0 : Int32) M _ h kc kx0 kx1
    · rw [if_pos c4] at h
      refine V_iconst (v := 1) X d_Top_canBecome_15 (by decide) rfl ?_
      refine V_goto (pc' := 20) X d_Top_canBecome_16 (by decide) ?_
      exact j_Top_canBecome_20_2_ok X hD v1 v2 s (1 : Int32) M _ h kc kx0 kx1
theorem lp_Top_canBecome_2_ok {E : Ev} {G : Gw} {d : Nat} {post : Int32 → Mem → Prop} (X : Cx E G b_Top_canBecome "WomenByTheRoofs" 5 d (some .boolean)) (hD : 5 ≤ d)  (v1 : Int32) (v2 : Int32)  (M : Mem) (n9 : Nat) (s : Int32) (x : (Unit) ⊕ (Unit)) (h : iter (lb_Top_canBecome_2 v1 v2 M) n9 s = some x) (kx0 : ∀ x9 : Unit, x = (Sum.inl x9) → V E (0, 0) G 5 (QI E G post) M 54 [(0, .ref (G.2.2 + 0)), (1, .int v1), (2, .int v2)] []) (kx1 : ∀ x9 : Unit, x = (Sum.inr x9) → V E (0, 0) G 5 (QI E G post) M 46 [] []) : V E (0, 0) G 5 (QI E G post) M 2 [(0, .ref (G.2.2 + 0)), (1, .int v1), (2, .int v2), (3, .int s)] [] :=
  iter_P (P := fun s : Int32 => V E (0, 0) G 5 (QI E G post) M 2 [(0, .ref (G.2.2 + 0)), (1, .int v1), (2, .int v2), (3, .int s)] []) (fun s o hb kc ky => lb_Top_canBecome_2_ok X hD v1 v2 M s o hb kc (fun x9 e9 => kx0 x9 (ky _ e9).symm) (fun x9 e9 => kx1 x9 (ky _ e9).symm)) n9 s h
def j_Top_canBecome_67 (v1 : Int32) (w0 : Int32) (M : Mem) : Option (Int32) :=
  if w0 = 0 then
  Option.bind (f_Scene_planksAt 11 v1 M) fun x8 =>
  if x8 = 0 then
  some (1 : Int32)
  else
  some (0 : Int32)
  else
  Option.bind (f_Scene_isUnderPlank 11 v1 M) fun x10 =>
  if x10 = 0 then
  some (1 : Int32)
  else
  some (0 : Int32)
theorem j_Top_canBecome_67_ok {E : Ev} {G : Gw} {d : Nat} {post : Int32 → Mem → Prop} (X : Cx E G b_Top_canBecome "WomenByTheRoofs" 5 d (some .boolean)) (hD : 5 ≤ d)  (v1 : Int32) (w0 : Int32)  (M : Mem)  (o : Int32) (h : j_Top_canBecome_67 v1 w0 M = some o) (kr : ∀ x9 : Int32, o = x9 → post x9 M) : V E (0, 0) G 5 (QI E G post) M 67 [(0, .ref (G.2.2 + 0)), (1, .int v1)] [.int w0] := by
  unfold j_Top_canBecome_67 at h
  refine V_istore_n (lv' := [(3, .int w0), (0, .ref (G.2.2 + 0)), (1, .int v1)]) X d_Top_canBecome_67 rfl (by decide) rfl rfl ?_
  refine V_iload_n (n := 0) X d_Top_canBecome_68 rfl rfl rfl ?_
  refine V_if_eq (tgt := 95) X d_Top_canBecome_69 (by decide) rfl (fun c12 => ?_) (fun c12 => ?_)
  · rw [if_pos c12] at h
    refine V_aload_n (n := 1) X d_Top_canBecome_95 rfl rfl rfl ?_
    refine V_getr (k2 := 11) X fo_Top_33 kd_0 rfl rf_0_3 d_Top_canBecome_96 rfl ?_
    refine V_iload_n (n := 2) X d_Top_canBecome_99 rfl rfl rfl ?_
    obtain ⟨x8, hx8, h⟩ := ob_s h
    refine V_ci (As := [.int v1]) X (Z0 E) ml_Top_174 yq_Scene_planksAt (c_Scene_planksAt E.2.1 G 11 v1 M x8 hx8 _ (Nat.le_refl _)) kd_11 rfl rfl (by omega) rfl (Nat.le_of_ble_eq_true rfl) d_Top_canBecome_100 rfl (fun r9 M9 hq => ?_)
    rw [hq.1, hq.2]
    refine V_if_ne (tgt := 110) X d_Top_canBecome_103 (by decide) rfl (fun c9 => ?_) (fun c9 => ?_)
    · rw [if_neg c9] at h
      refine V_iconst (v := 0) X d_Top_canBecome_110 (by decide) rfl ?_
      exact V_zret X (kr (0 : Int32) (Option.some.inj h).symm) (by decide) d_Top_canBecome_111
    · rw [if_pos c9] at h
      refine V_iconst (v := 1) X d_Top_canBecome_106 (by decide) rfl ?_
      refine V_goto (pc' := 111) X d_Top_canBecome_107 (by decide) ?_
      exact V_zret X (kr (1 : Int32) (Option.some.inj h).symm) (by decide) d_Top_canBecome_111
  · rw [if_neg c12] at h
    refine V_aload_n (n := 1) X d_Top_canBecome_72 rfl rfl rfl ?_
    refine V_getr (k2 := 11) X fo_Top_33 kd_0 rfl rf_0_3 d_Top_canBecome_73 rfl ?_
    refine V_aload_n (n := 1) X d_Top_canBecome_76 rfl rfl rfl ?_
    refine V_getr (k2 := 3) X fo_Top_19 kd_0 rfl rf_0_1 d_Top_canBecome_77 rfl ?_
    refine V_iload_n (n := 2) X d_Top_canBecome_80 rfl rfl rfl ?_
    obtain ⟨x10, hx10, h⟩ := ob_s h
    refine V_ci (As := [.ref (G.2.2 + 3), .int v1]) X (Z0 E) ml_Top_457 yq_Scene_isUnderPlank (c_Scene_isUnderPlank E.2.1 G 11 v1 M x10 hx10 _ (Nat.le_refl _)) kd_11 rfl rfl (by omega) rfl (Nat.le_of_ble_eq_true rfl) d_Top_canBecome_81 rfl (fun r9 M9 hq => ?_)
    rw [hq.1, hq.2]
    refine V_if_ne (tgt := 91) X d_Top_canBecome_84 (by decide) rfl (fun c11 => ?_) (fun c11 => ?_)
    · rw [if_neg c11] at h
      refine V_iconst (v := 0) X d_Top_canBecome_91 (by decide) rfl ?_
      refine V_goto (pc' := 111) X d_Top_canBecome_92 (by decide) ?_
      exact V_zret X (kr (0 : Int32) (Option.some.inj h).symm) (by decide) d_Top_canBecome_111
    · rw [if_pos c11] at h
      refine V_iconst (v := 1) X d_Top_canBecome_87 (by decide) rfl ?_
      refine V_goto (pc' := 111) X d_Top_canBecome_88 (by decide) ?_
      exact V_zret X (kr (1 : Int32) (Option.some.inj h).symm) (by decide) d_Top_canBecome_111
def f_Top_canBecome (v1 : Int32) (v2 : Int32) (M : Mem) : Option (Int32) :=
  Option.bind (iter (lb_Top_canBecome_2 v1 v2 M) FU (0 : Int32)) (Sum.elim (fun y7 => if ((v2 >>> ((1 : Int32) &&& 31)) &&& (1 : Int32)) = 0 then
  j_Top_canBecome_67 v1 (0 : Int32) M
  else
  j_Top_canBecome_67 v1 (1 : Int32) M) (fun y14 => some (0 : Int32)))
theorem c_Top_canBecome (l : Launch) (G : Gw)  (v1 : Int32) (v2 : Int32) (M : Mem) (x : Int32) (h : f_Top_canBecome v1 v2 M = some x) (d : Nat) (hD : 5 ≤ d) : Ci l G y_Top_canBecome b_Top_canBecome 5 (some .boolean) d [.ref (G.2.2 + 0), .int v1, .int v2] M (fun r9 M9 => r9 = x ∧ M9 = M) := by
  refine Ci_of (by decide) (Nat.le_of_ble_eq_true rfl) (fun E hE X => ?_)
  subst hE
  have kr : ∀ x9 : Int32, x = x9 → (fun r9 M9 => r9 = x ∧ M9 = M) x9 M := fun x9 e9 => by subst e9; exact ⟨rfl, rfl⟩
  unfold f_Top_canBecome at h
  refine V_iconst (v := 0) X d_Top_canBecome_0 (by decide) rfl ?_
  refine V_istore_n (lv' := [(3, .int (0 : Int32)), (0, .ref (G.2.2 + 0)), (1, .int v1), (2, .int v2)]) X d_Top_canBecome_1 rfl (by decide) rfl rfl ?_
  refine V_sub (lv' := [(0, .ref (G.2.2 + 0)), (1, .int v1), (2, .int v2), (3, .int (0 : Int32))]) [1, 2, 3, 0] rfl ?_
  obtain ⟨x6, hx6, h⟩ := ob_s h
  rcases x6 with y7 | y14
  · simp only [Sum.elim_inl, Sum.elim_inr] at h
    refine (lp_Top_canBecome_2_ok X hD v1 v2 M _ _ _ hx6 (fun x9 e9 => ?_) (fun x9 e9 => by cases e9) :)
    cases e9
    refine V_iload_n (n := 2) X d_Top_canBecome_54 rfl rfl rfl ?_
    refine V_iconst (v := 1) X d_Top_canBecome_55 (by decide) rfl ?_
    refine V_ishr X d_Top_canBecome_56 rfl ?_
    refine V_iconst (v := 1) X d_Top_canBecome_57 (by decide) rfl ?_
    refine V_iand X d_Top_canBecome_58 rfl ?_
    refine V_if_eq (tgt := 66) X d_Top_canBecome_59 (by decide) rfl (fun c13 => ?_) (fun c13 => ?_)
    · rw [if_pos c13] at h
      refine V_iconst (v := 0) X d_Top_canBecome_66 (by decide) rfl ?_
      refine V_sub (lv' := [(0, .ref (G.2.2 + 0)), (1, .int v1)]) [0, 1] rfl ?_
      exact j_Top_canBecome_67_ok X hD v1 (0 : Int32) M _ h kr
    · rw [if_neg c13] at h
      refine V_iconst (v := 1) X d_Top_canBecome_62 (by decide) rfl ?_
      refine V_goto (pc' := 67) X d_Top_canBecome_63 (by decide) ?_
      refine V_sub (lv' := [(0, .ref (G.2.2 + 0)), (1, .int v1)]) [0, 1] rfl ?_
      exact j_Top_canBecome_67_ok X hD v1 (1 : Int32) M _ h kr
  · simp only [Sum.elim_inl, Sum.elim_inr] at h
    refine (lp_Top_canBecome_2_ok X hD v1 v2 M _ _ _ hx6 (fun x9 e9 => by cases e9) (fun x9 e9 => ?_) :)
    cases e9
    refine V_iconst (v := 0) X d_Top_canBecome_46 (by decide) rfl ?_
    exact V_zret X (kr (0 : Int32) (Option.some.inj h).symm) (by decide) d_Top_canBecome_47
def f_Top_build (v1 : Int32) (v2 : Int32) (M : Mem) : Option (Int32 × Mem) :=
  Option.bind (f_Ground_has v1 M) fun x1 =>
  if x1 = 0 then
  some ((-1 : Int32), M)
  else
  if v2 < 0 then
  some ((-1 : Int32), M)
  else
  if (3 : Int32) < v2 then
  some ((-1 : Int32), M)
  else
  Option.bind (f_Top_canBecome v1 v2 M) fun x2 =>
  if x2 = 0 then
  some ((-1 : Int32), M)
  else
  if inb v1 36 = true then
  if inb v1 36 = true then
  mem_ (s_i M 4 v1.toNatClampNeg v2) fun M3 =>
  Option.bind (f_History_forget M3) fun x4 =>
  Option.bind (f_History_spoil x4) fun x5 =>
  Option.bind (f_Nets_lay 32 11 (-1 : Int32) x5) fun x6 =>
  some ((M.1 4 v1.toNatClampNeg), x6)
  else none
  else none
theorem c_Top_build (l : Launch) (G : Gw)  (v1 : Int32) (v2 : Int32) (M : Mem) (x : Int32 × Mem) (h : f_Top_build v1 v2 M = some x) (d : Nat) (hD : 6 ≤ d) : Ci l G y_Top_build b_Top_build 4 (some .int) d [.ref (G.2.2 + 0), .int v1, .int v2] M (fun r9 M9 => r9 = x.1 ∧ M9 = x.2) := by
  refine Ci_of (by decide) (Nat.le_of_ble_eq_true rfl) (fun E hE X => ?_)
  subst hE
  have kr : ∀ x9 : Int32 × Mem, x = x9 → (fun r9 M9 => r9 = x.1 ∧ M9 = x.2) x9.1 x9.2 := fun x9 e9 => by subst e9; exact ⟨rfl, rfl⟩
  unfold f_Top_build at h
  refine V_aload_n (n := 0) X d_Top_build_0 rfl rfl rfl ?_
  refine V_getr (k2 := 3) X fo_Top_19 kd_0 rfl rf_0_1 d_Top_build_1 rfl ?_
  refine V_iload_n (n := 1) X d_Top_build_4 rfl rfl rfl ?_
  obtain ⟨x1, hx1, h⟩ := ob_s h
  refine V_ci (As := [.int v1]) X (Z0 E) ml_Top_163 yq_Ground_has (c_Ground_has E.2.1 G v1 M x1 hx1 _ (Nat.le_refl _)) kd_3 rfl rfl (by omega) rfl (Nat.le_of_ble_eq_true rfl) d_Top_build_5 rfl (fun r9 M9 hq => ?_)
  rw [hq.1, hq.2]
  refine V_if_eq (tgt := 29) X d_Top_build_8 (by decide) rfl (fun c10 => ?_) (fun c10 => ?_)
  · rw [if_pos c10] at h
    refine V_iconst (v := -1) X d_Top_build_29 (by decide) rfl ?_
    exact V_iret X (kr ((-1 : Int32), M) (Option.some.inj h).symm) d_Top_build_30
  · rw [if_neg c10] at h
    refine V_iload_n (n := 2) X d_Top_build_11 rfl rfl rfl ?_
    refine V_if_lt (tgt := 29) X d_Top_build_12 (by decide) rfl (fun c9 => ?_) (fun c9 => ?_)
    · rw [if_pos c9] at h
      refine V_iconst (v := -1) X d_Top_build_29 (by decide) rfl ?_
      exact V_iret X (kr ((-1 : Int32), M) (Option.some.inj h).symm) d_Top_build_30
    · rw [if_neg c9] at h
      refine V_iload_n (n := 2) X d_Top_build_15 rfl rfl rfl ?_
      refine V_iconst (v := 3) X d_Top_build_16 (by decide) rfl ?_
      refine V_icmp_gt (tgt := 29) X d_Top_build_17 (by decide) rfl (fun c8 => ?_) (fun c8 => ?_)
      · rw [if_pos c8] at h
        refine V_iconst (v := -1) X d_Top_build_29 (by decide) rfl ?_
        exact V_iret X (kr ((-1 : Int32), M) (Option.some.inj h).symm) d_Top_build_30
      · rw [if_neg c8] at h
        refine V_aload_n (n := 0) X d_Top_build_20 rfl rfl rfl ?_
        refine V_iload_n (n := 1) X d_Top_build_21 rfl rfl rfl ?_
        refine V_iload_n (n := 2) X d_Top_build_22 rfl rfl rfl ?_
        obtain ⟨x2, hx2, h⟩ := ob_s h
        refine V_ci (As := [.int v1, .int v2]) X (Z0 E) ml_Top_207 yq_Top_canBecome (c_Top_canBecome E.2.1 G v1 v2 M x2 hx2 _ (Nat.le_refl _)) kd_0 rfl rfl (by omega) rfl (Nat.le_of_ble_eq_true rfl) d_Top_build_23 rfl (fun r9 M9 hq => ?_)
        rw [hq.1, hq.2]
        refine V_if_ne (tgt := 31) X d_Top_build_26 (by decide) rfl (fun c7 => ?_) (fun c7 => ?_)
        · rw [if_neg c7] at h
          refine V_aload_n (n := 0) X d_Top_build_31 rfl rfl rfl ?_
          refine V_getr (k2 := 3) X fo_Top_19 kd_0 rfl rf_0_1 d_Top_build_32 rfl ?_
          refine V_getr (k2 := 4) X fo_Top_167 kd_3 rfl rf_3_0 d_Top_build_35 rfl ?_
          refine V_iload_n (n := 1) X d_Top_build_38 rfl rfl rfl ?_
          obtain ⟨hb, h⟩ := ifn h
          refine V_iald X kd_4 (inb_in ln_4 hb) d_Top_build_39 rfl ?_
          refine V_istore_n (lv' := [(3, .int (M.1 4 v1.toNatClampNeg)), (0, .ref (G.2.2 + 0)), (1, .int v1), (2, .int v2)]) X d_Top_build_40 rfl (by decide) rfl rfl ?_
          refine V_aload_n (n := 1) X d_Top_build_41 rfl rfl rfl ?_
          refine V_getr (k2 := 3) X fo_Top_19 kd_0 rfl rf_0_1 d_Top_build_42 rfl ?_
          refine V_getr (k2 := 4) X fo_Top_167 kd_3 rfl rf_3_0 d_Top_build_45 rfl ?_
          refine V_iload_n (n := 2) X d_Top_build_48 rfl rfl rfl ?_
          refine V_iload_n (n := 3) X d_Top_build_49 rfl rfl rfl ?_
          obtain ⟨hb, h⟩ := ifn h
          obtain ⟨M3, eM3, h⟩ := memS h
          refine V_iast X kd_4 (inb_in ln_4 hb) d_Top_build_50 rfl ?_
          rw [← eM3]
          refine V_aload_n (n := 1) X d_Top_build_51 rfl rfl rfl ?_
          refine V_getr (k2 := 46) X fo_Top_70 kd_0 rfl rf_0_10 d_Top_build_52 rfl ?_
          obtain ⟨x4, hx4, h⟩ := ob_s h
          refine V_cv (As := []) X (Z0 E) ml_Top_146 yq_History_forget (c_History_forget E.2.1 G  M3 x4 hx4 _ (Nat.le_refl _)) kd_46 rfl rfl (by omega) rfl (Nat.le_of_ble_eq_true rfl) d_Top_build_55 rfl (fun M9 hq => ?_)
          rw [hq]
          refine V_aload_n (n := 1) X d_Top_build_58 rfl rfl rfl ?_
          refine V_getr (k2 := 46) X fo_Top_70 kd_0 rfl rf_0_10 d_Top_build_59 rfl ?_
          obtain ⟨x5, hx5, h⟩ := ob_s h
          refine V_cv (As := []) X (Z0 E) ml_Top_149 yq_History_spoil (c_History_spoil E.2.1 G  x4 x5 hx5 _ (Nat.le_refl _)) kd_46 rfl rfl (by omega) rfl (Nat.le_of_ble_eq_true rfl) d_Top_build_62 rfl (fun M9 hq => ?_)
          rw [hq]
          refine V_aload_n (n := 1) X d_Top_build_65 rfl rfl rfl ?_
          refine V_getr (k2 := 32) X fo_Top_46 kd_0 rfl rf_0_6 d_Top_build_66 rfl ?_
          refine V_aload_n (n := 1) X d_Top_build_69 rfl rfl rfl ?_
          refine V_getr (k2 := 3) X fo_Top_19 kd_0 rfl rf_0_1 d_Top_build_70 rfl ?_
          refine V_aload_n (n := 1) X d_Top_build_73 rfl rfl rfl ?_
          refine V_getr (k2 := 11) X fo_Top_33 kd_0 rfl rf_0_3 d_Top_build_74 rfl ?_
          refine V_iconst (v := -1) X d_Top_build_77 (by decide) rfl ?_
          obtain ⟨x6, hx6, h⟩ := ob_s h
          refine V_cv (As := [.ref (G.2.2 + 3), .ref (G.2.2 + 11), .int (-1 : Int32)]) X (Z0 E) ml_Top_122 yq_Nets_lay (c_Nets_lay E.2.1 G 32 11 (-1 : Int32) x5 x6 hx6 _ (Nat.le_refl _)) kd_32 rfl rfl (by omega) rfl (Nat.le_of_ble_eq_true rfl) d_Top_build_78 rfl (fun M9 hq => ?_)
          rw [hq]
          refine V_iload_n (n := 0) X d_Top_build_81 rfl rfl rfl ?_
          exact V_iret X (kr ((M.1 4 v1.toNatClampNeg), x6) (Option.some.inj h).symm) d_Top_build_82
        · rw [if_pos c7] at h
          refine V_iconst (v := -1) X d_Top_build_29 (by decide) rfl ?_
          exact V_iret X (kr ((-1 : Int32), M) (Option.some.inj h).symm) d_Top_build_30
def f_Top_lay (v1 : Int32) (v2 : Int32) (M : Mem) : Option (Int32 × Mem) :=
  Option.bind (f_Ground_has v1 M) fun x1 =>
  if x1 = 0 then
  some ((-1 : Int32), M)
  else
  Option.bind (f_Ground_has v2 M) fun x2 =>
  if x2 = 0 then
  some ((-1 : Int32), M)
  else
  Option.bind (f_Ground_between v1 v2 M) fun x3 =>
  if x3 = (-1 : Int32) then
  some ((-2 : Int32), M)
  else
  Option.bind (f_Ground_holds (1 : Int32) v1 M) fun x4 =>
  if x4 = 0 then
  some ((-2 : Int32), M)
  else
  Option.bind (f_Ground_holds (1 : Int32) v2 M) fun x5 =>
  if x5 = 0 then
  some ((-2 : Int32), M)
  else
  Option.bind (f_Ground_holds (1 : Int32) x3 M) fun x6 =>
  if x6 = 0 then
  Option.bind (f_Scene_hasPlank 11 v1 v2 M) fun x7 =>
  if x7 = 0 then
  Option.bind (f_Scene_addPlank 11 v1 v2 M) fun x8 =>
  if x8.1 = 0 then
  some ((-4 : Int32), x8.2)
  else
  Option.bind (f_Nets_lay 32 11 (-1 : Int32) x8.2) fun x9 =>
  some (((x9.1 11 6) - (1 : Int32)), x9)
  else
  some ((-3 : Int32), M)
  else
  some ((-2 : Int32), M)
theorem c_Top_lay (l : Launch) (G : Gw)  (v1 : Int32) (v2 : Int32) (M : Mem) (x : Int32 × Mem) (h : f_Top_lay v1 v2 M = some x) (d : Nat) (hD : 5 ≤ d) : Ci l G y_Top_lay b_Top_lay 4 (some .int) d [.ref (G.2.2 + 0), .int v1, .int v2] M (fun r9 M9 => r9 = x.1 ∧ M9 = x.2) := by
  refine Ci_of (by decide) (Nat.le_of_ble_eq_true rfl) (fun E hE X => ?_)
  subst hE
  have kr : ∀ x9 : Int32 × Mem, x = x9 → (fun r9 M9 => r9 = x.1 ∧ M9 = x.2) x9.1 x9.2 := fun x9 e9 => by subst e9; exact ⟨rfl, rfl⟩
  unfold f_Top_lay at h
  refine V_aload_n (n := 0) X d_Top_lay_0 rfl rfl rfl ?_
  refine V_getr (k2 := 3) X fo_Top_19 kd_0 rfl rf_0_1 d_Top_lay_1 rfl ?_
  refine V_iload_n (n := 1) X d_Top_lay_4 rfl rfl rfl ?_
  obtain ⟨x1, hx1, h⟩ := ob_s h
  refine V_ci (As := [.int v1]) X (Z0 E) ml_Top_163 yq_Ground_has (c_Ground_has E.2.1 G v1 M x1 hx1 _ (Nat.le_refl _)) kd_3 rfl rfl (by omega) rfl (Nat.le_of_ble_eq_true rfl) d_Top_lay_5 rfl (fun r9 M9 hq => ?_)
  rw [hq.1, hq.2]
  refine V_if_eq (tgt := 22) X d_Top_lay_8 (by decide) rfl (fun c17 => ?_) (fun c17 => ?_)
  · rw [if_pos c17] at h
    refine V_iconst (v := -1) X d_Top_lay_22 (by decide) rfl ?_
    exact V_iret X (kr ((-1 : Int32), M) (Option.some.inj h).symm) d_Top_lay_23
  · rw [if_neg c17] at h
    refine V_aload_n (n := 0) X d_Top_lay_11 rfl rfl rfl ?_
    refine V_getr (k2 := 3) X fo_Top_19 kd_0 rfl rf_0_1 d_Top_lay_12 rfl ?_
    refine V_iload_n (n := 2) X d_Top_lay_15 rfl rfl rfl ?_
    obtain ⟨x2, hx2, h⟩ := ob_s h
    refine V_ci (As := [.int v2]) X (Z0 E) ml_Top_163 yq_Ground_has (c_Ground_has E.2.1 G v2 M x2 hx2 _ (Nat.le_refl _)) kd_3 rfl rfl (by omega) rfl (Nat.le_of_ble_eq_true rfl) d_Top_lay_16 rfl (fun r9 M9 hq => ?_)
    rw [hq.1, hq.2]
    refine V_if_ne (tgt := 24) X d_Top_lay_19 (by decide) rfl (fun c16 => ?_) (fun c16 => ?_)
    · rw [if_neg c16] at h
      refine V_aload_n (n := 0) X d_Top_lay_24 rfl rfl rfl ?_
      refine V_getr (k2 := 3) X fo_Top_19 kd_0 rfl rf_0_1 d_Top_lay_25 rfl ?_
      refine V_iload_n (n := 1) X d_Top_lay_28 rfl rfl rfl ?_
      refine V_iload_n (n := 2) X d_Top_lay_29 rfl rfl rfl ?_
      obtain ⟨x3, hx3, h⟩ := ob_s h
      refine V_ci (As := [.int v1, .int v2]) X (Z0 E) ml_Top_461 yq_Ground_between (c_Ground_between E.2.1 G v1 v2 M x3 hx3 _ (Nat.le_refl _)) kd_3 rfl rfl (by omega) rfl (Nat.le_of_ble_eq_true rfl) d_Top_lay_30 rfl (fun r9 M9 hq => ?_)
      rw [hq.1, hq.2]
      refine V_istore_n (lv' := [(3, .int x3), (0, .ref (G.2.2 + 0)), (1, .int v1), (2, .int v2)]) X d_Top_lay_33 rfl (by decide) rfl rfl ?_
      refine V_iload_n (n := 0) X d_Top_lay_34 rfl rfl rfl ?_
      refine V_iconst (v := -1) X d_Top_lay_35 (by decide) rfl ?_
      refine V_icmp_eq (tgt := 75) X d_Top_lay_36 (by decide) rfl (fun c15 => ?_) (fun c15 => ?_)
      · rw [if_pos c15] at h
        refine V_bipush (v := -2) X d_Top_lay_75 (by decide) rfl ?_
        exact V_iret X (kr ((-2 : Int32), M) (Option.some.inj h).symm) d_Top_lay_77
      · rw [if_neg c15] at h
        refine V_aload_n (n := 1) X d_Top_lay_39 rfl rfl rfl ?_
        refine V_getr (k2 := 3) X fo_Top_19 kd_0 rfl rf_0_1 d_Top_lay_40 rfl ?_
        refine V_iconst (v := 1) X d_Top_lay_43 (by decide) rfl ?_
        refine V_iload_n (n := 2) X d_Top_lay_44 rfl rfl rfl ?_
        obtain ⟨x4, hx4, h⟩ := ob_s h
        refine V_ci (As := [.int (1 : Int32), .int v1]) X (Z0 E) ml_Top_305 yq_Ground_holds (c_Ground_holds E.2.1 G (1 : Int32) v1 M x4 hx4 _ (Nat.le_refl _)) kd_3 rfl rfl (by omega) rfl (Nat.le_of_ble_eq_true rfl) d_Top_lay_45 rfl (fun r9 M9 hq => ?_)
        rw [hq.1, hq.2]
        refine V_if_eq (tgt := 75) X d_Top_lay_48 (by decide) rfl (fun c14 => ?_) (fun c14 => ?_)
        · rw [if_pos c14] at h
          refine V_bipush (v := -2) X d_Top_lay_75 (by decide) rfl ?_
          exact V_iret X (kr ((-2 : Int32), M) (Option.some.inj h).symm) d_Top_lay_77
        · rw [if_neg c14] at h
          refine V_aload_n (n := 1) X d_Top_lay_51 rfl rfl rfl ?_
          refine V_getr (k2 := 3) X fo_Top_19 kd_0 rfl rf_0_1 d_Top_lay_52 rfl ?_
          refine V_iconst (v := 1) X d_Top_lay_55 (by decide) rfl ?_
          refine V_iload_n (n := 3) X d_Top_lay_56 rfl rfl rfl ?_
          obtain ⟨x5, hx5, h⟩ := ob_s h
          refine V_ci (As := [.int (1 : Int32), .int v2]) X (Z0 E) ml_Top_305 yq_Ground_holds (c_Ground_holds E.2.1 G (1 : Int32) v2 M x5 hx5 _ (Nat.le_refl _)) kd_3 rfl rfl (by omega) rfl (Nat.le_of_ble_eq_true rfl) d_Top_lay_57 rfl (fun r9 M9 hq => ?_)
          rw [hq.1, hq.2]
          refine V_if_eq (tgt := 75) X d_Top_lay_60 (by decide) rfl (fun c13 => ?_) (fun c13 => ?_)
          · rw [if_pos c13] at h
            refine V_bipush (v := -2) X d_Top_lay_75 (by decide) rfl ?_
            exact V_iret X (kr ((-2 : Int32), M) (Option.some.inj h).symm) d_Top_lay_77
          · rw [if_neg c13] at h
            refine V_aload_n (n := 1) X d_Top_lay_63 rfl rfl rfl ?_
            refine V_getr (k2 := 3) X fo_Top_19 kd_0 rfl rf_0_1 d_Top_lay_64 rfl ?_
            refine V_iconst (v := 1) X d_Top_lay_67 (by decide) rfl ?_
            refine V_iload_n (n := 0) X d_Top_lay_68 rfl rfl rfl ?_
            obtain ⟨x6, hx6, h⟩ := ob_s h
            refine V_ci (As := [.int (1 : Int32), .int x3]) X (Z0 E) ml_Top_305 yq_Ground_holds (c_Ground_holds E.2.1 G (1 : Int32) x3 M x6 hx6 _ (Nat.le_refl _)) kd_3 rfl rfl (by omega) rfl (Nat.le_of_ble_eq_true rfl) d_Top_lay_69 rfl (fun r9 M9 hq => ?_)
            rw [hq.1, hq.2]
            refine V_if_eq (tgt := 78) X d_Top_lay_72 (by decide) rfl (fun c12 => ?_) (fun c12 => ?_)
            · rw [if_pos c12] at h
              refine V_aload_n (n := 1) X d_Top_lay_78 rfl rfl rfl ?_
              refine V_getr (k2 := 11) X fo_Top_33 kd_0 rfl rf_0_3 d_Top_lay_79 rfl ?_
              refine V_iload_n (n := 2) X d_Top_lay_82 rfl rfl rfl ?_
              refine V_iload_n (n := 3) X d_Top_lay_83 rfl rfl rfl ?_
              obtain ⟨x7, hx7, h⟩ := ob_s h
              refine V_ci (As := [.int v1, .int v2]) X (Z0 E) ml_Top_464 yq_Scene_hasPlank (c_Scene_hasPlank E.2.1 G 11 v1 v2 M x7 hx7 _ (Nat.le_refl _)) kd_11 rfl rfl (by omega) rfl (Nat.le_of_ble_eq_true rfl) d_Top_lay_84 rfl (fun r9 M9 hq => ?_)
              rw [hq.1, hq.2]
              refine V_if_eq (tgt := 93) X d_Top_lay_87 (by decide) rfl (fun c11 => ?_) (fun c11 => ?_)
              · rw [if_pos c11] at h
                refine V_aload_n (n := 1) X d_Top_lay_93 rfl rfl rfl ?_
                refine V_getr (k2 := 11) X fo_Top_33 kd_0 rfl rf_0_3 d_Top_lay_94 rfl ?_
                refine V_iload_n (n := 2) X d_Top_lay_97 rfl rfl rfl ?_
                refine V_iload_n (n := 3) X d_Top_lay_98 rfl rfl rfl ?_
                obtain ⟨x8, hx8, h⟩ := ob_s h
                refine V_ci (As := [.int v1, .int v2]) X (Z0 E) ml_Top_467 yq_Scene_addPlank (c_Scene_addPlank E.2.1 G 11 v1 v2 M x8 hx8 _ (Nat.le_refl _)) kd_11 rfl rfl (by omega) rfl (Nat.le_of_ble_eq_true rfl) d_Top_lay_99 rfl (fun r9 M9 hq => ?_)
                rw [hq.1, hq.2]
                refine V_if_ne (tgt := 108) X d_Top_lay_102 (by decide) rfl (fun c10 => ?_) (fun c10 => ?_)
                · rw [if_neg c10] at h
                  refine V_aload_n (n := 1) X d_Top_lay_108 rfl rfl rfl ?_
                  refine V_getr (k2 := 32) X fo_Top_46 kd_0 rfl rf_0_6 d_Top_lay_109 rfl ?_
                  refine V_aload_n (n := 1) X d_Top_lay_112 rfl rfl rfl ?_
                  refine V_getr (k2 := 3) X fo_Top_19 kd_0 rfl rf_0_1 d_Top_lay_113 rfl ?_
                  refine V_aload_n (n := 1) X d_Top_lay_116 rfl rfl rfl ?_
                  refine V_getr (k2 := 11) X fo_Top_33 kd_0 rfl rf_0_3 d_Top_lay_117 rfl ?_
                  refine V_iconst (v := -1) X d_Top_lay_120 (by decide) rfl ?_
                  obtain ⟨x9, hx9, h⟩ := ob_s h
                  refine V_cv (As := [.ref (G.2.2 + 3), .ref (G.2.2 + 11), .int (-1 : Int32)]) X (Z0 E) ml_Top_122 yq_Nets_lay (c_Nets_lay E.2.1 G 32 11 (-1 : Int32) x8.2 x9 hx9 _ (Nat.le_refl _)) kd_32 rfl rfl (by omega) rfl (Nat.le_of_ble_eq_true rfl) d_Top_lay_121 rfl (fun M9 hq => ?_)
                  rw [hq]
                  refine V_aload_n (n := 1) X d_Top_lay_124 rfl rfl rfl ?_
                  refine V_getr (k2 := 11) X fo_Top_33 kd_0 rfl rf_0_3 d_Top_lay_125 rfl ?_
                  refine V_geti X fo_Top_224 kd_11 rfl d_Top_lay_128 rfl ?_
                  refine V_iconst (v := 1) X d_Top_lay_131 (by decide) rfl ?_
                  refine V_isub X d_Top_lay_132 rfl ?_
                  exact V_iret X (kr (((x9.1 11 6) - (1 : Int32)), x9) (Option.some.inj h).symm) d_Top_lay_133
                · rw [if_pos c10] at h
                  refine V_bipush (v := -4) X d_Top_lay_105 (by decide) rfl ?_
                  exact V_iret X (kr ((-4 : Int32), x8.2) (Option.some.inj h).symm) d_Top_lay_107
              · rw [if_neg c11] at h
                refine V_bipush (v := -3) X d_Top_lay_90 (by decide) rfl ?_
                exact V_iret X (kr ((-3 : Int32), M) (Option.some.inj h).symm) d_Top_lay_92
            · rw [if_neg c12] at h
              refine V_bipush (v := -2) X d_Top_lay_75 (by decide) rfl ?_
              exact V_iret X (kr ((-2 : Int32), M) (Option.some.inj h).symm) d_Top_lay_77
    · rw [if_pos c16] at h
      refine V_iconst (v := -1) X d_Top_lay_22 (by decide) rfl ?_
      exact V_iret X (kr ((-1 : Int32), M) (Option.some.inj h).symm) d_Top_lay_23
def f_Top_plank (v1 : Int32) (v2 : Int32) (M : Mem) : Option (Int32 × Mem) :=
  Option.bind (f_Scene_copy 18 11 M) fun x1 =>
  Option.bind (f_Top_lay v1 v2 x1) fun x2 =>
  if x2.1 < 0 then
  some (x2.1, x2.2)
  else
  Option.bind (f_History_add 18 x2.2) fun x3 =>
  some (x2.1, x3)
theorem c_Top_plank (l : Launch) (G : Gw)  (v1 : Int32) (v2 : Int32) (M : Mem) (x : Int32 × Mem) (h : f_Top_plank v1 v2 M = some x) (d : Nat) (hD : 6 ≤ d) : Ci l G y_Top_plank b_Top_plank 4 (some .int) d [.ref (G.2.2 + 0), .int v1, .int v2] M (fun r9 M9 => r9 = x.1 ∧ M9 = x.2) := by
  refine Ci_of (by decide) (Nat.le_of_ble_eq_true rfl) (fun E hE X => ?_)
  subst hE
  have kr : ∀ x9 : Int32 × Mem, x = x9 → (fun r9 M9 => r9 = x.1 ∧ M9 = x.2) x9.1 x9.2 := fun x9 e9 => by subst e9; exact ⟨rfl, rfl⟩
  unfold f_Top_plank at h
  refine V_aload_n (n := 0) X d_Top_plank_0 rfl rfl rfl ?_
  refine V_getr (k2 := 18) X fo_Top_37 kd_0 rfl rf_0_4 d_Top_plank_1 rfl ?_
  refine V_aload_n (n := 0) X d_Top_plank_4 rfl rfl rfl ?_
  refine V_getr (k2 := 11) X fo_Top_33 kd_0 rfl rf_0_3 d_Top_plank_5 rfl ?_
  obtain ⟨x1, hx1, h⟩ := ob_s h
  refine V_cv (As := [.ref (G.2.2 + 11)]) X (Z0 E) ml_Top_211 yq_Scene_copy (c_Scene_copy E.2.1 G 18 11 M x1 hx1 _ (Nat.le_refl _)) kd_18 rfl rfl (by omega) rfl (Nat.le_of_ble_eq_true rfl) d_Top_plank_8 rfl (fun M9 hq => ?_)
  rw [hq]
  refine V_aload_n (n := 0) X d_Top_plank_11 rfl rfl rfl ?_
  refine V_iload_n (n := 1) X d_Top_plank_12 rfl rfl rfl ?_
  refine V_iload_n (n := 2) X d_Top_plank_13 rfl rfl rfl ?_
  obtain ⟨x2, hx2, h⟩ := ob_s h
  refine V_ci (As := [.int v1, .int v2]) X (Z0 E) ml_Top_215 yq_Top_lay (c_Top_lay E.2.1 G v1 v2 x1 x2 hx2 _ (Nat.le_refl _)) kd_0 rfl rfl (by omega) rfl (Nat.le_of_ble_eq_true rfl) d_Top_plank_14 rfl (fun r9 M9 hq => ?_)
  rw [hq.1, hq.2]
  refine V_istore_n (lv' := [(3, .int x2.1), (0, .ref (G.2.2 + 0)), (1, .int v1), (2, .int v2)]) X d_Top_plank_17 rfl (by decide) rfl rfl ?_
  refine V_iload_n (n := 0) X d_Top_plank_18 rfl rfl rfl ?_
  refine V_if_lt (tgt := 33) X d_Top_plank_19 (by decide) rfl (fun c4 => ?_) (fun c4 => ?_)
  · rw [if_pos c4] at h
    refine V_iload_n (n := 0) X d_Top_plank_33 rfl rfl rfl ?_
    exact V_iret X (kr (x2.1, x2.2) (Option.some.inj h).symm) d_Top_plank_34
  · rw [if_neg c4] at h
    refine V_aload_n (n := 1) X d_Top_plank_22 rfl rfl rfl ?_
    refine V_getr (k2 := 46) X fo_Top_70 kd_0 rfl rf_0_10 d_Top_plank_23 rfl ?_
    refine V_aload_n (n := 1) X d_Top_plank_26 rfl rfl rfl ?_
    refine V_getr (k2 := 18) X fo_Top_37 kd_0 rfl rf_0_4 d_Top_plank_27 rfl ?_
    obtain ⟨x3, hx3, h⟩ := ob_s h
    refine V_cv (As := [.ref (G.2.2 + 18)]) X (Z0 E) ml_Top_218 yq_History_add (c_History_add E.2.1 G 18 x2.2 x3 hx3 _ (Nat.le_refl _)) kd_46 rfl rfl (by omega) rfl (Nat.le_of_ble_eq_true rfl) d_Top_plank_30 rfl (fun M9 hq => ?_)
    rw [hq]
    refine V_iload_n (n := 0) X d_Top_plank_33 rfl rfl rfl ?_
    exact V_iret X (kr (x2.1, x3) (Option.some.inj h).symm) d_Top_plank_34
def f_Top_lift (M : Mem) : Option (Int32 × Mem) :=
  if 0 < (M.1 11 6) then
  mem_ (s_i M 11 6 ((M.1 11 6) - (1 : Int32))) fun M1 =>
  Option.bind (f_Nets_lay 32 11 (-1 : Int32) M1) fun x2 =>
  some ((1 : Int32), x2)
  else
  some ((0 : Int32), M)
theorem c_Top_lift (l : Launch) (G : Gw)   (M : Mem) (x : Int32 × Mem) (h : f_Top_lift M = some x) (d : Nat) (hD : 5 ≤ d) : Ci l G y_Top_lift b_Top_lift 1 (some .boolean) d [.ref (G.2.2 + 0)] M (fun r9 M9 => r9 = x.1 ∧ M9 = x.2) := by
  refine Ci_of (by decide) (Nat.le_of_ble_eq_true rfl) (fun E hE X => ?_)
  subst hE
  have kr : ∀ x9 : Int32 × Mem, x = x9 → (fun r9 M9 => r9 = x.1 ∧ M9 = x.2) x9.1 x9.2 := fun x9 e9 => by subst e9; exact ⟨rfl, rfl⟩
  unfold f_Top_lift at h
  refine V_aload_n (n := 0) X d_Top_lift_0 rfl rfl rfl ?_
  refine V_getr (k2 := 11) X fo_Top_33 kd_0 rfl rf_0_3 d_Top_lift_1 rfl ?_
  refine V_geti X fo_Top_224 kd_11 rfl d_Top_lift_4 rfl ?_
  refine V_if_gt (tgt := 12) X d_Top_lift_7 (by decide) rfl (fun c3 => ?_) (fun c3 => ?_)
  · rw [if_pos c3] at h
    refine V_aload_n (n := 0) X d_Top_lift_12 rfl rfl rfl ?_
    refine V_getr (k2 := 11) X fo_Top_33 kd_0 rfl rf_0_3 d_Top_lift_13 rfl ?_
    refine V_dup X d_Top_lift_16 rfl rfl ?_
    refine V_geti X fo_Top_224 kd_11 rfl d_Top_lift_17 rfl ?_
    refine V_iconst (v := 1) X d_Top_lift_20 (by decide) rfl ?_
    refine V_isub X d_Top_lift_21 rfl ?_
    obtain ⟨M1, eM1, h⟩ := memS h
    refine V_putI X fp_Top_224 kd_11 rfl d_Top_lift_22 rfl ?_
    rw [← eM1]
    refine V_aload_n (n := 0) X d_Top_lift_25 rfl rfl rfl ?_
    refine V_getr (k2 := 32) X fo_Top_46 kd_0 rfl rf_0_6 d_Top_lift_26 rfl ?_
    refine V_aload_n (n := 0) X d_Top_lift_29 rfl rfl rfl ?_
    refine V_getr (k2 := 3) X fo_Top_19 kd_0 rfl rf_0_1 d_Top_lift_30 rfl ?_
    refine V_aload_n (n := 0) X d_Top_lift_33 rfl rfl rfl ?_
    refine V_getr (k2 := 11) X fo_Top_33 kd_0 rfl rf_0_3 d_Top_lift_34 rfl ?_
    refine V_iconst (v := -1) X d_Top_lift_37 (by decide) rfl ?_
    obtain ⟨x2, hx2, h⟩ := ob_s h
    refine V_cv (As := [.ref (G.2.2 + 3), .ref (G.2.2 + 11), .int (-1 : Int32)]) X (Z0 E) ml_Top_122 yq_Nets_lay (c_Nets_lay E.2.1 G 32 11 (-1 : Int32) M1 x2 hx2 _ (Nat.le_refl _)) kd_32 rfl rfl (by omega) rfl (Nat.le_of_ble_eq_true rfl) d_Top_lift_38 rfl (fun M9 hq => ?_)
    rw [hq]
    refine V_iconst (v := 1) X d_Top_lift_41 (by decide) rfl ?_
    exact V_zret X (kr ((1 : Int32), x2) (Option.some.inj h).symm) (by decide) d_Top_lift_42
  · rw [if_neg c3] at h
    refine V_iconst (v := 0) X d_Top_lift_10 (by decide) rfl ?_
    exact V_zret X (kr ((0 : Int32), M) (Option.some.inj h).symm) (by decide) d_Top_lift_11
def f_Top_take (M : Mem) : Option (Int32 × Mem) :=
  Option.bind (f_Scene_copy 18 11 M) fun x1 =>
  Option.bind (f_Top_lift x1) fun x2 =>
  if x2.1 = 0 then
  some ((-1 : Int32), x2.2)
  else
  Option.bind (f_History_add 18 x2.2) fun x3 =>
  some ((x3.1 11 6), x3)
theorem c_Top_take (l : Launch) (G : Gw)   (M : Mem) (x : Int32 × Mem) (h : f_Top_take M = some x) (d : Nat) (hD : 6 ≤ d) : Ci l G y_Top_take b_Top_take 1 (some .int) d [.ref (G.2.2 + 0)] M (fun r9 M9 => r9 = x.1 ∧ M9 = x.2) := by
  refine Ci_of (by decide) (Nat.le_of_ble_eq_true rfl) (fun E hE X => ?_)
  subst hE
  have kr : ∀ x9 : Int32 × Mem, x = x9 → (fun r9 M9 => r9 = x.1 ∧ M9 = x.2) x9.1 x9.2 := fun x9 e9 => by subst e9; exact ⟨rfl, rfl⟩
  unfold f_Top_take at h
  refine V_aload_n (n := 0) X d_Top_take_0 rfl rfl rfl ?_
  refine V_getr (k2 := 18) X fo_Top_37 kd_0 rfl rf_0_4 d_Top_take_1 rfl ?_
  refine V_aload_n (n := 0) X d_Top_take_4 rfl rfl rfl ?_
  refine V_getr (k2 := 11) X fo_Top_33 kd_0 rfl rf_0_3 d_Top_take_5 rfl ?_
  obtain ⟨x1, hx1, h⟩ := ob_s h
  refine V_cv (As := [.ref (G.2.2 + 11)]) X (Z0 E) ml_Top_211 yq_Scene_copy (c_Scene_copy E.2.1 G 18 11 M x1 hx1 _ (Nat.le_refl _)) kd_18 rfl rfl (by omega) rfl (Nat.le_of_ble_eq_true rfl) d_Top_take_8 rfl (fun M9 hq => ?_)
  rw [hq]
  refine V_aload_n (n := 0) X d_Top_take_11 rfl rfl rfl ?_
  obtain ⟨x2, hx2, h⟩ := ob_s h
  refine V_ci (As := []) X (Z0 E) ml_Top_220 yq_Top_lift (c_Top_lift E.2.1 G  x1 x2 hx2 _ (Nat.le_refl _)) kd_0 rfl rfl (by omega) rfl (Nat.le_of_ble_eq_true rfl) d_Top_take_12 rfl (fun r9 M9 hq => ?_)
  rw [hq.1, hq.2]
  refine V_if_ne (tgt := 20) X d_Top_take_15 (by decide) rfl (fun c4 => ?_) (fun c4 => ?_)
  · rw [if_neg c4] at h
    refine V_aload_n (n := 0) X d_Top_take_20 rfl rfl rfl ?_
    refine V_getr (k2 := 46) X fo_Top_70 kd_0 rfl rf_0_10 d_Top_take_21 rfl ?_
    refine V_aload_n (n := 0) X d_Top_take_24 rfl rfl rfl ?_
    refine V_getr (k2 := 18) X fo_Top_37 kd_0 rfl rf_0_4 d_Top_take_25 rfl ?_
    obtain ⟨x3, hx3, h⟩ := ob_s h
    refine V_cv (As := [.ref (G.2.2 + 18)]) X (Z0 E) ml_Top_218 yq_History_add (c_History_add E.2.1 G 18 x2.2 x3 hx3 _ (Nat.le_refl _)) kd_46 rfl rfl (by omega) rfl (Nat.le_of_ble_eq_true rfl) d_Top_take_28 rfl (fun M9 hq => ?_)
    rw [hq]
    refine V_aload_n (n := 0) X d_Top_take_31 rfl rfl rfl ?_
    refine V_getr (k2 := 11) X fo_Top_33 kd_0 rfl rf_0_3 d_Top_take_32 rfl ?_
    refine V_geti X fo_Top_224 kd_11 rfl d_Top_take_35 rfl ?_
    exact V_iret X (kr ((x3.1 11 6), x3) (Option.some.inj h).symm) d_Top_take_38
  · rw [if_pos c4] at h
    refine V_iconst (v := -1) X d_Top_take_18 (by decide) rfl ?_
    exact V_iret X (kr ((-1 : Int32), x2.2) (Option.some.inj h).symm) d_Top_take_19
def f_Top_narrow (v0 : Int32) (v1 : Int32) : Option (Int32) :=
  if v0 = 0 then
  some v1.toInt8.toInt32
  else
  if v0 = (1 : Int32) then
  some v1.toInt16.toInt32
  else
  some v1
theorem c_Top_narrow (l : Launch) (G : Gw)  (v0 : Int32) (v1 : Int32) (M : Mem) (x : Int32) (h : f_Top_narrow v0 v1 = some x) (d : Nat) (hD : 1 ≤ d) : Ci l G y_Top_narrow b_Top_narrow 2 (some .int) d [.int v0, .int v1] M (fun r9 M9 => r9 = x ∧ M9 = M) := by
  refine Ci_of (by decide) (Nat.le_of_ble_eq_true rfl) (fun E hE X => ?_)
  subst hE
  have kr : ∀ x9 : Int32, x = x9 → (fun r9 M9 => r9 = x ∧ M9 = M) x9 M := fun x9 e9 => by subst e9; exact ⟨rfl, rfl⟩
  unfold f_Top_narrow at h
  refine V_iload_n (n := 0) X d_Top_narrow_0 rfl rfl rfl ?_
  refine V_if_ne (tgt := 7) X d_Top_narrow_1 (by decide) rfl (fun c2 => ?_) (fun c2 => ?_)
  · rw [if_neg c2] at h
    refine V_iload_n (n := 0) X d_Top_narrow_7 rfl rfl rfl ?_
    refine V_iconst (v := 1) X d_Top_narrow_8 (by decide) rfl ?_
    refine V_icmp_ne (tgt := 17) X d_Top_narrow_9 (by decide) rfl (fun c1 => ?_) (fun c1 => ?_)
    · rw [if_neg c1] at h
      refine V_iload_n (n := 1) X d_Top_narrow_17 rfl rfl rfl ?_
      exact V_iret X (kr v1 (Option.some.inj h).symm) d_Top_narrow_18
    · rw [if_pos c1] at h
      refine V_iload_n (n := 1) X d_Top_narrow_12 rfl rfl rfl ?_
      refine V_i2s X d_Top_narrow_13 rfl ?_
      refine V_goto (pc' := 18) X d_Top_narrow_14 (by decide) ?_
      exact V_iret X (kr v1.toInt16.toInt32 (Option.some.inj h).symm) d_Top_narrow_18
  · rw [if_pos c2] at h
    refine V_iload_n (n := 1) X d_Top_narrow_4 rfl rfl rfl ?_
    refine V_i2b X d_Top_narrow_5 rfl ?_
    exact V_iret X (kr v1.toInt8.toInt32 (Option.some.inj h).symm) d_Top_narrow_6
def j_Top_sheet_78_35 (v1 : Int32) (v2 : Int32) (v3 : Int32) (v4 : Int32) (v5 : Int32) (v6 : Int32) (v7 : Int32) (M : Mem) : Option ((Int32 × Int32 × Mem) ⊕ ((Int32 × Mem))) :=
  if inb v6 8 = true then
  mem_ (s_i M 14 v6.toNatClampNeg v7) fun M1 =>
  some (.inl ((v5 + v7), (v6 + (1 : Int32)), M1))
  else none
theorem j_Top_sheet_78_35_ok {E : Ev} {G : Gw} {d : Nat} {post : Int32 → Mem → Prop} (X : Cx E G b_Top_sheet "WomenByTheRoofs" 8 d (some .int)) (hD : 3 ≤ d)  (v1 : Int32) (v2 : Int32) (v3 : Int32) (v4 : Int32) (v5 : Int32) (v6 : Int32) (v7 : Int32)  (M : Mem)  (o : (Int32 × Int32 × Mem) ⊕ ((Int32 × Mem))) (h : j_Top_sheet_78_35 v1 v2 v3 v4 v5 v6 v7 M = some o) (kc : ∀ s9 : Int32 × Int32 × Mem, o = .inl s9 → V E (0, 0) G 8 (QI E G post) s9.2.2 35 [(0, .ref (G.2.2 + 0)), (1, .int v1), (2, .int v2), (3, .int v3), (4, .int v4), (5, .int s9.1), (6, .int s9.2.1)] []) (kx0 : ∀ x9 : Int32 × Mem, o = .inr x9 → V E (0, 0) G 8 (QI E G post) x9.2 103 [(1, .int v1), (5, .int x9.1)] []) : V E (0, 0) G 8 (QI E G post) M 78 [(0, .ref (G.2.2 + 0)), (1, .int v1), (2, .int v2), (3, .int v3), (4, .int v4), (5, .int v5), (6, .int v6), (7, .int v7)] [] := by
  unfold j_Top_sheet_78_35 at h
  refine V_aload_n (n := 0) X d_Top_sheet_78 rfl rfl rfl ?_
  refine V_getr (k2 := 11) X fo_Top_33 kd_0 rfl rf_0_3 d_Top_sheet_79 rfl ?_
  refine V_getr (k2 := 14) X fo_Top_160 kd_11 rfl rf_11_2 d_Top_sheet_82 rfl ?_
  refine V_iload (n := 6) X d_Top_sheet_85 rfl rfl ?_
  refine V_iload (n := 7) X d_Top_sheet_87 rfl rfl ?_
  obtain ⟨hb, h⟩ := ifn h
  obtain ⟨M1, eM1, h⟩ := memS h
  refine V_iast X kd_14 (inb_in ln_14 hb) d_Top_sheet_89 rfl ?_
  rw [← eM1]
  refine V_iload (n := 5) X d_Top_sheet_90 rfl rfl ?_
  refine V_iload (n := 7) X d_Top_sheet_92 rfl rfl ?_
  refine V_iadd X d_Top_sheet_94 rfl ?_
  refine V_istore (lv' := [(5, .int (v5 + v7)), (0, .ref (G.2.2 + 0)), (1, .int v1), (2, .int v2), (3, .int v3), (4, .int v4), (6, .int v6), (7, .int v7)]) X d_Top_sheet_95 (by decide) rfl rfl ?_
  refine V_iinc (n := 6) (v := (v6 + (1 : Int32))) (lv' := [(6, .int (v6 + (1 : Int32))), (5, .int (v5 + v7)), (0, .ref (G.2.2 + 0)), (1, .int v1), (2, .int v2), (3, .int v3), (4, .int v4), (7, .int v7)]) X d_Top_sheet_97 rfl rfl (by decide) rfl rfl ?_
  refine V_goto (pc' := 35) X d_Top_sheet_100 (by decide) ?_
  refine V_sub (lv' := [(0, .ref (G.2.2 + 0)), (1, .int v1), (2, .int v2), (3, .int v3), (4, .int v4), (5, .int (v5 + v7)), (6, .int (v6 + (1 : Int32)))]) [2, 3, 4, 5, 6, 1, 0] rfl ?_
  exact kc ((v5 + v7), (v6 + (1 : Int32)), M1) (Option.some.inj h).symm
def lb_Top_sheet_35 (v1 : Int32) (v2 : Int32) (v3 : Int32) (v4 : Int32) (s : Int32 × Int32 × Mem) : Option ((Int32 × Int32 × Mem) ⊕ ((Int32 × Mem))) :=
  if (8 : Int32) ≤ s.2.1 then
  some (.inr (s.1, s.2.2))
  else
  if v1 = (3 : Int32) then
  j_Top_sheet_78_35 v1 v2 v3 v4 s.1 s.2.1 (0 : Int32) s.2.2
  else
  if v2 ≤ s.2.1 then
  j_Top_sheet_78_35 v1 v2 v3 v4 s.1 s.2.1 (0 : Int32) s.2.2
  else
  Option.bind (f_Top_narrow v1 (v3 + (s.2.1 * v4))) fun x2 =>
  Option.bind (f_Crowd_within s.2.1 x2 s.2.2) fun x3 =>
  j_Top_sheet_78_35 v1 v2 v3 v4 s.1 s.2.1 x3 s.2.2
theorem lb_Top_sheet_35_ok {E : Ev} {G : Gw} {d : Nat} {post : Int32 → Mem → Prop} (X : Cx E G b_Top_sheet "WomenByTheRoofs" 8 d (some .int)) (hD : 3 ≤ d)  (v1 : Int32) (v2 : Int32) (v3 : Int32) (v4 : Int32)   (s : Int32 × Int32 × Mem) (o : (Int32 × Int32 × Mem) ⊕ ((Int32 × Mem))) (h : lb_Top_sheet_35 v1 v2 v3 v4 s = some o) (kc : ∀ s9 : Int32 × Int32 × Mem, o = .inl s9 → V E (0, 0) G 8 (QI E G post) s9.2.2 35 [(0, .ref (G.2.2 + 0)), (1, .int v1), (2, .int v2), (3, .int v3), (4, .int v4), (5, .int s9.1), (6, .int s9.2.1)] []) (kx0 : ∀ x9 : Int32 × Mem, o = .inr x9 → V E (0, 0) G 8 (QI E G post) x9.2 103 [(1, .int v1), (5, .int x9.1)] []) : V E (0, 0) G 8 (QI E G post) s.2.2 35 [(0, .ref (G.2.2 + 0)), (1, .int v1), (2, .int v2), (3, .int v3), (4, .int v4), (5, .int s.1), (6, .int s.2.1)] [] := by
  unfold lb_Top_sheet_35 at h
  refine V_iload (n := 6) X d_Top_sheet_35 rfl rfl ?_
  refine V_bipush (v := 8) X d_Top_sheet_37 (by decide) rfl ?_
  refine V_icmp_ge (tgt := 103) X d_Top_sheet_39 (by decide) rfl (fun c6 => ?_) (fun c6 => ?_)
  · rw [if_pos c6] at h
    refine V_sub (lv' := [(1, .int v1), (5, .int s.1)]) [1, 5] rfl ?_
    exact kx0 (s.1, s.2.2) (Option.some.inj h).symm
  · rw [if_neg c6] at h
    refine V_iconst (v := 0) X d_Top_sheet_42 (by decide) rfl ?_
    refine V_istore (lv' := [(7, .int (0 : Int32)), (0, .ref (G.2.2 + 0)), (1, .int v1), (2, .int v2), (3, .int v3), (4, .int v4), (5, .int s.1), (6, .int s.2.1)]) X d_Top_sheet_43 (by decide) rfl rfl ?_
    refine V_iload_n (n := 2) X d_Top_sheet_45 rfl rfl rfl ?_
    refine V_iconst (v := 3) X d_Top_sheet_46 (by decide) rfl ?_
    refine V_icmp_eq (tgt := 78) X d_Top_sheet_47 (by decide) rfl (fun c5 => ?_) (fun c5 => ?_)
    · rw [if_pos c5] at h
      refine V_sub (lv' := [(0, .ref (G.2.2 + 0)), (1, .int v1), (2, .int v2), (3, .int v3), (4, .int v4), (5, .int s.1), (6, .int s.2.1), (7, .int (0 : Int32))]) [1, 2, 3, 4, 5, 6, 7, 0] rfl ?_
      exact j_Top_sheet_78_35_ok X hD v1 v2 v3 v4 s.1 s.2.1 (0 : Int32) s.2.2 _ h kc kx0
    · rw [if_neg c5] at h
      refine V_iload (n := 7) X d_Top_sheet_50 rfl rfl ?_
      refine V_iload_n (n := 3) X d_Top_sheet_52 rfl rfl rfl ?_
      refine V_icmp_ge (tgt := 78) X d_Top_sheet_53 (by decide) rfl (fun c4 => ?_) (fun c4 => ?_)
      · rw [if_pos c4] at h
        refine V_sub (lv' := [(0, .ref (G.2.2 + 0)), (1, .int v1), (2, .int v2), (3, .int v3), (4, .int v4), (5, .int s.1), (6, .int s.2.1), (7, .int (0 : Int32))]) [1, 2, 3, 4, 5, 6, 7, 0] rfl ?_
        exact j_Top_sheet_78_35_ok X hD v1 v2 v3 v4 s.1 s.2.1 (0 : Int32) s.2.2 _ h kc kx0
      · rw [if_neg c4] at h
        refine V_aload_n (n := 1) X d_Top_sheet_56 rfl rfl rfl ?_
        refine V_getr (k2 := 6) X fo_Top_26 kd_0 rfl rf_0_2 d_Top_sheet_57 rfl ?_
        refine V_iload (n := 7) X d_Top_sheet_60 rfl rfl ?_
        refine V_iload_n (n := 2) X d_Top_sheet_62 rfl rfl rfl ?_
        refine V_iload_n (n := 4) X d_Top_sheet_63 rfl rfl rfl ?_
        refine V_iload (n := 7) X d_Top_sheet_64 rfl rfl ?_
        refine V_iload (n := 5) X d_Top_sheet_66 rfl rfl ?_
        refine V_imul X d_Top_sheet_68 rfl ?_
        refine V_iadd X d_Top_sheet_69 rfl ?_
        obtain ⟨x2, hx2, h⟩ := ob_s h
        refine V_si (As := [.int v1, .int (v3 + (s.2.1 * v4))]) X (Z0 E) ml_Top_227 yq_Top_narrow (c_Top_narrow E.2.1 G v1 (v3 + (s.2.1 * v4)) s.2.2 x2 hx2 _ (Nat.le_refl _)) rfl (by omega) rfl (Nat.le_of_ble_eq_true rfl) d_Top_sheet_70 rfl (fun r9 M9 hq => ?_)
        rw [hq.1, hq.2]
        obtain ⟨x3, hx3, h⟩ := ob_s h
        refine V_ci (As := [.int s.2.1, .int x2]) X (Z0 E) ml_Top_230 yq_Crowd_within (c_Crowd_within E.2.1 G s.2.1 x2 s.2.2 x3 hx3 _ (Nat.le_refl _)) kd_6 rfl rfl (by omega) rfl (Nat.le_of_ble_eq_true rfl) d_Top_sheet_73 rfl (fun r9 M9 hq => ?_)
        rw [hq.1, hq.2]
        refine V_istore (lv' := [(7, .int x3), (0, .ref (G.2.2 + 0)), (1, .int v1), (2, .int v2), (3, .int v3), (4, .int v4), (5, .int s.1), (6, .int s.2.1)]) X d_Top_sheet_76 (by decide) rfl rfl ?_
        refine V_sub (lv' := [(0, .ref (G.2.2 + 0)), (1, .int v1), (2, .int v2), (3, .int v3), (4, .int v4), (5, .int s.1), (6, .int s.2.1), (7, .int x3)]) [1, 2, 3, 4, 5, 6, 7, 0] rfl ?_
        exact j_Top_sheet_78_35_ok X hD v1 v2 v3 v4 s.1 s.2.1 x3 s.2.2 _ h kc kx0
theorem lp_Top_sheet_35_ok {E : Ev} {G : Gw} {d : Nat} {post : Int32 → Mem → Prop} (X : Cx E G b_Top_sheet "WomenByTheRoofs" 8 d (some .int)) (hD : 3 ≤ d)  (v1 : Int32) (v2 : Int32) (v3 : Int32) (v4 : Int32)   (n9 : Nat) (s : Int32 × Int32 × Mem) (x : (Int32 × Mem)) (h : iter (lb_Top_sheet_35 v1 v2 v3 v4) n9 s = some x) (kx0 : ∀ x9 : Int32 × Mem, x = x9 → V E (0, 0) G 8 (QI E G post) x9.2 103 [(1, .int v1), (5, .int x9.1)] []) : V E (0, 0) G 8 (QI E G post) s.2.2 35 [(0, .ref (G.2.2 + 0)), (1, .int v1), (2, .int v2), (3, .int v3), (4, .int v4), (5, .int s.1), (6, .int s.2.1)] [] :=
  iter_P (P := fun s : Int32 × Int32 × Mem => V E (0, 0) G 8 (QI E G post) s.2.2 35 [(0, .ref (G.2.2 + 0)), (1, .int v1), (2, .int v2), (3, .int v3), (4, .int v4), (5, .int s.1), (6, .int s.2.1)] []) (fun s o hb kc ky => lb_Top_sheet_35_ok X hD v1 v2 v3 v4 s o hb kc (fun x9 e9 => kx0 x9 (ky _ e9).symm)) n9 s h
def f_Top_sheet (v1 : Int32) (v2 : Int32) (v3 : Int32) (v4 : Int32) (M : Mem) : Option (Int32 × Mem) :=
  if v1 < 0 then
  some ((-1 : Int32), M)
  else
  if (3 : Int32) < v1 then
  some ((-1 : Int32), M)
  else
  if v2 ≤ (8 : Int32) then
  if v1 = (3 : Int32) then
  Option.bind (iter (lb_Top_sheet_35 v1 v2 v3 v4) FU ((0 : Int32), (0 : Int32), M)) fun x7 =>
  if v1 = (3 : Int32) then
  some ((-3 : Int32), x7.2)
  else
  some (x7.1, x7.2)
  else
  if 0 ≤ v2 then
  Option.bind (iter (lb_Top_sheet_35 v1 v2 v3 v4) FU ((0 : Int32), (0 : Int32), M)) fun x9 =>
  if v1 = (3 : Int32) then
  some ((-3 : Int32), x9.2)
  else
  some (x9.1, x9.2)
  else
  some ((-2 : Int32), M)
  else
  some ((-1 : Int32), M)
theorem c_Top_sheet (l : Launch) (G : Gw)  (v1 : Int32) (v2 : Int32) (v3 : Int32) (v4 : Int32) (M : Mem) (x : Int32 × Mem) (h : f_Top_sheet v1 v2 v3 v4 M = some x) (d : Nat) (hD : 3 ≤ d) : Ci l G y_Top_sheet b_Top_sheet 8 (some .int) d [.ref (G.2.2 + 0), .int v1, .int v2, .int v3, .int v4] M (fun r9 M9 => r9 = x.1 ∧ M9 = x.2) := by
  refine Ci_of (by decide) (Nat.le_of_ble_eq_true rfl) (fun E hE X => ?_)
  subst hE
  have kr : ∀ x9 : Int32 × Mem, x = x9 → (fun r9 M9 => r9 = x.1 ∧ M9 = x.2) x9.1 x9.2 := fun x9 e9 => by subst e9; exact ⟨rfl, rfl⟩
  unfold f_Top_sheet at h
  refine V_iload_n (n := 1) X d_Top_sheet_0 rfl rfl rfl ?_
  refine V_if_lt (tgt := 15) X d_Top_sheet_1 (by decide) rfl (fun c15 => ?_) (fun c15 => ?_)
  · rw [if_pos c15] at h
    refine V_iconst (v := -1) X d_Top_sheet_15 (by decide) rfl ?_
    exact V_iret X (kr ((-1 : Int32), M) (Option.some.inj h).symm) d_Top_sheet_16
  · rw [if_neg c15] at h
    refine V_iload_n (n := 1) X d_Top_sheet_4 rfl rfl rfl ?_
    refine V_iconst (v := 3) X d_Top_sheet_5 (by decide) rfl ?_
    refine V_icmp_gt (tgt := 15) X d_Top_sheet_6 (by decide) rfl (fun c14 => ?_) (fun c14 => ?_)
    · rw [if_pos c14] at h
      refine V_iconst (v := -1) X d_Top_sheet_15 (by decide) rfl ?_
      exact V_iret X (kr ((-1 : Int32), M) (Option.some.inj h).symm) d_Top_sheet_16
    · rw [if_neg c14] at h
      refine V_iload_n (n := 2) X d_Top_sheet_9 rfl rfl rfl ?_
      refine V_bipush (v := 8) X d_Top_sheet_10 (by decide) rfl ?_
      refine V_icmp_le (tgt := 17) X d_Top_sheet_12 (by decide) rfl (fun c13 => ?_) (fun c13 => ?_)
      · rw [if_pos c13] at h
        refine V_iload_n (n := 1) X d_Top_sheet_17 rfl rfl rfl ?_
        refine V_iconst (v := 3) X d_Top_sheet_18 (by decide) rfl ?_
        refine V_icmp_eq (tgt := 29) X d_Top_sheet_19 (by decide) rfl (fun c12 => ?_) (fun c12 => ?_)
        · rw [if_pos c12] at h
          refine V_iconst (v := 0) X d_Top_sheet_29 (by decide) rfl ?_
          refine V_istore (lv' := [(5, .int (0 : Int32)), (0, .ref (G.2.2 + 0)), (1, .int v1), (2, .int v2), (3, .int v3), (4, .int v4)]) X d_Top_sheet_30 (by decide) rfl rfl ?_
          refine V_iconst (v := 0) X d_Top_sheet_32 (by decide) rfl ?_
          refine V_istore (lv' := [(6, .int (0 : Int32)), (5, .int (0 : Int32)), (0, .ref (G.2.2 + 0)), (1, .int v1), (2, .int v2), (3, .int v3), (4, .int v4)]) X d_Top_sheet_33 (by decide) rfl rfl ?_
          refine V_sub (lv' := [(0, .ref (G.2.2 + 0)), (1, .int v1), (2, .int v2), (3, .int v3), (4, .int v4), (5, .int (0 : Int32)), (6, .int (0 : Int32))]) [2, 3, 4, 5, 6, 1, 0] rfl ?_
          obtain ⟨x7, hx7, h⟩ := ob_s h
          refine (lp_Top_sheet_35_ok X hD v1 v2 v3 v4 _ _ _ hx7 (fun x9 e9 => ?_) :)
          subst e9
          refine V_iload_n (n := 0) X d_Top_sheet_103 rfl rfl rfl ?_
          refine V_iconst (v := 3) X d_Top_sheet_104 (by decide) rfl ?_
          refine V_icmp_ne (tgt := 113) X d_Top_sheet_105 (by decide) rfl (fun c8 => ?_) (fun c8 => ?_)
          · rw [if_neg c8] at h
            refine V_iload (n := 1) X d_Top_sheet_113 rfl rfl ?_
            exact V_iret X (kr (x7.1, x7.2) (Option.some.inj h).symm) d_Top_sheet_115
          · rw [if_pos c8] at h
            refine V_bipush (v := -3) X d_Top_sheet_108 (by decide) rfl ?_
            refine V_goto (pc' := 115) X d_Top_sheet_110 (by decide) ?_
            exact V_iret X (kr ((-3 : Int32), x7.2) (Option.some.inj h).symm) d_Top_sheet_115
        · rw [if_neg c12] at h
          refine V_iload_n (n := 2) X d_Top_sheet_22 rfl rfl rfl ?_
          refine V_if_ge (tgt := 29) X d_Top_sheet_23 (by decide) rfl (fun c11 => ?_) (fun c11 => ?_)
          · rw [if_pos c11] at h
            refine V_iconst (v := 0) X d_Top_sheet_29 (by decide) rfl ?_
            refine V_istore (lv' := [(5, .int (0 : Int32)), (0, .ref (G.2.2 + 0)), (1, .int v1), (2, .int v2), (3, .int v3), (4, .int v4)]) X d_Top_sheet_30 (by decide) rfl rfl ?_
            refine V_iconst (v := 0) X d_Top_sheet_32 (by decide) rfl ?_
            refine V_istore (lv' := [(6, .int (0 : Int32)), (5, .int (0 : Int32)), (0, .ref (G.2.2 + 0)), (1, .int v1), (2, .int v2), (3, .int v3), (4, .int v4)]) X d_Top_sheet_33 (by decide) rfl rfl ?_
            refine V_sub (lv' := [(0, .ref (G.2.2 + 0)), (1, .int v1), (2, .int v2), (3, .int v3), (4, .int v4), (5, .int (0 : Int32)), (6, .int (0 : Int32))]) [2, 3, 4, 5, 6, 1, 0] rfl ?_
            obtain ⟨x9, hx9, h⟩ := ob_s h
            refine (lp_Top_sheet_35_ok X hD v1 v2 v3 v4 _ _ _ hx9 (fun x9 e9 => ?_) :)
            subst e9
            refine V_iload_n (n := 0) X d_Top_sheet_103 rfl rfl rfl ?_
            refine V_iconst (v := 3) X d_Top_sheet_104 (by decide) rfl ?_
            refine V_icmp_ne (tgt := 113) X d_Top_sheet_105 (by decide) rfl (fun c10 => ?_) (fun c10 => ?_)
            · rw [if_neg c10] at h
              refine V_iload (n := 1) X d_Top_sheet_113 rfl rfl ?_
              exact V_iret X (kr (x9.1, x9.2) (Option.some.inj h).symm) d_Top_sheet_115
            · rw [if_pos c10] at h
              refine V_bipush (v := -3) X d_Top_sheet_108 (by decide) rfl ?_
              refine V_goto (pc' := 115) X d_Top_sheet_110 (by decide) ?_
              exact V_iret X (kr ((-3 : Int32), x9.2) (Option.some.inj h).symm) d_Top_sheet_115
          · rw [if_neg c11] at h
            refine V_bipush (v := -2) X d_Top_sheet_26 (by decide) rfl ?_
            exact V_iret X (kr ((-2 : Int32), M) (Option.some.inj h).symm) d_Top_sheet_28
      · rw [if_neg c13] at h
        refine V_iconst (v := -1) X d_Top_sheet_15 (by decide) rfl ?_
        exact V_iret X (kr ((-1 : Int32), M) (Option.some.inj h).symm) d_Top_sheet_16
def f_Top_give (v1 : Int32) (M : Mem) : Option (Int32 × Mem) :=
  Option.bind (f_Crowd_has v1 M) fun x1 =>
  if x1 = 0 then
  some ((0 : Int32), M)
  else
  if (((M.1 11 8) >>> (v1 &&& 31)) &&& (1 : Int32)) = 0 then
  mem_ (s_i M 11 8 ((M.1 11 8) ||| ((1 : Int32) <<< (v1 &&& 31)))) fun M2 =>
  some ((1 : Int32), M2)
  else
  some ((0 : Int32), M)
theorem c_Top_give (l : Launch) (G : Gw)  (v1 : Int32) (M : Mem) (x : Int32 × Mem) (h : f_Top_give v1 M = some x) (d : Nat) (hD : 2 ≤ d) : Ci l G y_Top_give b_Top_give 2 (some .boolean) d [.ref (G.2.2 + 0), .int v1] M (fun r9 M9 => r9 = x.1 ∧ M9 = x.2) := by
  refine Ci_of (by decide) (Nat.le_of_ble_eq_true rfl) (fun E hE X => ?_)
  subst hE
  have kr : ∀ x9 : Int32 × Mem, x = x9 → (fun r9 M9 => r9 = x.1 ∧ M9 = x.2) x9.1 x9.2 := fun x9 e9 => by subst e9; exact ⟨rfl, rfl⟩
  unfold f_Top_give at h
  refine V_aload_n (n := 0) X d_Top_give_0 rfl rfl rfl ?_
  refine V_getr (k2 := 6) X fo_Top_26 kd_0 rfl rf_0_2 d_Top_give_1 rfl ?_
  refine V_iload_n (n := 1) X d_Top_give_4 rfl rfl rfl ?_
  obtain ⟨x1, hx1, h⟩ := ob_s h
  refine V_ci (As := [.int v1]) X (Z0 E) ml_Top_153 yq_Crowd_has (c_Crowd_has E.2.1 G v1 M x1 hx1 _ (Nat.le_refl _)) kd_6 rfl rfl (by omega) rfl (Nat.le_of_ble_eq_true rfl) d_Top_give_5 rfl (fun r9 M9 hq => ?_)
  rw [hq.1, hq.2]
  refine V_if_eq (tgt := 25) X d_Top_give_8 (by decide) rfl (fun c4 => ?_) (fun c4 => ?_)
  · rw [if_pos c4] at h
    refine V_iconst (v := 0) X d_Top_give_25 (by decide) rfl ?_
    exact V_zret X (kr ((0 : Int32), M) (Option.some.inj h).symm) (by decide) d_Top_give_26
  · rw [if_neg c4] at h
    refine V_aload_n (n := 0) X d_Top_give_11 rfl rfl rfl ?_
    refine V_getr (k2 := 11) X fo_Top_33 kd_0 rfl rf_0_3 d_Top_give_12 rfl ?_
    refine V_geti X fo_Top_197 kd_11 rfl d_Top_give_15 rfl ?_
    refine V_iload_n (n := 1) X d_Top_give_18 rfl rfl rfl ?_
    refine V_ishr X d_Top_give_19 rfl ?_
    refine V_iconst (v := 1) X d_Top_give_20 (by decide) rfl ?_
    refine V_iand X d_Top_give_21 rfl ?_
    refine V_if_eq (tgt := 27) X d_Top_give_22 (by decide) rfl (fun c3 => ?_) (fun c3 => ?_)
    · rw [if_pos c3] at h
      refine V_aload_n (n := 0) X d_Top_give_27 rfl rfl rfl ?_
      refine V_getr (k2 := 11) X fo_Top_33 kd_0 rfl rf_0_3 d_Top_give_28 rfl ?_
      refine V_dup X d_Top_give_31 rfl rfl ?_
      refine V_geti X fo_Top_197 kd_11 rfl d_Top_give_32 rfl ?_
      refine V_iconst (v := 1) X d_Top_give_35 (by decide) rfl ?_
      refine V_iload_n (n := 1) X d_Top_give_36 rfl rfl rfl ?_
      refine V_ishl X d_Top_give_37 rfl ?_
      refine V_ior X d_Top_give_38 rfl ?_
      obtain ⟨M2, eM2, h⟩ := memS h
      refine V_putI X fp_Top_197 kd_11 rfl d_Top_give_39 rfl ?_
      rw [← eM2]
      refine V_iconst (v := 1) X d_Top_give_42 (by decide) rfl ?_
      exact V_zret X (kr ((1 : Int32), M2) (Option.some.inj h).symm) (by decide) d_Top_give_43
    · rw [if_neg c3] at h
      refine V_iconst (v := 0) X d_Top_give_25 (by decide) rfl ?_
      exact V_zret X (kr ((0 : Int32), M) (Option.some.inj h).symm) (by decide) d_Top_give_26
def f_Top_tell (v1 : Int32) (M : Mem) : Option (Int32 × Mem) :=
  Option.bind (f_Scene_copy 18 11 M) fun x1 =>
  Option.bind (f_Top_give v1 x1) fun x2 =>
  if x2.1 = 0 then
  some ((-1 : Int32), x2.2)
  else
  Option.bind (f_History_add 18 x2.2) fun x3 =>
  Option.bind (f_JInteger_bitCount (x3.1 11 8)) fun x4 =>
  some (x4, x3)
theorem c_Top_tell (l : Launch) (G : Gw)  (v1 : Int32) (M : Mem) (x : Int32 × Mem) (h : f_Top_tell v1 M = some x) (d : Nat) (hD : 4 ≤ d) : Ci l G y_Top_tell b_Top_tell 2 (some .int) d [.ref (G.2.2 + 0), .int v1] M (fun r9 M9 => r9 = x.1 ∧ M9 = x.2) := by
  refine Ci_of (by decide) (Nat.le_of_ble_eq_true rfl) (fun E hE X => ?_)
  subst hE
  have kr : ∀ x9 : Int32 × Mem, x = x9 → (fun r9 M9 => r9 = x.1 ∧ M9 = x.2) x9.1 x9.2 := fun x9 e9 => by subst e9; exact ⟨rfl, rfl⟩
  unfold f_Top_tell at h
  refine V_aload_n (n := 0) X d_Top_tell_0 rfl rfl rfl ?_
  refine V_getr (k2 := 18) X fo_Top_37 kd_0 rfl rf_0_4 d_Top_tell_1 rfl ?_
  refine V_aload_n (n := 0) X d_Top_tell_4 rfl rfl rfl ?_
  refine V_getr (k2 := 11) X fo_Top_33 kd_0 rfl rf_0_3 d_Top_tell_5 rfl ?_
  obtain ⟨x1, hx1, h⟩ := ob_s h
  refine V_cv (As := [.ref (G.2.2 + 11)]) X (Z0 E) ml_Top_211 yq_Scene_copy (c_Scene_copy E.2.1 G 18 11 M x1 hx1 _ (Nat.le_refl _)) kd_18 rfl rfl (by omega) rfl (Nat.le_of_ble_eq_true rfl) d_Top_tell_8 rfl (fun M9 hq => ?_)
  rw [hq]
  refine V_aload_n (n := 0) X d_Top_tell_11 rfl rfl rfl ?_
  refine V_iload_n (n := 1) X d_Top_tell_12 rfl rfl rfl ?_
  obtain ⟨x2, hx2, h⟩ := ob_s h
  refine V_ci (As := [.int v1]) X (Z0 E) ml_Top_233 yq_Top_give (c_Top_give E.2.1 G v1 x1 x2 hx2 _ (Nat.le_refl _)) kd_0 rfl rfl (by omega) rfl (Nat.le_of_ble_eq_true rfl) d_Top_tell_13 rfl (fun r9 M9 hq => ?_)
  rw [hq.1, hq.2]
  refine V_if_ne (tgt := 21) X d_Top_tell_16 (by decide) rfl (fun c5 => ?_) (fun c5 => ?_)
  · rw [if_neg c5] at h
    refine V_aload_n (n := 0) X d_Top_tell_21 rfl rfl rfl ?_
    refine V_getr (k2 := 46) X fo_Top_70 kd_0 rfl rf_0_10 d_Top_tell_22 rfl ?_
    refine V_aload_n (n := 0) X d_Top_tell_25 rfl rfl rfl ?_
    refine V_getr (k2 := 18) X fo_Top_37 kd_0 rfl rf_0_4 d_Top_tell_26 rfl ?_
    obtain ⟨x3, hx3, h⟩ := ob_s h
    refine V_cv (As := [.ref (G.2.2 + 18)]) X (Z0 E) ml_Top_218 yq_History_add (c_History_add E.2.1 G 18 x2.2 x3 hx3 _ (Nat.le_refl _)) kd_46 rfl rfl (by omega) rfl (Nat.le_of_ble_eq_true rfl) d_Top_tell_29 rfl (fun M9 hq => ?_)
    rw [hq]
    refine V_aload_n (n := 0) X d_Top_tell_32 rfl rfl rfl ?_
    refine V_getr (k2 := 11) X fo_Top_33 kd_0 rfl rf_0_3 d_Top_tell_33 rfl ?_
    refine V_geti X fo_Top_197 kd_11 rfl d_Top_tell_36 rfl ?_
    obtain ⟨x4, hx4, h⟩ := ob_s h
    refine V_si (As := [.int (x3.1 11 8)]) X (Z0 E) ml_Top_236 yq_JInteger_bitCount (c_JInteger_bitCount E.2.1 G (x3.1 11 8) x3 x4 hx4 _ (Nat.le_refl _)) rfl (by omega) rfl (Nat.le_of_ble_eq_true rfl) d_Top_tell_39 rfl (fun r9 M9 hq => ?_)
    rw [hq.1, hq.2]
    exact V_iret X (kr (x4, x3) (Option.some.inj h).symm) d_Top_tell_42
  · rw [if_pos c5] at h
    refine V_iconst (v := -1) X d_Top_tell_19 (by decide) rfl ?_
    exact V_iret X (kr ((-1 : Int32), x2.2) (Option.some.inj h).symm) d_Top_tell_20
def lb_Top_womenAreAstray_2 (M : Mem) (s : Int32) : Option ((Int32) ⊕ ((Unit) ⊕ (Unit))) :=
  if (M.1 6 4) ≤ s then
  some (.inr (Sum.inl ()))
  else
  Option.bind (f_Crowd_woman s M) fun x1 =>
  if x1 = 0 then
  some (.inl (s + (1 : Int32)))
  else
  if inb s 8 = true then
  if (M.1 13 s.toNatClampNeg) = 0 then
  if inb s 8 = true then
  Option.bind (f_Ground_isStair (M.1 12 s.toNatClampNeg) M) fun x2 =>
  if x2 = 0 then
  some (.inr (Sum.inr ()))
  else
  some (.inl (s + (1 : Int32)))
  else none
  else
  some (.inl (s + (1 : Int32)))
  else none
theorem lb_Top_womenAreAstray_2_ok {E : Ev} {G : Gw} {d : Nat} {post : Int32 → Mem → Prop} (X : Cx E G b_Top_womenAreAstray "WomenByTheRoofs" 2 d (some .boolean)) (hD : 2 ≤ d)    (M : Mem) (s : Int32) (o : (Int32) ⊕ ((Unit) ⊕ (Unit))) (h : lb_Top_womenAreAstray_2 M s = some o) (kc : ∀ s9 : Int32, o = .inl s9 → V E (0, 0) G 2 (QI E G post) M 2 [(0, .ref (G.2.2 + 0)), (1, .int s9)] []) (kx0 : ∀ x9 : Unit, o = .inr (Sum.inl x9) → V E (0, 0) G 2 (QI E G post) M 63 [] []) (kx1 : ∀ x9 : Unit, o = .inr (Sum.inr x9) → V E (0, 0) G 2 (QI E G post) M 55 [] []) : V E (0, 0) G 2 (QI E G post) M 2 [(0, .ref (G.2.2 + 0)), (1, .int s)] [] := by
  unfold lb_Top_womenAreAstray_2 at h
  refine V_iload_n (n := 1) X d_Top_womenAreAstray_2 rfl rfl rfl ?_
  refine V_aload_n (n := 0) X d_Top_womenAreAstray_3 rfl rfl rfl ?_
  refine V_getr (k2 := 6) X fo_Top_26 kd_0 rfl rf_0_2 d_Top_womenAreAstray_4 rfl ?_
  refine V_geti X fo_Top_129 kd_6 rfl d_Top_womenAreAstray_7 rfl ?_
  refine V_icmp_ge (tgt := 63) X d_Top_womenAreAstray_10 (by decide) rfl (fun c6 => ?_) (fun c6 => ?_)
  · rw [if_pos c6] at h
    refine V_sub (lv' := []) [] rfl ?_
    exact kx0 () (Option.some.inj h).symm
  · rw [if_neg c6] at h
    refine V_aload_n (n := 0) X d_Top_womenAreAstray_13 rfl rfl rfl ?_
    refine V_getr (k2 := 6) X fo_Top_26 kd_0 rfl rf_0_2 d_Top_womenAreAstray_14 rfl ?_
    refine V_iload_n (n := 1) X d_Top_womenAreAstray_17 rfl rfl rfl ?_
    obtain ⟨x1, hx1, h⟩ := ob_s h
    refine V_ci (As := [.int s]) X (Z0 E) ml_Top_139 yq_Crowd_woman (c_Crowd_woman E.2.1 G s M x1 hx1 _ (Nat.le_refl _)) kd_6 rfl rfl (by omega) rfl (Nat.le_of_ble_eq_true rfl) d_Top_womenAreAstray_18 rfl (fun r9 M9 hq => ?_)
    rw [hq.1, hq.2]
    refine V_if_eq (tgt := 57) X d_Top_womenAreAstray_21 (by decide) rfl (fun c5 => ?_) (fun c5 => ?_)
    · rw [if_pos c5] at h
      refine V_iinc (n := 1) (v := (s + (1 : Int32))) (lv' := [(1, .int (s + (1 : Int32))), (0, .ref (G.2.2 + 0))]) X d_Top_womenAreAstray_57 rfl rfl (by decide) rfl rfl ?_
      refine V_goto (pc' := 2) X d_Top_womenAreAstray_60 (by decide) ?_
      refine V_sub (lv' := [(0, .ref (G.2.2 + 0)), (1, .int (s + (1 : Int32)))]) [1, 0] rfl ?_
      exact kc (s + (1 : Int32)) (Option.some.inj h).symm
    · rw [if_neg c5] at h
      refine V_aload_n (n := 0) X d_Top_womenAreAstray_24 rfl rfl rfl ?_
      refine V_getr (k2 := 11) X fo_Top_33 kd_0 rfl rf_0_3 d_Top_womenAreAstray_25 rfl ?_
      refine V_getr (k2 := 13) X fo_Top_191 kd_11 rfl rf_11_1 d_Top_womenAreAstray_28 rfl ?_
      refine V_iload_n (n := 1) X d_Top_womenAreAstray_31 rfl rfl rfl ?_
      obtain ⟨hb, h⟩ := ifn h
      refine V_iald X kd_13 (inb_in ln_13 hb) d_Top_womenAreAstray_32 rfl ?_
      refine V_if_ne (tgt := 57) X d_Top_womenAreAstray_33 (by decide) rfl (fun c4 => ?_) (fun c4 => ?_)
      · rw [if_neg c4] at h
        refine V_iinc (n := 1) (v := (s + (1 : Int32))) (lv' := [(1, .int (s + (1 : Int32))), (0, .ref (G.2.2 + 0))]) X d_Top_womenAreAstray_57 rfl rfl (by decide) rfl rfl ?_
        refine V_goto (pc' := 2) X d_Top_womenAreAstray_60 (by decide) ?_
        refine V_sub (lv' := [(0, .ref (G.2.2 + 0)), (1, .int (s + (1 : Int32)))]) [1, 0] rfl ?_
        exact kc (s + (1 : Int32)) (Option.some.inj h).symm
      · rw [if_pos c4] at h
        refine V_aload_n (n := 0) X d_Top_womenAreAstray_36 rfl rfl rfl ?_
        refine V_getr (k2 := 3) X fo_Top_19 kd_0 rfl rf_0_1 d_Top_womenAreAstray_37 rfl ?_
        refine V_aload_n (n := 0) X d_Top_womenAreAstray_40 rfl rfl rfl ?_
        refine V_getr (k2 := 11) X fo_Top_33 kd_0 rfl rf_0_3 d_Top_womenAreAstray_41 rfl ?_
        refine V_getr (k2 := 12) X fo_Top_188 kd_11 rfl rf_11_0 d_Top_womenAreAstray_44 rfl ?_
        refine V_iload_n (n := 1) X d_Top_womenAreAstray_47 rfl rfl rfl ?_
        obtain ⟨hb, h⟩ := ifn h
        refine V_iald X kd_12 (inb_in ln_12 hb) d_Top_womenAreAstray_48 rfl ?_
        obtain ⟨x2, hx2, h⟩ := ob_s h
        refine V_ci (As := [.int (M.1 12 s.toNatClampNeg)]) X (Z0 E) ml_Top_290 yq_Ground_isStair (c_Ground_isStair E.2.1 G (M.1 12 s.toNatClampNeg) M x2 hx2 _ (Nat.le_refl _)) kd_3 rfl rfl (by omega) rfl (Nat.le_of_ble_eq_true rfl) d_Top_womenAreAstray_49 rfl (fun r9 M9 hq => ?_)
        rw [hq.1, hq.2]
        refine V_if_ne (tgt := 57) X d_Top_womenAreAstray_52 (by decide) rfl (fun c3 => ?_) (fun c3 => ?_)
        · rw [if_neg c3] at h
          refine V_iinc (n := 1) (v := (s + (1 : Int32))) (lv' := [(1, .int (s + (1 : Int32))), (0, .ref (G.2.2 + 0))]) X d_Top_womenAreAstray_57 rfl rfl (by decide) rfl rfl ?_
          refine V_goto (pc' := 2) X d_Top_womenAreAstray_60 (by decide) ?_
          refine V_sub (lv' := [(0, .ref (G.2.2 + 0)), (1, .int (s + (1 : Int32)))]) [1, 0] rfl ?_
          exact kc (s + (1 : Int32)) (Option.some.inj h).symm
        · rw [if_pos c3] at h
          refine V_sub (lv' := []) [] rfl ?_
          exact kx1 () (Option.some.inj h).symm
theorem lp_Top_womenAreAstray_2_ok {E : Ev} {G : Gw} {d : Nat} {post : Int32 → Mem → Prop} (X : Cx E G b_Top_womenAreAstray "WomenByTheRoofs" 2 d (some .boolean)) (hD : 2 ≤ d)    (M : Mem) (n9 : Nat) (s : Int32) (x : (Unit) ⊕ (Unit)) (h : iter (lb_Top_womenAreAstray_2 M) n9 s = some x) (kx0 : ∀ x9 : Unit, x = (Sum.inl x9) → V E (0, 0) G 2 (QI E G post) M 63 [] []) (kx1 : ∀ x9 : Unit, x = (Sum.inr x9) → V E (0, 0) G 2 (QI E G post) M 55 [] []) : V E (0, 0) G 2 (QI E G post) M 2 [(0, .ref (G.2.2 + 0)), (1, .int s)] [] :=
  iter_P (P := fun s : Int32 => V E (0, 0) G 2 (QI E G post) M 2 [(0, .ref (G.2.2 + 0)), (1, .int s)] []) (fun s o hb kc ky => lb_Top_womenAreAstray_2_ok X hD M s o hb kc (fun x9 e9 => kx0 x9 (ky _ e9).symm) (fun x9 e9 => kx1 x9 (ky _ e9).symm)) n9 s h
def f_Top_womenAreAstray (M : Mem) : Option (Int32) :=
  Option.bind (iter (lb_Top_womenAreAstray_2 M) FU (0 : Int32)) (Sum.elim (fun y8 => some (0 : Int32)) (fun y9 => some (1 : Int32)))
theorem c_Top_womenAreAstray (l : Launch) (G : Gw)   (M : Mem) (x : Int32) (h : f_Top_womenAreAstray M = some x) (d : Nat) (hD : 2 ≤ d) : Ci l G y_Top_womenAreAstray b_Top_womenAreAstray 2 (some .boolean) d [.ref (G.2.2 + 0)] M (fun r9 M9 => r9 = x ∧ M9 = M) := by
  refine Ci_of (by decide) (Nat.le_of_ble_eq_true rfl) (fun E hE X => ?_)
  subst hE
  have kr : ∀ x9 : Int32, x = x9 → (fun r9 M9 => r9 = x ∧ M9 = M) x9 M := fun x9 e9 => by subst e9; exact ⟨rfl, rfl⟩
  unfold f_Top_womenAreAstray at h
  refine V_iconst (v := 0) X d_Top_womenAreAstray_0 (by decide) rfl ?_
  refine V_istore_n (lv' := [(1, .int (0 : Int32)), (0, .ref (G.2.2 + 0))]) X d_Top_womenAreAstray_1 rfl (by decide) rfl rfl ?_
  refine V_sub (lv' := [(0, .ref (G.2.2 + 0)), (1, .int (0 : Int32))]) [1, 0] rfl ?_
  obtain ⟨x7, hx7, h⟩ := ob_s h
  rcases x7 with y8 | y9
  · simp only [Sum.elim_inl, Sum.elim_inr] at h
    refine (lp_Top_womenAreAstray_2_ok X hD M _ _ _ hx7 (fun x9 e9 => ?_) (fun x9 e9 => by cases e9) :)
    cases e9
    refine V_iconst (v := 0) X d_Top_womenAreAstray_63 (by decide) rfl ?_
    exact V_zret X (kr (0 : Int32) (Option.some.inj h).symm) (by decide) d_Top_womenAreAstray_64
  · simp only [Sum.elim_inl, Sum.elim_inr] at h
    refine (lp_Top_womenAreAstray_2_ok X hD M _ _ _ hx7 (fun x9 e9 => by cases e9) (fun x9 e9 => ?_) :)
    cases e9
    refine V_iconst (v := 1) X d_Top_womenAreAstray_55 (by decide) rfl ?_
    exact V_zret X (kr (1 : Int32) (Option.some.inj h).symm) (by decide) d_Top_womenAreAstray_56
def lb_Top_celebrate_34 (v1 : Int32) (s : Int32 × Mem) : Option ((Int32 × Mem) ⊕ ((Mem))) :=
  if (s.2.1 6 4) ≤ s.1 then
  some (.inr s.2)
  else
  Option.bind (f_Crowd_woman s.1 s.2) fun x2 =>
  if x2 = 0 then
  some (.inl ((s.1 + (1 : Int32)), s.2))
  else
  if inb s.1 8 = true then
  Option.bind (f_Ground_isStair (s.2.1 12 s.1.toNatClampNeg) s.2) fun x3 =>
  if x3 = 0 then
  some (.inl ((s.1 + (1 : Int32)), s.2))
  else
  if v1 = (1 : Int32) then
  if inb s.1 8 = true then
  mem_ (s_i s.2 13 s.1.toNatClampNeg (0 : Int32)) fun M5 =>
  some (.inl ((s.1 + (1 : Int32)), M5))
  else none
  else
  if inb s.1 8 = true then
  mem_ (s_i s.2 13 s.1.toNatClampNeg (1 : Int32)) fun M4 =>
  some (.inl ((s.1 + (1 : Int32)), M4))
  else none
  else none
theorem lb_Top_celebrate_34_ok {E : Ev} {G : Gw} {d : Nat} {post : Int32 → Mem → Prop} (X : Cx E G b_Top_celebrate "WomenByTheRoofs" 3 d (some .boolean)) (hD : 3 ≤ d)  (v1 : Int32)   (s : Int32 × Mem) (o : (Int32 × Mem) ⊕ ((Mem))) (h : lb_Top_celebrate_34 v1 s = some o) (kc : ∀ s9 : Int32 × Mem, o = .inl s9 → V E (0, 0) G 3 (QI E G post) s9.2 34 [(0, .ref (G.2.2 + 0)), (1, .int v1), (2, .int s9.1)] []) (kx0 : ∀ x9 : Mem, o = .inr x9 → V E (0, 0) G 3 (QI E G post) x9 100 [] []) : V E (0, 0) G 3 (QI E G post) s.2 34 [(0, .ref (G.2.2 + 0)), (1, .int v1), (2, .int s.1)] [] := by
  unfold lb_Top_celebrate_34 at h
  refine V_iload_n (n := 2) X d_Top_celebrate_34 rfl rfl rfl ?_
  refine V_aload_n (n := 0) X d_Top_celebrate_35 rfl rfl rfl ?_
  refine V_getr (k2 := 6) X fo_Top_26 kd_0 rfl rf_0_2 d_Top_celebrate_36 rfl ?_
  refine V_geti X fo_Top_129 kd_6 rfl d_Top_celebrate_39 rfl ?_
  refine V_icmp_ge (tgt := 100) X d_Top_celebrate_42 (by decide) rfl (fun c9 => ?_) (fun c9 => ?_)
  · rw [if_pos c9] at h
    refine V_sub (lv' := []) [] rfl ?_
    exact kx0 s.2 (Option.some.inj h).symm
  · rw [if_neg c9] at h
    refine V_aload_n (n := 0) X d_Top_celebrate_45 rfl rfl rfl ?_
    refine V_getr (k2 := 6) X fo_Top_26 kd_0 rfl rf_0_2 d_Top_celebrate_46 rfl ?_
    refine V_iload_n (n := 2) X d_Top_celebrate_49 rfl rfl rfl ?_
    obtain ⟨x2, hx2, h⟩ := ob_s h
    refine V_ci (As := [.int s.1]) X (Z0 E) ml_Top_139 yq_Crowd_woman (c_Crowd_woman E.2.1 G s.1 s.2 x2 hx2 _ (Nat.le_refl _)) kd_6 rfl rfl (by omega) rfl (Nat.le_of_ble_eq_true rfl) d_Top_celebrate_50 rfl (fun r9 M9 hq => ?_)
    rw [hq.1, hq.2]
    refine V_if_eq (tgt := 94) X d_Top_celebrate_53 (by decide) rfl (fun c8 => ?_) (fun c8 => ?_)
    · rw [if_pos c8] at h
      refine V_iinc (n := 2) (v := (s.1 + (1 : Int32))) (lv' := [(2, .int (s.1 + (1 : Int32))), (0, .ref (G.2.2 + 0)), (1, .int v1)]) X d_Top_celebrate_94 rfl rfl (by decide) rfl rfl ?_
      refine V_goto (pc' := 34) X d_Top_celebrate_97 (by decide) ?_
      refine V_sub (lv' := [(0, .ref (G.2.2 + 0)), (1, .int v1), (2, .int (s.1 + (1 : Int32)))]) [1, 2, 0] rfl ?_
      exact kc ((s.1 + (1 : Int32)), s.2) (Option.some.inj h).symm
    · rw [if_neg c8] at h
      refine V_aload_n (n := 0) X d_Top_celebrate_56 rfl rfl rfl ?_
      refine V_getr (k2 := 3) X fo_Top_19 kd_0 rfl rf_0_1 d_Top_celebrate_57 rfl ?_
      refine V_aload_n (n := 0) X d_Top_celebrate_60 rfl rfl rfl ?_
      refine V_getr (k2 := 11) X fo_Top_33 kd_0 rfl rf_0_3 d_Top_celebrate_61 rfl ?_
      refine V_getr (k2 := 12) X fo_Top_188 kd_11 rfl rf_11_0 d_Top_celebrate_64 rfl ?_
      refine V_iload_n (n := 2) X d_Top_celebrate_67 rfl rfl rfl ?_
      obtain ⟨hb, h⟩ := ifn h
      refine V_iald X kd_12 (inb_in ln_12 hb) d_Top_celebrate_68 rfl ?_
      obtain ⟨x3, hx3, h⟩ := ob_s h
      refine V_ci (As := [.int (s.2.1 12 s.1.toNatClampNeg)]) X (Z0 E) ml_Top_290 yq_Ground_isStair (c_Ground_isStair E.2.1 G (s.2.1 12 s.1.toNatClampNeg) s.2 x3 hx3 _ (Nat.le_refl _)) kd_3 rfl rfl (by omega) rfl (Nat.le_of_ble_eq_true rfl) d_Top_celebrate_69 rfl (fun r9 M9 hq => ?_)
      rw [hq.1, hq.2]
      refine V_if_eq (tgt := 94) X d_Top_celebrate_72 (by decide) rfl (fun c7 => ?_) (fun c7 => ?_)
      · rw [if_pos c7] at h
        refine V_iinc (n := 2) (v := (s.1 + (1 : Int32))) (lv' := [(2, .int (s.1 + (1 : Int32))), (0, .ref (G.2.2 + 0)), (1, .int v1)]) X d_Top_celebrate_94 rfl rfl (by decide) rfl rfl ?_
        refine V_goto (pc' := 34) X d_Top_celebrate_97 (by decide) ?_
        refine V_sub (lv' := [(0, .ref (G.2.2 + 0)), (1, .int v1), (2, .int (s.1 + (1 : Int32)))]) [1, 2, 0] rfl ?_
        exact kc ((s.1 + (1 : Int32)), s.2) (Option.some.inj h).symm
      · rw [if_neg c7] at h
        refine V_aload_n (n := 0) X d_Top_celebrate_75 rfl rfl rfl ?_
        refine V_getr (k2 := 11) X fo_Top_33 kd_0 rfl rf_0_3 d_Top_celebrate_76 rfl ?_
        refine V_getr (k2 := 13) X fo_Top_191 kd_11 rfl rf_11_1 d_Top_celebrate_79 rfl ?_
        refine V_iload_n (n := 2) X d_Top_celebrate_82 rfl rfl rfl ?_
        refine V_iload_n (n := 1) X d_Top_celebrate_83 rfl rfl rfl ?_
        refine V_iconst (v := 1) X d_Top_celebrate_84 (by decide) rfl ?_
        refine V_icmp_ne (tgt := 92) X d_Top_celebrate_85 (by decide) rfl (fun c6 => ?_) (fun c6 => ?_)
        · rw [if_neg c6] at h
          refine V_iconst (v := 1) X d_Top_celebrate_92 (by decide) rfl ?_
          obtain ⟨hb, h⟩ := ifn h
          obtain ⟨M4, eM4, h⟩ := memS h
          refine V_iast X kd_13 (inb_in ln_13 hb) d_Top_celebrate_93 rfl ?_
          rw [← eM4]
          refine V_iinc (n := 2) (v := (s.1 + (1 : Int32))) (lv' := [(2, .int (s.1 + (1 : Int32))), (0, .ref (G.2.2 + 0)), (1, .int v1)]) X d_Top_celebrate_94 rfl rfl (by decide) rfl rfl ?_
          refine V_goto (pc' := 34) X d_Top_celebrate_97 (by decide) ?_
          refine V_sub (lv' := [(0, .ref (G.2.2 + 0)), (1, .int v1), (2, .int (s.1 + (1 : Int32)))]) [1, 2, 0] rfl ?_
          exact kc ((s.1 + (1 : Int32)), M4) (Option.some.inj h).symm
        · rw [if_pos c6] at h
          refine V_iconst (v := 0) X d_Top_celebrate_88 (by decide) rfl ?_
          refine V_goto (pc' := 93) X d_Top_celebrate_89 (by decide) ?_
          obtain ⟨hb, h⟩ := ifn h
          obtain ⟨M5, eM5, h⟩ := memS h
          refine V_iast X kd_13 (inb_in ln_13 hb) d_Top_celebrate_93 rfl ?_
          rw [← eM5]
          refine V_iinc (n := 2) (v := (s.1 + (1 : Int32))) (lv' := [(2, .int (s.1 + (1 : Int32))), (0, .ref (G.2.2 + 0)), (1, .int v1)]) X d_Top_celebrate_94 rfl rfl (by decide) rfl rfl ?_
          refine V_goto (pc' := 34) X d_Top_celebrate_97 (by decide) ?_
          refine V_sub (lv' := [(0, .ref (G.2.2 + 0)), (1, .int v1), (2, .int (s.1 + (1 : Int32)))]) [1, 2, 0] rfl ?_
          exact kc ((s.1 + (1 : Int32)), M5) (Option.some.inj h).symm
theorem lp_Top_celebrate_34_ok {E : Ev} {G : Gw} {d : Nat} {post : Int32 → Mem → Prop} (X : Cx E G b_Top_celebrate "WomenByTheRoofs" 3 d (some .boolean)) (hD : 3 ≤ d)  (v1 : Int32)   (n9 : Nat) (s : Int32 × Mem) (x : (Mem)) (h : iter (lb_Top_celebrate_34 v1) n9 s = some x) (kx0 : ∀ x9 : Mem, x = x9 → V E (0, 0) G 3 (QI E G post) x9 100 [] []) : V E (0, 0) G 3 (QI E G post) s.2 34 [(0, .ref (G.2.2 + 0)), (1, .int v1), (2, .int s.1)] [] :=
  iter_P (P := fun s : Int32 × Mem => V E (0, 0) G 3 (QI E G post) s.2 34 [(0, .ref (G.2.2 + 0)), (1, .int v1), (2, .int s.1)] []) (fun s o hb kc ky => lb_Top_celebrate_34_ok X hD v1 s o hb kc (fun x9 e9 => kx0 x9 (ky _ e9).symm)) n9 s h
def f_Top_celebrate (v1 : Int32) (M : Mem) : Option (Int32 × Mem) :=
  if (M.1 11 9) = v1 then
  some ((0 : Int32), M)
  else
  if v1 = 0 then
  Option.bind (f_Top_womenAreAstray M) fun x11 =>
  if x11 = 0 then
  mem_ (s_i M 11 9 v1) fun M12 =>
  Option.bind (iter (lb_Top_celebrate_34 v1) FU ((0 : Int32), M12)) fun x13 =>
  some ((1 : Int32), x13)
  else
  some ((0 : Int32), M)
  else
  mem_ (s_i M 11 9 v1) fun M1 =>
  Option.bind (iter (lb_Top_celebrate_34 v1) FU ((0 : Int32), M1)) fun x10 =>
  some ((1 : Int32), x10)
theorem c_Top_celebrate (l : Launch) (G : Gw)  (v1 : Int32) (M : Mem) (x : Int32 × Mem) (h : f_Top_celebrate v1 M = some x) (d : Nat) (hD : 3 ≤ d) : Ci l G y_Top_celebrate b_Top_celebrate 3 (some .boolean) d [.ref (G.2.2 + 0), .int v1] M (fun r9 M9 => r9 = x.1 ∧ M9 = x.2) := by
  refine Ci_of (by decide) (Nat.le_of_ble_eq_true rfl) (fun E hE X => ?_)
  subst hE
  have kr : ∀ x9 : Int32 × Mem, x = x9 → (fun r9 M9 => r9 = x.1 ∧ M9 = x.2) x9.1 x9.2 := fun x9 e9 => by subst e9; exact ⟨rfl, rfl⟩
  unfold f_Top_celebrate at h
  refine V_aload_n (n := 0) X d_Top_celebrate_0 rfl rfl rfl ?_
  refine V_getr (k2 := 11) X fo_Top_33 kd_0 rfl rf_0_3 d_Top_celebrate_1 rfl ?_
  refine V_geti X fo_Top_450 kd_11 rfl d_Top_celebrate_4 rfl ?_
  refine V_iload_n (n := 1) X d_Top_celebrate_7 rfl rfl rfl ?_
  refine V_icmp_eq (tgt := 22) X d_Top_celebrate_8 (by decide) rfl (fun c16 => ?_) (fun c16 => ?_)
  · rw [if_pos c16] at h
    refine V_iconst (v := 0) X d_Top_celebrate_22 (by decide) rfl ?_
    exact V_zret X (kr ((0 : Int32), M) (Option.some.inj h).symm) (by decide) d_Top_celebrate_23
  · rw [if_neg c16] at h
    refine V_iload_n (n := 1) X d_Top_celebrate_11 rfl rfl rfl ?_
    refine V_if_ne (tgt := 24) X d_Top_celebrate_12 (by decide) rfl (fun c15 => ?_) (fun c15 => ?_)
    · rw [if_neg c15] at h
      refine V_aload_n (n := 0) X d_Top_celebrate_24 rfl rfl rfl ?_
      refine V_getr (k2 := 11) X fo_Top_33 kd_0 rfl rf_0_3 d_Top_celebrate_25 rfl ?_
      refine V_iload_n (n := 1) X d_Top_celebrate_28 rfl rfl rfl ?_
      obtain ⟨M1, eM1, h⟩ := memS h
      refine V_putI X fp_Top_450 kd_11 rfl d_Top_celebrate_29 rfl ?_
      rw [← eM1]
      refine V_iconst (v := 0) X d_Top_celebrate_32 (by decide) rfl ?_
      refine V_istore_n (lv' := [(2, .int (0 : Int32)), (0, .ref (G.2.2 + 0)), (1, .int v1)]) X d_Top_celebrate_33 rfl (by decide) rfl rfl ?_
      refine V_sub (lv' := [(0, .ref (G.2.2 + 0)), (1, .int v1), (2, .int (0 : Int32))]) [1, 2, 0] rfl ?_
      obtain ⟨x10, hx10, h⟩ := ob_s h
      refine (lp_Top_celebrate_34_ok X hD v1 _ _ _ hx10 (fun x9 e9 => ?_) :)
      subst e9
      refine V_iconst (v := 1) X d_Top_celebrate_100 (by decide) rfl ?_
      exact V_zret X (kr ((1 : Int32), x10) (Option.some.inj h).symm) (by decide) d_Top_celebrate_101
    · rw [if_pos c15] at h
      refine V_aload_n (n := 0) X d_Top_celebrate_15 rfl rfl rfl ?_
      obtain ⟨x11, hx11, h⟩ := ob_s h
      refine V_ci (As := []) X (Z0 E) ml_Top_470 yq_Top_womenAreAstray (c_Top_womenAreAstray E.2.1 G  M x11 hx11 _ (Nat.le_refl _)) kd_0 rfl rfl (by omega) rfl (Nat.le_of_ble_eq_true rfl) d_Top_celebrate_16 rfl (fun r9 M9 hq => ?_)
      rw [hq.1, hq.2]
      refine V_if_eq (tgt := 24) X d_Top_celebrate_19 (by decide) rfl (fun c14 => ?_) (fun c14 => ?_)
      · rw [if_pos c14] at h
        refine V_aload_n (n := 0) X d_Top_celebrate_24 rfl rfl rfl ?_
        refine V_getr (k2 := 11) X fo_Top_33 kd_0 rfl rf_0_3 d_Top_celebrate_25 rfl ?_
        refine V_iload_n (n := 1) X d_Top_celebrate_28 rfl rfl rfl ?_
        obtain ⟨M12, eM12, h⟩ := memS h
        refine V_putI X fp_Top_450 kd_11 rfl d_Top_celebrate_29 rfl ?_
        rw [← eM12]
        refine V_iconst (v := 0) X d_Top_celebrate_32 (by decide) rfl ?_
        refine V_istore_n (lv' := [(2, .int (0 : Int32)), (0, .ref (G.2.2 + 0)), (1, .int v1)]) X d_Top_celebrate_33 rfl (by decide) rfl rfl ?_
        refine V_sub (lv' := [(0, .ref (G.2.2 + 0)), (1, .int v1), (2, .int (0 : Int32))]) [1, 2, 0] rfl ?_
        obtain ⟨x13, hx13, h⟩ := ob_s h
        refine (lp_Top_celebrate_34_ok X hD v1 _ _ _ hx13 (fun x9 e9 => ?_) :)
        subst e9
        refine V_iconst (v := 1) X d_Top_celebrate_100 (by decide) rfl ?_
        exact V_zret X (kr ((1 : Int32), x13) (Option.some.inj h).symm) (by decide) d_Top_celebrate_101
      · rw [if_neg c14] at h
        refine V_iconst (v := 0) X d_Top_celebrate_22 (by decide) rfl ?_
        exact V_zret X (kr ((0 : Int32), M) (Option.some.inj h).symm) (by decide) d_Top_celebrate_23
def lb_Top_womenBelow_4 (M : Mem) (s : Int32 × Int32) : Option ((Int32 × Int32) ⊕ ((Int32))) :=
  if (M.1 6 4) ≤ s.2 then
  some (.inr s.1)
  else
  Option.bind (f_Crowd_woman s.2 M) fun x1 =>
  if x1 = 0 then
  some (.inl (s.1, (s.2 + (1 : Int32))))
  else
  if inb s.2 8 = true then
  if (M.1 13 s.2.toNatClampNeg) = 0 then
  some (.inl ((s.1 + (1 : Int32)), (s.2 + (1 : Int32))))
  else
  some (.inl (s.1, (s.2 + (1 : Int32))))
  else none
theorem lb_Top_womenBelow_4_ok {E : Ev} {G : Gw} {d : Nat} {post : Int32 → Mem → Prop} (X : Cx E G b_Top_womenBelow "WomenByTheRoofs" 3 d (some .int)) (hD : 2 ≤ d)    (M : Mem) (s : Int32 × Int32) (o : (Int32 × Int32) ⊕ ((Int32))) (h : lb_Top_womenBelow_4 M s = some o) (kc : ∀ s9 : Int32 × Int32, o = .inl s9 → V E (0, 0) G 3 (QI E G post) M 4 [(0, .ref (G.2.2 + 0)), (1, .int s9.1), (2, .int s9.2)] []) (kx0 : ∀ x9 : Int32, o = .inr x9 → V E (0, 0) G 3 (QI E G post) M 47 [(1, .int x9)] []) : V E (0, 0) G 3 (QI E G post) M 4 [(0, .ref (G.2.2 + 0)), (1, .int s.1), (2, .int s.2)] [] := by
  unfold lb_Top_womenBelow_4 at h
  refine V_iload_n (n := 2) X d_Top_womenBelow_4 rfl rfl rfl ?_
  refine V_aload_n (n := 0) X d_Top_womenBelow_5 rfl rfl rfl ?_
  refine V_getr (k2 := 6) X fo_Top_26 kd_0 rfl rf_0_2 d_Top_womenBelow_6 rfl ?_
  refine V_geti X fo_Top_129 kd_6 rfl d_Top_womenBelow_9 rfl ?_
  refine V_icmp_ge (tgt := 47) X d_Top_womenBelow_12 (by decide) rfl (fun c4 => ?_) (fun c4 => ?_)
  · rw [if_pos c4] at h
    refine V_sub (lv' := [(1, .int s.1)]) [1] rfl ?_
    exact kx0 s.1 (Option.some.inj h).symm
  · rw [if_neg c4] at h
    refine V_aload_n (n := 0) X d_Top_womenBelow_15 rfl rfl rfl ?_
    refine V_getr (k2 := 6) X fo_Top_26 kd_0 rfl rf_0_2 d_Top_womenBelow_16 rfl ?_
    refine V_iload_n (n := 2) X d_Top_womenBelow_19 rfl rfl rfl ?_
    obtain ⟨x1, hx1, h⟩ := ob_s h
    refine V_ci (As := [.int s.2]) X (Z0 E) ml_Top_139 yq_Crowd_woman (c_Crowd_woman E.2.1 G s.2 M x1 hx1 _ (Nat.le_refl _)) kd_6 rfl rfl (by omega) rfl (Nat.le_of_ble_eq_true rfl) d_Top_womenBelow_20 rfl (fun r9 M9 hq => ?_)
    rw [hq.1, hq.2]
    refine V_if_eq (tgt := 41) X d_Top_womenBelow_23 (by decide) rfl (fun c3 => ?_) (fun c3 => ?_)
    · rw [if_pos c3] at h
      refine V_iinc (n := 2) (v := (s.2 + (1 : Int32))) (lv' := [(2, .int (s.2 + (1 : Int32))), (0, .ref (G.2.2 + 0)), (1, .int s.1)]) X d_Top_womenBelow_41 rfl rfl (by decide) rfl rfl ?_
      refine V_goto (pc' := 4) X d_Top_womenBelow_44 (by decide) ?_
      refine V_sub (lv' := [(0, .ref (G.2.2 + 0)), (1, .int s.1), (2, .int (s.2 + (1 : Int32)))]) [1, 2, 0] rfl ?_
      exact kc (s.1, (s.2 + (1 : Int32))) (Option.some.inj h).symm
    · rw [if_neg c3] at h
      refine V_aload_n (n := 0) X d_Top_womenBelow_26 rfl rfl rfl ?_
      refine V_getr (k2 := 11) X fo_Top_33 kd_0 rfl rf_0_3 d_Top_womenBelow_27 rfl ?_
      refine V_getr (k2 := 13) X fo_Top_191 kd_11 rfl rf_11_1 d_Top_womenBelow_30 rfl ?_
      refine V_iload_n (n := 2) X d_Top_womenBelow_33 rfl rfl rfl ?_
      obtain ⟨hb, h⟩ := ifn h
      refine V_iald X kd_13 (inb_in ln_13 hb) d_Top_womenBelow_34 rfl ?_
      refine V_if_ne (tgt := 41) X d_Top_womenBelow_35 (by decide) rfl (fun c2 => ?_) (fun c2 => ?_)
      · rw [if_neg c2] at h
        refine V_iinc (n := 2) (v := (s.2 + (1 : Int32))) (lv' := [(2, .int (s.2 + (1 : Int32))), (0, .ref (G.2.2 + 0)), (1, .int s.1)]) X d_Top_womenBelow_41 rfl rfl (by decide) rfl rfl ?_
        refine V_goto (pc' := 4) X d_Top_womenBelow_44 (by decide) ?_
        refine V_sub (lv' := [(0, .ref (G.2.2 + 0)), (1, .int s.1), (2, .int (s.2 + (1 : Int32)))]) [1, 2, 0] rfl ?_
        exact kc (s.1, (s.2 + (1 : Int32))) (Option.some.inj h).symm
      · rw [if_pos c2] at h
        refine V_iinc (n := 1) (v := (s.1 + (1 : Int32))) (lv' := [(1, .int (s.1 + (1 : Int32))), (0, .ref (G.2.2 + 0)), (2, .int s.2)]) X d_Top_womenBelow_38 rfl rfl (by decide) rfl rfl ?_
        refine V_iinc (n := 2) (v := (s.2 + (1 : Int32))) (lv' := [(2, .int (s.2 + (1 : Int32))), (1, .int (s.1 + (1 : Int32))), (0, .ref (G.2.2 + 0))]) X d_Top_womenBelow_41 rfl rfl (by decide) rfl rfl ?_
        refine V_goto (pc' := 4) X d_Top_womenBelow_44 (by decide) ?_
        refine V_sub (lv' := [(0, .ref (G.2.2 + 0)), (1, .int (s.1 + (1 : Int32))), (2, .int (s.2 + (1 : Int32)))]) [2, 1, 0] rfl ?_
        exact kc ((s.1 + (1 : Int32)), (s.2 + (1 : Int32))) (Option.some.inj h).symm
theorem lp_Top_womenBelow_4_ok {E : Ev} {G : Gw} {d : Nat} {post : Int32 → Mem → Prop} (X : Cx E G b_Top_womenBelow "WomenByTheRoofs" 3 d (some .int)) (hD : 2 ≤ d)    (M : Mem) (n9 : Nat) (s : Int32 × Int32) (x : (Int32)) (h : iter (lb_Top_womenBelow_4 M) n9 s = some x) (kx0 : ∀ x9 : Int32, x = x9 → V E (0, 0) G 3 (QI E G post) M 47 [(1, .int x9)] []) : V E (0, 0) G 3 (QI E G post) M 4 [(0, .ref (G.2.2 + 0)), (1, .int s.1), (2, .int s.2)] [] :=
  iter_P (P := fun s : Int32 × Int32 => V E (0, 0) G 3 (QI E G post) M 4 [(0, .ref (G.2.2 + 0)), (1, .int s.1), (2, .int s.2)] []) (fun s o hb kc ky => lb_Top_womenBelow_4_ok X hD M s o hb kc (fun x9 e9 => kx0 x9 (ky _ e9).symm)) n9 s h
def f_Top_womenBelow (M : Mem) : Option (Int32) :=
  Option.bind (iter (lb_Top_womenBelow_4 M) FU ((0 : Int32), (0 : Int32))) fun x5 =>
  some x5
theorem c_Top_womenBelow (l : Launch) (G : Gw)   (M : Mem) (x : Int32) (h : f_Top_womenBelow M = some x) (d : Nat) (hD : 2 ≤ d) : Ci l G y_Top_womenBelow b_Top_womenBelow 3 (some .int) d [.ref (G.2.2 + 0)] M (fun r9 M9 => r9 = x ∧ M9 = M) := by
  refine Ci_of (by decide) (Nat.le_of_ble_eq_true rfl) (fun E hE X => ?_)
  subst hE
  have kr : ∀ x9 : Int32, x = x9 → (fun r9 M9 => r9 = x ∧ M9 = M) x9 M := fun x9 e9 => by subst e9; exact ⟨rfl, rfl⟩
  unfold f_Top_womenBelow at h
  refine V_iconst (v := 0) X d_Top_womenBelow_0 (by decide) rfl ?_
  refine V_istore_n (lv' := [(1, .int (0 : Int32)), (0, .ref (G.2.2 + 0))]) X d_Top_womenBelow_1 rfl (by decide) rfl rfl ?_
  refine V_iconst (v := 0) X d_Top_womenBelow_2 (by decide) rfl ?_
  refine V_istore_n (lv' := [(2, .int (0 : Int32)), (1, .int (0 : Int32)), (0, .ref (G.2.2 + 0))]) X d_Top_womenBelow_3 rfl (by decide) rfl rfl ?_
  refine V_sub (lv' := [(0, .ref (G.2.2 + 0)), (1, .int (0 : Int32)), (2, .int (0 : Int32))]) [2, 1, 0] rfl ?_
  obtain ⟨x5, hx5, h⟩ := ob_s h
  refine (lp_Top_womenBelow_4_ok X hD M _ _ _ hx5 (fun x9 e9 => ?_) :)
  subst e9
  refine V_iload_n (n := 0) X d_Top_womenBelow_47 rfl rfl rfl ?_
  exact V_iret X (kr x5 (Option.some.inj h).symm) d_Top_womenBelow_48
def f_Top_feast (v1 : Int32) (M : Mem) : Option (Int32 × Mem) :=
  Option.bind (f_Scene_copy 18 11 M) fun x1 =>
  if v1 < 0 then
  some ((-1 : Int32), x1)
  else
  if (1 : Int32) < v1 then
  some ((-1 : Int32), x1)
  else
  Option.bind (f_Top_celebrate v1 x1) fun x2 =>
  if x2.1 = 0 then
  some ((-1 : Int32), x2.2)
  else
  Option.bind (f_History_add 18 x2.2) fun x3 =>
  Option.bind (f_Top_womenBelow x3) fun x4 =>
  some (x4, x3)
theorem c_Top_feast (l : Launch) (G : Gw)  (v1 : Int32) (M : Mem) (x : Int32 × Mem) (h : f_Top_feast v1 M = some x) (d : Nat) (hD : 4 ≤ d) : Ci l G y_Top_feast b_Top_feast 2 (some .int) d [.ref (G.2.2 + 0), .int v1] M (fun r9 M9 => r9 = x.1 ∧ M9 = x.2) := by
  refine Ci_of (by decide) (Nat.le_of_ble_eq_true rfl) (fun E hE X => ?_)
  subst hE
  have kr : ∀ x9 : Int32 × Mem, x = x9 → (fun r9 M9 => r9 = x.1 ∧ M9 = x.2) x9.1 x9.2 := fun x9 e9 => by subst e9; exact ⟨rfl, rfl⟩
  unfold f_Top_feast at h
  refine V_aload_n (n := 0) X d_Top_feast_0 rfl rfl rfl ?_
  refine V_getr (k2 := 18) X fo_Top_37 kd_0 rfl rf_0_4 d_Top_feast_1 rfl ?_
  refine V_aload_n (n := 0) X d_Top_feast_4 rfl rfl rfl ?_
  refine V_getr (k2 := 11) X fo_Top_33 kd_0 rfl rf_0_3 d_Top_feast_5 rfl ?_
  obtain ⟨x1, hx1, h⟩ := ob_s h
  refine V_cv (As := [.ref (G.2.2 + 11)]) X (Z0 E) ml_Top_211 yq_Scene_copy (c_Scene_copy E.2.1 G 18 11 M x1 hx1 _ (Nat.le_refl _)) kd_18 rfl rfl (by omega) rfl (Nat.le_of_ble_eq_true rfl) d_Top_feast_8 rfl (fun M9 hq => ?_)
  rw [hq]
  refine V_iload_n (n := 1) X d_Top_feast_11 rfl rfl rfl ?_
  refine V_if_lt (tgt := 28) X d_Top_feast_12 (by decide) rfl (fun c7 => ?_) (fun c7 => ?_)
  · rw [if_pos c7] at h
    refine V_iconst (v := -1) X d_Top_feast_28 (by decide) rfl ?_
    exact V_iret X (kr ((-1 : Int32), x1) (Option.some.inj h).symm) d_Top_feast_29
  · rw [if_neg c7] at h
    refine V_iload_n (n := 1) X d_Top_feast_15 rfl rfl rfl ?_
    refine V_iconst (v := 1) X d_Top_feast_16 (by decide) rfl ?_
    refine V_icmp_gt (tgt := 28) X d_Top_feast_17 (by decide) rfl (fun c6 => ?_) (fun c6 => ?_)
    · rw [if_pos c6] at h
      refine V_iconst (v := -1) X d_Top_feast_28 (by decide) rfl ?_
      exact V_iret X (kr ((-1 : Int32), x1) (Option.some.inj h).symm) d_Top_feast_29
    · rw [if_neg c6] at h
      refine V_aload_n (n := 0) X d_Top_feast_20 rfl rfl rfl ?_
      refine V_iload_n (n := 1) X d_Top_feast_21 rfl rfl rfl ?_
      obtain ⟨x2, hx2, h⟩ := ob_s h
      refine V_ci (As := [.int v1]) X (Z0 E) ml_Top_240 yq_Top_celebrate (c_Top_celebrate E.2.1 G v1 x1 x2 hx2 _ (Nat.le_refl _)) kd_0 rfl rfl (by omega) rfl (Nat.le_of_ble_eq_true rfl) d_Top_feast_22 rfl (fun r9 M9 hq => ?_)
      rw [hq.1, hq.2]
      refine V_if_ne (tgt := 30) X d_Top_feast_25 (by decide) rfl (fun c5 => ?_) (fun c5 => ?_)
      · rw [if_neg c5] at h
        refine V_aload_n (n := 0) X d_Top_feast_30 rfl rfl rfl ?_
        refine V_getr (k2 := 46) X fo_Top_70 kd_0 rfl rf_0_10 d_Top_feast_31 rfl ?_
        refine V_aload_n (n := 0) X d_Top_feast_34 rfl rfl rfl ?_
        refine V_getr (k2 := 18) X fo_Top_37 kd_0 rfl rf_0_4 d_Top_feast_35 rfl ?_
        obtain ⟨x3, hx3, h⟩ := ob_s h
        refine V_cv (As := [.ref (G.2.2 + 18)]) X (Z0 E) ml_Top_218 yq_History_add (c_History_add E.2.1 G 18 x2.2 x3 hx3 _ (Nat.le_refl _)) kd_46 rfl rfl (by omega) rfl (Nat.le_of_ble_eq_true rfl) d_Top_feast_38 rfl (fun M9 hq => ?_)
        rw [hq]
        refine V_aload_n (n := 0) X d_Top_feast_41 rfl rfl rfl ?_
        obtain ⟨x4, hx4, h⟩ := ob_s h
        refine V_ci (As := []) X (Z0 E) ml_Top_243 yq_Top_womenBelow (c_Top_womenBelow E.2.1 G  x3 x4 hx4 _ (Nat.le_refl _)) kd_0 rfl rfl (by omega) rfl (Nat.le_of_ble_eq_true rfl) d_Top_feast_42 rfl (fun r9 M9 hq => ?_)
        rw [hq.1, hq.2]
        exact V_iret X (kr (x4, x3) (Option.some.inj h).symm) d_Top_feast_45
      · rw [if_pos c5] at h
        refine V_iconst (v := -1) X d_Top_feast_28 (by decide) rfl ?_
        exact V_iret X (kr ((-1 : Int32), x2.2) (Option.some.inj h).symm) d_Top_feast_29
def f_Top_emptyRow (M : Mem) : Option (Mem) :=
  mem_ (s_i M 0 15 (0 : Int32)) fun M1 =>
  some M1
theorem c_Top_emptyRow (l : Launch) (G : Gw)   (M : Mem) (x : Mem) (h : f_Top_emptyRow M = some x) (d : Nat) (hD : 1 ≤ d) : Cv l G y_Top_emptyRow b_Top_emptyRow 1 none d [.ref (G.2.2 + 0)] M (fun M9 => M9 = x) := by
  refine Cv_of (by decide) (Nat.le_of_ble_eq_true rfl) (fun E hE X => ?_)
  subst hE
  have kr : ∀ x9 : Mem, x = x9 → (fun M9 => M9 = x) x9 := fun x9 e9 => by subst e9; exact rfl
  unfold f_Top_emptyRow at h
  refine V_aload_n (n := 0) X d_Top_emptyRow_0 rfl rfl rfl ?_
  refine V_iconst (v := 0) X d_Top_emptyRow_1 (by decide) rfl ?_
  obtain ⟨M1, eM1, h⟩ := memS h
  refine V_putI X fp_Top_99 kd_0 rfl d_Top_emptyRow_2 rfl ?_
  rw [← eM1]
  exact V_vret X (kr M1 (Option.some.inj h).symm) d_Top_emptyRow_5
def f_Top_note (v1 : Int32) (M : Mem) : Option (Mem) :=
  if (M.1 0 15) < 0 then
  some M
  else
  if (10 : Int32) ≤ (M.1 0 15) then
  some M
  else
  if inb (M.1 0 15) 10 = true then
  mem_ (s_i M 161 (M.1 0 15).toNatClampNeg v1) fun M1 =>
  mem_ (s_i M1 0 15 ((M1.1 0 15) + (1 : Int32))) fun M2 =>
  some M2
  else none
theorem c_Top_note (l : Launch) (G : Gw)  (v1 : Int32) (M : Mem) (x : Mem) (h : f_Top_note v1 M = some x) (d : Nat) (hD : 1 ≤ d) : Cv l G y_Top_note b_Top_note 2 none d [.ref (G.2.2 + 0), .int v1] M (fun M9 => M9 = x) := by
  refine Cv_of (by decide) (Nat.le_of_ble_eq_true rfl) (fun E hE X => ?_)
  subst hE
  have kr : ∀ x9 : Mem, x = x9 → (fun M9 => M9 = x) x9 := fun x9 e9 => by subst e9; exact rfl
  unfold f_Top_note at h
  refine V_aload_n (n := 0) X d_Top_note_0 rfl rfl rfl ?_
  refine V_geti X fo_Top_99 kd_0 rfl d_Top_note_1 rfl ?_
  refine V_if_lt (tgt := 36) X d_Top_note_4 (by decide) rfl (fun c4 => ?_) (fun c4 => ?_)
  · rw [if_pos c4] at h
    exact V_vret X (kr M (Option.some.inj h).symm) d_Top_note_36
  · rw [if_neg c4] at h
    refine V_aload_n (n := 0) X d_Top_note_7 rfl rfl rfl ?_
    refine V_geti X fo_Top_99 kd_0 rfl d_Top_note_8 rfl ?_
    refine V_bipush (v := 10) X d_Top_note_11 (by decide) rfl ?_
    refine V_icmp_ge (tgt := 36) X d_Top_note_13 (by decide) rfl (fun c3 => ?_) (fun c3 => ?_)
    · rw [if_pos c3] at h
      exact V_vret X (kr M (Option.some.inj h).symm) d_Top_note_36
    · rw [if_neg c3] at h
      refine V_aload_n (n := 0) X d_Top_note_16 rfl rfl rfl ?_
      refine V_getr (k2 := 161) X fo_Top_95 kd_0 rfl rf_0_14 d_Top_note_17 rfl ?_
      refine V_aload_n (n := 0) X d_Top_note_20 rfl rfl rfl ?_
      refine V_geti X fo_Top_99 kd_0 rfl d_Top_note_21 rfl ?_
      refine V_iload_n (n := 1) X d_Top_note_24 rfl rfl rfl ?_
      obtain ⟨hb, h⟩ := ifn h
      obtain ⟨M1, eM1, h⟩ := memS h
      refine V_iast X kd_161 (inb_in ln_161 hb) d_Top_note_25 rfl ?_
      rw [← eM1]
      refine V_aload_n (n := 0) X d_Top_note_26 rfl rfl rfl ?_
      refine V_dup X d_Top_note_27 rfl rfl ?_
      refine V_geti X fo_Top_99 kd_0 rfl d_Top_note_28 rfl ?_
      refine V_iconst (v := 1) X d_Top_note_31 (by decide) rfl ?_
      refine V_iadd X d_Top_note_32 rfl ?_
      obtain ⟨M2, eM2, h⟩ := memS h
      refine V_putI X fp_Top_99 kd_0 rfl d_Top_note_33 rfl ?_
      rw [← eM2]
      exact V_vret X (kr M2 (Option.some.inj h).symm) d_Top_note_36
def f_Top_minute (M : Mem) : Option (Int32 × Mem) :=
  Option.bind (f_Scene_copy 18 11 M) fun x1 =>
  Option.bind (f_Clock_pass 11 32 x1) fun x2 =>
  Option.bind (f_History_add 18 x2) fun x3 =>
  Option.bind (f_Top_emptyRow x3) fun x4 =>
  Option.bind (f_Top_note (x4.1 45 0) x4) fun x5 =>
  Option.bind (f_Top_note (x5.1 45 1) x5) fun x6 =>
  some ((x6.1 45 2), x6)
theorem c_Top_minute (l : Launch) (G : Gw)   (M : Mem) (x : Int32 × Mem) (h : f_Top_minute M = some x) (d : Nat) (hD : 5 ≤ d) : Ci l G y_Top_minute b_Top_minute 1 (some .int) d [.ref (G.2.2 + 0)] M (fun r9 M9 => r9 = x.1 ∧ M9 = x.2) := by
  refine Ci_of (by decide) (Nat.le_of_ble_eq_true rfl) (fun E hE X => ?_)
  subst hE
  have kr : ∀ x9 : Int32 × Mem, x = x9 → (fun r9 M9 => r9 = x.1 ∧ M9 = x.2) x9.1 x9.2 := fun x9 e9 => by subst e9; exact ⟨rfl, rfl⟩
  unfold f_Top_minute at h
  refine V_aload_n (n := 0) X d_Top_minute_0 rfl rfl rfl ?_
  refine V_getr (k2 := 18) X fo_Top_37 kd_0 rfl rf_0_4 d_Top_minute_1 rfl ?_
  refine V_aload_n (n := 0) X d_Top_minute_4 rfl rfl rfl ?_
  refine V_getr (k2 := 11) X fo_Top_33 kd_0 rfl rf_0_3 d_Top_minute_5 rfl ?_
  obtain ⟨x1, hx1, h⟩ := ob_s h
  refine V_cv (As := [.ref (G.2.2 + 11)]) X (Z0 E) ml_Top_211 yq_Scene_copy (c_Scene_copy E.2.1 G 18 11 M x1 hx1 _ (Nat.le_refl _)) kd_18 rfl rfl (by omega) rfl (Nat.le_of_ble_eq_true rfl) d_Top_minute_8 rfl (fun M9 hq => ?_)
  rw [hq]
  refine V_aload_n (n := 0) X d_Top_minute_11 rfl rfl rfl ?_
  refine V_getr (k2 := 45) X fo_Top_63 kd_0 rfl rf_0_9 d_Top_minute_12 rfl ?_
  refine V_aload_n (n := 0) X d_Top_minute_15 rfl rfl rfl ?_
  refine V_getr (k2 := 11) X fo_Top_33 kd_0 rfl rf_0_3 d_Top_minute_16 rfl ?_
  refine V_aload_n (n := 0) X d_Top_minute_19 rfl rfl rfl ?_
  refine V_getr (k2 := 6) X fo_Top_26 kd_0 rfl rf_0_2 d_Top_minute_20 rfl ?_
  refine V_aload_n (n := 0) X d_Top_minute_23 rfl rfl rfl ?_
  refine V_getr (k2 := 3) X fo_Top_19 kd_0 rfl rf_0_1 d_Top_minute_24 rfl ?_
  refine V_aload_n (n := 0) X d_Top_minute_27 rfl rfl rfl ?_
  refine V_getr (k2 := 40) X fo_Top_56 kd_0 rfl rf_0_8 d_Top_minute_28 rfl ?_
  refine V_aload_n (n := 0) X d_Top_minute_31 rfl rfl rfl ?_
  refine V_getr (k2 := 32) X fo_Top_46 kd_0 rfl rf_0_6 d_Top_minute_32 rfl ?_
  obtain ⟨x2, hx2, h⟩ := ob_s h
  refine V_cv (As := [.ref (G.2.2 + 11), .ref (G.2.2 + 6), .ref (G.2.2 + 3), .ref (G.2.2 + 40), .ref (G.2.2 + 32)]) X (Z0 E) ml_Top_247 yq_Clock_pass (c_Clock_pass E.2.1 G 11 32 x1 x2 hx2 _ (Nat.le_refl _)) kd_45 rfl rfl (by omega) rfl (Nat.le_of_ble_eq_true rfl) d_Top_minute_35 rfl (fun M9 hq => ?_)
  rw [hq]
  refine V_aload_n (n := 0) X d_Top_minute_38 rfl rfl rfl ?_
  refine V_getr (k2 := 46) X fo_Top_70 kd_0 rfl rf_0_10 d_Top_minute_39 rfl ?_
  refine V_aload_n (n := 0) X d_Top_minute_42 rfl rfl rfl ?_
  refine V_getr (k2 := 18) X fo_Top_37 kd_0 rfl rf_0_4 d_Top_minute_43 rfl ?_
  obtain ⟨x3, hx3, h⟩ := ob_s h
  refine V_cv (As := [.ref (G.2.2 + 18)]) X (Z0 E) ml_Top_218 yq_History_add (c_History_add E.2.1 G 18 x2 x3 hx3 _ (Nat.le_refl _)) kd_46 rfl rfl (by omega) rfl (Nat.le_of_ble_eq_true rfl) d_Top_minute_46 rfl (fun M9 hq => ?_)
  rw [hq]
  refine V_aload_n (n := 0) X d_Top_minute_49 rfl rfl rfl ?_
  obtain ⟨x4, hx4, h⟩ := ob_s h
  refine V_cv (As := []) X (Z0 E) ml_Top_251 yq_Top_emptyRow (c_Top_emptyRow E.2.1 G  x3 x4 hx4 _ (Nat.le_refl _)) kd_0 rfl rfl (by omega) rfl (Nat.le_of_ble_eq_true rfl) d_Top_minute_50 rfl (fun M9 hq => ?_)
  rw [hq]
  refine V_aload_n (n := 0) X d_Top_minute_53 rfl rfl rfl ?_
  refine V_aload_n (n := 0) X d_Top_minute_54 rfl rfl rfl ?_
  refine V_getr (k2 := 45) X fo_Top_63 kd_0 rfl rf_0_9 d_Top_minute_55 rfl ?_
  refine V_geti X fo_Top_254 kd_45 rfl d_Top_minute_58 rfl ?_
  obtain ⟨x5, hx5, h⟩ := ob_s h
  refine V_cv (As := [.int (x4.1 45 0)]) X (Z0 E) ml_Top_257 yq_Top_note (c_Top_note E.2.1 G (x4.1 45 0) x4 x5 hx5 _ (Nat.le_refl _)) kd_0 rfl rfl (by omega) rfl (Nat.le_of_ble_eq_true rfl) d_Top_minute_61 rfl (fun M9 hq => ?_)
  rw [hq]
  refine V_aload_n (n := 0) X d_Top_minute_64 rfl rfl rfl ?_
  refine V_aload_n (n := 0) X d_Top_minute_65 rfl rfl rfl ?_
  refine V_getr (k2 := 45) X fo_Top_63 kd_0 rfl rf_0_9 d_Top_minute_66 rfl ?_
  refine V_geti X fo_Top_260 kd_45 rfl d_Top_minute_69 rfl ?_
  obtain ⟨x6, hx6, h⟩ := ob_s h
  refine V_cv (As := [.int (x5.1 45 1)]) X (Z0 E) ml_Top_257 yq_Top_note (c_Top_note E.2.1 G (x5.1 45 1) x5 x6 hx6 _ (Nat.le_refl _)) kd_0 rfl rfl (by omega) rfl (Nat.le_of_ble_eq_true rfl) d_Top_minute_72 rfl (fun M9 hq => ?_)
  rw [hq]
  refine V_aload_n (n := 0) X d_Top_minute_75 rfl rfl rfl ?_
  refine V_getr (k2 := 45) X fo_Top_63 kd_0 rfl rf_0_9 d_Top_minute_76 rfl ?_
  refine V_geti X fo_Top_263 kd_45 rfl d_Top_minute_79 rfl ?_
  exact V_iret X (kr ((x6.1 45 2), x6) (Option.some.inj h).symm) d_Top_minute_82
def lb_Top_minutes_32 (v1 : Int32) (s : Int32 × Mem) : Option ((Int32 × Mem) ⊕ ((Mem))) :=
  if v1 ≤ s.1 then
  some (.inr s.2)
  else
  Option.bind (f_Clock_pass 11 32 s.2) fun x3 =>
  some (.inl ((s.1 + (1 : Int32)), x3))
theorem lb_Top_minutes_32_ok {E : Ev} {G : Gw} {d : Nat} {post : Int32 → Mem → Prop} (X : Cx E G b_Top_minutes "WomenByTheRoofs" 3 d (some .int)) (hD : 5 ≤ d)  (v1 : Int32)   (s : Int32 × Mem) (o : (Int32 × Mem) ⊕ ((Mem))) (h : lb_Top_minutes_32 v1 s = some o) (kc : ∀ s9 : Int32 × Mem, o = .inl s9 → V E (0, 0) G 3 (QI E G post) s9.2 32 [(0, .ref (G.2.2 + 0)), (1, .int v1), (2, .int s9.1)] []) (kx0 : ∀ x9 : Mem, o = .inr x9 → V E (0, 0) G 3 (QI E G post) x9 70 [(0, .ref (G.2.2 + 0)), (1, .int v1)] []) : V E (0, 0) G 3 (QI E G post) s.2 32 [(0, .ref (G.2.2 + 0)), (1, .int v1), (2, .int s.1)] [] := by
  unfold lb_Top_minutes_32 at h
  refine V_iload_n (n := 2) X d_Top_minutes_32 rfl rfl rfl ?_
  refine V_iload_n (n := 1) X d_Top_minutes_33 rfl rfl rfl ?_
  refine V_icmp_ge (tgt := 70) X d_Top_minutes_34 (by decide) rfl (fun c4 => ?_) (fun c4 => ?_)
  · rw [if_pos c4] at h
    refine V_sub (lv' := [(0, .ref (G.2.2 + 0)), (1, .int v1)]) [0, 1] rfl ?_
    exact kx0 s.2 (Option.some.inj h).symm
  · rw [if_neg c4] at h
    refine V_aload_n (n := 0) X d_Top_minutes_37 rfl rfl rfl ?_
    refine V_getr (k2 := 45) X fo_Top_63 kd_0 rfl rf_0_9 d_Top_minutes_38 rfl ?_
    refine V_aload_n (n := 0) X d_Top_minutes_41 rfl rfl rfl ?_
    refine V_getr (k2 := 11) X fo_Top_33 kd_0 rfl rf_0_3 d_Top_minutes_42 rfl ?_
    refine V_aload_n (n := 0) X d_Top_minutes_45 rfl rfl rfl ?_
    refine V_getr (k2 := 6) X fo_Top_26 kd_0 rfl rf_0_2 d_Top_minutes_46 rfl ?_
    refine V_aload_n (n := 0) X d_Top_minutes_49 rfl rfl rfl ?_
    refine V_getr (k2 := 3) X fo_Top_19 kd_0 rfl rf_0_1 d_Top_minutes_50 rfl ?_
    refine V_aload_n (n := 0) X d_Top_minutes_53 rfl rfl rfl ?_
    refine V_getr (k2 := 40) X fo_Top_56 kd_0 rfl rf_0_8 d_Top_minutes_54 rfl ?_
    refine V_aload_n (n := 0) X d_Top_minutes_57 rfl rfl rfl ?_
    refine V_getr (k2 := 32) X fo_Top_46 kd_0 rfl rf_0_6 d_Top_minutes_58 rfl ?_
    obtain ⟨x3, hx3, h⟩ := ob_s h
    refine V_cv (As := [.ref (G.2.2 + 11), .ref (G.2.2 + 6), .ref (G.2.2 + 3), .ref (G.2.2 + 40), .ref (G.2.2 + 32)]) X (Z0 E) ml_Top_247 yq_Clock_pass (c_Clock_pass E.2.1 G 11 32 s.2 x3 hx3 _ (Nat.le_refl _)) kd_45 rfl rfl (by omega) rfl (Nat.le_of_ble_eq_true rfl) d_Top_minutes_61 rfl (fun M9 hq => ?_)
    rw [hq]
    refine V_iinc (n := 2) (v := (s.1 + (1 : Int32))) (lv' := [(2, .int (s.1 + (1 : Int32))), (0, .ref (G.2.2 + 0)), (1, .int v1)]) X d_Top_minutes_64 rfl rfl (by decide) rfl rfl ?_
    refine V_goto (pc' := 32) X d_Top_minutes_67 (by decide) ?_
    refine V_sub (lv' := [(0, .ref (G.2.2 + 0)), (1, .int v1), (2, .int (s.1 + (1 : Int32)))]) [1, 2, 0] rfl ?_
    exact kc ((s.1 + (1 : Int32)), x3) (Option.some.inj h).symm
theorem lp_Top_minutes_32_ok {E : Ev} {G : Gw} {d : Nat} {post : Int32 → Mem → Prop} (X : Cx E G b_Top_minutes "WomenByTheRoofs" 3 d (some .int)) (hD : 5 ≤ d)  (v1 : Int32)   (n9 : Nat) (s : Int32 × Mem) (x : (Mem)) (h : iter (lb_Top_minutes_32 v1) n9 s = some x) (kx0 : ∀ x9 : Mem, x = x9 → V E (0, 0) G 3 (QI E G post) x9 70 [(0, .ref (G.2.2 + 0)), (1, .int v1)] []) : V E (0, 0) G 3 (QI E G post) s.2 32 [(0, .ref (G.2.2 + 0)), (1, .int v1), (2, .int s.1)] [] :=
  iter_P (P := fun s : Int32 × Mem => V E (0, 0) G 3 (QI E G post) s.2 32 [(0, .ref (G.2.2 + 0)), (1, .int v1), (2, .int s.1)] []) (fun s o hb kc ky => lb_Top_minutes_32_ok X hD v1 s o hb kc (fun x9 e9 => kx0 x9 (ky _ e9).symm)) n9 s h
def j_Top_minutes_85 (M : Mem) : Option (Int32 × Mem) :=
  Option.bind (f_Top_emptyRow M) fun x6 =>
  Option.bind (f_Top_note (x6.1 45 3) x6) fun x7 =>
  Option.bind (f_Top_note (x7.1 11 8) x7) fun x8 =>
  some ((x8.1 45 4), x8)
theorem j_Top_minutes_85_ok {E : Ev} {G : Gw} {d : Nat} {post : Int32 → Mem → Prop} (X : Cx E G b_Top_minutes "WomenByTheRoofs" 3 d (some .int)) (hD : 5 ≤ d)    (M : Mem)  (o : Int32 × Mem) (h : j_Top_minutes_85 M = some o) (kr : ∀ x9 : Int32 × Mem, o = x9 → post x9.1 x9.2) : V E (0, 0) G 3 (QI E G post) M 85 [(0, .ref (G.2.2 + 0))] [] := by
  unfold j_Top_minutes_85 at h
  refine V_aload_n (n := 0) X d_Top_minutes_85 rfl rfl rfl ?_
  obtain ⟨x6, hx6, h⟩ := ob_s h
  refine V_cv (As := []) X (Z0 E) ml_Top_251 yq_Top_emptyRow (c_Top_emptyRow E.2.1 G  M x6 hx6 _ (Nat.le_refl _)) kd_0 rfl rfl (by omega) rfl (Nat.le_of_ble_eq_true rfl) d_Top_minutes_86 rfl (fun M9 hq => ?_)
  rw [hq]
  refine V_aload_n (n := 0) X d_Top_minutes_89 rfl rfl rfl ?_
  refine V_aload_n (n := 0) X d_Top_minutes_90 rfl rfl rfl ?_
  refine V_getr (k2 := 45) X fo_Top_63 kd_0 rfl rf_0_9 d_Top_minutes_91 rfl ?_
  refine V_geti X fo_Top_269 kd_45 rfl d_Top_minutes_94 rfl ?_
  obtain ⟨x7, hx7, h⟩ := ob_s h
  refine V_cv (As := [.int (x6.1 45 3)]) X (Z0 E) ml_Top_257 yq_Top_note (c_Top_note E.2.1 G (x6.1 45 3) x6 x7 hx7 _ (Nat.le_refl _)) kd_0 rfl rfl (by omega) rfl (Nat.le_of_ble_eq_true rfl) d_Top_minutes_97 rfl (fun M9 hq => ?_)
  rw [hq]
  refine V_aload_n (n := 0) X d_Top_minutes_100 rfl rfl rfl ?_
  refine V_aload_n (n := 0) X d_Top_minutes_101 rfl rfl rfl ?_
  refine V_getr (k2 := 11) X fo_Top_33 kd_0 rfl rf_0_3 d_Top_minutes_102 rfl ?_
  refine V_geti X fo_Top_197 kd_11 rfl d_Top_minutes_105 rfl ?_
  obtain ⟨x8, hx8, h⟩ := ob_s h
  refine V_cv (As := [.int (x7.1 11 8)]) X (Z0 E) ml_Top_257 yq_Top_note (c_Top_note E.2.1 G (x7.1 11 8) x7 x8 hx8 _ (Nat.le_refl _)) kd_0 rfl rfl (by omega) rfl (Nat.le_of_ble_eq_true rfl) d_Top_minutes_108 rfl (fun M9 hq => ?_)
  rw [hq]
  refine V_aload_n (n := 0) X d_Top_minutes_111 rfl rfl rfl ?_
  refine V_getr (k2 := 45) X fo_Top_63 kd_0 rfl rf_0_9 d_Top_minutes_112 rfl ?_
  refine V_geti X fo_Top_272 kd_45 rfl d_Top_minutes_115 rfl ?_
  exact V_iret X (kr ((x8.1 45 4), x8) (Option.some.inj h).symm) d_Top_minutes_118
def f_Top_minutes (v1 : Int32) (M : Mem) : Option (Int32 × Mem) :=
  if v1 < 0 then
  some ((-1 : Int32), M)
  else
  if v1 ≤ (60 : Int32) then
  Option.bind (f_Scene_copy 18 11 M) fun x1 =>
  Option.bind (f_Clock_reset x1) fun x2 =>
  Option.bind (iter (lb_Top_minutes_32 v1) FU ((0 : Int32), x2)) fun x5 =>
  if v1 ≤ 0 then
  j_Top_minutes_85 x5
  else
  Option.bind (f_History_add 18 x5) fun x9 =>
  j_Top_minutes_85 x9
  else
  some ((-1 : Int32), M)
theorem c_Top_minutes (l : Launch) (G : Gw)  (v1 : Int32) (M : Mem) (x : Int32 × Mem) (h : f_Top_minutes v1 M = some x) (d : Nat) (hD : 5 ≤ d) : Ci l G y_Top_minutes b_Top_minutes 3 (some .int) d [.ref (G.2.2 + 0), .int v1] M (fun r9 M9 => r9 = x.1 ∧ M9 = x.2) := by
  refine Ci_of (by decide) (Nat.le_of_ble_eq_true rfl) (fun E hE X => ?_)
  subst hE
  have kr : ∀ x9 : Int32 × Mem, x = x9 → (fun r9 M9 => r9 = x.1 ∧ M9 = x.2) x9.1 x9.2 := fun x9 e9 => by subst e9; exact ⟨rfl, rfl⟩
  unfold f_Top_minutes at h
  refine V_iload_n (n := 1) X d_Top_minutes_0 rfl rfl rfl ?_
  refine V_if_lt (tgt := 10) X d_Top_minutes_1 (by decide) rfl (fun c12 => ?_) (fun c12 => ?_)
  · rw [if_pos c12] at h
    refine V_iconst (v := -1) X d_Top_minutes_10 (by decide) rfl ?_
    exact V_iret X (kr ((-1 : Int32), M) (Option.some.inj h).symm) d_Top_minutes_11
  · rw [if_neg c12] at h
    refine V_iload_n (n := 1) X d_Top_minutes_4 rfl rfl rfl ?_
    refine V_bipush (v := 60) X d_Top_minutes_5 (by decide) rfl ?_
    refine V_icmp_le (tgt := 12) X d_Top_minutes_7 (by decide) rfl (fun c11 => ?_) (fun c11 => ?_)
    · rw [if_pos c11] at h
      refine V_aload_n (n := 0) X d_Top_minutes_12 rfl rfl rfl ?_
      refine V_getr (k2 := 18) X fo_Top_37 kd_0 rfl rf_0_4 d_Top_minutes_13 rfl ?_
      refine V_aload_n (n := 0) X d_Top_minutes_16 rfl rfl rfl ?_
      refine V_getr (k2 := 11) X fo_Top_33 kd_0 rfl rf_0_3 d_Top_minutes_17 rfl ?_
      obtain ⟨x1, hx1, h⟩ := ob_s h
      refine V_cv (As := [.ref (G.2.2 + 11)]) X (Z0 E) ml_Top_211 yq_Scene_copy (c_Scene_copy E.2.1 G 18 11 M x1 hx1 _ (Nat.le_refl _)) kd_18 rfl rfl (by omega) rfl (Nat.le_of_ble_eq_true rfl) d_Top_minutes_20 rfl (fun M9 hq => ?_)
      rw [hq]
      refine V_aload_n (n := 0) X d_Top_minutes_23 rfl rfl rfl ?_
      refine V_getr (k2 := 45) X fo_Top_63 kd_0 rfl rf_0_9 d_Top_minutes_24 rfl ?_
      obtain ⟨x2, hx2, h⟩ := ob_s h
      refine V_cv (As := []) X (Z0 E) ml_Top_266 yq_Clock_reset (c_Clock_reset E.2.1 G  x1 x2 hx2 _ (Nat.le_refl _)) kd_45 rfl rfl (by omega) rfl (Nat.le_of_ble_eq_true rfl) d_Top_minutes_27 rfl (fun M9 hq => ?_)
      rw [hq]
      refine V_iconst (v := 0) X d_Top_minutes_30 (by decide) rfl ?_
      refine V_istore_n (lv' := [(2, .int (0 : Int32)), (0, .ref (G.2.2 + 0)), (1, .int v1)]) X d_Top_minutes_31 rfl (by decide) rfl rfl ?_
      refine V_sub (lv' := [(0, .ref (G.2.2 + 0)), (1, .int v1), (2, .int (0 : Int32))]) [1, 2, 0] rfl ?_
      obtain ⟨x5, hx5, h⟩ := ob_s h
      refine (lp_Top_minutes_32_ok X hD v1 _ _ _ hx5 (fun x9 e9 => ?_) :)
      subst e9
      refine V_iload_n (n := 1) X d_Top_minutes_70 rfl rfl rfl ?_
      refine V_if_le (tgt := 85) X d_Top_minutes_71 (by decide) rfl (fun c10 => ?_) (fun c10 => ?_)
      · rw [if_pos c10] at h
        refine V_sub (lv' := [(0, .ref (G.2.2 + 0))]) [0] rfl ?_
        exact j_Top_minutes_85_ok X hD x5 _ h kr
      · rw [if_neg c10] at h
        refine V_aload_n (n := 0) X d_Top_minutes_74 rfl rfl rfl ?_
        refine V_getr (k2 := 46) X fo_Top_70 kd_0 rfl rf_0_10 d_Top_minutes_75 rfl ?_
        refine V_aload_n (n := 0) X d_Top_minutes_78 rfl rfl rfl ?_
        refine V_getr (k2 := 18) X fo_Top_37 kd_0 rfl rf_0_4 d_Top_minutes_79 rfl ?_
        obtain ⟨x9, hx9, h⟩ := ob_s h
        refine V_cv (As := [.ref (G.2.2 + 18)]) X (Z0 E) ml_Top_218 yq_History_add (c_History_add E.2.1 G 18 x5 x9 hx9 _ (Nat.le_refl _)) kd_46 rfl rfl (by omega) rfl (Nat.le_of_ble_eq_true rfl) d_Top_minutes_82 rfl (fun M9 hq => ?_)
        rw [hq]
        refine V_sub (lv' := [(0, .ref (G.2.2 + 0))]) [0] rfl ?_
        exact j_Top_minutes_85_ok X hD x9 _ h kr
    · rw [if_neg c11] at h
      refine V_iconst (v := -1) X d_Top_minutes_10 (by decide) rfl ?_
      exact V_iret X (kr ((-1 : Int32), M) (Option.some.inj h).symm) d_Top_minutes_11
