theorem d_Mod_in_0 : decode b_Mod_in 0 = .ok (.iload_n 0, 1) := kq_26 byq_r (by decide +kernel)
theorem d_Mod_in_1 : decode b_Mod_in 1 = .ok (.iload_n 1, 1) := kq_27 byq_r (by decide +kernel)
theorem d_Mod_in_2 : decode b_Mod_in 2 = .ok (.if_icmp .lt 12, 3) := kq_161 byq_r (a := 0) (b := 12) (by decide +kernel)
theorem d_Mod_in_5 : decode b_Mod_in 5 = .ok (.iload_n 0, 1) := kq_26 byq_r (by decide +kernel)
theorem d_Mod_in_6 : decode b_Mod_in 6 = .ok (.iload_n 2, 1) := kq_28 byq_r (by decide +kernel)
theorem d_Mod_in_7 : decode b_Mod_in 7 = .ok (.if_icmp .gt 7, 3) := kq_163 byq_r (a := 0) (b := 7) (by decide +kernel)
theorem d_Mod_in_10 : decode b_Mod_in 10 = .ok (.iconst 1, 1) := kq_4 byq_r (by decide +kernel)
theorem d_Mod_in_11 : decode b_Mod_in 11 = .ok (.goto 4, 3) := kq_167 byq_r (a := 0) (b := 4) (by decide +kernel)
theorem d_Mod_in_14 : decode b_Mod_in 14 = .ok (.iconst 0, 1) := kq_3 byq_r (by decide +kernel)
theorem d_Mod_in_15 : decode b_Mod_in 15 = .ok (.ireturn, 1) := kq_172 byq_r (by decide +kernel)
theorem d_Mod_has_0 : decode b_Mod_has 0 = .ok (.iload_n 0, 1) := kq_26 byq_r (by decide +kernel)
theorem d_Mod_has_1 : decode b_Mod_has 1 = .ok (.iload_n 1, 1) := kq_27 byq_r (by decide +kernel)
theorem d_Mod_has_2 : decode b_Mod_has 2 = .ok (.ishr, 1) := kq_122 byq_r (by decide +kernel)
theorem d_Mod_has_3 : decode b_Mod_has 3 = .ok (.iconst 1, 1) := kq_4 byq_r (by decide +kernel)
theorem d_Mod_has_4 : decode b_Mod_has 4 = .ok (.iand, 1) := kq_126 byq_r (by decide +kernel)
theorem d_Mod_has_5 : decode b_Mod_has 5 = .ok (.iconst 1, 1) := kq_4 byq_r (by decide +kernel)
theorem d_Mod_has_6 : decode b_Mod_has 6 = .ok (.if_icmp .ne 7, 3) := kq_160 byq_r (a := 0) (b := 7) (by decide +kernel)
theorem d_Mod_has_9 : decode b_Mod_has 9 = .ok (.iconst 1, 1) := kq_4 byq_r (by decide +kernel)
theorem d_Mod_has_10 : decode b_Mod_has 10 = .ok (.goto 4, 3) := kq_167 byq_r (a := 0) (b := 4) (by decide +kernel)
theorem d_Mod_has_13 : decode b_Mod_has 13 = .ok (.iconst 0, 1) := kq_3 byq_r (by decide +kernel)
theorem d_Mod_has_14 : decode b_Mod_has 14 = .ok (.ireturn, 1) := kq_172 byq_r (by decide +kernel)
theorem d_Mod_lost_0 : decode b_Mod_lost 0 = .ok (.aload_n 0, 1) := kq_42 byq_r (by decide +kernel)
theorem d_Mod_lost_1 : decode b_Mod_lost 1 = .ok (.iconst 1, 1) := kq_4 byq_r (by decide +kernel)
theorem d_Mod_lost_2 : decode b_Mod_lost 2 = .ok (.putfield 109, 3) := kq_181 byq_r (a := 0) (b := 109) (by decide +kernel)
theorem d_Mod_lost_5 : decode b_Mod_lost 5 = .ok (.iconst 0, 1) := kq_3 byq_r (by decide +kernel)
theorem d_Mod_lost_6 : decode b_Mod_lost 6 = .ok (.ireturn, 1) := kq_172 byq_r (by decide +kernel)
theorem d_Mod_put_0 : decode b_Mod_put 0 = .ok (.aload_n 0, 1) := kq_42 byq_r (by decide +kernel)
theorem d_Mod_put_1 : decode b_Mod_put 1 = .ok (.getfield 36, 3) := kq_180 byq_r (a := 0) (b := 36) (by decide +kernel)
theorem d_Mod_put_4 : decode b_Mod_put 4 = .ok (.aload_n 0, 1) := kq_42 byq_r (by decide +kernel)
theorem d_Mod_put_5 : decode b_Mod_put 5 = .ok (.getfield 112, 3) := kq_180 byq_r (a := 0) (b := 112) (by decide +kernel)
theorem d_Mod_put_8 : decode b_Mod_put 8 = .ok (.iload_n 1, 1) := kq_27 byq_r (by decide +kernel)
theorem d_Mod_put_9 : decode b_Mod_put 9 = .ok (.iastore, 1) := kq_79 byq_r (by decide +kernel)
theorem d_Mod_put_10 : decode b_Mod_put 10 = .ok (.aload_n 0, 1) := kq_42 byq_r (by decide +kernel)
theorem d_Mod_put_11 : decode b_Mod_put 11 = .ok (.dup, 1) := kq_89 byq_r (by decide +kernel)
theorem d_Mod_put_12 : decode b_Mod_put 12 = .ok (.getfield 112, 3) := kq_180 byq_r (a := 0) (b := 112) (by decide +kernel)
theorem d_Mod_put_15 : decode b_Mod_put 15 = .ok (.iconst 1, 1) := kq_4 byq_r (by decide +kernel)
theorem d_Mod_put_16 : decode b_Mod_put 16 = .ok (.iadd, 1) := kq_96 byq_r (by decide +kernel)
theorem d_Mod_put_17 : decode b_Mod_put 17 = .ok (.putfield 112, 3) := kq_181 byq_r (a := 0) (b := 112) (by decide +kernel)
theorem d_Mod_put_20 : decode b_Mod_put 20 = .ok (.return_, 1) := kq_177 byq_r (by decide +kernel)
theorem d_Mod_cells_0 : decode b_Mod_cells 0 = .ok (.aload_n 0, 1) := kq_42 byq_r (by decide +kernel)
theorem d_Mod_cells_1 : decode b_Mod_cells 1 = .ok (.getfield 16, 3) := kq_180 byq_r (a := 0) (b := 16) (by decide +kernel)
theorem d_Mod_cells_4 : decode b_Mod_cells 4 = .ok (.aload_n 0, 1) := kq_42 byq_r (by decide +kernel)
theorem d_Mod_cells_5 : decode b_Mod_cells 5 = .ok (.getfield 20, 3) := kq_180 byq_r (a := 0) (b := 20) (by decide +kernel)
theorem d_Mod_cells_8 : decode b_Mod_cells 8 = .ok (.imul, 1) := kq_104 byq_r (by decide +kernel)
theorem d_Mod_cells_9 : decode b_Mod_cells 9 = .ok (.ireturn, 1) := kq_172 byq_r (by decide +kernel)
theorem d_Mod_isCell_0 : decode b_Mod_isCell 0 = .ok (.iload_n 1, 1) := kq_27 byq_r (by decide +kernel)
theorem d_Mod_isCell_1 : decode b_Mod_isCell 1 = .ok (.iconst 0, 1) := kq_3 byq_r (by decide +kernel)
theorem d_Mod_isCell_2 : decode b_Mod_isCell 2 = .ok (.aload_n 0, 1) := kq_42 byq_r (by decide +kernel)
theorem d_Mod_isCell_3 : decode b_Mod_isCell 3 = .ok (.invokevirtual 115, 3) := kq_182 byq_r (a := 0) (b := 115) (by decide +kernel)
theorem d_Mod_isCell_6 : decode b_Mod_isCell 6 = .ok (.iconst 1, 1) := kq_4 byq_r (by decide +kernel)
theorem d_Mod_isCell_7 : decode b_Mod_isCell 7 = .ok (.isub, 1) := kq_100 byq_r (by decide +kernel)
theorem d_Mod_isCell_8 : decode b_Mod_isCell 8 = .ok (.invokestatic 119, 3) := kq_184 byq_r (a := 0) (b := 119) (by decide +kernel)
theorem d_Mod_isCell_11 : decode b_Mod_isCell 11 = .ok (.ireturn, 1) := kq_172 byq_r (by decide +kernel)
theorem d_Mod_isOne_0 : decode b_Mod_isOne 0 = .ok (.iload_n 1, 1) := kq_27 byq_r (by decide +kernel)
theorem d_Mod_isOne_1 : decode b_Mod_isOne 1 = .ok (.iconst 0, 1) := kq_3 byq_r (by decide +kernel)
theorem d_Mod_isOne_2 : decode b_Mod_isOne 2 = .ok (.aload_n 0, 1) := kq_42 byq_r (by decide +kernel)
theorem d_Mod_isOne_3 : decode b_Mod_isOne 3 = .ok (.getfield 123, 3) := kq_180 byq_r (a := 0) (b := 123) (by decide +kernel)
theorem d_Mod_isOne_6 : decode b_Mod_isOne 6 = .ok (.iconst 1, 1) := kq_4 byq_r (by decide +kernel)
theorem d_Mod_isOne_7 : decode b_Mod_isOne 7 = .ok (.isub, 1) := kq_100 byq_r (by decide +kernel)
theorem d_Mod_isOne_8 : decode b_Mod_isOne 8 = .ok (.invokestatic 119, 3) := kq_184 byq_r (a := 0) (b := 119) (by decide +kernel)
theorem d_Mod_isOne_11 : decode b_Mod_isOne 11 = .ok (.ireturn, 1) := kq_172 byq_r (by decide +kernel)
theorem d_Mod_areTwo_0 : decode b_Mod_areTwo 0 = .ok (.aload_n 0, 1) := kq_42 byq_r (by decide +kernel)
theorem d_Mod_areTwo_1 : decode b_Mod_areTwo 1 = .ok (.iload_n 1, 1) := kq_27 byq_r (by decide +kernel)
theorem d_Mod_areTwo_2 : decode b_Mod_areTwo 2 = .ok (.invokevirtual 126, 3) := kq_182 byq_r (a := 0) (b := 126) (by decide +kernel)
theorem d_Mod_areTwo_5 : decode b_Mod_areTwo 5 = .ok (.ifCond .eq 20, 3) := kq_153 byq_r (a := 0) (b := 20) (by decide +kernel)
theorem d_Mod_areTwo_8 : decode b_Mod_areTwo 8 = .ok (.aload_n 0, 1) := kq_42 byq_r (by decide +kernel)
theorem d_Mod_areTwo_9 : decode b_Mod_areTwo 9 = .ok (.iload_n 2, 1) := kq_28 byq_r (by decide +kernel)
theorem d_Mod_areTwo_10 : decode b_Mod_areTwo 10 = .ok (.invokevirtual 126, 3) := kq_182 byq_r (a := 0) (b := 126) (by decide +kernel)
theorem d_Mod_areTwo_13 : decode b_Mod_areTwo 13 = .ok (.ifCond .eq 12, 3) := kq_153 byq_r (a := 0) (b := 12) (by decide +kernel)
theorem d_Mod_areTwo_16 : decode b_Mod_areTwo 16 = .ok (.iload_n 1, 1) := kq_27 byq_r (by decide +kernel)
theorem d_Mod_areTwo_17 : decode b_Mod_areTwo 17 = .ok (.iload_n 2, 1) := kq_28 byq_r (by decide +kernel)
theorem d_Mod_areTwo_18 : decode b_Mod_areTwo 18 = .ok (.if_icmp .eq 7, 3) := kq_159 byq_r (a := 0) (b := 7) (by decide +kernel)
theorem d_Mod_areTwo_21 : decode b_Mod_areTwo 21 = .ok (.iconst 1, 1) := kq_4 byq_r (by decide +kernel)
theorem d_Mod_areTwo_22 : decode b_Mod_areTwo 22 = .ok (.goto 4, 3) := kq_167 byq_r (a := 0) (b := 4) (by decide +kernel)
theorem d_Mod_areTwo_25 : decode b_Mod_areTwo 25 = .ok (.iconst 0, 1) := kq_3 byq_r (by decide +kernel)
theorem d_Mod_areTwo_26 : decode b_Mod_areTwo 26 = .ok (.ireturn, 1) := kq_172 byq_r (by decide +kernel)
theorem d_Mod_areManWoman_0 : decode b_Mod_areManWoman 0 = .ok (.aload_n 0, 1) := kq_42 byq_r (by decide +kernel)
theorem d_Mod_areManWoman_1 : decode b_Mod_areManWoman 1 = .ok (.iload_n 1, 1) := kq_27 byq_r (by decide +kernel)
theorem d_Mod_areManWoman_2 : decode b_Mod_areManWoman 2 = .ok (.invokevirtual 126, 3) := kq_182 byq_r (a := 0) (b := 126) (by decide +kernel)
theorem d_Mod_areManWoman_5 : decode b_Mod_areManWoman 5 = .ok (.ifCond .eq 37, 3) := kq_153 byq_r (a := 0) (b := 37) (by decide +kernel)
theorem d_Mod_areManWoman_8 : decode b_Mod_areManWoman 8 = .ok (.aload_n 0, 1) := kq_42 byq_r (by decide +kernel)
theorem d_Mod_areManWoman_9 : decode b_Mod_areManWoman 9 = .ok (.iload_n 2, 1) := kq_28 byq_r (by decide +kernel)
theorem d_Mod_areManWoman_10 : decode b_Mod_areManWoman 10 = .ok (.invokevirtual 126, 3) := kq_182 byq_r (a := 0) (b := 126) (by decide +kernel)
theorem d_Mod_areManWoman_13 : decode b_Mod_areManWoman 13 = .ok (.ifCond .eq 29, 3) := kq_153 byq_r (a := 0) (b := 29) (by decide +kernel)
theorem d_Mod_areManWoman_16 : decode b_Mod_areManWoman 16 = .ok (.aload_n 0, 1) := kq_42 byq_r (by decide +kernel)
theorem d_Mod_areManWoman_17 : decode b_Mod_areManWoman 17 = .ok (.getfield 130, 3) := kq_180 byq_r (a := 0) (b := 130) (by decide +kernel)
theorem d_Mod_areManWoman_20 : decode b_Mod_areManWoman 20 = .ok (.iload_n 1, 1) := kq_27 byq_r (by decide +kernel)
theorem d_Mod_areManWoman_21 : decode b_Mod_areManWoman 21 = .ok (.invokestatic 133, 3) := kq_184 byq_r (a := 0) (b := 133) (by decide +kernel)
theorem d_Mod_areManWoman_24 : decode b_Mod_areManWoman 24 = .ok (.ifCond .ne 18, 3) := kq_154 byq_r (a := 0) (b := 18) (by decide +kernel)
theorem d_Mod_areManWoman_27 : decode b_Mod_areManWoman 27 = .ok (.aload_n 0, 1) := kq_42 byq_r (by decide +kernel)
theorem d_Mod_areManWoman_28 : decode b_Mod_areManWoman 28 = .ok (.getfield 130, 3) := kq_180 byq_r (a := 0) (b := 130) (by decide +kernel)
theorem d_Mod_areManWoman_31 : decode b_Mod_areManWoman 31 = .ok (.iload_n 2, 1) := kq_28 byq_r (by decide +kernel)
theorem d_Mod_areManWoman_32 : decode b_Mod_areManWoman 32 = .ok (.invokestatic 133, 3) := kq_184 byq_r (a := 0) (b := 133) (by decide +kernel)
theorem d_Mod_areManWoman_35 : decode b_Mod_areManWoman 35 = .ok (.ifCond .eq 7, 3) := kq_153 byq_r (a := 0) (b := 7) (by decide +kernel)
theorem d_Mod_areManWoman_38 : decode b_Mod_areManWoman 38 = .ok (.iconst 1, 1) := kq_4 byq_r (by decide +kernel)
theorem d_Mod_areManWoman_39 : decode b_Mod_areManWoman 39 = .ok (.goto 4, 3) := kq_167 byq_r (a := 0) (b := 4) (by decide +kernel)
theorem d_Mod_areManWoman_42 : decode b_Mod_areManWoman 42 = .ok (.iconst 0, 1) := kq_3 byq_r (by decide +kernel)
theorem d_Mod_areManWoman_43 : decode b_Mod_areManWoman 43 = .ok (.ireturn, 1) := kq_172 byq_r (by decide +kernel)
theorem d_Mod_isOf_0 : decode b_Mod_isOf 0 = .ok (.aload_n 0, 1) := kq_42 byq_r (by decide +kernel)
theorem d_Mod_isOf_1 : decode b_Mod_isOf 1 = .ok (.iload_n 2, 1) := kq_28 byq_r (by decide +kernel)
theorem d_Mod_isOf_2 : decode b_Mod_isOf 2 = .ok (.invokevirtual 137, 3) := kq_182 byq_r (a := 0) (b := 137) (by decide +kernel)
theorem d_Mod_isOf_5 : decode b_Mod_isOf 5 = .ok (.ifCond .eq 54, 3) := kq_153 byq_r (a := 0) (b := 54) (by decide +kernel)
theorem d_Mod_isOf_8 : decode b_Mod_isOf 8 = .ok (.iload_n 1, 1) := kq_27 byq_r (by decide +kernel)
theorem d_Mod_isOf_9 : decode b_Mod_isOf 9 = .ok (.ifCond .ne 26, 3) := kq_154 byq_r (a := 0) (b := 26) (by decide +kernel)
theorem d_Mod_isOf_12 : decode b_Mod_isOf 12 = .ok (.aload_n 0, 1) := kq_42 byq_r (by decide +kernel)
theorem d_Mod_isOf_13 : decode b_Mod_isOf 13 = .ok (.getfield 13, 3) := kq_180 byq_r (a := 0) (b := 13) (by decide +kernel)
theorem d_Mod_isOf_16 : decode b_Mod_isOf 16 = .ok (.iload_n 2, 1) := kq_28 byq_r (by decide +kernel)
theorem d_Mod_isOf_17 : decode b_Mod_isOf 17 = .ok (.iaload, 1) := kq_46 byq_r (by decide +kernel)
theorem d_Mod_isOf_18 : decode b_Mod_isOf 18 = .ok (.iconst 1, 1) := kq_4 byq_r (by decide +kernel)
theorem d_Mod_isOf_19 : decode b_Mod_isOf 19 = .ok (.if_icmp .eq 36, 3) := kq_159 byq_r (a := 0) (b := 36) (by decide +kernel)
theorem d_Mod_isOf_22 : decode b_Mod_isOf 22 = .ok (.aload_n 0, 1) := kq_42 byq_r (by decide +kernel)
theorem d_Mod_isOf_23 : decode b_Mod_isOf 23 = .ok (.getfield 13, 3) := kq_180 byq_r (a := 0) (b := 13) (by decide +kernel)
theorem d_Mod_isOf_26 : decode b_Mod_isOf 26 = .ok (.iload_n 2, 1) := kq_28 byq_r (by decide +kernel)
theorem d_Mod_isOf_27 : decode b_Mod_isOf 27 = .ok (.iaload, 1) := kq_46 byq_r (by decide +kernel)
theorem d_Mod_isOf_28 : decode b_Mod_isOf 28 = .ok (.iconst 3, 1) := kq_6 byq_r (by decide +kernel)
theorem d_Mod_isOf_29 : decode b_Mod_isOf 29 = .ok (.if_icmp .ne 30, 3) := kq_160 byq_r (a := 0) (b := 30) (by decide +kernel)
theorem d_Mod_isOf_32 : decode b_Mod_isOf 32 = .ok (.goto 23, 3) := kq_167 byq_r (a := 0) (b := 23) (by decide +kernel)
theorem d_Mod_isOf_35 : decode b_Mod_isOf 35 = .ok (.aload_n 0, 1) := kq_42 byq_r (by decide +kernel)
theorem d_Mod_isOf_36 : decode b_Mod_isOf 36 = .ok (.getfield 13, 3) := kq_180 byq_r (a := 0) (b := 13) (by decide +kernel)
theorem d_Mod_isOf_39 : decode b_Mod_isOf 39 = .ok (.iload_n 2, 1) := kq_28 byq_r (by decide +kernel)
theorem d_Mod_isOf_40 : decode b_Mod_isOf 40 = .ok (.iaload, 1) := kq_46 byq_r (by decide +kernel)
theorem d_Mod_isOf_41 : decode b_Mod_isOf 41 = .ok (.iconst 2, 1) := kq_5 byq_r (by decide +kernel)
theorem d_Mod_isOf_42 : decode b_Mod_isOf 42 = .ok (.if_icmp .eq 13, 3) := kq_159 byq_r (a := 0) (b := 13) (by decide +kernel)
theorem d_Mod_isOf_45 : decode b_Mod_isOf 45 = .ok (.aload_n 0, 1) := kq_42 byq_r (by decide +kernel)
theorem d_Mod_isOf_46 : decode b_Mod_isOf 46 = .ok (.getfield 13, 3) := kq_180 byq_r (a := 0) (b := 13) (by decide +kernel)
theorem d_Mod_isOf_49 : decode b_Mod_isOf 49 = .ok (.iload_n 2, 1) := kq_28 byq_r (by decide +kernel)
theorem d_Mod_isOf_50 : decode b_Mod_isOf 50 = .ok (.iaload, 1) := kq_46 byq_r (by decide +kernel)
theorem d_Mod_isOf_51 : decode b_Mod_isOf 51 = .ok (.iconst 3, 1) := kq_6 byq_r (by decide +kernel)
theorem d_Mod_isOf_52 : decode b_Mod_isOf 52 = .ok (.if_icmp .ne 7, 3) := kq_160 byq_r (a := 0) (b := 7) (by decide +kernel)
theorem d_Mod_isOf_55 : decode b_Mod_isOf 55 = .ok (.iconst 1, 1) := kq_4 byq_r (by decide +kernel)
theorem d_Mod_isOf_56 : decode b_Mod_isOf 56 = .ok (.goto 4, 3) := kq_167 byq_r (a := 0) (b := 4) (by decide +kernel)
theorem d_Mod_isOf_59 : decode b_Mod_isOf 59 = .ok (.iconst 0, 1) := kq_3 byq_r (by decide +kernel)
theorem d_Mod_isOf_60 : decode b_Mod_isOf 60 = .ok (.ireturn, 1) := kq_172 byq_r (by decide +kernel)
theorem d_Mod_isPlaceOf_0 : decode b_Mod_isPlaceOf 0 = .ok (.iload_n 1, 1) := kq_27 byq_r (by decide +kernel)
theorem d_Mod_isPlaceOf_1 : decode b_Mod_isPlaceOf 1 = .ok (.iconst 0, 1) := kq_3 byq_r (by decide +kernel)
theorem d_Mod_isPlaceOf_2 : decode b_Mod_isPlaceOf 2 = .ok (.iconst 1, 1) := kq_4 byq_r (by decide +kernel)
theorem d_Mod_isPlaceOf_3 : decode b_Mod_isPlaceOf 3 = .ok (.invokestatic 119, 3) := kq_184 byq_r (a := 0) (b := 119) (by decide +kernel)
theorem d_Mod_isPlaceOf_6 : decode b_Mod_isPlaceOf 6 = .ok (.ifCond .eq 16, 3) := kq_153 byq_r (a := 0) (b := 16) (by decide +kernel)
theorem d_Mod_isPlaceOf_9 : decode b_Mod_isPlaceOf 9 = .ok (.aload_n 0, 1) := kq_42 byq_r (by decide +kernel)
theorem d_Mod_isPlaceOf_10 : decode b_Mod_isPlaceOf 10 = .ok (.iload_n 1, 1) := kq_27 byq_r (by decide +kernel)
theorem d_Mod_isPlaceOf_11 : decode b_Mod_isPlaceOf 11 = .ok (.iload_n 2, 1) := kq_28 byq_r (by decide +kernel)
theorem d_Mod_isPlaceOf_12 : decode b_Mod_isPlaceOf 12 = .ok (.invokevirtual 140, 3) := kq_182 byq_r (a := 0) (b := 140) (by decide +kernel)
theorem d_Mod_isPlaceOf_15 : decode b_Mod_isPlaceOf 15 = .ok (.ifCond .eq 7, 3) := kq_153 byq_r (a := 0) (b := 7) (by decide +kernel)
theorem d_Mod_isPlaceOf_18 : decode b_Mod_isPlaceOf 18 = .ok (.iconst 1, 1) := kq_4 byq_r (by decide +kernel)
theorem d_Mod_isPlaceOf_19 : decode b_Mod_isPlaceOf 19 = .ok (.goto 4, 3) := kq_167 byq_r (a := 0) (b := 4) (by decide +kernel)
theorem d_Mod_isPlaceOf_22 : decode b_Mod_isPlaceOf 22 = .ok (.iconst 0, 1) := kq_3 byq_r (by decide +kernel)
theorem d_Mod_isPlaceOf_23 : decode b_Mod_isPlaceOf 23 = .ok (.ireturn, 1) := kq_172 byq_r (by decide +kernel)
theorem d_Mod_placeOf_0 : decode b_Mod_placeOf 0 = .ok (.bipush 36, 2) := kq_16 byq_r (b := 36) (by decide +kernel)
theorem d_Mod_placeOf_2 : decode b_Mod_placeOf 2 = .ok (.iload_n 0, 1) := kq_26 byq_r (by decide +kernel)
theorem d_Mod_placeOf_3 : decode b_Mod_placeOf 3 = .ok (.imul, 1) := kq_104 byq_r (by decide +kernel)
theorem d_Mod_placeOf_4 : decode b_Mod_placeOf 4 = .ok (.iload_n 1, 1) := kq_27 byq_r (by decide +kernel)
theorem d_Mod_placeOf_5 : decode b_Mod_placeOf 5 = .ok (.iadd, 1) := kq_96 byq_r (by decide +kernel)
theorem d_Mod_placeOf_6 : decode b_Mod_placeOf 6 = .ok (.ireturn, 1) := kq_172 byq_r (by decide +kernel)
theorem d_Mod_cellOf_0 : decode b_Mod_cellOf 0 = .ok (.iload_n 0, 1) := kq_26 byq_r (by decide +kernel)
theorem d_Mod_cellOf_1 : decode b_Mod_cellOf 1 = .ok (.bipush 36, 2) := kq_16 byq_r (b := 36) (by decide +kernel)
theorem d_Mod_cellOf_3 : decode b_Mod_cellOf 3 = .ok (.irem, 1) := kq_112 byq_r (by decide +kernel)
theorem d_Mod_cellOf_4 : decode b_Mod_cellOf 4 = .ok (.ireturn, 1) := kq_172 byq_r (by decide +kernel)
theorem d_Mod_levelOf_0 : decode b_Mod_levelOf 0 = .ok (.iload_n 0, 1) := kq_26 byq_r (by decide +kernel)
theorem d_Mod_levelOf_1 : decode b_Mod_levelOf 1 = .ok (.bipush 36, 2) := kq_16 byq_r (b := 36) (by decide +kernel)
theorem d_Mod_levelOf_3 : decode b_Mod_levelOf 3 = .ok (.idiv, 1) := kq_108 byq_r (by decide +kernel)
theorem d_Mod_levelOf_4 : decode b_Mod_levelOf 4 = .ok (.ireturn, 1) := kq_172 byq_r (by decide +kernel)
theorem d_Mod_beside_0 : decode b_Mod_beside 0 = .ok (.iload_n 1, 1) := kq_27 byq_r (by decide +kernel)
theorem d_Mod_beside_1 : decode b_Mod_beside 1 = .ok (.aload_n 0, 1) := kq_42 byq_r (by decide +kernel)
theorem d_Mod_beside_2 : decode b_Mod_beside 2 = .ok (.getfield 16, 3) := kq_180 byq_r (a := 0) (b := 16) (by decide +kernel)
theorem d_Mod_beside_5 : decode b_Mod_beside 5 = .ok (.irem, 1) := kq_112 byq_r (by decide +kernel)
theorem d_Mod_beside_6 : decode b_Mod_beside 6 = .ok (.iload_n 2, 1) := kq_28 byq_r (by decide +kernel)
theorem d_Mod_beside_7 : decode b_Mod_beside 7 = .ok (.iconst 1, 1) := kq_4 byq_r (by decide +kernel)
theorem d_Mod_beside_8 : decode b_Mod_beside 8 = .ok (.if_icmp .ne 7, 3) := kq_160 byq_r (a := 0) (b := 7) (by decide +kernel)
theorem d_Mod_beside_11 : decode b_Mod_beside 11 = .ok (.iconst 1, 1) := kq_4 byq_r (by decide +kernel)
theorem d_Mod_beside_12 : decode b_Mod_beside 12 = .ok (.goto 13, 3) := kq_167 byq_r (a := 0) (b := 13) (by decide +kernel)
theorem d_Mod_beside_15 : decode b_Mod_beside 15 = .ok (.iload_n 2, 1) := kq_28 byq_r (by decide +kernel)
theorem d_Mod_beside_16 : decode b_Mod_beside 16 = .ok (.iconst 3, 1) := kq_6 byq_r (by decide +kernel)
theorem d_Mod_beside_17 : decode b_Mod_beside 17 = .ok (.if_icmp .ne 7, 3) := kq_160 byq_r (a := 0) (b := 7) (by decide +kernel)
theorem d_Mod_beside_20 : decode b_Mod_beside 20 = .ok (.iconst (-1), 1) := kq_2 byq_r (by decide +kernel)
theorem d_Mod_beside_21 : decode b_Mod_beside 21 = .ok (.goto 4, 3) := kq_167 byq_r (a := 0) (b := 4) (by decide +kernel)
theorem d_Mod_beside_24 : decode b_Mod_beside 24 = .ok (.iconst 0, 1) := kq_3 byq_r (by decide +kernel)
theorem d_Mod_beside_25 : decode b_Mod_beside 25 = .ok (.iadd, 1) := kq_96 byq_r (by decide +kernel)
theorem d_Mod_beside_26 : decode b_Mod_beside 26 = .ok (.istore_n 3, 1) := kq_62 byq_r (by decide +kernel)
theorem d_Mod_beside_27 : decode b_Mod_beside 27 = .ok (.iload_n 1, 1) := kq_27 byq_r (by decide +kernel)
theorem d_Mod_beside_28 : decode b_Mod_beside 28 = .ok (.aload_n 0, 1) := kq_42 byq_r (by decide +kernel)
theorem d_Mod_beside_29 : decode b_Mod_beside 29 = .ok (.getfield 16, 3) := kq_180 byq_r (a := 0) (b := 16) (by decide +kernel)
theorem d_Mod_beside_32 : decode b_Mod_beside 32 = .ok (.idiv, 1) := kq_108 byq_r (by decide +kernel)
theorem d_Mod_beside_33 : decode b_Mod_beside 33 = .ok (.iload_n 2, 1) := kq_28 byq_r (by decide +kernel)
theorem d_Mod_beside_34 : decode b_Mod_beside 34 = .ok (.iconst 2, 1) := kq_5 byq_r (by decide +kernel)
theorem d_Mod_beside_35 : decode b_Mod_beside 35 = .ok (.if_icmp .ne 7, 3) := kq_160 byq_r (a := 0) (b := 7) (by decide +kernel)
theorem d_Mod_beside_38 : decode b_Mod_beside 38 = .ok (.iconst 1, 1) := kq_4 byq_r (by decide +kernel)
theorem d_Mod_beside_39 : decode b_Mod_beside 39 = .ok (.goto 12, 3) := kq_167 byq_r (a := 0) (b := 12) (by decide +kernel)
theorem d_Mod_beside_42 : decode b_Mod_beside 42 = .ok (.iload_n 2, 1) := kq_28 byq_r (by decide +kernel)
theorem d_Mod_beside_43 : decode b_Mod_beside 43 = .ok (.ifCond .ne 7, 3) := kq_154 byq_r (a := 0) (b := 7) (by decide +kernel)
theorem d_Mod_beside_46 : decode b_Mod_beside 46 = .ok (.iconst (-1), 1) := kq_2 byq_r (by decide +kernel)
theorem d_Mod_beside_47 : decode b_Mod_beside 47 = .ok (.goto 4, 3) := kq_167 byq_r (a := 0) (b := 4) (by decide +kernel)
theorem d_Mod_beside_50 : decode b_Mod_beside 50 = .ok (.iconst 0, 1) := kq_3 byq_r (by decide +kernel)
theorem d_Mod_beside_51 : decode b_Mod_beside 51 = .ok (.iadd, 1) := kq_96 byq_r (by decide +kernel)
theorem d_Mod_beside_52 : decode b_Mod_beside 52 = .ok (.istore 4, 2) := kq_54 byq_r (by decide +kernel)
theorem d_Mod_beside_54 : decode b_Mod_beside 54 = .ok (.iload_n 3, 1) := kq_29 byq_r (by decide +kernel)
theorem d_Mod_beside_55 : decode b_Mod_beside 55 = .ok (.iconst 0, 1) := kq_3 byq_r (by decide +kernel)
theorem d_Mod_beside_56 : decode b_Mod_beside 56 = .ok (.aload_n 0, 1) := kq_42 byq_r (by decide +kernel)
theorem d_Mod_beside_57 : decode b_Mod_beside 57 = .ok (.getfield 16, 3) := kq_180 byq_r (a := 0) (b := 16) (by decide +kernel)
theorem d_Mod_beside_60 : decode b_Mod_beside 60 = .ok (.iconst 1, 1) := kq_4 byq_r (by decide +kernel)
theorem d_Mod_beside_61 : decode b_Mod_beside 61 = .ok (.isub, 1) := kq_100 byq_r (by decide +kernel)
theorem d_Mod_beside_62 : decode b_Mod_beside 62 = .ok (.invokestatic 119, 3) := kq_184 byq_r (a := 0) (b := 119) (by decide +kernel)
theorem d_Mod_beside_65 : decode b_Mod_beside 65 = .ok (.ifCond .eq 30, 3) := kq_153 byq_r (a := 0) (b := 30) (by decide +kernel)
theorem d_Mod_beside_68 : decode b_Mod_beside 68 = .ok (.iload 4, 2) := kq_21 byq_r (by decide +kernel)
theorem d_Mod_beside_70 : decode b_Mod_beside 70 = .ok (.iconst 0, 1) := kq_3 byq_r (by decide +kernel)
theorem d_Mod_beside_71 : decode b_Mod_beside 71 = .ok (.aload_n 0, 1) := kq_42 byq_r (by decide +kernel)
theorem d_Mod_beside_72 : decode b_Mod_beside 72 = .ok (.getfield 20, 3) := kq_180 byq_r (a := 0) (b := 20) (by decide +kernel)
theorem d_Mod_beside_75 : decode b_Mod_beside 75 = .ok (.iconst 1, 1) := kq_4 byq_r (by decide +kernel)
theorem d_Mod_beside_76 : decode b_Mod_beside 76 = .ok (.isub, 1) := kq_100 byq_r (by decide +kernel)
theorem d_Mod_beside_77 : decode b_Mod_beside 77 = .ok (.invokestatic 119, 3) := kq_184 byq_r (a := 0) (b := 119) (by decide +kernel)
theorem d_Mod_beside_80 : decode b_Mod_beside 80 = .ok (.ifCond .eq 15, 3) := kq_153 byq_r (a := 0) (b := 15) (by decide +kernel)
theorem d_Mod_beside_83 : decode b_Mod_beside 83 = .ok (.aload_n 0, 1) := kq_42 byq_r (by decide +kernel)
theorem d_Mod_beside_84 : decode b_Mod_beside 84 = .ok (.getfield 16, 3) := kq_180 byq_r (a := 0) (b := 16) (by decide +kernel)
theorem d_Mod_beside_87 : decode b_Mod_beside 87 = .ok (.iload 4, 2) := kq_21 byq_r (by decide +kernel)
theorem d_Mod_beside_89 : decode b_Mod_beside 89 = .ok (.imul, 1) := kq_104 byq_r (by decide +kernel)
theorem d_Mod_beside_90 : decode b_Mod_beside 90 = .ok (.iload_n 3, 1) := kq_29 byq_r (by decide +kernel)
theorem d_Mod_beside_91 : decode b_Mod_beside 91 = .ok (.iadd, 1) := kq_96 byq_r (by decide +kernel)
theorem d_Mod_beside_92 : decode b_Mod_beside 92 = .ok (.goto 4, 3) := kq_167 byq_r (a := 0) (b := 4) (by decide +kernel)
theorem d_Mod_beside_95 : decode b_Mod_beside 95 = .ok (.iconst (-1), 1) := kq_2 byq_r (by decide +kernel)
theorem d_Mod_beside_96 : decode b_Mod_beside 96 = .ok (.ireturn, 1) := kq_172 byq_r (by decide +kernel)
theorem d_Mod_isPlank_0 : decode b_Mod_isPlank 0 = .ok (.iconst 0, 1) := kq_3 byq_r (by decide +kernel)
theorem d_Mod_isPlank_1 : decode b_Mod_isPlank 1 = .ok (.istore_n 3, 1) := kq_62 byq_r (by decide +kernel)
theorem d_Mod_isPlank_2 : decode b_Mod_isPlank 2 = .ok (.iload_n 3, 1) := kq_29 byq_r (by decide +kernel)
theorem d_Mod_isPlank_3 : decode b_Mod_isPlank 3 = .ok (.aload_n 0, 1) := kq_42 byq_r (by decide +kernel)
theorem d_Mod_isPlank_4 : decode b_Mod_isPlank 4 = .ok (.bipush 92, 2) := kq_16 byq_r (b := 92) (by decide +kernel)
theorem d_Mod_isPlank_6 : decode b_Mod_isPlank 6 = .ok (.iaload, 1) := kq_46 byq_r (by decide +kernel)
theorem d_Mod_isPlank_7 : decode b_Mod_isPlank 7 = .ok (.if_icmp .ge 57, 3) := kq_162 byq_r (a := 0) (b := 57) (by decide +kernel)
theorem d_Mod_isPlank_10 : decode b_Mod_isPlank 10 = .ok (.aload_n 0, 1) := kq_42 byq_r (by decide +kernel)
theorem d_Mod_isPlank_11 : decode b_Mod_isPlank 11 = .ok (.bipush 80, 2) := kq_16 byq_r (b := 80) (by decide +kernel)
theorem d_Mod_isPlank_13 : decode b_Mod_isPlank 13 = .ok (.iconst 2, 1) := kq_5 byq_r (by decide +kernel)
theorem d_Mod_isPlank_14 : decode b_Mod_isPlank 14 = .ok (.iload_n 3, 1) := kq_29 byq_r (by decide +kernel)
theorem d_Mod_isPlank_15 : decode b_Mod_isPlank 15 = .ok (.imul, 1) := kq_104 byq_r (by decide +kernel)
theorem d_Mod_isPlank_16 : decode b_Mod_isPlank 16 = .ok (.iadd, 1) := kq_96 byq_r (by decide +kernel)
theorem d_Mod_isPlank_17 : decode b_Mod_isPlank 17 = .ok (.iaload, 1) := kq_46 byq_r (by decide +kernel)
theorem d_Mod_isPlank_18 : decode b_Mod_isPlank 18 = .ok (.istore 4, 2) := kq_54 byq_r (by decide +kernel)
theorem d_Mod_isPlank_20 : decode b_Mod_isPlank 20 = .ok (.aload_n 0, 1) := kq_42 byq_r (by decide +kernel)
theorem d_Mod_isPlank_21 : decode b_Mod_isPlank 21 = .ok (.bipush 80, 2) := kq_16 byq_r (b := 80) (by decide +kernel)
theorem d_Mod_isPlank_23 : decode b_Mod_isPlank 23 = .ok (.iconst 2, 1) := kq_5 byq_r (by decide +kernel)
theorem d_Mod_isPlank_24 : decode b_Mod_isPlank 24 = .ok (.iload_n 3, 1) := kq_29 byq_r (by decide +kernel)
theorem d_Mod_isPlank_25 : decode b_Mod_isPlank 25 = .ok (.imul, 1) := kq_104 byq_r (by decide +kernel)
theorem d_Mod_isPlank_26 : decode b_Mod_isPlank 26 = .ok (.iadd, 1) := kq_96 byq_r (by decide +kernel)
theorem d_Mod_isPlank_27 : decode b_Mod_isPlank 27 = .ok (.iconst 1, 1) := kq_4 byq_r (by decide +kernel)
theorem d_Mod_isPlank_28 : decode b_Mod_isPlank 28 = .ok (.iadd, 1) := kq_96 byq_r (by decide +kernel)
theorem d_Mod_isPlank_29 : decode b_Mod_isPlank 29 = .ok (.iaload, 1) := kq_46 byq_r (by decide +kernel)
theorem d_Mod_isPlank_30 : decode b_Mod_isPlank 30 = .ok (.istore 5, 2) := kq_54 byq_r (by decide +kernel)
theorem d_Mod_isPlank_32 : decode b_Mod_isPlank 32 = .ok (.iload 4, 2) := kq_21 byq_r (by decide +kernel)
theorem d_Mod_isPlank_34 : decode b_Mod_isPlank 34 = .ok (.iload_n 1, 1) := kq_27 byq_r (by decide +kernel)
theorem d_Mod_isPlank_35 : decode b_Mod_isPlank 35 = .ok (.if_icmp .ne 9, 3) := kq_160 byq_r (a := 0) (b := 9) (by decide +kernel)
theorem d_Mod_isPlank_38 : decode b_Mod_isPlank 38 = .ok (.iload 5, 2) := kq_21 byq_r (by decide +kernel)
theorem d_Mod_isPlank_40 : decode b_Mod_isPlank 40 = .ok (.iload_n 2, 1) := kq_28 byq_r (by decide +kernel)
theorem d_Mod_isPlank_41 : decode b_Mod_isPlank 41 = .ok (.if_icmp .eq 15, 3) := kq_159 byq_r (a := 0) (b := 15) (by decide +kernel)
theorem d_Mod_isPlank_44 : decode b_Mod_isPlank 44 = .ok (.iload 4, 2) := kq_21 byq_r (by decide +kernel)
theorem d_Mod_isPlank_46 : decode b_Mod_isPlank 46 = .ok (.iload_n 2, 1) := kq_28 byq_r (by decide +kernel)
theorem d_Mod_isPlank_47 : decode b_Mod_isPlank 47 = .ok (.if_icmp .ne 11, 3) := kq_160 byq_r (a := 0) (b := 11) (by decide +kernel)
theorem d_Mod_isPlank_50 : decode b_Mod_isPlank 50 = .ok (.iload 5, 2) := kq_21 byq_r (by decide +kernel)
theorem d_Mod_isPlank_52 : decode b_Mod_isPlank 52 = .ok (.iload_n 1, 1) := kq_27 byq_r (by decide +kernel)
theorem d_Mod_isPlank_53 : decode b_Mod_isPlank 53 = .ok (.if_icmp .ne 5, 3) := kq_160 byq_r (a := 0) (b := 5) (by decide +kernel)
theorem d_Mod_isPlank_56 : decode b_Mod_isPlank 56 = .ok (.iconst 1, 1) := kq_4 byq_r (by decide +kernel)
theorem d_Mod_isPlank_57 : decode b_Mod_isPlank 57 = .ok (.ireturn, 1) := kq_172 byq_r (by decide +kernel)
theorem d_Mod_isPlank_58 : decode b_Mod_isPlank 58 = .ok (.iinc 3 1, 3) := kq_132 byq_r (b := 1) (by decide +kernel)
theorem d_Mod_isPlank_61 : decode b_Mod_isPlank 61 = .ok (.goto (-59), 3) := kq_167 byq_r (a := 255) (b := 197) (by decide +kernel)
theorem d_Mod_isPlank_64 : decode b_Mod_isPlank 64 = .ok (.iconst 0, 1) := kq_3 byq_r (by decide +kernel)
theorem d_Mod_isPlank_65 : decode b_Mod_isPlank 65 = .ok (.ireturn, 1) := kq_172 byq_r (by decide +kernel)
theorem d_Mod_go_0 : decode b_Mod_go 0 = .ok (.iload_n 3, 1) := kq_29 byq_r (by decide +kernel)
theorem d_Mod_go_1 : decode b_Mod_go 1 = .ok (.iconst 4, 1) := kq_7 byq_r (by decide +kernel)
theorem d_Mod_go_2 : decode b_Mod_go 2 = .ok (.if_icmp .ne 5, 3) := kq_160 byq_r (a := 0) (b := 5) (by decide +kernel)
theorem d_Mod_go_5 : decode b_Mod_go 5 = .ok (.iload_n 2, 1) := kq_28 byq_r (by decide +kernel)
theorem d_Mod_go_6 : decode b_Mod_go 6 = .ok (.ireturn, 1) := kq_172 byq_r (by decide +kernel)
theorem d_Mod_go_7 : decode b_Mod_go 7 = .ok (.iload_n 2, 1) := kq_28 byq_r (by decide +kernel)
theorem d_Mod_go_8 : decode b_Mod_go 8 = .ok (.invokestatic 143, 3) := kq_184 byq_r (a := 0) (b := 143) (by decide +kernel)
theorem d_Mod_go_11 : decode b_Mod_go 11 = .ok (.istore 4, 2) := kq_54 byq_r (by decide +kernel)
theorem d_Mod_go_13 : decode b_Mod_go 13 = .ok (.aload_n 0, 1) := kq_42 byq_r (by decide +kernel)
theorem d_Mod_go_14 : decode b_Mod_go 14 = .ok (.iload_n 2, 1) := kq_28 byq_r (by decide +kernel)
theorem d_Mod_go_15 : decode b_Mod_go 15 = .ok (.invokestatic 147, 3) := kq_184 byq_r (a := 0) (b := 147) (by decide +kernel)
theorem d_Mod_go_18 : decode b_Mod_go 18 = .ok (.iload_n 3, 1) := kq_29 byq_r (by decide +kernel)
theorem d_Mod_go_19 : decode b_Mod_go 19 = .ok (.invokevirtual 150, 3) := kq_182 byq_r (a := 0) (b := 150) (by decide +kernel)
theorem d_Mod_go_22 : decode b_Mod_go 22 = .ok (.istore 5, 2) := kq_54 byq_r (by decide +kernel)
theorem d_Mod_go_24 : decode b_Mod_go 24 = .ok (.iload 5, 2) := kq_21 byq_r (by decide +kernel)
theorem d_Mod_go_26 : decode b_Mod_go 26 = .ok (.iconst (-1), 1) := kq_2 byq_r (by decide +kernel)
theorem d_Mod_go_27 : decode b_Mod_go 27 = .ok (.if_icmp .ne 5, 3) := kq_160 byq_r (a := 0) (b := 5) (by decide +kernel)
theorem d_Mod_go_30 : decode b_Mod_go 30 = .ok (.iconst (-1), 1) := kq_2 byq_r (by decide +kernel)
theorem d_Mod_go_31 : decode b_Mod_go 31 = .ok (.ireturn, 1) := kq_172 byq_r (by decide +kernel)
theorem d_Mod_go_32 : decode b_Mod_go 32 = .ok (.aload_n 0, 1) := kq_42 byq_r (by decide +kernel)
theorem d_Mod_go_33 : decode b_Mod_go 33 = .ok (.iload 4, 2) := kq_21 byq_r (by decide +kernel)
theorem d_Mod_go_35 : decode b_Mod_go 35 = .ok (.iload 5, 2) := kq_21 byq_r (by decide +kernel)
theorem d_Mod_go_37 : decode b_Mod_go 37 = .ok (.invokevirtual 140, 3) := kq_182 byq_r (a := 0) (b := 140) (by decide +kernel)
theorem d_Mod_go_40 : decode b_Mod_go 40 = .ok (.ifCond .eq 11, 3) := kq_153 byq_r (a := 0) (b := 11) (by decide +kernel)
theorem d_Mod_go_43 : decode b_Mod_go 43 = .ok (.iload 4, 2) := kq_21 byq_r (by decide +kernel)
theorem d_Mod_go_45 : decode b_Mod_go 45 = .ok (.iload 5, 2) := kq_21 byq_r (by decide +kernel)
theorem d_Mod_go_47 : decode b_Mod_go 47 = .ok (.invokestatic 154, 3) := kq_184 byq_r (a := 0) (b := 154) (by decide +kernel)
theorem d_Mod_go_50 : decode b_Mod_go 50 = .ok (.ireturn, 1) := kq_172 byq_r (by decide +kernel)
theorem d_Mod_go_51 : decode b_Mod_go 51 = .ok (.iload 4, 2) := kq_21 byq_r (by decide +kernel)
theorem d_Mod_go_53 : decode b_Mod_go 53 = .ok (.ifCond .ne 5, 3) := kq_154 byq_r (a := 0) (b := 5) (by decide +kernel)
theorem d_Mod_go_56 : decode b_Mod_go 56 = .ok (.iconst (-1), 1) := kq_2 byq_r (by decide +kernel)
theorem d_Mod_go_57 : decode b_Mod_go 57 = .ok (.ireturn, 1) := kq_172 byq_r (by decide +kernel)
theorem d_Mod_go_58 : decode b_Mod_go 58 = .ok (.aload_n 0, 1) := kq_42 byq_r (by decide +kernel)
theorem d_Mod_go_59 : decode b_Mod_go 59 = .ok (.iload 5, 2) := kq_21 byq_r (by decide +kernel)
theorem d_Mod_go_61 : decode b_Mod_go 61 = .ok (.iload_n 3, 1) := kq_29 byq_r (by decide +kernel)
theorem d_Mod_go_62 : decode b_Mod_go 62 = .ok (.invokevirtual 150, 3) := kq_182 byq_r (a := 0) (b := 150) (by decide +kernel)
theorem d_Mod_go_65 : decode b_Mod_go 65 = .ok (.istore 6, 2) := kq_54 byq_r (by decide +kernel)
theorem d_Mod_go_67 : decode b_Mod_go 67 = .ok (.iload 6, 2) := kq_21 byq_r (by decide +kernel)
theorem d_Mod_go_69 : decode b_Mod_go 69 = .ok (.iconst (-1), 1) := kq_2 byq_r (by decide +kernel)
theorem d_Mod_go_70 : decode b_Mod_go 70 = .ok (.if_icmp .eq 25, 3) := kq_159 byq_r (a := 0) (b := 25) (by decide +kernel)
theorem d_Mod_go_73 : decode b_Mod_go 73 = .ok (.aload_n 1, 1) := kq_43 byq_r (by decide +kernel)
theorem d_Mod_go_74 : decode b_Mod_go 74 = .ok (.iload_n 2, 1) := kq_28 byq_r (by decide +kernel)
theorem d_Mod_go_75 : decode b_Mod_go 75 = .ok (.invokestatic 147, 3) := kq_184 byq_r (a := 0) (b := 147) (by decide +kernel)
theorem d_Mod_go_78 : decode b_Mod_go 78 = .ok (.iload 6, 2) := kq_21 byq_r (by decide +kernel)
theorem d_Mod_go_80 : decode b_Mod_go 80 = .ok (.invokestatic 157, 3) := kq_184 byq_r (a := 0) (b := 157) (by decide +kernel)
theorem d_Mod_go_83 : decode b_Mod_go 83 = .ok (.ifCond .eq 12, 3) := kq_153 byq_r (a := 0) (b := 12) (by decide +kernel)
theorem d_Mod_go_86 : decode b_Mod_go 86 = .ok (.iconst 1, 1) := kq_4 byq_r (by decide +kernel)
theorem d_Mod_go_87 : decode b_Mod_go 87 = .ok (.iload 6, 2) := kq_21 byq_r (by decide +kernel)
theorem d_Mod_go_89 : decode b_Mod_go 89 = .ok (.invokestatic 154, 3) := kq_184 byq_r (a := 0) (b := 154) (by decide +kernel)
theorem d_Mod_go_92 : decode b_Mod_go 92 = .ok (.goto 4, 3) := kq_167 byq_r (a := 0) (b := 4) (by decide +kernel)
theorem d_Mod_go_95 : decode b_Mod_go 95 = .ok (.iconst (-1), 1) := kq_2 byq_r (by decide +kernel)
theorem d_Mod_go_96 : decode b_Mod_go 96 = .ok (.ireturn, 1) := kq_172 byq_r (by decide +kernel)
theorem d_Mod_sign_0 : decode b_Mod_sign 0 = .ok (.aload_n 0, 1) := kq_42 byq_r (by decide +kernel)
theorem d_Mod_sign_1 : decode b_Mod_sign 1 = .ok (.iconst 0, 1) := kq_3 byq_r (by decide +kernel)
theorem d_Mod_sign_2 : decode b_Mod_sign 2 = .ok (.putfield 109, 3) := kq_181 byq_r (a := 0) (b := 109) (by decide +kernel)
theorem d_Mod_sign_5 : decode b_Mod_sign 5 = .ok (.aload_n 0, 1) := kq_42 byq_r (by decide +kernel)
theorem d_Mod_sign_6 : decode b_Mod_sign 6 = .ok (.getfield 161, 3) := kq_180 byq_r (a := 0) (b := 161) (by decide +kernel)
theorem d_Mod_sign_9 : decode b_Mod_sign 9 = .ok (.iconst 4, 1) := kq_7 byq_r (by decide +kernel)
theorem d_Mod_sign_10 : decode b_Mod_sign 10 = .ok (.iadd, 1) := kq_96 byq_r (by decide +kernel)
theorem d_Mod_sign_11 : decode b_Mod_sign 11 = .ok (.bipush 80, 2) := kq_16 byq_r (b := 80) (by decide +kernel)
theorem d_Mod_sign_13 : decode b_Mod_sign 13 = .ok (.if_icmp .le 5, 3) := kq_164 byq_r (a := 0) (b := 5) (by decide +kernel)
theorem d_Mod_sign_16 : decode b_Mod_sign 16 = .ok (.iconst (-1), 1) := kq_2 byq_r (by decide +kernel)
theorem d_Mod_sign_17 : decode b_Mod_sign 17 = .ok (.ireturn, 1) := kq_172 byq_r (by decide +kernel)
theorem d_Mod_sign_18 : decode b_Mod_sign 18 = .ok (.iconst 3, 1) := kq_6 byq_r (by decide +kernel)
theorem d_Mod_sign_19 : decode b_Mod_sign 19 = .ok (.istore_n 2, 1) := kq_61 byq_r (by decide +kernel)
theorem d_Mod_sign_20 : decode b_Mod_sign 20 = .ok (.iload_n 2, 1) := kq_28 byq_r (by decide +kernel)
theorem d_Mod_sign_21 : decode b_Mod_sign 21 = .ok (.ifCond .lt 32, 3) := kq_155 byq_r (a := 0) (b := 32) (by decide +kernel)
theorem d_Mod_sign_24 : decode b_Mod_sign 24 = .ok (.aload_n 0, 1) := kq_42 byq_r (by decide +kernel)
theorem d_Mod_sign_25 : decode b_Mod_sign 25 = .ok (.getfield 32, 3) := kq_180 byq_r (a := 0) (b := 32) (by decide +kernel)
theorem d_Mod_sign_28 : decode b_Mod_sign 28 = .ok (.aload_n 0, 1) := kq_42 byq_r (by decide +kernel)
theorem d_Mod_sign_29 : decode b_Mod_sign 29 = .ok (.dup, 1) := kq_89 byq_r (by decide +kernel)
theorem d_Mod_sign_30 : decode b_Mod_sign 30 = .ok (.getfield 161, 3) := kq_180 byq_r (a := 0) (b := 161) (by decide +kernel)
theorem d_Mod_sign_33 : decode b_Mod_sign 33 = .ok (.dup_x1, 1) := kq_90 byq_r (by decide +kernel)
theorem d_Mod_sign_34 : decode b_Mod_sign 34 = .ok (.iconst 1, 1) := kq_4 byq_r (by decide +kernel)
theorem d_Mod_sign_35 : decode b_Mod_sign 35 = .ok (.iadd, 1) := kq_96 byq_r (by decide +kernel)
theorem d_Mod_sign_36 : decode b_Mod_sign 36 = .ok (.putfield 161, 3) := kq_181 byq_r (a := 0) (b := 161) (by decide +kernel)
theorem d_Mod_sign_39 : decode b_Mod_sign 39 = .ok (.iload_n 1, 1) := kq_27 byq_r (by decide +kernel)
theorem d_Mod_sign_40 : decode b_Mod_sign 40 = .ok (.bipush 8, 2) := kq_16 byq_r (b := 8) (by decide +kernel)
theorem d_Mod_sign_42 : decode b_Mod_sign 42 = .ok (.iload_n 2, 1) := kq_28 byq_r (by decide +kernel)
theorem d_Mod_sign_43 : decode b_Mod_sign 43 = .ok (.imul, 1) := kq_104 byq_r (by decide +kernel)
theorem d_Mod_sign_44 : decode b_Mod_sign 44 = .ok (.ishr, 1) := kq_122 byq_r (by decide +kernel)
theorem d_Mod_sign_45 : decode b_Mod_sign 45 = .ok (.i2b, 1) := kq_145 byq_r (by decide +kernel)
theorem d_Mod_sign_46 : decode b_Mod_sign 46 = .ok (.bastore, 1) := kq_84 byq_r (by decide +kernel)
theorem d_Mod_sign_47 : decode b_Mod_sign 47 = .ok (.iinc 2 (-1), 3) := kq_132 byq_r (b := 255) (by decide +kernel)
theorem d_Mod_sign_50 : decode b_Mod_sign 50 = .ok (.goto (-30), 3) := kq_167 byq_r (a := 255) (b := 226) (by decide +kernel)
theorem d_Mod_sign_53 : decode b_Mod_sign 53 = .ok (.aload_n 0, 1) := kq_42 byq_r (by decide +kernel)
theorem d_Mod_sign_54 : decode b_Mod_sign 54 = .ok (.getfield 161, 3) := kq_180 byq_r (a := 0) (b := 161) (by decide +kernel)
theorem d_Mod_sign_57 : decode b_Mod_sign 57 = .ok (.ireturn, 1) := kq_172 byq_r (by decide +kernel)
theorem d_Mod_end_0 : decode b_Mod_end 0 = .ok (.aload_n 0, 1) := kq_42 byq_r (by decide +kernel)
theorem d_Mod_end_1 : decode b_Mod_end 1 = .ok (.iconst 0, 1) := kq_3 byq_r (by decide +kernel)
theorem d_Mod_end_2 : decode b_Mod_end 2 = .ok (.putfield 109, 3) := kq_181 byq_r (a := 0) (b := 109) (by decide +kernel)
theorem d_Mod_end_5 : decode b_Mod_end 5 = .ok (.iload_n 1, 1) := kq_27 byq_r (by decide +kernel)
theorem d_Mod_end_6 : decode b_Mod_end 6 = .ok (.iconst 0, 1) := kq_3 byq_r (by decide +kernel)
theorem d_Mod_end_7 : decode b_Mod_end 7 = .ok (.aload_n 0, 1) := kq_42 byq_r (by decide +kernel)
theorem d_Mod_end_8 : decode b_Mod_end 8 = .ok (.getfield 161, 3) := kq_180 byq_r (a := 0) (b := 161) (by decide +kernel)
theorem d_Mod_end_11 : decode b_Mod_end 11 = .ok (.invokestatic 119, 3) := kq_184 byq_r (a := 0) (b := 119) (by decide +kernel)
theorem d_Mod_end_14 : decode b_Mod_end 14 = .ok (.ifCond .ne 5, 3) := kq_154 byq_r (a := 0) (b := 5) (by decide +kernel)
theorem d_Mod_end_17 : decode b_Mod_end 17 = .ok (.iconst 0, 1) := kq_3 byq_r (by decide +kernel)
theorem d_Mod_end_18 : decode b_Mod_end 18 = .ok (.ireturn, 1) := kq_172 byq_r (by decide +kernel)
theorem d_Mod_end_19 : decode b_Mod_end 19 = .ok (.aload_n 0, 1) := kq_42 byq_r (by decide +kernel)
theorem d_Mod_end_20 : decode b_Mod_end 20 = .ok (.iload_n 1, 1) := kq_27 byq_r (by decide +kernel)
theorem d_Mod_end_21 : decode b_Mod_end 21 = .ok (.putfield 161, 3) := kq_181 byq_r (a := 0) (b := 161) (by decide +kernel)
theorem d_Mod_end_24 : decode b_Mod_end 24 = .ok (.iconst 1, 1) := kq_4 byq_r (by decide +kernel)
theorem d_Mod_end_25 : decode b_Mod_end 25 = .ok (.ireturn, 1) := kq_172 byq_r (by decide +kernel)
theorem d_Mod_begin_0 : decode b_Mod_begin 0 = .ok (.aload_n 0, 1) := kq_42 byq_r (by decide +kernel)
theorem d_Mod_begin_1 : decode b_Mod_begin 1 = .ok (.aload_n 1, 1) := kq_43 byq_r (by decide +kernel)
theorem d_Mod_begin_2 : decode b_Mod_begin 2 = .ok (.putfield 164, 3) := kq_181 byq_r (a := 0) (b := 164) (by decide +kernel)
theorem d_Mod_begin_5 : decode b_Mod_begin 5 = .ok (.aload_n 0, 1) := kq_42 byq_r (by decide +kernel)
theorem d_Mod_begin_6 : decode b_Mod_begin 6 = .ok (.iload_n 2, 1) := kq_28 byq_r (by decide +kernel)
theorem d_Mod_begin_7 : decode b_Mod_begin 7 = .ok (.putfield 167, 3) := kq_181 byq_r (a := 0) (b := 167) (by decide +kernel)
theorem d_Mod_begin_10 : decode b_Mod_begin 10 = .ok (.aload_n 0, 1) := kq_42 byq_r (by decide +kernel)
theorem d_Mod_begin_11 : decode b_Mod_begin 11 = .ok (.iload_n 3, 1) := kq_29 byq_r (by decide +kernel)
theorem d_Mod_begin_12 : decode b_Mod_begin 12 = .ok (.putfield 170, 3) := kq_181 byq_r (a := 0) (b := 170) (by decide +kernel)
theorem d_Mod_begin_15 : decode b_Mod_begin 15 = .ok (.aload_n 0, 1) := kq_42 byq_r (by decide +kernel)
theorem d_Mod_begin_16 : decode b_Mod_begin 16 = .ok (.iconst 0, 1) := kq_3 byq_r (by decide +kernel)
theorem d_Mod_begin_17 : decode b_Mod_begin 17 = .ok (.putfield 173, 3) := kq_181 byq_r (a := 0) (b := 173) (by decide +kernel)
theorem d_Mod_begin_20 : decode b_Mod_begin 20 = .ok (.aload_n 0, 1) := kq_42 byq_r (by decide +kernel)
theorem d_Mod_begin_21 : decode b_Mod_begin 21 = .ok (.iconst (-1), 1) := kq_2 byq_r (by decide +kernel)
theorem d_Mod_begin_22 : decode b_Mod_begin 22 = .ok (.putfield 176, 3) := kq_181 byq_r (a := 0) (b := 176) (by decide +kernel)
theorem d_Mod_begin_25 : decode b_Mod_begin 25 = .ok (.return_, 1) := kq_177 byq_r (by decide +kernel)
theorem d_Mod_here_0 : decode b_Mod_here 0 = .ok (.aload_n 0, 1) := kq_42 byq_r (by decide +kernel)
theorem d_Mod_here_1 : decode b_Mod_here 1 = .ok (.getfield 173, 3) := kq_180 byq_r (a := 0) (b := 173) (by decide +kernel)
theorem d_Mod_here_4 : decode b_Mod_here 4 = .ok (.aload_n 0, 1) := kq_42 byq_r (by decide +kernel)
theorem d_Mod_here_5 : decode b_Mod_here 5 = .ok (.getfield 167, 3) := kq_180 byq_r (a := 0) (b := 167) (by decide +kernel)
theorem d_Mod_here_8 : decode b_Mod_here 8 = .ok (.if_icmp .ge 26, 3) := kq_162 byq_r (a := 0) (b := 26) (by decide +kernel)
theorem d_Mod_here_11 : decode b_Mod_here 11 = .ok (.aload_n 0, 1) := kq_42 byq_r (by decide +kernel)
theorem d_Mod_here_12 : decode b_Mod_here 12 = .ok (.getfield 173, 3) := kq_180 byq_r (a := 0) (b := 173) (by decide +kernel)
theorem d_Mod_here_15 : decode b_Mod_here 15 = .ok (.aload_n 0, 1) := kq_42 byq_r (by decide +kernel)
theorem d_Mod_here_16 : decode b_Mod_here 16 = .ok (.getfield 170, 3) := kq_180 byq_r (a := 0) (b := 170) (by decide +kernel)
theorem d_Mod_here_19 : decode b_Mod_here 19 = .ok (.if_icmp .ge 15, 3) := kq_162 byq_r (a := 0) (b := 15) (by decide +kernel)
theorem d_Mod_here_22 : decode b_Mod_here 22 = .ok (.aload_n 0, 1) := kq_42 byq_r (by decide +kernel)
theorem d_Mod_here_23 : decode b_Mod_here 23 = .ok (.getfield 164, 3) := kq_180 byq_r (a := 0) (b := 164) (by decide +kernel)
theorem d_Mod_here_26 : decode b_Mod_here 26 = .ok (.aload_n 0, 1) := kq_42 byq_r (by decide +kernel)
theorem d_Mod_here_27 : decode b_Mod_here 27 = .ok (.getfield 173, 3) := kq_180 byq_r (a := 0) (b := 173) (by decide +kernel)
theorem d_Mod_here_30 : decode b_Mod_here 30 = .ok (.baload, 1) := kq_51 byq_r (by decide +kernel)
theorem d_Mod_here_31 : decode b_Mod_here 31 = .ok (.goto 4, 3) := kq_167 byq_r (a := 0) (b := 4) (by decide +kernel)
theorem d_Mod_here_34 : decode b_Mod_here 34 = .ok (.iconst (-1), 1) := kq_2 byq_r (by decide +kernel)
theorem d_Mod_here_35 : decode b_Mod_here 35 = .ok (.ireturn, 1) := kq_172 byq_r (by decide +kernel)
theorem d_Mod_fine_0 : decode b_Mod_fine 0 = .ok (.aload_n 0, 1) := kq_42 byq_r (by decide +kernel)
theorem d_Mod_fine_1 : decode b_Mod_fine 1 = .ok (.getfield 176, 3) := kq_180 byq_r (a := 0) (b := 176) (by decide +kernel)
theorem d_Mod_fine_4 : decode b_Mod_fine 4 = .ok (.iconst (-1), 1) := kq_2 byq_r (by decide +kernel)
theorem d_Mod_fine_5 : decode b_Mod_fine 5 = .ok (.if_icmp .ne 7, 3) := kq_160 byq_r (a := 0) (b := 7) (by decide +kernel)
theorem d_Mod_fine_8 : decode b_Mod_fine 8 = .ok (.iconst 1, 1) := kq_4 byq_r (by decide +kernel)
theorem d_Mod_fine_9 : decode b_Mod_fine 9 = .ok (.goto 4, 3) := kq_167 byq_r (a := 0) (b := 4) (by decide +kernel)
theorem d_Mod_fine_12 : decode b_Mod_fine 12 = .ok (.iconst 0, 1) := kq_3 byq_r (by decide +kernel)
theorem d_Mod_fine_13 : decode b_Mod_fine 13 = .ok (.ireturn, 1) := kq_172 byq_r (by decide +kernel)
theorem d_Mod_fault_0 : decode b_Mod_fault 0 = .ok (.aload_n 0, 1) := kq_42 byq_r (by decide +kernel)
theorem d_Mod_fault_1 : decode b_Mod_fault 1 = .ok (.invokevirtual 179, 3) := kq_182 byq_r (a := 0) (b := 179) (by decide +kernel)
theorem d_Mod_fault_4 : decode b_Mod_fault 4 = .ok (.ifCond .eq 8, 3) := kq_153 byq_r (a := 0) (b := 8) (by decide +kernel)
theorem d_Mod_fault_7 : decode b_Mod_fault 7 = .ok (.aload_n 0, 1) := kq_42 byq_r (by decide +kernel)
theorem d_Mod_fault_8 : decode b_Mod_fault 8 = .ok (.iload_n 1, 1) := kq_27 byq_r (by decide +kernel)
theorem d_Mod_fault_9 : decode b_Mod_fault 9 = .ok (.putfield 176, 3) := kq_181 byq_r (a := 0) (b := 176) (by decide +kernel)
theorem d_Mod_fault_12 : decode b_Mod_fault 12 = .ok (.return_, 1) := kq_177 byq_r (by decide +kernel)
theorem d_Mod_passes_0 : decode b_Mod_passes 0 = .ok (.aload_n 0, 1) := kq_42 byq_r (by decide +kernel)
theorem d_Mod_passes_1 : decode b_Mod_passes 1 = .ok (.invokevirtual 179, 3) := kq_182 byq_r (a := 0) (b := 179) (by decide +kernel)
theorem d_Mod_passes_4 : decode b_Mod_passes 4 = .ok (.ifCond .eq 11, 3) := kq_153 byq_r (a := 0) (b := 11) (by decide +kernel)
theorem d_Mod_passes_7 : decode b_Mod_passes 7 = .ok (.aload_n 0, 1) := kq_42 byq_r (by decide +kernel)
theorem d_Mod_passes_8 : decode b_Mod_passes 8 = .ok (.invokevirtual 183, 3) := kq_182 byq_r (a := 0) (b := 183) (by decide +kernel)
theorem d_Mod_passes_11 : decode b_Mod_passes 11 = .ok (.iload_n 1, 1) := kq_27 byq_r (by decide +kernel)
theorem d_Mod_passes_12 : decode b_Mod_passes 12 = .ok (.if_icmp .eq 5, 3) := kq_159 byq_r (a := 0) (b := 5) (by decide +kernel)
theorem d_Mod_passes_15 : decode b_Mod_passes 15 = .ok (.iconst 0, 1) := kq_3 byq_r (by decide +kernel)
theorem d_Mod_passes_16 : decode b_Mod_passes 16 = .ok (.ireturn, 1) := kq_172 byq_r (by decide +kernel)
theorem d_Mod_passes_17 : decode b_Mod_passes 17 = .ok (.aload_n 0, 1) := kq_42 byq_r (by decide +kernel)
theorem d_Mod_passes_18 : decode b_Mod_passes 18 = .ok (.dup, 1) := kq_89 byq_r (by decide +kernel)
theorem d_Mod_passes_19 : decode b_Mod_passes 19 = .ok (.getfield 173, 3) := kq_180 byq_r (a := 0) (b := 173) (by decide +kernel)
theorem d_Mod_passes_22 : decode b_Mod_passes 22 = .ok (.iconst 1, 1) := kq_4 byq_r (by decide +kernel)
theorem d_Mod_passes_23 : decode b_Mod_passes 23 = .ok (.iadd, 1) := kq_96 byq_r (by decide +kernel)
theorem d_Mod_passes_24 : decode b_Mod_passes 24 = .ok (.putfield 173, 3) := kq_181 byq_r (a := 0) (b := 173) (by decide +kernel)
theorem d_Mod_passes_27 : decode b_Mod_passes 27 = .ok (.iconst 1, 1) := kq_4 byq_r (by decide +kernel)
theorem d_Mod_passes_28 : decode b_Mod_passes 28 = .ok (.ireturn, 1) := kq_172 byq_r (by decide +kernel)
theorem d_Mod_need_0 : decode b_Mod_need 0 = .ok (.aload_n 0, 1) := kq_42 byq_r (by decide +kernel)
theorem d_Mod_need_1 : decode b_Mod_need 1 = .ok (.iload_n 1, 1) := kq_27 byq_r (by decide +kernel)
theorem d_Mod_need_2 : decode b_Mod_need 2 = .ok (.invokevirtual 186, 3) := kq_182 byq_r (a := 0) (b := 186) (by decide +kernel)
theorem d_Mod_need_5 : decode b_Mod_need 5 = .ok (.ifCond .ne 11, 3) := kq_154 byq_r (a := 0) (b := 11) (by decide +kernel)
theorem d_Mod_need_8 : decode b_Mod_need 8 = .ok (.aload_n 0, 1) := kq_42 byq_r (by decide +kernel)
theorem d_Mod_need_9 : decode b_Mod_need 9 = .ok (.aload_n 0, 1) := kq_42 byq_r (by decide +kernel)
theorem d_Mod_need_10 : decode b_Mod_need 10 = .ok (.getfield 173, 3) := kq_180 byq_r (a := 0) (b := 173) (by decide +kernel)
theorem d_Mod_need_13 : decode b_Mod_need 13 = .ok (.invokevirtual 190, 3) := kq_182 byq_r (a := 0) (b := 190) (by decide +kernel)
theorem d_Mod_need_16 : decode b_Mod_need 16 = .ok (.return_, 1) := kq_177 byq_r (by decide +kernel)
theorem d_Mod_number_0 : decode b_Mod_number 0 = .ok (.aload_n 0, 1) := kq_42 byq_r (by decide +kernel)
theorem d_Mod_number_1 : decode b_Mod_number 1 = .ok (.invokevirtual 179, 3) := kq_182 byq_r (a := 0) (b := 179) (by decide +kernel)
theorem d_Mod_number_4 : decode b_Mod_number 4 = .ok (.ifCond .ne 5, 3) := kq_154 byq_r (a := 0) (b := 5) (by decide +kernel)
theorem d_Mod_number_7 : decode b_Mod_number 7 = .ok (.iconst 0, 1) := kq_3 byq_r (by decide +kernel)
theorem d_Mod_number_8 : decode b_Mod_number 8 = .ok (.ireturn, 1) := kq_172 byq_r (by decide +kernel)
theorem d_Mod_number_9 : decode b_Mod_number 9 = .ok (.aload_n 0, 1) := kq_42 byq_r (by decide +kernel)
theorem d_Mod_number_10 : decode b_Mod_number 10 = .ok (.getfield 173, 3) := kq_180 byq_r (a := 0) (b := 173) (by decide +kernel)
theorem d_Mod_number_13 : decode b_Mod_number 13 = .ok (.istore_n 2, 1) := kq_61 byq_r (by decide +kernel)
theorem d_Mod_number_14 : decode b_Mod_number 14 = .ok (.iconst 0, 1) := kq_3 byq_r (by decide +kernel)
theorem d_Mod_number_15 : decode b_Mod_number 15 = .ok (.istore_n 3, 1) := kq_62 byq_r (by decide +kernel)
theorem d_Mod_number_16 : decode b_Mod_number 16 = .ok (.aload_n 0, 1) := kq_42 byq_r (by decide +kernel)
theorem d_Mod_number_17 : decode b_Mod_number 17 = .ok (.getfield 173, 3) := kq_180 byq_r (a := 0) (b := 173) (by decide +kernel)
theorem d_Mod_number_20 : decode b_Mod_number 20 = .ok (.iload_n 2, 1) := kq_28 byq_r (by decide +kernel)
theorem d_Mod_number_21 : decode b_Mod_number 21 = .ok (.iload_n 1, 1) := kq_27 byq_r (by decide +kernel)
theorem d_Mod_number_22 : decode b_Mod_number 22 = .ok (.iadd, 1) := kq_96 byq_r (by decide +kernel)
theorem d_Mod_number_23 : decode b_Mod_number 23 = .ok (.if_icmp .ge 43, 3) := kq_162 byq_r (a := 0) (b := 43) (by decide +kernel)
theorem d_Mod_number_26 : decode b_Mod_number 26 = .ok (.aload_n 0, 1) := kq_42 byq_r (by decide +kernel)
theorem d_Mod_number_27 : decode b_Mod_number 27 = .ok (.invokevirtual 183, 3) := kq_182 byq_r (a := 0) (b := 183) (by decide +kernel)
theorem d_Mod_number_30 : decode b_Mod_number 30 = .ok (.bipush 48, 2) := kq_16 byq_r (b := 48) (by decide +kernel)
theorem d_Mod_number_32 : decode b_Mod_number 32 = .ok (.bipush 57, 2) := kq_16 byq_r (b := 57) (by decide +kernel)
theorem d_Mod_number_34 : decode b_Mod_number 34 = .ok (.invokestatic 119, 3) := kq_184 byq_r (a := 0) (b := 119) (by decide +kernel)
theorem d_Mod_number_37 : decode b_Mod_number 37 = .ok (.ifCond .eq 29, 3) := kq_153 byq_r (a := 0) (b := 29) (by decide +kernel)
theorem d_Mod_number_40 : decode b_Mod_number 40 = .ok (.bipush 10, 2) := kq_16 byq_r (b := 10) (by decide +kernel)
theorem d_Mod_number_42 : decode b_Mod_number 42 = .ok (.iload_n 3, 1) := kq_29 byq_r (by decide +kernel)
theorem d_Mod_number_43 : decode b_Mod_number 43 = .ok (.imul, 1) := kq_104 byq_r (by decide +kernel)
theorem d_Mod_number_44 : decode b_Mod_number 44 = .ok (.aload_n 0, 1) := kq_42 byq_r (by decide +kernel)
theorem d_Mod_number_45 : decode b_Mod_number 45 = .ok (.invokevirtual 183, 3) := kq_182 byq_r (a := 0) (b := 183) (by decide +kernel)
theorem d_Mod_number_48 : decode b_Mod_number 48 = .ok (.iadd, 1) := kq_96 byq_r (by decide +kernel)
theorem d_Mod_number_49 : decode b_Mod_number 49 = .ok (.bipush 48, 2) := kq_16 byq_r (b := 48) (by decide +kernel)
theorem d_Mod_number_51 : decode b_Mod_number 51 = .ok (.isub, 1) := kq_100 byq_r (by decide +kernel)
theorem d_Mod_number_52 : decode b_Mod_number 52 = .ok (.istore_n 3, 1) := kq_62 byq_r (by decide +kernel)
theorem d_Mod_number_53 : decode b_Mod_number 53 = .ok (.aload_n 0, 1) := kq_42 byq_r (by decide +kernel)
theorem d_Mod_number_54 : decode b_Mod_number 54 = .ok (.dup, 1) := kq_89 byq_r (by decide +kernel)
theorem d_Mod_number_55 : decode b_Mod_number 55 = .ok (.getfield 173, 3) := kq_180 byq_r (a := 0) (b := 173) (by decide +kernel)
theorem d_Mod_number_58 : decode b_Mod_number 58 = .ok (.iconst 1, 1) := kq_4 byq_r (by decide +kernel)
theorem d_Mod_number_59 : decode b_Mod_number 59 = .ok (.iadd, 1) := kq_96 byq_r (by decide +kernel)
theorem d_Mod_number_60 : decode b_Mod_number 60 = .ok (.putfield 173, 3) := kq_181 byq_r (a := 0) (b := 173) (by decide +kernel)
theorem d_Mod_number_63 : decode b_Mod_number 63 = .ok (.goto (-47), 3) := kq_167 byq_r (a := 255) (b := 209) (by decide +kernel)
theorem d_Mod_number_66 : decode b_Mod_number 66 = .ok (.aload_n 0, 1) := kq_42 byq_r (by decide +kernel)
theorem d_Mod_number_67 : decode b_Mod_number 67 = .ok (.getfield 173, 3) := kq_180 byq_r (a := 0) (b := 173) (by decide +kernel)
theorem d_Mod_number_70 : decode b_Mod_number 70 = .ok (.iload_n 2, 1) := kq_28 byq_r (by decide +kernel)
theorem d_Mod_number_71 : decode b_Mod_number 71 = .ok (.if_icmp .ne 11, 3) := kq_160 byq_r (a := 0) (b := 11) (by decide +kernel)
theorem d_Mod_number_74 : decode b_Mod_number 74 = .ok (.aload_n 0, 1) := kq_42 byq_r (by decide +kernel)
theorem d_Mod_number_75 : decode b_Mod_number 75 = .ok (.aload_n 0, 1) := kq_42 byq_r (by decide +kernel)
theorem d_Mod_number_76 : decode b_Mod_number 76 = .ok (.getfield 173, 3) := kq_180 byq_r (a := 0) (b := 173) (by decide +kernel)
theorem d_Mod_number_79 : decode b_Mod_number 79 = .ok (.invokevirtual 190, 3) := kq_182 byq_r (a := 0) (b := 190) (by decide +kernel)
theorem d_Mod_number_82 : decode b_Mod_number 82 = .ok (.iload_n 3, 1) := kq_29 byq_r (by decide +kernel)
theorem d_Mod_number_83 : decode b_Mod_number 83 = .ok (.ireturn, 1) := kq_172 byq_r (by decide +kernel)
theorem d_Mod_kindOf_0 : decode b_Mod_kindOf 0 = .ok (.iload_n 0, 1) := kq_26 byq_r (by decide +kernel)
theorem d_Mod_kindOf_1 : decode b_Mod_kindOf 1 = .ok (.bipush 46, 2) := kq_16 byq_r (b := 46) (by decide +kernel)
theorem d_Mod_kindOf_3 : decode b_Mod_kindOf 3 = .ok (.if_icmp .ne 7, 3) := kq_160 byq_r (a := 0) (b := 7) (by decide +kernel)
theorem d_Mod_kindOf_6 : decode b_Mod_kindOf 6 = .ok (.iconst 1, 1) := kq_4 byq_r (by decide +kernel)
theorem d_Mod_kindOf_7 : decode b_Mod_kindOf 7 = .ok (.goto 34, 3) := kq_167 byq_r (a := 0) (b := 34) (by decide +kernel)
theorem d_Mod_kindOf_10 : decode b_Mod_kindOf 10 = .ok (.iload_n 0, 1) := kq_26 byq_r (by decide +kernel)
theorem d_Mod_kindOf_11 : decode b_Mod_kindOf 11 = .ok (.bipush 104, 2) := kq_16 byq_r (b := 104) (by decide +kernel)
theorem d_Mod_kindOf_13 : decode b_Mod_kindOf 13 = .ok (.if_icmp .ne 7, 3) := kq_160 byq_r (a := 0) (b := 7) (by decide +kernel)
theorem d_Mod_kindOf_16 : decode b_Mod_kindOf 16 = .ok (.iconst 2, 1) := kq_5 byq_r (by decide +kernel)
theorem d_Mod_kindOf_17 : decode b_Mod_kindOf 17 = .ok (.goto 24, 3) := kq_167 byq_r (a := 0) (b := 24) (by decide +kernel)
theorem d_Mod_kindOf_20 : decode b_Mod_kindOf 20 = .ok (.iload_n 0, 1) := kq_26 byq_r (by decide +kernel)
theorem d_Mod_kindOf_21 : decode b_Mod_kindOf 21 = .ok (.bipush 115, 2) := kq_16 byq_r (b := 115) (by decide +kernel)
theorem d_Mod_kindOf_23 : decode b_Mod_kindOf 23 = .ok (.if_icmp .ne 7, 3) := kq_160 byq_r (a := 0) (b := 7) (by decide +kernel)
theorem d_Mod_kindOf_26 : decode b_Mod_kindOf 26 = .ok (.iconst 3, 1) := kq_6 byq_r (by decide +kernel)
theorem d_Mod_kindOf_27 : decode b_Mod_kindOf 27 = .ok (.goto 14, 3) := kq_167 byq_r (a := 0) (b := 14) (by decide +kernel)
theorem d_Mod_kindOf_30 : decode b_Mod_kindOf 30 = .ok (.iload_n 0, 1) := kq_26 byq_r (by decide +kernel)
theorem d_Mod_kindOf_31 : decode b_Mod_kindOf 31 = .ok (.bipush 35, 2) := kq_16 byq_r (b := 35) (by decide +kernel)
theorem d_Mod_kindOf_33 : decode b_Mod_kindOf 33 = .ok (.if_icmp .ne 7, 3) := kq_160 byq_r (a := 0) (b := 7) (by decide +kernel)
theorem d_Mod_kindOf_36 : decode b_Mod_kindOf 36 = .ok (.iconst 0, 1) := kq_3 byq_r (by decide +kernel)
theorem d_Mod_kindOf_37 : decode b_Mod_kindOf 37 = .ok (.goto 4, 3) := kq_167 byq_r (a := 0) (b := 4) (by decide +kernel)
theorem d_Mod_kindOf_40 : decode b_Mod_kindOf 40 = .ok (.iconst (-1), 1) := kq_2 byq_r (by decide +kernel)
theorem d_Mod_kindOf_41 : decode b_Mod_kindOf 41 = .ok (.ireturn, 1) := kq_172 byq_r (by decide +kernel)
theorem d_Mod_town_0 : decode b_Mod_town 0 = .ok (.aload_n 0, 1) := kq_42 byq_r (by decide +kernel)
theorem d_Mod_town_1 : decode b_Mod_town 1 = .ok (.iconst 0, 1) := kq_3 byq_r (by decide +kernel)
theorem d_Mod_town_2 : decode b_Mod_town 2 = .ok (.putfield 109, 3) := kq_181 byq_r (a := 0) (b := 109) (by decide +kernel)
theorem d_Mod_town_5 : decode b_Mod_town 5 = .ok (.aload_n 0, 1) := kq_42 byq_r (by decide +kernel)
theorem d_Mod_town_6 : decode b_Mod_town 6 = .ok (.aload_n 0, 1) := kq_42 byq_r (by decide +kernel)
theorem d_Mod_town_7 : decode b_Mod_town 7 = .ok (.getfield 32, 3) := kq_180 byq_r (a := 0) (b := 32) (by decide +kernel)
theorem d_Mod_town_10 : decode b_Mod_town 10 = .ok (.aload_n 0, 1) := kq_42 byq_r (by decide +kernel)
theorem d_Mod_town_11 : decode b_Mod_town 11 = .ok (.getfield 161, 3) := kq_180 byq_r (a := 0) (b := 161) (by decide +kernel)
theorem d_Mod_town_14 : decode b_Mod_town 14 = .ok (.bipush 80, 2) := kq_16 byq_r (b := 80) (by decide +kernel)
theorem d_Mod_town_16 : decode b_Mod_town 16 = .ok (.invokevirtual 194, 3) := kq_182 byq_r (a := 0) (b := 194) (by decide +kernel)
theorem d_Mod_town_19 : decode b_Mod_town 19 = .ok (.aload_n 0, 1) := kq_42 byq_r (by decide +kernel)
theorem d_Mod_town_20 : decode b_Mod_town 20 = .ok (.iconst 0, 1) := kq_3 byq_r (by decide +kernel)
theorem d_Mod_town_21 : decode b_Mod_town 21 = .ok (.putfield 161, 3) := kq_181 byq_r (a := 0) (b := 161) (by decide +kernel)
theorem d_Mod_town_24 : decode b_Mod_town 24 = .ok (.iconst 0, 1) := kq_3 byq_r (by decide +kernel)
theorem d_Mod_town_25 : decode b_Mod_town 25 = .ok (.istore_n 1, 1) := kq_60 byq_r (by decide +kernel)
theorem d_Mod_town_26 : decode b_Mod_town 26 = .ok (.iconst 0, 1) := kq_3 byq_r (by decide +kernel)
theorem d_Mod_town_27 : decode b_Mod_town 27 = .ok (.istore_n 2, 1) := kq_61 byq_r (by decide +kernel)
theorem d_Mod_town_28 : decode b_Mod_town 28 = .ok (.iconst 1, 1) := kq_4 byq_r (by decide +kernel)
theorem d_Mod_town_29 : decode b_Mod_town 29 = .ok (.istore_n 3, 1) := kq_62 byq_r (by decide +kernel)
theorem d_Mod_town_30 : decode b_Mod_town 30 = .ok (.iload_n 3, 1) := kq_29 byq_r (by decide +kernel)
theorem d_Mod_town_31 : decode b_Mod_town 31 = .ok (.ifCond .eq 148, 3) := kq_153 byq_r (a := 0) (b := 148) (by decide +kernel)
theorem d_Mod_town_34 : decode b_Mod_town 34 = .ok (.aload_n 0, 1) := kq_42 byq_r (by decide +kernel)
theorem d_Mod_town_35 : decode b_Mod_town 35 = .ok (.invokevirtual 179, 3) := kq_182 byq_r (a := 0) (b := 179) (by decide +kernel)
theorem d_Mod_town_38 : decode b_Mod_town 38 = .ok (.ifCond .eq 141, 3) := kq_153 byq_r (a := 0) (b := 141) (by decide +kernel)
theorem d_Mod_town_41 : decode b_Mod_town 41 = .ok (.iload_n 2, 1) := kq_28 byq_r (by decide +kernel)
theorem d_Mod_town_42 : decode b_Mod_town 42 = .ok (.bipush 6, 2) := kq_16 byq_r (b := 6) (by decide +kernel)
theorem d_Mod_town_44 : decode b_Mod_town 44 = .ok (.if_icmp .ne 11, 3) := kq_160 byq_r (a := 0) (b := 11) (by decide +kernel)
theorem d_Mod_town_47 : decode b_Mod_town 47 = .ok (.aload_n 0, 1) := kq_42 byq_r (by decide +kernel)
theorem d_Mod_town_48 : decode b_Mod_town 48 = .ok (.aload_n 0, 1) := kq_42 byq_r (by decide +kernel)
theorem d_Mod_town_49 : decode b_Mod_town 49 = .ok (.getfield 173, 3) := kq_180 byq_r (a := 0) (b := 173) (by decide +kernel)
theorem d_Mod_town_52 : decode b_Mod_town 52 = .ok (.invokevirtual 190, 3) := kq_182 byq_r (a := 0) (b := 190) (by decide +kernel)
theorem d_Mod_town_55 : decode b_Mod_town 55 = .ok (.iconst 0, 1) := kq_3 byq_r (by decide +kernel)
theorem d_Mod_town_56 : decode b_Mod_town 56 = .ok (.istore 4, 2) := kq_54 byq_r (by decide +kernel)
theorem d_Mod_town_58 : decode b_Mod_town 58 = .ok (.aload_n 0, 1) := kq_42 byq_r (by decide +kernel)
theorem d_Mod_town_59 : decode b_Mod_town 59 = .ok (.invokevirtual 179, 3) := kq_182 byq_r (a := 0) (b := 179) (by decide +kernel)
theorem d_Mod_town_62 : decode b_Mod_town 62 = .ok (.ifCond .eq 74, 3) := kq_153 byq_r (a := 0) (b := 74) (by decide +kernel)
theorem d_Mod_town_65 : decode b_Mod_town 65 = .ok (.aload_n 0, 1) := kq_42 byq_r (by decide +kernel)
theorem d_Mod_town_66 : decode b_Mod_town 66 = .ok (.invokevirtual 183, 3) := kq_182 byq_r (a := 0) (b := 183) (by decide +kernel)
theorem d_Mod_town_69 : decode b_Mod_town 69 = .ok (.invokestatic 198, 3) := kq_184 byq_r (a := 0) (b := 198) (by decide +kernel)
theorem d_Mod_town_72 : decode b_Mod_town 72 = .ok (.iconst (-1), 1) := kq_2 byq_r (by decide +kernel)
theorem d_Mod_town_73 : decode b_Mod_town 73 = .ok (.if_icmp .eq 63, 3) := kq_159 byq_r (a := 0) (b := 63) (by decide +kernel)
theorem d_Mod_town_76 : decode b_Mod_town 76 = .ok (.iload 4, 2) := kq_21 byq_r (by decide +kernel)
theorem d_Mod_town_78 : decode b_Mod_town 78 = .ok (.iload_n 2, 1) := kq_28 byq_r (by decide +kernel)
theorem d_Mod_town_79 : decode b_Mod_town 79 = .ok (.ifCond .ne 8, 3) := kq_154 byq_r (a := 0) (b := 8) (by decide +kernel)
theorem d_Mod_town_82 : decode b_Mod_town 82 = .ok (.bipush 6, 2) := kq_16 byq_r (b := 6) (by decide +kernel)
theorem d_Mod_town_84 : decode b_Mod_town 84 = .ok (.goto 4, 3) := kq_167 byq_r (a := 0) (b := 4) (by decide +kernel)
theorem d_Mod_town_87 : decode b_Mod_town 87 = .ok (.iload_n 1, 1) := kq_27 byq_r (by decide +kernel)
theorem d_Mod_town_88 : decode b_Mod_town 88 = .ok (.if_icmp .ne 14, 3) := kq_160 byq_r (a := 0) (b := 14) (by decide +kernel)
theorem d_Mod_town_91 : decode b_Mod_town 91 = .ok (.aload_n 0, 1) := kq_42 byq_r (by decide +kernel)
theorem d_Mod_town_92 : decode b_Mod_town 92 = .ok (.aload_n 0, 1) := kq_42 byq_r (by decide +kernel)
theorem d_Mod_town_93 : decode b_Mod_town 93 = .ok (.getfield 173, 3) := kq_180 byq_r (a := 0) (b := 173) (by decide +kernel)
theorem d_Mod_town_96 : decode b_Mod_town 96 = .ok (.invokevirtual 190, 3) := kq_182 byq_r (a := 0) (b := 190) (by decide +kernel)
theorem d_Mod_town_99 : decode b_Mod_town 99 = .ok (.goto (-41), 3) := kq_167 byq_r (a := 255) (b := 215) (by decide +kernel)
theorem d_Mod_town_102 : decode b_Mod_town 102 = .ok (.aload_n 0, 1) := kq_42 byq_r (by decide +kernel)
theorem d_Mod_town_103 : decode b_Mod_town 103 = .ok (.getfield 39, 3) := kq_180 byq_r (a := 0) (b := 39) (by decide +kernel)
theorem d_Mod_town_106 : decode b_Mod_town 106 = .ok (.iload_n 1, 1) := kq_27 byq_r (by decide +kernel)
theorem d_Mod_town_107 : decode b_Mod_town 107 = .ok (.iload_n 2, 1) := kq_28 byq_r (by decide +kernel)
theorem d_Mod_town_108 : decode b_Mod_town 108 = .ok (.imul, 1) := kq_104 byq_r (by decide +kernel)
theorem d_Mod_town_109 : decode b_Mod_town 109 = .ok (.iload 4, 2) := kq_21 byq_r (by decide +kernel)
theorem d_Mod_town_111 : decode b_Mod_town 111 = .ok (.iadd, 1) := kq_96 byq_r (by decide +kernel)
theorem d_Mod_town_112 : decode b_Mod_town 112 = .ok (.aload_n 0, 1) := kq_42 byq_r (by decide +kernel)
theorem d_Mod_town_113 : decode b_Mod_town 113 = .ok (.invokevirtual 183, 3) := kq_182 byq_r (a := 0) (b := 183) (by decide +kernel)
theorem d_Mod_town_116 : decode b_Mod_town 116 = .ok (.invokestatic 198, 3) := kq_184 byq_r (a := 0) (b := 198) (by decide +kernel)
theorem d_Mod_town_119 : decode b_Mod_town 119 = .ok (.iastore, 1) := kq_79 byq_r (by decide +kernel)
theorem d_Mod_town_120 : decode b_Mod_town 120 = .ok (.iinc 4 1, 3) := kq_132 byq_r (b := 1) (by decide +kernel)
theorem d_Mod_town_123 : decode b_Mod_town 123 = .ok (.aload_n 0, 1) := kq_42 byq_r (by decide +kernel)
theorem d_Mod_town_124 : decode b_Mod_town 124 = .ok (.dup, 1) := kq_89 byq_r (by decide +kernel)
theorem d_Mod_town_125 : decode b_Mod_town 125 = .ok (.getfield 173, 3) := kq_180 byq_r (a := 0) (b := 173) (by decide +kernel)
theorem d_Mod_town_128 : decode b_Mod_town 128 = .ok (.iconst 1, 1) := kq_4 byq_r (by decide +kernel)
theorem d_Mod_town_129 : decode b_Mod_town 129 = .ok (.iadd, 1) := kq_96 byq_r (by decide +kernel)
theorem d_Mod_town_130 : decode b_Mod_town 130 = .ok (.putfield 173, 3) := kq_181 byq_r (a := 0) (b := 173) (by decide +kernel)
theorem d_Mod_town_133 : decode b_Mod_town 133 = .ok (.goto (-75), 3) := kq_167 byq_r (a := 255) (b := 181) (by decide +kernel)
theorem d_Mod_town_136 : decode b_Mod_town 136 = .ok (.iload 4, 2) := kq_21 byq_r (by decide +kernel)
theorem d_Mod_town_138 : decode b_Mod_town 138 = .ok (.ifCond .eq 13, 3) := kq_153 byq_r (a := 0) (b := 13) (by decide +kernel)
theorem d_Mod_town_141 : decode b_Mod_town 141 = .ok (.iload_n 2, 1) := kq_28 byq_r (by decide +kernel)
theorem d_Mod_town_142 : decode b_Mod_town 142 = .ok (.ifCond .le 17, 3) := kq_158 byq_r (a := 0) (b := 17) (by decide +kernel)
theorem d_Mod_town_145 : decode b_Mod_town 145 = .ok (.iload 4, 2) := kq_21 byq_r (by decide +kernel)
theorem d_Mod_town_147 : decode b_Mod_town 147 = .ok (.iload_n 1, 1) := kq_27 byq_r (by decide +kernel)
theorem d_Mod_town_148 : decode b_Mod_town 148 = .ok (.if_icmp .ge 11, 3) := kq_162 byq_r (a := 0) (b := 11) (by decide +kernel)
theorem d_Mod_town_151 : decode b_Mod_town 151 = .ok (.aload_n 0, 1) := kq_42 byq_r (by decide +kernel)
theorem d_Mod_town_152 : decode b_Mod_town 152 = .ok (.aload_n 0, 1) := kq_42 byq_r (by decide +kernel)
theorem d_Mod_town_153 : decode b_Mod_town 153 = .ok (.getfield 173, 3) := kq_180 byq_r (a := 0) (b := 173) (by decide +kernel)
theorem d_Mod_town_156 : decode b_Mod_town 156 = .ok (.invokevirtual 190, 3) := kq_182 byq_r (a := 0) (b := 190) (by decide +kernel)
theorem d_Mod_town_159 : decode b_Mod_town 159 = .ok (.iload_n 2, 1) := kq_28 byq_r (by decide +kernel)
theorem d_Mod_town_160 : decode b_Mod_town 160 = .ok (.ifCond .ne 6, 3) := kq_154 byq_r (a := 0) (b := 6) (by decide +kernel)
theorem d_Mod_town_163 : decode b_Mod_town 163 = .ok (.iload 4, 2) := kq_21 byq_r (by decide +kernel)
theorem d_Mod_town_165 : decode b_Mod_town 165 = .ok (.istore_n 1, 1) := kq_60 byq_r (by decide +kernel)
theorem d_Mod_town_166 : decode b_Mod_town 166 = .ok (.iinc 2 1, 3) := kq_132 byq_r (b := 1) (by decide +kernel)
theorem d_Mod_town_169 : decode b_Mod_town 169 = .ok (.aload_n 0, 1) := kq_42 byq_r (by decide +kernel)
theorem d_Mod_town_170 : decode b_Mod_town 170 = .ok (.bipush 47, 2) := kq_16 byq_r (b := 47) (by decide +kernel)
theorem d_Mod_town_172 : decode b_Mod_town 172 = .ok (.invokevirtual 186, 3) := kq_182 byq_r (a := 0) (b := 186) (by decide +kernel)
theorem d_Mod_town_175 : decode b_Mod_town 175 = .ok (.istore_n 3, 1) := kq_62 byq_r (by decide +kernel)
theorem d_Mod_town_176 : decode b_Mod_town 176 = .ok (.goto (-146), 3) := kq_167 byq_r (a := 255) (b := 110) (by decide +kernel)
theorem d_Mod_town_179 : decode b_Mod_town 179 = .ok (.aload_n 0, 1) := kq_42 byq_r (by decide +kernel)
theorem d_Mod_town_180 : decode b_Mod_town 180 = .ok (.getfield 173, 3) := kq_180 byq_r (a := 0) (b := 173) (by decide +kernel)
theorem d_Mod_town_183 : decode b_Mod_town 183 = .ok (.aload_n 0, 1) := kq_42 byq_r (by decide +kernel)
theorem d_Mod_town_184 : decode b_Mod_town 184 = .ok (.getfield 167, 3) := kq_180 byq_r (a := 0) (b := 167) (by decide +kernel)
theorem d_Mod_town_187 : decode b_Mod_town 187 = .ok (.if_icmp .ge 11, 3) := kq_162 byq_r (a := 0) (b := 11) (by decide +kernel)
theorem d_Mod_town_190 : decode b_Mod_town 190 = .ok (.aload_n 0, 1) := kq_42 byq_r (by decide +kernel)
theorem d_Mod_town_191 : decode b_Mod_town 191 = .ok (.aload_n 0, 1) := kq_42 byq_r (by decide +kernel)
theorem d_Mod_town_192 : decode b_Mod_town 192 = .ok (.getfield 173, 3) := kq_180 byq_r (a := 0) (b := 173) (by decide +kernel)
theorem d_Mod_town_195 : decode b_Mod_town 195 = .ok (.invokevirtual 190, 3) := kq_182 byq_r (a := 0) (b := 190) (by decide +kernel)
theorem d_Mod_town_198 : decode b_Mod_town 198 = .ok (.aload_n 0, 1) := kq_42 byq_r (by decide +kernel)
theorem d_Mod_town_199 : decode b_Mod_town 199 = .ok (.invokevirtual 179, 3) := kq_182 byq_r (a := 0) (b := 179) (by decide +kernel)
theorem d_Mod_town_202 : decode b_Mod_town 202 = .ok (.ifCond .ne 10, 3) := kq_154 byq_r (a := 0) (b := 10) (by decide +kernel)
theorem d_Mod_town_205 : decode b_Mod_town 205 = .ok (.iconst (-1), 1) := kq_2 byq_r (by decide +kernel)
theorem d_Mod_town_206 : decode b_Mod_town 206 = .ok (.aload_n 0, 1) := kq_42 byq_r (by decide +kernel)
theorem d_Mod_town_207 : decode b_Mod_town 207 = .ok (.getfield 176, 3) := kq_180 byq_r (a := 0) (b := 176) (by decide +kernel)
theorem d_Mod_town_210 : decode b_Mod_town 210 = .ok (.isub, 1) := kq_100 byq_r (by decide +kernel)
theorem d_Mod_town_211 : decode b_Mod_town 211 = .ok (.ireturn, 1) := kq_172 byq_r (by decide +kernel)
theorem d_Mod_town_212 : decode b_Mod_town 212 = .ok (.aload_n 0, 1) := kq_42 byq_r (by decide +kernel)
theorem d_Mod_town_213 : decode b_Mod_town 213 = .ok (.iload_n 1, 1) := kq_27 byq_r (by decide +kernel)
theorem d_Mod_town_214 : decode b_Mod_town 214 = .ok (.putfield 16, 3) := kq_181 byq_r (a := 0) (b := 16) (by decide +kernel)
theorem d_Mod_town_217 : decode b_Mod_town 217 = .ok (.aload_n 0, 1) := kq_42 byq_r (by decide +kernel)
theorem d_Mod_town_218 : decode b_Mod_town 218 = .ok (.iload_n 2, 1) := kq_28 byq_r (by decide +kernel)
theorem d_Mod_town_219 : decode b_Mod_town 219 = .ok (.putfield 20, 3) := kq_181 byq_r (a := 0) (b := 20) (by decide +kernel)
theorem d_Mod_town_222 : decode b_Mod_town 222 = .ok (.iconst 0, 1) := kq_3 byq_r (by decide +kernel)
theorem d_Mod_town_223 : decode b_Mod_town 223 = .ok (.istore 4, 2) := kq_54 byq_r (by decide +kernel)
theorem d_Mod_town_225 : decode b_Mod_town 225 = .ok (.iload 4, 2) := kq_21 byq_r (by decide +kernel)
theorem d_Mod_town_227 : decode b_Mod_town 227 = .ok (.bipush 36, 2) := kq_16 byq_r (b := 36) (by decide +kernel)
theorem d_Mod_town_229 : decode b_Mod_town 229 = .ok (.if_icmp .ge 35, 3) := kq_162 byq_r (a := 0) (b := 35) (by decide +kernel)
theorem d_Mod_town_232 : decode b_Mod_town 232 = .ok (.aload_n 0, 1) := kq_42 byq_r (by decide +kernel)
theorem d_Mod_town_233 : decode b_Mod_town 233 = .ok (.getfield 13, 3) := kq_180 byq_r (a := 0) (b := 13) (by decide +kernel)
theorem d_Mod_town_236 : decode b_Mod_town 236 = .ok (.iload 4, 2) := kq_21 byq_r (by decide +kernel)
theorem d_Mod_town_238 : decode b_Mod_town 238 = .ok (.iload 4, 2) := kq_21 byq_r (by decide +kernel)
theorem d_Mod_town_240 : decode b_Mod_town 240 = .ok (.iload_n 1, 1) := kq_27 byq_r (by decide +kernel)
theorem d_Mod_town_241 : decode b_Mod_town 241 = .ok (.iload_n 2, 1) := kq_28 byq_r (by decide +kernel)
theorem d_Mod_town_242 : decode b_Mod_town 242 = .ok (.imul, 1) := kq_104 byq_r (by decide +kernel)
theorem d_Mod_town_243 : decode b_Mod_town 243 = .ok (.if_icmp .ge 13, 3) := kq_162 byq_r (a := 0) (b := 13) (by decide +kernel)
theorem d_Mod_town_246 : decode b_Mod_town 246 = .ok (.aload_n 0, 1) := kq_42 byq_r (by decide +kernel)
theorem d_Mod_town_247 : decode b_Mod_town 247 = .ok (.getfield 39, 3) := kq_180 byq_r (a := 0) (b := 39) (by decide +kernel)
theorem d_Mod_town_250 : decode b_Mod_town 250 = .ok (.iload 4, 2) := kq_21 byq_r (by decide +kernel)
theorem d_Mod_town_252 : decode b_Mod_town 252 = .ok (.iaload, 1) := kq_46 byq_r (by decide +kernel)
theorem d_Mod_town_253 : decode b_Mod_town 253 = .ok (.goto 4, 3) := kq_167 byq_r (a := 0) (b := 4) (by decide +kernel)
theorem d_Mod_town_256 : decode b_Mod_town 256 = .ok (.iconst 0, 1) := kq_3 byq_r (by decide +kernel)
theorem d_Mod_town_257 : decode b_Mod_town 257 = .ok (.iastore, 1) := kq_79 byq_r (by decide +kernel)
theorem d_Mod_town_258 : decode b_Mod_town 258 = .ok (.iinc 4 1, 3) := kq_132 byq_r (b := 1) (by decide +kernel)
theorem d_Mod_town_261 : decode b_Mod_town 261 = .ok (.goto (-36), 3) := kq_167 byq_r (a := 255) (b := 220) (by decide +kernel)
theorem d_Mod_town_264 : decode b_Mod_town 264 = .ok (.aload_n 0, 1) := kq_42 byq_r (by decide +kernel)
theorem d_Mod_town_265 : decode b_Mod_town 265 = .ok (.iconst 0, 1) := kq_3 byq_r (by decide +kernel)
theorem d_Mod_town_266 : decode b_Mod_town 266 = .ok (.putfield 123, 3) := kq_181 byq_r (a := 0) (b := 123) (by decide +kernel)
theorem d_Mod_town_269 : decode b_Mod_town 269 = .ok (.aload_n 0, 1) := kq_42 byq_r (by decide +kernel)
theorem d_Mod_town_270 : decode b_Mod_town 270 = .ok (.iconst 0, 1) := kq_3 byq_r (by decide +kernel)
theorem d_Mod_town_271 : decode b_Mod_town 271 = .ok (.putfield 130, 3) := kq_181 byq_r (a := 0) (b := 130) (by decide +kernel)
theorem d_Mod_town_274 : decode b_Mod_town 274 = .ok (.aload_n 0, 1) := kq_42 byq_r (by decide +kernel)
theorem d_Mod_town_275 : decode b_Mod_town 275 = .ok (.iconst (-1), 1) := kq_2 byq_r (by decide +kernel)
theorem d_Mod_town_276 : decode b_Mod_town 276 = .ok (.putfield 29, 3) := kq_181 byq_r (a := 0) (b := 29) (by decide +kernel)
theorem d_Mod_town_279 : decode b_Mod_town 279 = .ok (.iconst 0, 1) := kq_3 byq_r (by decide +kernel)
theorem d_Mod_town_280 : decode b_Mod_town 280 = .ok (.istore 4, 2) := kq_54 byq_r (by decide +kernel)
theorem d_Mod_town_282 : decode b_Mod_town 282 = .ok (.iload 4, 2) := kq_21 byq_r (by decide +kernel)
theorem d_Mod_town_284 : decode b_Mod_town 284 = .ok (.bipush 96, 2) := kq_16 byq_r (b := 96) (by decide +kernel)
theorem d_Mod_town_286 : decode b_Mod_town 286 = .ok (.if_icmp .ge 17, 3) := kq_162 byq_r (a := 0) (b := 17) (by decide +kernel)
theorem d_Mod_town_289 : decode b_Mod_town 289 = .ok (.aload_n 0, 1) := kq_42 byq_r (by decide +kernel)
theorem d_Mod_town_290 : decode b_Mod_town 290 = .ok (.getfield 9, 3) := kq_180 byq_r (a := 0) (b := 9) (by decide +kernel)
theorem d_Mod_town_293 : decode b_Mod_town 293 = .ok (.iload 4, 2) := kq_21 byq_r (by decide +kernel)
theorem d_Mod_town_295 : decode b_Mod_town 295 = .ok (.iconst 0, 1) := kq_3 byq_r (by decide +kernel)
theorem d_Mod_town_296 : decode b_Mod_town 296 = .ok (.iastore, 1) := kq_79 byq_r (by decide +kernel)
theorem d_Mod_town_297 : decode b_Mod_town 297 = .ok (.iinc 4 1, 3) := kq_132 byq_r (b := 1) (by decide +kernel)
theorem d_Mod_town_300 : decode b_Mod_town 300 = .ok (.goto (-18), 3) := kq_167 byq_r (a := 255) (b := 238) (by decide +kernel)
theorem d_Mod_town_303 : decode b_Mod_town 303 = .ok (.aload_n 0, 1) := kq_42 byq_r (by decide +kernel)
theorem d_Mod_town_304 : decode b_Mod_town 304 = .ok (.iconst 0, 1) := kq_3 byq_r (by decide +kernel)
theorem d_Mod_town_305 : decode b_Mod_town 305 = .ok (.putfield 201, 3) := kq_181 byq_r (a := 0) (b := 201) (by decide +kernel)
theorem d_Mod_town_308 : decode b_Mod_town 308 = .ok (.iconst 0, 1) := kq_3 byq_r (by decide +kernel)
theorem d_Mod_town_309 : decode b_Mod_town 309 = .ok (.istore 4, 2) := kq_54 byq_r (by decide +kernel)
theorem d_Mod_town_311 : decode b_Mod_town 311 = .ok (.iload 4, 2) := kq_21 byq_r (by decide +kernel)
theorem d_Mod_town_313 : decode b_Mod_town 313 = .ok (.iconst 2, 1) := kq_5 byq_r (by decide +kernel)
theorem d_Mod_town_314 : decode b_Mod_town 314 = .ok (.if_icmp .ge 17, 3) := kq_162 byq_r (a := 0) (b := 17) (by decide +kernel)
theorem d_Mod_town_317 : decode b_Mod_town 317 = .ok (.aload_n 0, 1) := kq_42 byq_r (by decide +kernel)
theorem d_Mod_town_318 : decode b_Mod_town 318 = .ok (.getfield 103, 3) := kq_180 byq_r (a := 0) (b := 103) (by decide +kernel)
theorem d_Mod_town_321 : decode b_Mod_town 321 = .ok (.iload 4, 2) := kq_21 byq_r (by decide +kernel)
theorem d_Mod_town_323 : decode b_Mod_town 323 = .ok (.iconst 0, 1) := kq_3 byq_r (by decide +kernel)
theorem d_Mod_town_324 : decode b_Mod_town 324 = .ok (.bastore, 1) := kq_84 byq_r (by decide +kernel)
theorem d_Mod_town_325 : decode b_Mod_town 325 = .ok (.iinc 4 1, 3) := kq_132 byq_r (b := 1) (by decide +kernel)
theorem d_Mod_town_328 : decode b_Mod_town 328 = .ok (.goto (-17), 3) := kq_167 byq_r (a := 255) (b := 239) (by decide +kernel)
theorem d_Mod_town_331 : decode b_Mod_town 331 = .ok (.iload_n 1, 1) := kq_27 byq_r (by decide +kernel)
theorem d_Mod_town_332 : decode b_Mod_town 332 = .ok (.iload_n 2, 1) := kq_28 byq_r (by decide +kernel)
theorem d_Mod_town_333 : decode b_Mod_town 333 = .ok (.imul, 1) := kq_104 byq_r (by decide +kernel)
theorem d_Mod_town_334 : decode b_Mod_town 334 = .ok (.ireturn, 1) := kq_172 byq_r (by decide +kernel)
theorem d_Mod_stepOf_0 : decode b_Mod_stepOf 0 = .ok (.iload_n 0, 1) := kq_26 byq_r (by decide +kernel)
theorem d_Mod_stepOf_1 : decode b_Mod_stepOf 1 = .ok (.bipush 117, 2) := kq_16 byq_r (b := 117) (by decide +kernel)
theorem d_Mod_stepOf_3 : decode b_Mod_stepOf 3 = .ok (.if_icmp .ne 7, 3) := kq_160 byq_r (a := 0) (b := 7) (by decide +kernel)
theorem d_Mod_stepOf_6 : decode b_Mod_stepOf 6 = .ok (.iconst 0, 1) := kq_3 byq_r (by decide +kernel)
theorem d_Mod_stepOf_7 : decode b_Mod_stepOf 7 = .ok (.goto 44, 3) := kq_167 byq_r (a := 0) (b := 44) (by decide +kernel)
theorem d_Mod_stepOf_10 : decode b_Mod_stepOf 10 = .ok (.iload_n 0, 1) := kq_26 byq_r (by decide +kernel)
theorem d_Mod_stepOf_11 : decode b_Mod_stepOf 11 = .ok (.bipush 114, 2) := kq_16 byq_r (b := 114) (by decide +kernel)
theorem d_Mod_stepOf_13 : decode b_Mod_stepOf 13 = .ok (.if_icmp .ne 7, 3) := kq_160 byq_r (a := 0) (b := 7) (by decide +kernel)
theorem d_Mod_stepOf_16 : decode b_Mod_stepOf 16 = .ok (.iconst 1, 1) := kq_4 byq_r (by decide +kernel)
theorem d_Mod_stepOf_17 : decode b_Mod_stepOf 17 = .ok (.goto 34, 3) := kq_167 byq_r (a := 0) (b := 34) (by decide +kernel)
theorem d_Mod_stepOf_20 : decode b_Mod_stepOf 20 = .ok (.iload_n 0, 1) := kq_26 byq_r (by decide +kernel)
theorem d_Mod_stepOf_21 : decode b_Mod_stepOf 21 = .ok (.bipush 100, 2) := kq_16 byq_r (b := 100) (by decide +kernel)
theorem d_Mod_stepOf_23 : decode b_Mod_stepOf 23 = .ok (.if_icmp .ne 7, 3) := kq_160 byq_r (a := 0) (b := 7) (by decide +kernel)
theorem d_Mod_stepOf_26 : decode b_Mod_stepOf 26 = .ok (.iconst 2, 1) := kq_5 byq_r (by decide +kernel)
theorem d_Mod_stepOf_27 : decode b_Mod_stepOf 27 = .ok (.goto 24, 3) := kq_167 byq_r (a := 0) (b := 24) (by decide +kernel)
theorem d_Mod_stepOf_30 : decode b_Mod_stepOf 30 = .ok (.iload_n 0, 1) := kq_26 byq_r (by decide +kernel)
theorem d_Mod_stepOf_31 : decode b_Mod_stepOf 31 = .ok (.bipush 108, 2) := kq_16 byq_r (b := 108) (by decide +kernel)
theorem d_Mod_stepOf_33 : decode b_Mod_stepOf 33 = .ok (.if_icmp .ne 7, 3) := kq_160 byq_r (a := 0) (b := 7) (by decide +kernel)
theorem d_Mod_stepOf_36 : decode b_Mod_stepOf 36 = .ok (.iconst 3, 1) := kq_6 byq_r (by decide +kernel)
theorem d_Mod_stepOf_37 : decode b_Mod_stepOf 37 = .ok (.goto 14, 3) := kq_167 byq_r (a := 0) (b := 14) (by decide +kernel)
theorem d_Mod_stepOf_40 : decode b_Mod_stepOf 40 = .ok (.iload_n 0, 1) := kq_26 byq_r (by decide +kernel)
theorem d_Mod_stepOf_41 : decode b_Mod_stepOf 41 = .ok (.bipush 111, 2) := kq_16 byq_r (b := 111) (by decide +kernel)
theorem d_Mod_stepOf_43 : decode b_Mod_stepOf 43 = .ok (.if_icmp .ne 7, 3) := kq_160 byq_r (a := 0) (b := 7) (by decide +kernel)
theorem d_Mod_stepOf_46 : decode b_Mod_stepOf 46 = .ok (.iconst 4, 1) := kq_7 byq_r (by decide +kernel)
theorem d_Mod_stepOf_47 : decode b_Mod_stepOf 47 = .ok (.goto 4, 3) := kq_167 byq_r (a := 0) (b := 4) (by decide +kernel)
theorem d_Mod_stepOf_50 : decode b_Mod_stepOf 50 = .ok (.iconst (-1), 1) := kq_2 byq_r (by decide +kernel)
theorem d_Mod_stepOf_51 : decode b_Mod_stepOf 51 = .ok (.ireturn, 1) := kq_172 byq_r (by decide +kernel)
theorem d_Mod_readRoute_0 : decode b_Mod_readRoute 0 = .ok (.iconst 0, 1) := kq_3 byq_r (by decide +kernel)
theorem d_Mod_readRoute_1 : decode b_Mod_readRoute 1 = .ok (.istore_n 3, 1) := kq_62 byq_r (by decide +kernel)
theorem d_Mod_readRoute_2 : decode b_Mod_readRoute 2 = .ok (.aload_n 0, 1) := kq_42 byq_r (by decide +kernel)
theorem d_Mod_readRoute_3 : decode b_Mod_readRoute 3 = .ok (.invokevirtual 179, 3) := kq_182 byq_r (a := 0) (b := 179) (by decide +kernel)
theorem d_Mod_readRoute_6 : decode b_Mod_readRoute 6 = .ok (.ifCond .eq 59, 3) := kq_153 byq_r (a := 0) (b := 59) (by decide +kernel)
theorem d_Mod_readRoute_9 : decode b_Mod_readRoute 9 = .ok (.aload_n 0, 1) := kq_42 byq_r (by decide +kernel)
theorem d_Mod_readRoute_10 : decode b_Mod_readRoute 10 = .ok (.invokevirtual 183, 3) := kq_182 byq_r (a := 0) (b := 183) (by decide +kernel)
theorem d_Mod_readRoute_13 : decode b_Mod_readRoute 13 = .ok (.invokestatic 224, 3) := kq_184 byq_r (a := 0) (b := 224) (by decide +kernel)
theorem d_Mod_readRoute_16 : decode b_Mod_readRoute 16 = .ok (.iconst (-1), 1) := kq_2 byq_r (by decide +kernel)
theorem d_Mod_readRoute_17 : decode b_Mod_readRoute 17 = .ok (.if_icmp .eq 48, 3) := kq_159 byq_r (a := 0) (b := 48) (by decide +kernel)
theorem d_Mod_readRoute_20 : decode b_Mod_readRoute 20 = .ok (.iload_n 3, 1) := kq_29 byq_r (by decide +kernel)
theorem d_Mod_readRoute_21 : decode b_Mod_readRoute 21 = .ok (.bipush 9, 2) := kq_16 byq_r (b := 9) (by decide +kernel)
theorem d_Mod_readRoute_23 : decode b_Mod_readRoute 23 = .ok (.if_icmp .ne 14, 3) := kq_160 byq_r (a := 0) (b := 14) (by decide +kernel)
theorem d_Mod_readRoute_26 : decode b_Mod_readRoute 26 = .ok (.aload_n 0, 1) := kq_42 byq_r (by decide +kernel)
theorem d_Mod_readRoute_27 : decode b_Mod_readRoute 27 = .ok (.aload_n 0, 1) := kq_42 byq_r (by decide +kernel)
theorem d_Mod_readRoute_28 : decode b_Mod_readRoute 28 = .ok (.getfield 173, 3) := kq_180 byq_r (a := 0) (b := 173) (by decide +kernel)
theorem d_Mod_readRoute_31 : decode b_Mod_readRoute 31 = .ok (.invokevirtual 190, 3) := kq_182 byq_r (a := 0) (b := 190) (by decide +kernel)
theorem d_Mod_readRoute_34 : decode b_Mod_readRoute 34 = .ok (.goto (-32), 3) := kq_167 byq_r (a := 255) (b := 224) (by decide +kernel)
theorem d_Mod_readRoute_37 : decode b_Mod_readRoute 37 = .ok (.aload_n 1, 1) := kq_43 byq_r (by decide +kernel)
theorem d_Mod_readRoute_38 : decode b_Mod_readRoute 38 = .ok (.iload_n 2, 1) := kq_28 byq_r (by decide +kernel)
theorem d_Mod_readRoute_39 : decode b_Mod_readRoute 39 = .ok (.iload_n 3, 1) := kq_29 byq_r (by decide +kernel)
theorem d_Mod_readRoute_40 : decode b_Mod_readRoute 40 = .ok (.iadd, 1) := kq_96 byq_r (by decide +kernel)
theorem d_Mod_readRoute_41 : decode b_Mod_readRoute 41 = .ok (.aload_n 0, 1) := kq_42 byq_r (by decide +kernel)
theorem d_Mod_readRoute_42 : decode b_Mod_readRoute 42 = .ok (.invokevirtual 183, 3) := kq_182 byq_r (a := 0) (b := 183) (by decide +kernel)
theorem d_Mod_readRoute_45 : decode b_Mod_readRoute 45 = .ok (.invokestatic 224, 3) := kq_184 byq_r (a := 0) (b := 224) (by decide +kernel)
theorem d_Mod_readRoute_48 : decode b_Mod_readRoute 48 = .ok (.iastore, 1) := kq_79 byq_r (by decide +kernel)
theorem d_Mod_readRoute_49 : decode b_Mod_readRoute 49 = .ok (.iinc 3 1, 3) := kq_132 byq_r (b := 1) (by decide +kernel)
theorem d_Mod_readRoute_52 : decode b_Mod_readRoute 52 = .ok (.aload_n 0, 1) := kq_42 byq_r (by decide +kernel)
theorem d_Mod_readRoute_53 : decode b_Mod_readRoute 53 = .ok (.dup, 1) := kq_89 byq_r (by decide +kernel)
theorem d_Mod_readRoute_54 : decode b_Mod_readRoute 54 = .ok (.getfield 173, 3) := kq_180 byq_r (a := 0) (b := 173) (by decide +kernel)
theorem d_Mod_readRoute_57 : decode b_Mod_readRoute 57 = .ok (.iconst 1, 1) := kq_4 byq_r (by decide +kernel)
theorem d_Mod_readRoute_58 : decode b_Mod_readRoute 58 = .ok (.iadd, 1) := kq_96 byq_r (by decide +kernel)
theorem d_Mod_readRoute_59 : decode b_Mod_readRoute 59 = .ok (.putfield 173, 3) := kq_181 byq_r (a := 0) (b := 173) (by decide +kernel)
theorem d_Mod_readRoute_62 : decode b_Mod_readRoute 62 = .ok (.goto (-60), 3) := kq_167 byq_r (a := 255) (b := 196) (by decide +kernel)
theorem d_Mod_readRoute_65 : decode b_Mod_readRoute 65 = .ok (.iload_n 3, 1) := kq_29 byq_r (by decide +kernel)
theorem d_Mod_readRoute_66 : decode b_Mod_readRoute 66 = .ok (.ifCond .ne 11, 3) := kq_154 byq_r (a := 0) (b := 11) (by decide +kernel)
theorem d_Mod_readRoute_69 : decode b_Mod_readRoute 69 = .ok (.aload_n 0, 1) := kq_42 byq_r (by decide +kernel)
theorem d_Mod_readRoute_70 : decode b_Mod_readRoute 70 = .ok (.aload_n 0, 1) := kq_42 byq_r (by decide +kernel)
theorem d_Mod_readRoute_71 : decode b_Mod_readRoute 71 = .ok (.getfield 173, 3) := kq_180 byq_r (a := 0) (b := 173) (by decide +kernel)
theorem d_Mod_readRoute_74 : decode b_Mod_readRoute 74 = .ok (.invokevirtual 190, 3) := kq_182 byq_r (a := 0) (b := 190) (by decide +kernel)
theorem d_Mod_readRoute_77 : decode b_Mod_readRoute 77 = .ok (.iload_n 3, 1) := kq_29 byq_r (by decide +kernel)
theorem d_Mod_readRoute_78 : decode b_Mod_readRoute 78 = .ok (.ireturn, 1) := kq_172 byq_r (by decide +kernel)
def f_Mod_in (v0 : Int32) (v1 : Int32) (v2 : Int32) : Option (Int32) :=
  if v0 < v1 then
  some (0 : Int32)
  else
  if v2 < v0 then
  some (0 : Int32)
  else
  some (1 : Int32)
theorem c_Mod_in (l : Launch) (G : Gw)  (v0 : Int32) (v1 : Int32) (v2 : Int32) (M : Mem) (x : Int32) (h : f_Mod_in v0 v1 v2 = some x) (d : Nat) (hD : 1 ≤ d) : Ci l G y_Mod_in b_Mod_in 3 (some .boolean) d [.int v0, .int v1, .int v2] M (fun r9 M9 => r9 = x ∧ M9 = M) := by
  refine Ci_of (by decide) (Nat.le_of_ble_eq_true rfl) (fun E hE X => ?_)
  subst hE
  have kr : ∀ x9 : Int32, x = x9 → (fun r9 M9 => r9 = x ∧ M9 = M) x9 M := fun x9 e9 => by subst e9; exact ⟨rfl, rfl⟩
  unfold f_Mod_in at h
  refine V_iload_n (n := 0) X d_Mod_in_0 rfl rfl rfl ?_
  refine V_iload_n (n := 1) X d_Mod_in_1 rfl rfl rfl ?_
  refine V_icmp_lt (tgt := 14) X d_Mod_in_2 (by decide) rfl (fun c2 => ?_) (fun c2 => ?_)
  · rw [if_pos c2] at h
    refine V_iconst (v := 0) X d_Mod_in_14 (by decide) rfl ?_
    exact V_zret X (kr (0 : Int32) (Option.some.inj h).symm) (by decide) d_Mod_in_15
  · rw [if_neg c2] at h
    refine V_iload_n (n := 0) X d_Mod_in_5 rfl rfl rfl ?_
    refine V_iload_n (n := 2) X d_Mod_in_6 rfl rfl rfl ?_
    refine V_icmp_gt (tgt := 14) X d_Mod_in_7 (by decide) rfl (fun c1 => ?_) (fun c1 => ?_)
    · rw [if_pos c1] at h
      refine V_iconst (v := 0) X d_Mod_in_14 (by decide) rfl ?_
      exact V_zret X (kr (0 : Int32) (Option.some.inj h).symm) (by decide) d_Mod_in_15
    · rw [if_neg c1] at h
      refine V_iconst (v := 1) X d_Mod_in_10 (by decide) rfl ?_
      refine V_goto (pc' := 15) X d_Mod_in_11 (by decide) ?_
      exact V_zret X (kr (1 : Int32) (Option.some.inj h).symm) (by decide) d_Mod_in_15
def f_Mod_has (v0 : Int32) (v1 : Int32) : Option (Int32) :=
  if ((v0 >>> (v1 &&& 31)) &&& (1 : Int32)) = (1 : Int32) then
  some (1 : Int32)
  else
  some (0 : Int32)
theorem c_Mod_has (l : Launch) (G : Gw)  (v0 : Int32) (v1 : Int32) (M : Mem) (x : Int32) (h : f_Mod_has v0 v1 = some x) (d : Nat) (hD : 1 ≤ d) : Ci l G y_Mod_has b_Mod_has 2 (some .boolean) d [.int v0, .int v1] M (fun r9 M9 => r9 = x ∧ M9 = M) := by
  refine Ci_of (by decide) (Nat.le_of_ble_eq_true rfl) (fun E hE X => ?_)
  subst hE
  have kr : ∀ x9 : Int32, x = x9 → (fun r9 M9 => r9 = x ∧ M9 = M) x9 M := fun x9 e9 => by subst e9; exact ⟨rfl, rfl⟩
  unfold f_Mod_has at h
  refine V_iload_n (n := 0) X d_Mod_has_0 rfl rfl rfl ?_
  refine V_iload_n (n := 1) X d_Mod_has_1 rfl rfl rfl ?_
  refine V_ishr X d_Mod_has_2 rfl ?_
  refine V_iconst (v := 1) X d_Mod_has_3 (by decide) rfl ?_
  refine V_iand X d_Mod_has_4 rfl ?_
  refine V_iconst (v := 1) X d_Mod_has_5 (by decide) rfl ?_
  refine V_icmp_ne (tgt := 13) X d_Mod_has_6 (by decide) rfl (fun c1 => ?_) (fun c1 => ?_)
  · rw [if_neg c1] at h
    refine V_iconst (v := 0) X d_Mod_has_13 (by decide) rfl ?_
    exact V_zret X (kr (0 : Int32) (Option.some.inj h).symm) (by decide) d_Mod_has_14
  · rw [if_pos c1] at h
    refine V_iconst (v := 1) X d_Mod_has_9 (by decide) rfl ?_
    refine V_goto (pc' := 14) X d_Mod_has_10 (by decide) ?_
    exact V_zret X (kr (1 : Int32) (Option.some.inj h).symm) (by decide) d_Mod_has_14
def f_Mod_lost (M : Mem) : Option (Int32 × Mem) :=
  mem_ (s_i M 162 13 (1 : Int32)) fun M1 =>
  some ((0 : Int32), M1)
theorem c_Mod_lost (l : Launch) (G : Gw)   (M : Mem) (x : Int32 × Mem) (h : f_Mod_lost M = some x) (d : Nat) (hD : 1 ≤ d) : Ci l G y_Mod_lost b_Mod_lost 1 (some .int) d [.ref (G.2.2 + 162)] M (fun r9 M9 => r9 = x.1 ∧ M9 = x.2) := by
  refine Ci_of (by decide) (Nat.le_of_ble_eq_true rfl) (fun E hE X => ?_)
  subst hE
  have kr : ∀ x9 : Int32 × Mem, x = x9 → (fun r9 M9 => r9 = x.1 ∧ M9 = x.2) x9.1 x9.2 := fun x9 e9 => by subst e9; exact ⟨rfl, rfl⟩
  unfold f_Mod_lost at h
  refine V_aload_n (n := 0) X d_Mod_lost_0 rfl rfl rfl ?_
  refine V_iconst (v := 1) X d_Mod_lost_1 (by decide) rfl ?_
  obtain ⟨M1, eM1, h⟩ := memS h
  refine V_putI X fp_Mod_109 kd_162 rfl d_Mod_lost_2 rfl ?_
  rw [← eM1]
  refine V_iconst (v := 0) X d_Mod_lost_5 (by decide) rfl ?_
  exact V_iret X (kr ((0 : Int32), M1) (Option.some.inj h).symm) d_Mod_lost_6
def f_Mod_put (v1 : Int32) (M : Mem) : Option (Mem) :=
  if inb (M.1 162 12) 16 = true then
  mem_ (s_i M 168 (M.1 162 12).toNatClampNeg v1) fun M1 =>
  mem_ (s_i M1 162 12 ((M1.1 162 12) + (1 : Int32))) fun M2 =>
  some M2
  else none
theorem c_Mod_put (l : Launch) (G : Gw)  (v1 : Int32) (M : Mem) (x : Mem) (h : f_Mod_put v1 M = some x) (d : Nat) (hD : 1 ≤ d) : Cv l G y_Mod_put b_Mod_put 2 none d [.ref (G.2.2 + 162), .int v1] M (fun M9 => M9 = x) := by
  refine Cv_of (by decide) (Nat.le_of_ble_eq_true rfl) (fun E hE X => ?_)
  subst hE
  have kr : ∀ x9 : Mem, x = x9 → (fun M9 => M9 = x) x9 := fun x9 e9 => by subst e9; exact rfl
  unfold f_Mod_put at h
  refine V_aload_n (n := 0) X d_Mod_put_0 rfl rfl rfl ?_
  refine V_getr (k2 := 168) X fo_Mod_36 kd_162 rfl rf_162_11 d_Mod_put_1 rfl ?_
  refine V_aload_n (n := 0) X d_Mod_put_4 rfl rfl rfl ?_
  refine V_geti X fo_Mod_112 kd_162 rfl d_Mod_put_5 rfl ?_
  refine V_iload_n (n := 1) X d_Mod_put_8 rfl rfl rfl ?_
  obtain ⟨hb, h⟩ := ifn h
  obtain ⟨M1, eM1, h⟩ := memS h
  refine V_iast X kd_168 (inb_in ln_168 hb) d_Mod_put_9 rfl ?_
  rw [← eM1]
  refine V_aload_n (n := 0) X d_Mod_put_10 rfl rfl rfl ?_
  refine V_dup X d_Mod_put_11 rfl rfl ?_
  refine V_geti X fo_Mod_112 kd_162 rfl d_Mod_put_12 rfl ?_
  refine V_iconst (v := 1) X d_Mod_put_15 (by decide) rfl ?_
  refine V_iadd X d_Mod_put_16 rfl ?_
  obtain ⟨M2, eM2, h⟩ := memS h
  refine V_putI X fp_Mod_112 kd_162 rfl d_Mod_put_17 rfl ?_
  rw [← eM2]
  exact V_vret X (kr M2 (Option.some.inj h).symm) d_Mod_put_20
def f_Mod_cells (M : Mem) : Option (Int32) :=
  some ((M.1 162 2) * (M.1 162 3))
theorem c_Mod_cells (l : Launch) (G : Gw)   (M : Mem) (x : Int32) (h : f_Mod_cells M = some x) (d : Nat) (hD : 1 ≤ d) : Ci l G y_Mod_cells b_Mod_cells 1 (some .int) d [.ref (G.2.2 + 162)] M (fun r9 M9 => r9 = x ∧ M9 = M) := by
  refine Ci_of (by decide) (Nat.le_of_ble_eq_true rfl) (fun E hE X => ?_)
  subst hE
  have kr : ∀ x9 : Int32, x = x9 → (fun r9 M9 => r9 = x ∧ M9 = M) x9 M := fun x9 e9 => by subst e9; exact ⟨rfl, rfl⟩
  unfold f_Mod_cells at h
  refine V_aload_n (n := 0) X d_Mod_cells_0 rfl rfl rfl ?_
  refine V_geti X fo_Mod_16 kd_162 rfl d_Mod_cells_1 rfl ?_
  refine V_aload_n (n := 0) X d_Mod_cells_4 rfl rfl rfl ?_
  refine V_geti X fo_Mod_20 kd_162 rfl d_Mod_cells_5 rfl ?_
  refine V_imul X d_Mod_cells_8 rfl ?_
  exact V_iret X (kr ((M.1 162 2) * (M.1 162 3)) (Option.some.inj h).symm) d_Mod_cells_9
def f_Mod_isCell (v1 : Int32) (M : Mem) : Option (Int32) :=
  Option.bind (f_Mod_cells M) fun x1 =>
  Option.bind (f_Mod_in v1 (0 : Int32) (x1 - (1 : Int32))) fun x2 =>
  if x2 = 0 ∨ x2 = 1 then some x2 else none
theorem c_Mod_isCell (l : Launch) (G : Gw)  (v1 : Int32) (M : Mem) (x : Int32) (h : f_Mod_isCell v1 M = some x) (d : Nat) (hD : 2 ≤ d) : Ci l G y_Mod_isCell b_Mod_isCell 2 (some .boolean) d [.ref (G.2.2 + 162), .int v1] M (fun r9 M9 => r9 = x ∧ M9 = M) := by
  refine Ci_of (by decide) (Nat.le_of_ble_eq_true rfl) (fun E hE X => ?_)
  subst hE
  have kr : ∀ x9 : Int32, x = x9 → (fun r9 M9 => r9 = x ∧ M9 = M) x9 M := fun x9 e9 => by subst e9; exact ⟨rfl, rfl⟩
  unfold f_Mod_isCell at h
  refine V_iload_n (n := 1) X d_Mod_isCell_0 rfl rfl rfl ?_
  refine V_iconst (v := 0) X d_Mod_isCell_1 (by decide) rfl ?_
  refine V_aload_n (n := 0) X d_Mod_isCell_2 rfl rfl rfl ?_
  obtain ⟨x1, hx1, h⟩ := ob_s h
  refine V_ci (As := []) X (Z0 E) ml_Mod_115 yq_Mod_cells (c_Mod_cells E.2.1 G  M x1 hx1 _ (Nat.le_refl _)) kd_162 rfl rfl (by omega) rfl (Nat.le_of_ble_eq_true rfl) d_Mod_isCell_3 rfl (fun r9 M9 hq => ?_)
  rw [hq.1, hq.2]
  refine V_iconst (v := 1) X d_Mod_isCell_6 (by decide) rfl ?_
  refine V_isub X d_Mod_isCell_7 rfl ?_
  obtain ⟨x2, hx2, h⟩ := ob_s h
  refine V_si (As := [.int v1, .int (0 : Int32), .int (x1 - (1 : Int32))]) X (Z0 E) ml_Mod_119 yq_Mod_in (c_Mod_in E.2.1 G v1 (0 : Int32) (x1 - (1 : Int32)) M x2 hx2 _ (Nat.le_refl _)) rfl (by omega) rfl (Nat.le_of_ble_eq_true rfl) d_Mod_isCell_8 rfl (fun r9 M9 hq => ?_)
  rw [hq.1, hq.2]
  obtain ⟨hq, h⟩ := ifn h
  exact V_zret X (kr x2 (Option.some.inj h).symm) hq d_Mod_isCell_11
def f_Mod_isOne (v1 : Int32) (M : Mem) : Option (Int32) :=
  Option.bind (f_Mod_in v1 (0 : Int32) ((M.1 162 4) - (1 : Int32))) fun x1 =>
  if x1 = 0 ∨ x1 = 1 then some x1 else none
theorem c_Mod_isOne (l : Launch) (G : Gw)  (v1 : Int32) (M : Mem) (x : Int32) (h : f_Mod_isOne v1 M = some x) (d : Nat) (hD : 2 ≤ d) : Ci l G y_Mod_isOne b_Mod_isOne 2 (some .boolean) d [.ref (G.2.2 + 162), .int v1] M (fun r9 M9 => r9 = x ∧ M9 = M) := by
  refine Ci_of (by decide) (Nat.le_of_ble_eq_true rfl) (fun E hE X => ?_)
  subst hE
  have kr : ∀ x9 : Int32, x = x9 → (fun r9 M9 => r9 = x ∧ M9 = M) x9 M := fun x9 e9 => by subst e9; exact ⟨rfl, rfl⟩
  unfold f_Mod_isOne at h
  refine V_iload_n (n := 1) X d_Mod_isOne_0 rfl rfl rfl ?_
  refine V_iconst (v := 0) X d_Mod_isOne_1 (by decide) rfl ?_
  refine V_aload_n (n := 0) X d_Mod_isOne_2 rfl rfl rfl ?_
  refine V_geti X fo_Mod_123 kd_162 rfl d_Mod_isOne_3 rfl ?_
  refine V_iconst (v := 1) X d_Mod_isOne_6 (by decide) rfl ?_
  refine V_isub X d_Mod_isOne_7 rfl ?_
  obtain ⟨x1, hx1, h⟩ := ob_s h
  refine V_si (As := [.int v1, .int (0 : Int32), .int ((M.1 162 4) - (1 : Int32))]) X (Z0 E) ml_Mod_119 yq_Mod_in (c_Mod_in E.2.1 G v1 (0 : Int32) ((M.1 162 4) - (1 : Int32)) M x1 hx1 _ (Nat.le_refl _)) rfl (by omega) rfl (Nat.le_of_ble_eq_true rfl) d_Mod_isOne_8 rfl (fun r9 M9 hq => ?_)
  rw [hq.1, hq.2]
  obtain ⟨hq, h⟩ := ifn h
  exact V_zret X (kr x1 (Option.some.inj h).symm) hq d_Mod_isOne_11
def f_Mod_areTwo (v1 : Int32) (v2 : Int32) (M : Mem) : Option (Int32) :=
  Option.bind (f_Mod_isOne v1 M) fun x1 =>
  if x1 = 0 then
  some (0 : Int32)
  else
  Option.bind (f_Mod_isOne v2 M) fun x2 =>
  if x2 = 0 then
  some (0 : Int32)
  else
  if v1 = v2 then
  some (0 : Int32)
  else
  some (1 : Int32)
theorem c_Mod_areTwo (l : Launch) (G : Gw)  (v1 : Int32) (v2 : Int32) (M : Mem) (x : Int32) (h : f_Mod_areTwo v1 v2 M = some x) (d : Nat) (hD : 3 ≤ d) : Ci l G y_Mod_areTwo b_Mod_areTwo 3 (some .boolean) d [.ref (G.2.2 + 162), .int v1, .int v2] M (fun r9 M9 => r9 = x ∧ M9 = M) := by
  refine Ci_of (by decide) (Nat.le_of_ble_eq_true rfl) (fun E hE X => ?_)
  subst hE
  have kr : ∀ x9 : Int32, x = x9 → (fun r9 M9 => r9 = x ∧ M9 = M) x9 M := fun x9 e9 => by subst e9; exact ⟨rfl, rfl⟩
  unfold f_Mod_areTwo at h
  refine V_aload_n (n := 0) X d_Mod_areTwo_0 rfl rfl rfl ?_
  refine V_iload_n (n := 1) X d_Mod_areTwo_1 rfl rfl rfl ?_
  obtain ⟨x1, hx1, h⟩ := ob_s h
  refine V_ci (As := [.int v1]) X (Z0 E) ml_Mod_126 yq_Mod_isOne (c_Mod_isOne E.2.1 G v1 M x1 hx1 _ (Nat.le_refl _)) kd_162 rfl rfl (by omega) rfl (Nat.le_of_ble_eq_true rfl) d_Mod_areTwo_2 rfl (fun r9 M9 hq => ?_)
  rw [hq.1, hq.2]
  refine V_if_eq (tgt := 25) X d_Mod_areTwo_5 (by decide) rfl (fun c5 => ?_) (fun c5 => ?_)
  · rw [if_pos c5] at h
    refine V_iconst (v := 0) X d_Mod_areTwo_25 (by decide) rfl ?_
    exact V_zret X (kr (0 : Int32) (Option.some.inj h).symm) (by decide) d_Mod_areTwo_26
  · rw [if_neg c5] at h
    refine V_aload_n (n := 0) X d_Mod_areTwo_8 rfl rfl rfl ?_
    refine V_iload_n (n := 2) X d_Mod_areTwo_9 rfl rfl rfl ?_
    obtain ⟨x2, hx2, h⟩ := ob_s h
    refine V_ci (As := [.int v2]) X (Z0 E) ml_Mod_126 yq_Mod_isOne (c_Mod_isOne E.2.1 G v2 M x2 hx2 _ (Nat.le_refl _)) kd_162 rfl rfl (by omega) rfl (Nat.le_of_ble_eq_true rfl) d_Mod_areTwo_10 rfl (fun r9 M9 hq => ?_)
    rw [hq.1, hq.2]
    refine V_if_eq (tgt := 25) X d_Mod_areTwo_13 (by decide) rfl (fun c4 => ?_) (fun c4 => ?_)
    · rw [if_pos c4] at h
      refine V_iconst (v := 0) X d_Mod_areTwo_25 (by decide) rfl ?_
      exact V_zret X (kr (0 : Int32) (Option.some.inj h).symm) (by decide) d_Mod_areTwo_26
    · rw [if_neg c4] at h
      refine V_iload_n (n := 1) X d_Mod_areTwo_16 rfl rfl rfl ?_
      refine V_iload_n (n := 2) X d_Mod_areTwo_17 rfl rfl rfl ?_
      refine V_icmp_eq (tgt := 25) X d_Mod_areTwo_18 (by decide) rfl (fun c3 => ?_) (fun c3 => ?_)
      · rw [if_pos c3] at h
        refine V_iconst (v := 0) X d_Mod_areTwo_25 (by decide) rfl ?_
        exact V_zret X (kr (0 : Int32) (Option.some.inj h).symm) (by decide) d_Mod_areTwo_26
      · rw [if_neg c3] at h
        refine V_iconst (v := 1) X d_Mod_areTwo_21 (by decide) rfl ?_
        refine V_goto (pc' := 26) X d_Mod_areTwo_22 (by decide) ?_
        exact V_zret X (kr (1 : Int32) (Option.some.inj h).symm) (by decide) d_Mod_areTwo_26
def f_Mod_areManWoman (v1 : Int32) (v2 : Int32) (M : Mem) : Option (Int32) :=
  Option.bind (f_Mod_isOne v1 M) fun x1 =>
  if x1 = 0 then
  some (0 : Int32)
  else
  Option.bind (f_Mod_isOne v2 M) fun x2 =>
  if x2 = 0 then
  some (0 : Int32)
  else
  Option.bind (f_Mod_has (M.1 162 5) v1) fun x3 =>
  if x3 = 0 then
  Option.bind (f_Mod_has (M.1 162 5) v2) fun x4 =>
  if x4 = 0 then
  some (0 : Int32)
  else
  some (1 : Int32)
  else
  some (0 : Int32)
theorem c_Mod_areManWoman (l : Launch) (G : Gw)  (v1 : Int32) (v2 : Int32) (M : Mem) (x : Int32) (h : f_Mod_areManWoman v1 v2 M = some x) (d : Nat) (hD : 3 ≤ d) : Ci l G y_Mod_areManWoman b_Mod_areManWoman 3 (some .boolean) d [.ref (G.2.2 + 162), .int v1, .int v2] M (fun r9 M9 => r9 = x ∧ M9 = M) := by
  refine Ci_of (by decide) (Nat.le_of_ble_eq_true rfl) (fun E hE X => ?_)
  subst hE
  have kr : ∀ x9 : Int32, x = x9 → (fun r9 M9 => r9 = x ∧ M9 = M) x9 M := fun x9 e9 => by subst e9; exact ⟨rfl, rfl⟩
  unfold f_Mod_areManWoman at h
  refine V_aload_n (n := 0) X d_Mod_areManWoman_0 rfl rfl rfl ?_
  refine V_iload_n (n := 1) X d_Mod_areManWoman_1 rfl rfl rfl ?_
  obtain ⟨x1, hx1, h⟩ := ob_s h
  refine V_ci (As := [.int v1]) X (Z0 E) ml_Mod_126 yq_Mod_isOne (c_Mod_isOne E.2.1 G v1 M x1 hx1 _ (Nat.le_refl _)) kd_162 rfl rfl (by omega) rfl (Nat.le_of_ble_eq_true rfl) d_Mod_areManWoman_2 rfl (fun r9 M9 hq => ?_)
  rw [hq.1, hq.2]
  refine V_if_eq (tgt := 42) X d_Mod_areManWoman_5 (by decide) rfl (fun c8 => ?_) (fun c8 => ?_)
  · rw [if_pos c8] at h
    refine V_iconst (v := 0) X d_Mod_areManWoman_42 (by decide) rfl ?_
    exact V_zret X (kr (0 : Int32) (Option.some.inj h).symm) (by decide) d_Mod_areManWoman_43
  · rw [if_neg c8] at h
    refine V_aload_n (n := 0) X d_Mod_areManWoman_8 rfl rfl rfl ?_
    refine V_iload_n (n := 2) X d_Mod_areManWoman_9 rfl rfl rfl ?_
    obtain ⟨x2, hx2, h⟩ := ob_s h
    refine V_ci (As := [.int v2]) X (Z0 E) ml_Mod_126 yq_Mod_isOne (c_Mod_isOne E.2.1 G v2 M x2 hx2 _ (Nat.le_refl _)) kd_162 rfl rfl (by omega) rfl (Nat.le_of_ble_eq_true rfl) d_Mod_areManWoman_10 rfl (fun r9 M9 hq => ?_)
    rw [hq.1, hq.2]
    refine V_if_eq (tgt := 42) X d_Mod_areManWoman_13 (by decide) rfl (fun c7 => ?_) (fun c7 => ?_)
    · rw [if_pos c7] at h
      refine V_iconst (v := 0) X d_Mod_areManWoman_42 (by decide) rfl ?_
      exact V_zret X (kr (0 : Int32) (Option.some.inj h).symm) (by decide) d_Mod_areManWoman_43
    · rw [if_neg c7] at h
      refine V_aload_n (n := 0) X d_Mod_areManWoman_16 rfl rfl rfl ?_
      refine V_geti X fo_Mod_130 kd_162 rfl d_Mod_areManWoman_17 rfl ?_
      refine V_iload_n (n := 1) X d_Mod_areManWoman_20 rfl rfl rfl ?_
      obtain ⟨x3, hx3, h⟩ := ob_s h
      refine V_si (As := [.int (M.1 162 5), .int v1]) X (Z0 E) ml_Mod_133 yq_Mod_has (c_Mod_has E.2.1 G (M.1 162 5) v1 M x3 hx3 _ (Nat.le_refl _)) rfl (by omega) rfl (Nat.le_of_ble_eq_true rfl) d_Mod_areManWoman_21 rfl (fun r9 M9 hq => ?_)
      rw [hq.1, hq.2]
      refine V_if_ne (tgt := 42) X d_Mod_areManWoman_24 (by decide) rfl (fun c6 => ?_) (fun c6 => ?_)
      · rw [if_neg c6] at h
        refine V_iconst (v := 0) X d_Mod_areManWoman_42 (by decide) rfl ?_
        exact V_zret X (kr (0 : Int32) (Option.some.inj h).symm) (by decide) d_Mod_areManWoman_43
      · rw [if_pos c6] at h
        refine V_aload_n (n := 0) X d_Mod_areManWoman_27 rfl rfl rfl ?_
        refine V_geti X fo_Mod_130 kd_162 rfl d_Mod_areManWoman_28 rfl ?_
        refine V_iload_n (n := 2) X d_Mod_areManWoman_31 rfl rfl rfl ?_
        obtain ⟨x4, hx4, h⟩ := ob_s h
        refine V_si (As := [.int (M.1 162 5), .int v2]) X (Z0 E) ml_Mod_133 yq_Mod_has (c_Mod_has E.2.1 G (M.1 162 5) v2 M x4 hx4 _ (Nat.le_refl _)) rfl (by omega) rfl (Nat.le_of_ble_eq_true rfl) d_Mod_areManWoman_32 rfl (fun r9 M9 hq => ?_)
        rw [hq.1, hq.2]
        refine V_if_eq (tgt := 42) X d_Mod_areManWoman_35 (by decide) rfl (fun c5 => ?_) (fun c5 => ?_)
        · rw [if_pos c5] at h
          refine V_iconst (v := 0) X d_Mod_areManWoman_42 (by decide) rfl ?_
          exact V_zret X (kr (0 : Int32) (Option.some.inj h).symm) (by decide) d_Mod_areManWoman_43
        · rw [if_neg c5] at h
          refine V_iconst (v := 1) X d_Mod_areManWoman_38 (by decide) rfl ?_
          refine V_goto (pc' := 43) X d_Mod_areManWoman_39 (by decide) ?_
          exact V_zret X (kr (1 : Int32) (Option.some.inj h).symm) (by decide) d_Mod_areManWoman_43
def f_Mod_isOf (v1 : Int32) (v2 : Int32) (M : Mem) : Option (Int32) :=
  Option.bind (f_Mod_isCell v2 M) fun x1 =>
  if x1 = 0 then
  some (0 : Int32)
  else
  if v1 = 0 then
  if inb v2 36 = true then
  if (M.1 164 v2.toNatClampNeg) = (1 : Int32) then
  some (1 : Int32)
  else
  if inb v2 36 = true then
  if (M.1 164 v2.toNatClampNeg) = (3 : Int32) then
  some (1 : Int32)
  else
  some (0 : Int32)
  else none
  else none
  else
  if inb v2 36 = true then
  if (M.1 164 v2.toNatClampNeg) = (2 : Int32) then
  some (1 : Int32)
  else
  if inb v2 36 = true then
  if (M.1 164 v2.toNatClampNeg) = (3 : Int32) then
  some (1 : Int32)
  else
  some (0 : Int32)
  else none
  else none
theorem c_Mod_isOf (l : Launch) (G : Gw)  (v1 : Int32) (v2 : Int32) (M : Mem) (x : Int32) (h : f_Mod_isOf v1 v2 M = some x) (d : Nat) (hD : 3 ≤ d) : Ci l G y_Mod_isOf b_Mod_isOf 3 (some .boolean) d [.ref (G.2.2 + 162), .int v1, .int v2] M (fun r9 M9 => r9 = x ∧ M9 = M) := by
  refine Ci_of (by decide) (Nat.le_of_ble_eq_true rfl) (fun E hE X => ?_)
  subst hE
  have kr : ∀ x9 : Int32, x = x9 → (fun r9 M9 => r9 = x ∧ M9 = M) x9 M := fun x9 e9 => by subst e9; exact ⟨rfl, rfl⟩
  unfold f_Mod_isOf at h
  refine V_aload_n (n := 0) X d_Mod_isOf_0 rfl rfl rfl ?_
  refine V_iload_n (n := 2) X d_Mod_isOf_1 rfl rfl rfl ?_
  obtain ⟨x1, hx1, h⟩ := ob_s h
  refine V_ci (As := [.int v2]) X (Z0 E) ml_Mod_137 yq_Mod_isCell (c_Mod_isCell E.2.1 G v2 M x1 hx1 _ (Nat.le_refl _)) kd_162 rfl rfl (by omega) rfl (Nat.le_of_ble_eq_true rfl) d_Mod_isOf_2 rfl (fun r9 M9 hq => ?_)
  rw [hq.1, hq.2]
  refine V_if_eq (tgt := 59) X d_Mod_isOf_5 (by decide) rfl (fun c7 => ?_) (fun c7 => ?_)
  · rw [if_pos c7] at h
    refine V_iconst (v := 0) X d_Mod_isOf_59 (by decide) rfl ?_
    exact V_zret X (kr (0 : Int32) (Option.some.inj h).symm) (by decide) d_Mod_isOf_60
  · rw [if_neg c7] at h
    refine V_iload_n (n := 1) X d_Mod_isOf_8 rfl rfl rfl ?_
    refine V_if_ne (tgt := 35) X d_Mod_isOf_9 (by decide) rfl (fun c6 => ?_) (fun c6 => ?_)
    · rw [if_neg c6] at h
      refine V_aload_n (n := 0) X d_Mod_isOf_35 rfl rfl rfl ?_
      refine V_getr (k2 := 164) X fo_Mod_13 kd_162 rfl rf_162_1 d_Mod_isOf_36 rfl ?_
      refine V_iload_n (n := 2) X d_Mod_isOf_39 rfl rfl rfl ?_
      obtain ⟨hb, h⟩ := ifn h
      refine V_iald X kd_164 (inb_in ln_164 hb) d_Mod_isOf_40 rfl ?_
      refine V_iconst (v := 2) X d_Mod_isOf_41 (by decide) rfl ?_
      refine V_icmp_eq (tgt := 55) X d_Mod_isOf_42 (by decide) rfl (fun c3 => ?_) (fun c3 => ?_)
      · rw [if_pos c3] at h
        refine V_iconst (v := 1) X d_Mod_isOf_55 (by decide) rfl ?_
        refine V_goto (pc' := 60) X d_Mod_isOf_56 (by decide) ?_
        exact V_zret X (kr (1 : Int32) (Option.some.inj h).symm) (by decide) d_Mod_isOf_60
      · rw [if_neg c3] at h
        refine V_aload_n (n := 0) X d_Mod_isOf_45 rfl rfl rfl ?_
        refine V_getr (k2 := 164) X fo_Mod_13 kd_162 rfl rf_162_1 d_Mod_isOf_46 rfl ?_
        refine V_iload_n (n := 2) X d_Mod_isOf_49 rfl rfl rfl ?_
        obtain ⟨hb, h⟩ := ifn h
        refine V_iald X kd_164 (inb_in ln_164 hb) d_Mod_isOf_50 rfl ?_
        refine V_iconst (v := 3) X d_Mod_isOf_51 (by decide) rfl ?_
        refine V_icmp_ne (tgt := 59) X d_Mod_isOf_52 (by decide) rfl (fun c2 => ?_) (fun c2 => ?_)
        · rw [if_neg c2] at h
          refine V_iconst (v := 0) X d_Mod_isOf_59 (by decide) rfl ?_
          exact V_zret X (kr (0 : Int32) (Option.some.inj h).symm) (by decide) d_Mod_isOf_60
        · rw [if_pos c2] at h
          refine V_iconst (v := 1) X d_Mod_isOf_55 (by decide) rfl ?_
          refine V_goto (pc' := 60) X d_Mod_isOf_56 (by decide) ?_
          exact V_zret X (kr (1 : Int32) (Option.some.inj h).symm) (by decide) d_Mod_isOf_60
    · rw [if_pos c6] at h
      refine V_aload_n (n := 0) X d_Mod_isOf_12 rfl rfl rfl ?_
      refine V_getr (k2 := 164) X fo_Mod_13 kd_162 rfl rf_162_1 d_Mod_isOf_13 rfl ?_
      refine V_iload_n (n := 2) X d_Mod_isOf_16 rfl rfl rfl ?_
      obtain ⟨hb, h⟩ := ifn h
      refine V_iald X kd_164 (inb_in ln_164 hb) d_Mod_isOf_17 rfl ?_
      refine V_iconst (v := 1) X d_Mod_isOf_18 (by decide) rfl ?_
      refine V_icmp_eq (tgt := 55) X d_Mod_isOf_19 (by decide) rfl (fun c5 => ?_) (fun c5 => ?_)
      · rw [if_pos c5] at h
        refine V_iconst (v := 1) X d_Mod_isOf_55 (by decide) rfl ?_
        refine V_goto (pc' := 60) X d_Mod_isOf_56 (by decide) ?_
        exact V_zret X (kr (1 : Int32) (Option.some.inj h).symm) (by decide) d_Mod_isOf_60
      · rw [if_neg c5] at h
        refine V_aload_n (n := 0) X d_Mod_isOf_22 rfl rfl rfl ?_
        refine V_getr (k2 := 164) X fo_Mod_13 kd_162 rfl rf_162_1 d_Mod_isOf_23 rfl ?_
        refine V_iload_n (n := 2) X d_Mod_isOf_26 rfl rfl rfl ?_
        obtain ⟨hb, h⟩ := ifn h
        refine V_iald X kd_164 (inb_in ln_164 hb) d_Mod_isOf_27 rfl ?_
        refine V_iconst (v := 3) X d_Mod_isOf_28 (by decide) rfl ?_
        refine V_icmp_ne (tgt := 59) X d_Mod_isOf_29 (by decide) rfl (fun c4 => ?_) (fun c4 => ?_)
        · rw [if_neg c4] at h
          refine V_iconst (v := 0) X d_Mod_isOf_59 (by decide) rfl ?_
          exact V_zret X (kr (0 : Int32) (Option.some.inj h).symm) (by decide) d_Mod_isOf_60
        · rw [if_pos c4] at h
          refine V_goto (pc' := 55) X d_Mod_isOf_32 (by decide) ?_
          refine V_iconst (v := 1) X d_Mod_isOf_55 (by decide) rfl ?_
          refine V_goto (pc' := 60) X d_Mod_isOf_56 (by decide) ?_
          exact V_zret X (kr (1 : Int32) (Option.some.inj h).symm) (by decide) d_Mod_isOf_60
def f_Mod_isPlaceOf (v1 : Int32) (v2 : Int32) (M : Mem) : Option (Int32) :=
  Option.bind (f_Mod_in v1 (0 : Int32) (1 : Int32)) fun x1 =>
  if x1 = 0 then
  some (0 : Int32)
  else
  Option.bind (f_Mod_isOf v1 v2 M) fun x2 =>
  if x2 = 0 then
  some (0 : Int32)
  else
  some (1 : Int32)
theorem c_Mod_isPlaceOf (l : Launch) (G : Gw)  (v1 : Int32) (v2 : Int32) (M : Mem) (x : Int32) (h : f_Mod_isPlaceOf v1 v2 M = some x) (d : Nat) (hD : 4 ≤ d) : Ci l G y_Mod_isPlaceOf b_Mod_isPlaceOf 3 (some .boolean) d [.ref (G.2.2 + 162), .int v1, .int v2] M (fun r9 M9 => r9 = x ∧ M9 = M) := by
  refine Ci_of (by decide) (Nat.le_of_ble_eq_true rfl) (fun E hE X => ?_)
  subst hE
  have kr : ∀ x9 : Int32, x = x9 → (fun r9 M9 => r9 = x ∧ M9 = M) x9 M := fun x9 e9 => by subst e9; exact ⟨rfl, rfl⟩
  unfold f_Mod_isPlaceOf at h
  refine V_iload_n (n := 1) X d_Mod_isPlaceOf_0 rfl rfl rfl ?_
  refine V_iconst (v := 0) X d_Mod_isPlaceOf_1 (by decide) rfl ?_
  refine V_iconst (v := 1) X d_Mod_isPlaceOf_2 (by decide) rfl ?_
  obtain ⟨x1, hx1, h⟩ := ob_s h
  refine V_si (As := [.int v1, .int (0 : Int32), .int (1 : Int32)]) X (Z0 E) ml_Mod_119 yq_Mod_in (c_Mod_in E.2.1 G v1 (0 : Int32) (1 : Int32) M x1 hx1 _ (Nat.le_refl _)) rfl (by omega) rfl (Nat.le_of_ble_eq_true rfl) d_Mod_isPlaceOf_3 rfl (fun r9 M9 hq => ?_)
  rw [hq.1, hq.2]
  refine V_if_eq (tgt := 22) X d_Mod_isPlaceOf_6 (by decide) rfl (fun c4 => ?_) (fun c4 => ?_)
  · rw [if_pos c4] at h
    refine V_iconst (v := 0) X d_Mod_isPlaceOf_22 (by decide) rfl ?_
    exact V_zret X (kr (0 : Int32) (Option.some.inj h).symm) (by decide) d_Mod_isPlaceOf_23
  · rw [if_neg c4] at h
    refine V_aload_n (n := 0) X d_Mod_isPlaceOf_9 rfl rfl rfl ?_
    refine V_iload_n (n := 1) X d_Mod_isPlaceOf_10 rfl rfl rfl ?_
    refine V_iload_n (n := 2) X d_Mod_isPlaceOf_11 rfl rfl rfl ?_
    obtain ⟨x2, hx2, h⟩ := ob_s h
    refine V_ci (As := [.int v1, .int v2]) X (Z0 E) ml_Mod_140 yq_Mod_isOf (c_Mod_isOf E.2.1 G v1 v2 M x2 hx2 _ (Nat.le_refl _)) kd_162 rfl rfl (by omega) rfl (Nat.le_of_ble_eq_true rfl) d_Mod_isPlaceOf_12 rfl (fun r9 M9 hq => ?_)
    rw [hq.1, hq.2]
    refine V_if_eq (tgt := 22) X d_Mod_isPlaceOf_15 (by decide) rfl (fun c3 => ?_) (fun c3 => ?_)
    · rw [if_pos c3] at h
      refine V_iconst (v := 0) X d_Mod_isPlaceOf_22 (by decide) rfl ?_
      exact V_zret X (kr (0 : Int32) (Option.some.inj h).symm) (by decide) d_Mod_isPlaceOf_23
    · rw [if_neg c3] at h
      refine V_iconst (v := 1) X d_Mod_isPlaceOf_18 (by decide) rfl ?_
      refine V_goto (pc' := 23) X d_Mod_isPlaceOf_19 (by decide) ?_
      exact V_zret X (kr (1 : Int32) (Option.some.inj h).symm) (by decide) d_Mod_isPlaceOf_23
def f_Mod_placeOf (v0 : Int32) (v1 : Int32) : Option (Int32) :=
  some (((36 : Int32) * v0) + v1)
theorem c_Mod_placeOf (l : Launch) (G : Gw)  (v0 : Int32) (v1 : Int32) (M : Mem) (x : Int32) (h : f_Mod_placeOf v0 v1 = some x) (d : Nat) (hD : 1 ≤ d) : Ci l G y_Mod_placeOf b_Mod_placeOf 2 (some .int) d [.int v0, .int v1] M (fun r9 M9 => r9 = x ∧ M9 = M) := by
  refine Ci_of (by decide) (Nat.le_of_ble_eq_true rfl) (fun E hE X => ?_)
  subst hE
  have kr : ∀ x9 : Int32, x = x9 → (fun r9 M9 => r9 = x ∧ M9 = M) x9 M := fun x9 e9 => by subst e9; exact ⟨rfl, rfl⟩
  unfold f_Mod_placeOf at h
  refine V_bipush (v := 36) X d_Mod_placeOf_0 (by decide) rfl ?_
  refine V_iload_n (n := 0) X d_Mod_placeOf_2 rfl rfl rfl ?_
  refine V_imul X d_Mod_placeOf_3 rfl ?_
  refine V_iload_n (n := 1) X d_Mod_placeOf_4 rfl rfl rfl ?_
  refine V_iadd X d_Mod_placeOf_5 rfl ?_
  exact V_iret X (kr (((36 : Int32) * v0) + v1) (Option.some.inj h).symm) d_Mod_placeOf_6
def f_Mod_cellOf (v0 : Int32) : Option (Int32) :=
  some (v0 - v0 / (36 : Int32) * (36 : Int32))
theorem c_Mod_cellOf (l : Launch) (G : Gw)  (v0 : Int32) (M : Mem) (x : Int32) (h : f_Mod_cellOf v0 = some x) (d : Nat) (hD : 1 ≤ d) : Ci l G y_Mod_cellOf b_Mod_cellOf 1 (some .int) d [.int v0] M (fun r9 M9 => r9 = x ∧ M9 = M) := by
  refine Ci_of (by decide) (Nat.le_of_ble_eq_true rfl) (fun E hE X => ?_)
  subst hE
  have kr : ∀ x9 : Int32, x = x9 → (fun r9 M9 => r9 = x ∧ M9 = M) x9 M := fun x9 e9 => by subst e9; exact ⟨rfl, rfl⟩
  unfold f_Mod_cellOf at h
  refine V_iload_n (n := 0) X d_Mod_cellOf_0 rfl rfl rfl ?_
  refine V_bipush (v := 36) X d_Mod_cellOf_1 (by decide) rfl ?_
  refine V_irem X d_Mod_cellOf_3 (by decide) rfl ?_
  exact V_iret X (kr (v0 - v0 / (36 : Int32) * (36 : Int32)) (Option.some.inj h).symm) d_Mod_cellOf_4
def f_Mod_levelOf (v0 : Int32) : Option (Int32) :=
  some (v0 / (36 : Int32))
theorem c_Mod_levelOf (l : Launch) (G : Gw)  (v0 : Int32) (M : Mem) (x : Int32) (h : f_Mod_levelOf v0 = some x) (d : Nat) (hD : 1 ≤ d) : Ci l G y_Mod_levelOf b_Mod_levelOf 1 (some .int) d [.int v0] M (fun r9 M9 => r9 = x ∧ M9 = M) := by
  refine Ci_of (by decide) (Nat.le_of_ble_eq_true rfl) (fun E hE X => ?_)
  subst hE
  have kr : ∀ x9 : Int32, x = x9 → (fun r9 M9 => r9 = x ∧ M9 = M) x9 M := fun x9 e9 => by subst e9; exact ⟨rfl, rfl⟩
  unfold f_Mod_levelOf at h
  refine V_iload_n (n := 0) X d_Mod_levelOf_0 rfl rfl rfl ?_
  refine V_bipush (v := 36) X d_Mod_levelOf_1 (by decide) rfl ?_
  refine V_idiv X d_Mod_levelOf_3 (by decide) rfl ?_
  exact V_iret X (kr (v0 / (36 : Int32)) (Option.some.inj h).symm) d_Mod_levelOf_4
def j_Mod_beside_51 (v3 : Int32) (w0 : Int32) (w1 : Int32) (M : Mem) : Option (Int32) :=
  Option.bind (f_Mod_in v3 (0 : Int32) ((M.1 162 2) - (1 : Int32))) fun x1 =>
  if x1 = 0 then
  some (-1 : Int32)
  else
  Option.bind (f_Mod_in (w1 + w0) (0 : Int32) ((M.1 162 3) - (1 : Int32))) fun x2 =>
  if x2 = 0 then
  some (-1 : Int32)
  else
  some (((M.1 162 2) * (w1 + w0)) + v3)
theorem j_Mod_beside_51_ok {E : Ev} {G : Gw} {d : Nat} {post : Int32 → Mem → Prop} (X : Cx E G b_Mod_beside "WomenByTheRoofsModel" 5 d (some .int)) (hD : 2 ≤ d)  (v3 : Int32) (w0 : Int32) (w1 : Int32)  (M : Mem)  (o : Int32) (h : j_Mod_beside_51 v3 w0 w1 M = some o) (kr : ∀ x9 : Int32, o = x9 → post x9 M) : V E (0, 0) G 5 (QI E G post) M 51 [(0, .ref (G.2.2 + 162)), (3, .int v3)] [.int w0, .int w1] := by
  unfold j_Mod_beside_51 at h
  refine V_iadd X d_Mod_beside_51 rfl ?_
  refine V_istore (lv' := [(4, .int (w1 + w0)), (0, .ref (G.2.2 + 162)), (3, .int v3)]) X d_Mod_beside_52 (by decide) rfl rfl ?_
  refine V_iload_n (n := 2) X d_Mod_beside_54 rfl rfl rfl ?_
  refine V_iconst (v := 0) X d_Mod_beside_55 (by decide) rfl ?_
  refine V_aload_n (n := 1) X d_Mod_beside_56 rfl rfl rfl ?_
  refine V_geti X fo_Mod_16 kd_162 rfl d_Mod_beside_57 rfl ?_
  refine V_iconst (v := 1) X d_Mod_beside_60 (by decide) rfl ?_
  refine V_isub X d_Mod_beside_61 rfl ?_
  obtain ⟨x1, hx1, h⟩ := ob_s h
  refine V_si (As := [.int v3, .int (0 : Int32), .int ((M.1 162 2) - (1 : Int32))]) X (Z0 E) ml_Mod_119 yq_Mod_in (c_Mod_in E.2.1 G v3 (0 : Int32) ((M.1 162 2) - (1 : Int32)) M x1 hx1 _ (Nat.le_refl _)) rfl (by omega) rfl (Nat.le_of_ble_eq_true rfl) d_Mod_beside_62 rfl (fun r9 M9 hq => ?_)
  rw [hq.1, hq.2]
  refine V_if_eq (tgt := 95) X d_Mod_beside_65 (by decide) rfl (fun c4 => ?_) (fun c4 => ?_)
  · rw [if_pos c4] at h
    refine V_iconst (v := -1) X d_Mod_beside_95 (by decide) rfl ?_
    exact V_iret X (kr (-1 : Int32) (Option.some.inj h).symm) d_Mod_beside_96
  · rw [if_neg c4] at h
    refine V_iload (n := 0) X d_Mod_beside_68 rfl rfl ?_
    refine V_iconst (v := 0) X d_Mod_beside_70 (by decide) rfl ?_
    refine V_aload_n (n := 1) X d_Mod_beside_71 rfl rfl rfl ?_
    refine V_geti X fo_Mod_20 kd_162 rfl d_Mod_beside_72 rfl ?_
    refine V_iconst (v := 1) X d_Mod_beside_75 (by decide) rfl ?_
    refine V_isub X d_Mod_beside_76 rfl ?_
    obtain ⟨x2, hx2, h⟩ := ob_s h
    refine V_si (As := [.int (w1 + w0), .int (0 : Int32), .int ((M.1 162 3) - (1 : Int32))]) X (Z0 E) ml_Mod_119 yq_Mod_in (c_Mod_in E.2.1 G (w1 + w0) (0 : Int32) ((M.1 162 3) - (1 : Int32)) M x2 hx2 _ (Nat.le_refl _)) rfl (by omega) rfl (Nat.le_of_ble_eq_true rfl) d_Mod_beside_77 rfl (fun r9 M9 hq => ?_)
    rw [hq.1, hq.2]
    refine V_if_eq (tgt := 95) X d_Mod_beside_80 (by decide) rfl (fun c3 => ?_) (fun c3 => ?_)
    · rw [if_pos c3] at h
      refine V_iconst (v := -1) X d_Mod_beside_95 (by decide) rfl ?_
      exact V_iret X (kr (-1 : Int32) (Option.some.inj h).symm) d_Mod_beside_96
    · rw [if_neg c3] at h
      refine V_aload_n (n := 1) X d_Mod_beside_83 rfl rfl rfl ?_
      refine V_geti X fo_Mod_16 kd_162 rfl d_Mod_beside_84 rfl ?_
      refine V_iload (n := 0) X d_Mod_beside_87 rfl rfl ?_
      refine V_imul X d_Mod_beside_89 rfl ?_
      refine V_iload_n (n := 2) X d_Mod_beside_90 rfl rfl rfl ?_
      refine V_iadd X d_Mod_beside_91 rfl ?_
      refine V_goto (pc' := 96) X d_Mod_beside_92 (by decide) ?_
      exact V_iret X (kr (((M.1 162 2) * (w1 + w0)) + v3) (Option.some.inj h).symm) d_Mod_beside_96
def j_Mod_beside_25 (v1 : Int32) (v2 : Int32) (w0 : Int32) (w1 : Int32) (M : Mem) : Option (Int32) :=
  if (M.1 162 2) = 0 then none else
  if v2 = (2 : Int32) then
  j_Mod_beside_51 (w1 + w0) (1 : Int32) (v1 / (M.1 162 2)) M
  else
  if v2 = 0 then
  j_Mod_beside_51 (w1 + w0) (-1 : Int32) (v1 / (M.1 162 2)) M
  else
  j_Mod_beside_51 (w1 + w0) (0 : Int32) (v1 / (M.1 162 2)) M
theorem j_Mod_beside_25_ok {E : Ev} {G : Gw} {d : Nat} {post : Int32 → Mem → Prop} (X : Cx E G b_Mod_beside "WomenByTheRoofsModel" 5 d (some .int)) (hD : 2 ≤ d)  (v1 : Int32) (v2 : Int32) (w0 : Int32) (w1 : Int32)  (M : Mem)  (o : Int32) (h : j_Mod_beside_25 v1 v2 w0 w1 M = some o) (kr : ∀ x9 : Int32, o = x9 → post x9 M) : V E (0, 0) G 5 (QI E G post) M 25 [(0, .ref (G.2.2 + 162)), (1, .int v1), (2, .int v2)] [.int w0, .int w1] := by
  unfold j_Mod_beside_25 at h
  refine V_iadd X d_Mod_beside_25 rfl ?_
  refine V_istore_n (lv' := [(3, .int (w1 + w0)), (0, .ref (G.2.2 + 162)), (1, .int v1), (2, .int v2)]) X d_Mod_beside_26 rfl (by decide) rfl rfl ?_
  refine V_iload_n (n := 2) X d_Mod_beside_27 rfl rfl rfl ?_
  refine V_aload_n (n := 1) X d_Mod_beside_28 rfl rfl rfl ?_
  refine V_geti X fo_Mod_16 kd_162 rfl d_Mod_beside_29 rfl ?_
  obtain ⟨hq, h⟩ := ifz h
  refine V_idiv X d_Mod_beside_32 hq rfl ?_
  refine V_iload_n (n := 3) X d_Mod_beside_33 rfl rfl rfl ?_
  refine V_iconst (v := 2) X d_Mod_beside_34 (by decide) rfl ?_
  refine V_icmp_ne (tgt := 42) X d_Mod_beside_35 (by decide) rfl (fun c6 => ?_) (fun c6 => ?_)
  · rw [if_neg c6] at h
    refine V_iload_n (n := 3) X d_Mod_beside_42 rfl rfl rfl ?_
    refine V_if_ne (tgt := 50) X d_Mod_beside_43 (by decide) rfl (fun c5 => ?_) (fun c5 => ?_)
    · rw [if_neg c5] at h
      refine V_iconst (v := 0) X d_Mod_beside_50 (by decide) rfl ?_
      refine V_sub (lv' := [(0, .ref (G.2.2 + 162)), (3, .int (w1 + w0))]) [1, 0] rfl ?_
      exact j_Mod_beside_51_ok X hD (w1 + w0) (0 : Int32) (v1 / (M.1 162 2)) M _ h kr
    · rw [if_pos c5] at h
      refine V_iconst (v := -1) X d_Mod_beside_46 (by decide) rfl ?_
      refine V_goto (pc' := 51) X d_Mod_beside_47 (by decide) ?_
      refine V_sub (lv' := [(0, .ref (G.2.2 + 162)), (3, .int (w1 + w0))]) [1, 0] rfl ?_
      exact j_Mod_beside_51_ok X hD (w1 + w0) (-1 : Int32) (v1 / (M.1 162 2)) M _ h kr
  · rw [if_pos c6] at h
    refine V_iconst (v := 1) X d_Mod_beside_38 (by decide) rfl ?_
    refine V_goto (pc' := 51) X d_Mod_beside_39 (by decide) ?_
    refine V_sub (lv' := [(0, .ref (G.2.2 + 162)), (3, .int (w1 + w0))]) [1, 0] rfl ?_
    exact j_Mod_beside_51_ok X hD (w1 + w0) (1 : Int32) (v1 / (M.1 162 2)) M _ h kr
def f_Mod_beside (v1 : Int32) (v2 : Int32) (M : Mem) : Option (Int32) :=
  if (M.1 162 2) = 0 then none else
  if v2 = (1 : Int32) then
  j_Mod_beside_25 v1 v2 (1 : Int32) (v1 - v1 / (M.1 162 2) * (M.1 162 2)) M
  else
  if v2 = (3 : Int32) then
  j_Mod_beside_25 v1 v2 (-1 : Int32) (v1 - v1 / (M.1 162 2) * (M.1 162 2)) M
  else
  j_Mod_beside_25 v1 v2 (0 : Int32) (v1 - v1 / (M.1 162 2) * (M.1 162 2)) M
theorem c_Mod_beside (l : Launch) (G : Gw)  (v1 : Int32) (v2 : Int32) (M : Mem) (x : Int32) (h : f_Mod_beside v1 v2 M = some x) (d : Nat) (hD : 2 ≤ d) : Ci l G y_Mod_beside b_Mod_beside 5 (some .int) d [.ref (G.2.2 + 162), .int v1, .int v2] M (fun r9 M9 => r9 = x ∧ M9 = M) := by
  refine Ci_of (by decide) (Nat.le_of_ble_eq_true rfl) (fun E hE X => ?_)
  subst hE
  have kr : ∀ x9 : Int32, x = x9 → (fun r9 M9 => r9 = x ∧ M9 = M) x9 M := fun x9 e9 => by subst e9; exact ⟨rfl, rfl⟩
  unfold f_Mod_beside at h
  refine V_iload_n (n := 1) X d_Mod_beside_0 rfl rfl rfl ?_
  refine V_aload_n (n := 0) X d_Mod_beside_1 rfl rfl rfl ?_
  refine V_geti X fo_Mod_16 kd_162 rfl d_Mod_beside_2 rfl ?_
  obtain ⟨hq, h⟩ := ifz h
  refine V_irem X d_Mod_beside_5 hq rfl ?_
  refine V_iload_n (n := 2) X d_Mod_beside_6 rfl rfl rfl ?_
  refine V_iconst (v := 1) X d_Mod_beside_7 (by decide) rfl ?_
  refine V_icmp_ne (tgt := 15) X d_Mod_beside_8 (by decide) rfl (fun c8 => ?_) (fun c8 => ?_)
  · rw [if_neg c8] at h
    refine V_iload_n (n := 2) X d_Mod_beside_15 rfl rfl rfl ?_
    refine V_iconst (v := 3) X d_Mod_beside_16 (by decide) rfl ?_
    refine V_icmp_ne (tgt := 24) X d_Mod_beside_17 (by decide) rfl (fun c7 => ?_) (fun c7 => ?_)
    · rw [if_neg c7] at h
      refine V_iconst (v := 0) X d_Mod_beside_24 (by decide) rfl ?_
      exact j_Mod_beside_25_ok X hD v1 v2 (0 : Int32) (v1 - v1 / (M.1 162 2) * (M.1 162 2)) M _ h kr
    · rw [if_pos c7] at h
      refine V_iconst (v := -1) X d_Mod_beside_20 (by decide) rfl ?_
      refine V_goto (pc' := 25) X d_Mod_beside_21 (by decide) ?_
      exact j_Mod_beside_25_ok X hD v1 v2 (-1 : Int32) (v1 - v1 / (M.1 162 2) * (M.1 162 2)) M _ h kr
  · rw [if_pos c8] at h
    refine V_iconst (v := 1) X d_Mod_beside_11 (by decide) rfl ?_
    refine V_goto (pc' := 25) X d_Mod_beside_12 (by decide) ?_
    exact j_Mod_beside_25_ok X hD v1 v2 (1 : Int32) (v1 - v1 / (M.1 162 2) * (M.1 162 2)) M _ h kr
def j_Mod_isPlank_44_2 (v0 : Nat) (v1 : Int32) (v2 : Int32) (v3 : Int32) (v4 : Int32) (v5 : Int32) (M : Mem) : Option ((Int32) ⊕ ((Unit) ⊕ (Unit))) :=
  if v4 = v2 then
  if v5 = v1 then
  some (.inr (Sum.inr ()))
  else
  some (.inl (v3 + (1 : Int32)))
  else
  some (.inl (v3 + (1 : Int32)))
theorem j_Mod_isPlank_44_2_ok {E : Ev} {G : Gw} {d : Nat} {post : Int32 → Mem → Prop} (X : Cx E G b_Mod_isPlank "WomenByTheRoofsModel" 6 d (some .boolean)) (hD : 1 ≤ d)  (v0 : Nat) (v1 : Int32) (v2 : Int32) (v3 : Int32) (v4 : Int32) (v5 : Int32) (hk_v0 : kd v0 = 1)  (M : Mem)  (o : (Int32) ⊕ ((Unit) ⊕ (Unit))) (h : j_Mod_isPlank_44_2 v0 v1 v2 v3 v4 v5 M = some o) (kc : ∀ s9 : Int32, o = .inl s9 → V E (0, 0) G 6 (QI E G post) M 2 [(0, .ref (G.2.2 + v0)), (1, .int v1), (2, .int v2), (3, .int s9)] []) (kx0 : ∀ x9 : Unit, o = .inr (Sum.inl x9) → V E (0, 0) G 6 (QI E G post) M 64 [] []) (kx1 : ∀ x9 : Unit, o = .inr (Sum.inr x9) → V E (0, 0) G 6 (QI E G post) M 56 [] []) : V E (0, 0) G 6 (QI E G post) M 44 [(0, .ref (G.2.2 + v0)), (1, .int v1), (2, .int v2), (3, .int v3), (4, .int v4), (5, .int v5)] [] := by
  unfold j_Mod_isPlank_44_2 at h
  refine V_iload (n := 4) X d_Mod_isPlank_44 rfl rfl ?_
  refine V_iload_n (n := 2) X d_Mod_isPlank_46 rfl rfl rfl ?_
  refine V_icmp_ne (tgt := 58) X d_Mod_isPlank_47 (by decide) rfl (fun c2 => ?_) (fun c2 => ?_)
  · rw [if_neg c2] at h
    refine V_iinc (n := 3) (v := (v3 + (1 : Int32))) (lv' := [(3, .int (v3 + (1 : Int32))), (0, .ref (G.2.2 + v0)), (1, .int v1), (2, .int v2), (4, .int v4), (5, .int v5)]) X d_Mod_isPlank_58 rfl rfl (by decide) rfl rfl ?_
    refine V_goto (pc' := 2) X d_Mod_isPlank_61 (by decide) ?_
    refine V_sub (lv' := [(0, .ref (G.2.2 + v0)), (1, .int v1), (2, .int v2), (3, .int (v3 + (1 : Int32)))]) [1, 2, 3, 0] rfl ?_
    exact kc (v3 + (1 : Int32)) (Option.some.inj h).symm
  · rw [if_pos c2] at h
    refine V_iload (n := 5) X d_Mod_isPlank_50 rfl rfl ?_
    refine V_iload_n (n := 1) X d_Mod_isPlank_52 rfl rfl rfl ?_
    refine V_icmp_ne (tgt := 58) X d_Mod_isPlank_53 (by decide) rfl (fun c1 => ?_) (fun c1 => ?_)
    · rw [if_neg c1] at h
      refine V_iinc (n := 3) (v := (v3 + (1 : Int32))) (lv' := [(3, .int (v3 + (1 : Int32))), (0, .ref (G.2.2 + v0)), (1, .int v1), (2, .int v2), (4, .int v4), (5, .int v5)]) X d_Mod_isPlank_58 rfl rfl (by decide) rfl rfl ?_
      refine V_goto (pc' := 2) X d_Mod_isPlank_61 (by decide) ?_
      refine V_sub (lv' := [(0, .ref (G.2.2 + v0)), (1, .int v1), (2, .int v2), (3, .int (v3 + (1 : Int32)))]) [1, 2, 3, 0] rfl ?_
      exact kc (v3 + (1 : Int32)) (Option.some.inj h).symm
    · rw [if_pos c1] at h
      refine V_sub (lv' := []) [] rfl ?_
      exact kx1 () (Option.some.inj h).symm
def lb_Mod_isPlank_2 (v0 : Nat) (v1 : Int32) (v2 : Int32) (M : Mem) (s : Int32) : Option ((Int32) ⊕ ((Unit) ⊕ (Unit))) :=
  if inb (92 : Int32) (ln v0) = true then
  if (M.1 v0 (92 : Int32).toNatClampNeg) ≤ s then
  some (.inr (Sum.inl ()))
  else
  if inb ((80 : Int32) + ((2 : Int32) * s)) (ln v0) = true then
  if inb (((80 : Int32) + ((2 : Int32) * s)) + (1 : Int32)) (ln v0) = true then
  if (M.1 v0 ((80 : Int32) + ((2 : Int32) * s)).toNatClampNeg) = v1 then
  if (M.1 v0 (((80 : Int32) + ((2 : Int32) * s)) + (1 : Int32)).toNatClampNeg) = v2 then
  some (.inr (Sum.inr ()))
  else
  j_Mod_isPlank_44_2 v0 v1 v2 s (M.1 v0 ((80 : Int32) + ((2 : Int32) * s)).toNatClampNeg) (M.1 v0 (((80 : Int32) + ((2 : Int32) * s)) + (1 : Int32)).toNatClampNeg) M
  else
  j_Mod_isPlank_44_2 v0 v1 v2 s (M.1 v0 ((80 : Int32) + ((2 : Int32) * s)).toNatClampNeg) (M.1 v0 (((80 : Int32) + ((2 : Int32) * s)) + (1 : Int32)).toNatClampNeg) M
  else none
  else none
  else none
theorem lb_Mod_isPlank_2_ok {E : Ev} {G : Gw} {d : Nat} {post : Int32 → Mem → Prop} (X : Cx E G b_Mod_isPlank "WomenByTheRoofsModel" 6 d (some .boolean)) (hD : 1 ≤ d)  (v0 : Nat) (v1 : Int32) (v2 : Int32) (hk_v0 : kd v0 = 1) (M : Mem) (s : Int32) (o : (Int32) ⊕ ((Unit) ⊕ (Unit))) (h : lb_Mod_isPlank_2 v0 v1 v2 M s = some o) (kc : ∀ s9 : Int32, o = .inl s9 → V E (0, 0) G 6 (QI E G post) M 2 [(0, .ref (G.2.2 + v0)), (1, .int v1), (2, .int v2), (3, .int s9)] []) (kx0 : ∀ x9 : Unit, o = .inr (Sum.inl x9) → V E (0, 0) G 6 (QI E G post) M 64 [] []) (kx1 : ∀ x9 : Unit, o = .inr (Sum.inr x9) → V E (0, 0) G 6 (QI E G post) M 56 [] []) : V E (0, 0) G 6 (QI E G post) M 2 [(0, .ref (G.2.2 + v0)), (1, .int v1), (2, .int v2), (3, .int s)] [] := by
  unfold lb_Mod_isPlank_2 at h
  refine V_iload_n (n := 3) X d_Mod_isPlank_2 rfl rfl rfl ?_
  refine V_aload_n (n := 0) X d_Mod_isPlank_3 rfl rfl rfl ?_
  refine V_bipush (v := 92) X d_Mod_isPlank_4 (by decide) rfl ?_
  obtain ⟨hb, h⟩ := ifn h
  refine V_iald X hk_v0 (inb_in rfl hb) d_Mod_isPlank_6 rfl ?_
  refine V_icmp_ge (tgt := 64) X d_Mod_isPlank_7 (by decide) rfl (fun c5 => ?_) (fun c5 => ?_)
  · rw [if_pos c5] at h
    refine V_sub (lv' := []) [] rfl ?_
    exact kx0 () (Option.some.inj h).symm
  · rw [if_neg c5] at h
    refine V_aload_n (n := 0) X d_Mod_isPlank_10 rfl rfl rfl ?_
    refine V_bipush (v := 80) X d_Mod_isPlank_11 (by decide) rfl ?_
    refine V_iconst (v := 2) X d_Mod_isPlank_13 (by decide) rfl ?_
    refine V_iload_n (n := 3) X d_Mod_isPlank_14 rfl rfl rfl ?_
    refine V_imul X d_Mod_isPlank_15 rfl ?_
    refine V_iadd X d_Mod_isPlank_16 rfl ?_
    obtain ⟨hb, h⟩ := ifn h
    refine V_iald X hk_v0 (inb_in rfl hb) d_Mod_isPlank_17 rfl ?_
    refine V_istore (lv' := [(4, .int (M.1 v0 ((80 : Int32) + ((2 : Int32) * s)).toNatClampNeg)), (0, .ref (G.2.2 + v0)), (1, .int v1), (2, .int v2), (3, .int s)]) X d_Mod_isPlank_18 (by decide) rfl rfl ?_
    refine V_aload_n (n := 1) X d_Mod_isPlank_20 rfl rfl rfl ?_
    refine V_bipush (v := 80) X d_Mod_isPlank_21 (by decide) rfl ?_
    refine V_iconst (v := 2) X d_Mod_isPlank_23 (by decide) rfl ?_
    refine V_iload_n (n := 4) X d_Mod_isPlank_24 rfl rfl rfl ?_
    refine V_imul X d_Mod_isPlank_25 rfl ?_
    refine V_iadd X d_Mod_isPlank_26 rfl ?_
    refine V_iconst (v := 1) X d_Mod_isPlank_27 (by decide) rfl ?_
    refine V_iadd X d_Mod_isPlank_28 rfl ?_
    obtain ⟨hb, h⟩ := ifn h
    refine V_iald X hk_v0 (inb_in rfl hb) d_Mod_isPlank_29 rfl ?_
    refine V_istore (lv' := [(5, .int (M.1 v0 (((80 : Int32) + ((2 : Int32) * s)) + (1 : Int32)).toNatClampNeg)), (4, .int (M.1 v0 ((80 : Int32) + ((2 : Int32) * s)).toNatClampNeg)), (0, .ref (G.2.2 + v0)), (1, .int v1), (2, .int v2), (3, .int s)]) X d_Mod_isPlank_30 (by decide) rfl rfl ?_
    refine V_iload (n := 1) X d_Mod_isPlank_32 rfl rfl ?_
    refine V_iload_n (n := 3) X d_Mod_isPlank_34 rfl rfl rfl ?_
    refine V_icmp_ne (tgt := 44) X d_Mod_isPlank_35 (by decide) rfl (fun c4 => ?_) (fun c4 => ?_)
    · rw [if_neg c4] at h
      refine V_sub (lv' := [(0, .ref (G.2.2 + v0)), (1, .int v1), (2, .int v2), (3, .int s), (4, .int (M.1 v0 ((80 : Int32) + ((2 : Int32) * s)).toNatClampNeg)), (5, .int (M.1 v0 (((80 : Int32) + ((2 : Int32) * s)) + (1 : Int32)).toNatClampNeg))]) [2, 3, 4, 5, 1, 0] rfl ?_
      exact j_Mod_isPlank_44_2_ok X hD v0 v1 v2 s (M.1 v0 ((80 : Int32) + ((2 : Int32) * s)).toNatClampNeg) (M.1 v0 (((80 : Int32) + ((2 : Int32) * s)) + (1 : Int32)).toNatClampNeg) hk_v0 M _ h kc kx0 kx1
    · rw [if_pos c4] at h
      refine V_iload (n := 0) X d_Mod_isPlank_38 rfl rfl ?_
      refine V_iload_n (n := 4) X d_Mod_isPlank_40 rfl rfl rfl ?_
      refine V_icmp_eq (tgt := 56) X d_Mod_isPlank_41 (by decide) rfl (fun c3 => ?_) (fun c3 => ?_)
      · rw [if_pos c3] at h
        refine V_sub (lv' := []) [] rfl ?_
        exact kx1 () (Option.some.inj h).symm
      · rw [if_neg c3] at h
        refine V_sub (lv' := [(0, .ref (G.2.2 + v0)), (1, .int v1), (2, .int v2), (3, .int s), (4, .int (M.1 v0 ((80 : Int32) + ((2 : Int32) * s)).toNatClampNeg)), (5, .int (M.1 v0 (((80 : Int32) + ((2 : Int32) * s)) + (1 : Int32)).toNatClampNeg))]) [2, 3, 4, 5, 1, 0] rfl ?_
        exact j_Mod_isPlank_44_2_ok X hD v0 v1 v2 s (M.1 v0 ((80 : Int32) + ((2 : Int32) * s)).toNatClampNeg) (M.1 v0 (((80 : Int32) + ((2 : Int32) * s)) + (1 : Int32)).toNatClampNeg) hk_v0 M _ h kc kx0 kx1
theorem lp_Mod_isPlank_2_ok {E : Ev} {G : Gw} {d : Nat} {post : Int32 → Mem → Prop} (X : Cx E G b_Mod_isPlank "WomenByTheRoofsModel" 6 d (some .boolean)) (hD : 1 ≤ d)  (v0 : Nat) (v1 : Int32) (v2 : Int32) (hk_v0 : kd v0 = 1) (M : Mem) (n9 : Nat) (s : Int32) (x : (Unit) ⊕ (Unit)) (h : iter (lb_Mod_isPlank_2 v0 v1 v2 M) n9 s = some x) (kx0 : ∀ x9 : Unit, x = (Sum.inl x9) → V E (0, 0) G 6 (QI E G post) M 64 [] []) (kx1 : ∀ x9 : Unit, x = (Sum.inr x9) → V E (0, 0) G 6 (QI E G post) M 56 [] []) : V E (0, 0) G 6 (QI E G post) M 2 [(0, .ref (G.2.2 + v0)), (1, .int v1), (2, .int v2), (3, .int s)] [] :=
  iter_P (P := fun s : Int32 => V E (0, 0) G 6 (QI E G post) M 2 [(0, .ref (G.2.2 + v0)), (1, .int v1), (2, .int v2), (3, .int s)] []) (fun s o hb kc ky => lb_Mod_isPlank_2_ok X hD v0 v1 v2 hk_v0 M s o hb kc (fun x9 e9 => kx0 x9 (ky _ e9).symm) (fun x9 e9 => kx1 x9 (ky _ e9).symm)) n9 s h
def f_Mod_isPlank (v0 : Nat) (v1 : Int32) (v2 : Int32) (M : Mem) : Option (Int32) :=
  if kd v0 = 1 then
  Option.bind (iter (lb_Mod_isPlank_2 v0 v1 v2 M) FU (0 : Int32)) (Sum.elim (fun y7 => some (0 : Int32)) (fun y8 => some (1 : Int32)))
  else none
theorem c_Mod_isPlank (l : Launch) (G : Gw)  (v0 : Nat) (v1 : Int32) (v2 : Int32) (M : Mem) (x : Int32) (h : f_Mod_isPlank v0 v1 v2 M = some x) (d : Nat) (hD : 1 ≤ d) : Ci l G y_Mod_isPlank b_Mod_isPlank 6 (some .boolean) d [.ref (G.2.2 + v0), .int v1, .int v2] M (fun r9 M9 => r9 = x ∧ M9 = M) := by
  refine Ci_of (by decide) (Nat.le_of_ble_eq_true rfl) (fun E hE X => ?_)
  subst hE
  have kr : ∀ x9 : Int32, x = x9 → (fun r9 M9 => r9 = x ∧ M9 = M) x9 M := fun x9 e9 => by subst e9; exact ⟨rfl, rfl⟩
  unfold f_Mod_isPlank at h
  obtain ⟨hk_v0, h⟩ := ifn h
  refine V_iconst (v := 0) X d_Mod_isPlank_0 (by decide) rfl ?_
  refine V_istore_n (lv' := [(3, .int (0 : Int32)), (0, .ref (G.2.2 + v0)), (1, .int v1), (2, .int v2)]) X d_Mod_isPlank_1 rfl (by decide) rfl rfl ?_
  refine V_sub (lv' := [(0, .ref (G.2.2 + v0)), (1, .int v1), (2, .int v2), (3, .int (0 : Int32))]) [1, 2, 3, 0] rfl ?_
  obtain ⟨x6, hx6, h⟩ := ob_s h
  rcases x6 with y7 | y8
  · simp only [Sum.elim_inl, Sum.elim_inr] at h
    refine (lp_Mod_isPlank_2_ok X hD v0 v1 v2 hk_v0 M _ _ _ hx6 (fun x9 e9 => ?_) (fun x9 e9 => by cases e9) :)
    cases e9
    refine V_iconst (v := 0) X d_Mod_isPlank_64 (by decide) rfl ?_
    exact V_zret X (kr (0 : Int32) (Option.some.inj h).symm) (by decide) d_Mod_isPlank_65
  · simp only [Sum.elim_inl, Sum.elim_inr] at h
    refine (lp_Mod_isPlank_2_ok X hD v0 v1 v2 hk_v0 M _ _ _ hx6 (fun x9 e9 => by cases e9) (fun x9 e9 => ?_) :)
    cases e9
    refine V_iconst (v := 1) X d_Mod_isPlank_56 (by decide) rfl ?_
    exact V_zret X (kr (1 : Int32) (Option.some.inj h).symm) (by decide) d_Mod_isPlank_57
def f_Mod_go (v1 : Nat) (v2 : Int32) (v3 : Int32) (M : Mem) : Option (Int32) :=
  if kd v1 = 1 then
  if v3 = (4 : Int32) then
  some v2
  else
  Option.bind (f_Mod_levelOf v2) fun x1 =>
  Option.bind (f_Mod_cellOf v2) fun x2 =>
  Option.bind (f_Mod_beside x2 v3 M) fun x3 =>
  if x3 = (-1 : Int32) then
  some (-1 : Int32)
  else
  Option.bind (f_Mod_isOf x1 x3 M) fun x4 =>
  if x4 = 0 then
  if x1 = 0 then
  some (-1 : Int32)
  else
  Option.bind (f_Mod_beside x3 v3 M) fun x5 =>
  if x5 = (-1 : Int32) then
  some (-1 : Int32)
  else
  Option.bind (f_Mod_cellOf v2) fun x6 =>
  Option.bind (f_Mod_isPlank v1 x6 x5 M) fun x7 =>
  if x7 = 0 then
  some (-1 : Int32)
  else
  Option.bind (f_Mod_placeOf (1 : Int32) x5) fun x8 =>
  some x8
  else
  Option.bind (f_Mod_placeOf x1 x3) fun x12 =>
  some x12
  else none
theorem c_Mod_go (l : Launch) (G : Gw)  (v1 : Nat) (v2 : Int32) (v3 : Int32) (M : Mem) (x : Int32) (h : f_Mod_go v1 v2 v3 M = some x) (d : Nat) (hD : 4 ≤ d) : Ci l G y_Mod_go b_Mod_go 7 (some .int) d [.ref (G.2.2 + 162), .ref (G.2.2 + v1), .int v2, .int v3] M (fun r9 M9 => r9 = x ∧ M9 = M) := by
  refine Ci_of (by decide) (Nat.le_of_ble_eq_true rfl) (fun E hE X => ?_)
  subst hE
  have kr : ∀ x9 : Int32, x = x9 → (fun r9 M9 => r9 = x ∧ M9 = M) x9 M := fun x9 e9 => by subst e9; exact ⟨rfl, rfl⟩
  unfold f_Mod_go at h
  obtain ⟨hk_v1, h⟩ := ifn h
  refine V_iload_n (n := 3) X d_Mod_go_0 rfl rfl rfl ?_
  refine V_iconst (v := 4) X d_Mod_go_1 (by decide) rfl ?_
  refine V_icmp_ne (tgt := 7) X d_Mod_go_2 (by decide) rfl (fun c15 => ?_) (fun c15 => ?_)
  · rw [if_neg c15] at h
    refine V_iload_n (n := 2) X d_Mod_go_7 rfl rfl rfl ?_
    obtain ⟨x1, hx1, h⟩ := ob_s h
    refine V_si (As := [.int v2]) X (Z0 E) ml_Mod_143 yq_Mod_levelOf (c_Mod_levelOf E.2.1 G v2 M x1 hx1 _ (Nat.le_refl _)) rfl (by omega) rfl (Nat.le_of_ble_eq_true rfl) d_Mod_go_8 rfl (fun r9 M9 hq => ?_)
    rw [hq.1, hq.2]
    refine V_istore (lv' := [(4, .int x1), (0, .ref (G.2.2 + 162)), (1, .ref (G.2.2 + v1)), (2, .int v2), (3, .int v3)]) X d_Mod_go_11 (by decide) rfl rfl ?_
    refine V_aload_n (n := 1) X d_Mod_go_13 rfl rfl rfl ?_
    refine V_iload_n (n := 3) X d_Mod_go_14 rfl rfl rfl ?_
    obtain ⟨x2, hx2, h⟩ := ob_s h
    refine V_si (As := [.int v2]) X (Z0 E) ml_Mod_147 yq_Mod_cellOf (c_Mod_cellOf E.2.1 G v2 M x2 hx2 _ (Nat.le_refl _)) rfl (by omega) rfl (Nat.le_of_ble_eq_true rfl) d_Mod_go_15 rfl (fun r9 M9 hq => ?_)
    rw [hq.1, hq.2]
    refine V_iload_n (n := 4) X d_Mod_go_18 rfl rfl rfl ?_
    obtain ⟨x3, hx3, h⟩ := ob_s h
    refine V_ci (As := [.int x2, .int v3]) X (Z0 E) ml_Mod_150 yq_Mod_beside (c_Mod_beside E.2.1 G x2 v3 M x3 hx3 _ (Nat.le_refl _)) kd_162 rfl rfl (by omega) rfl (Nat.le_of_ble_eq_true rfl) d_Mod_go_19 rfl (fun r9 M9 hq => ?_)
    rw [hq.1, hq.2]
    refine V_istore (lv' := [(5, .int x3), (4, .int x1), (0, .ref (G.2.2 + 162)), (1, .ref (G.2.2 + v1)), (2, .int v2), (3, .int v3)]) X d_Mod_go_22 (by decide) rfl rfl ?_
    refine V_iload (n := 0) X d_Mod_go_24 rfl rfl ?_
    refine V_iconst (v := -1) X d_Mod_go_26 (by decide) rfl ?_
    refine V_icmp_ne (tgt := 32) X d_Mod_go_27 (by decide) rfl (fun c14 => ?_) (fun c14 => ?_)
    · rw [if_neg c14] at h
      refine V_aload_n (n := 2) X d_Mod_go_32 rfl rfl rfl ?_
      refine V_iload (n := 1) X d_Mod_go_33 rfl rfl ?_
      refine V_iload (n := 0) X d_Mod_go_35 rfl rfl ?_
      obtain ⟨x4, hx4, h⟩ := ob_s h
      refine V_ci (As := [.int x1, .int x3]) X (Z0 E) ml_Mod_140 yq_Mod_isOf (c_Mod_isOf E.2.1 G x1 x3 M x4 hx4 _ (Nat.le_refl _)) kd_162 rfl rfl (by omega) rfl (Nat.le_of_ble_eq_true rfl) d_Mod_go_37 rfl (fun r9 M9 hq => ?_)
      rw [hq.1, hq.2]
      refine V_if_eq (tgt := 51) X d_Mod_go_40 (by decide) rfl (fun c13 => ?_) (fun c13 => ?_)
      · rw [if_pos c13] at h
        refine V_iload (n := 1) X d_Mod_go_51 rfl rfl ?_
        refine V_if_ne (tgt := 58) X d_Mod_go_53 (by decide) rfl (fun c11 => ?_) (fun c11 => ?_)
        · rw [if_neg c11] at h
          refine V_aload_n (n := 2) X d_Mod_go_58 rfl rfl rfl ?_
          refine V_iload (n := 0) X d_Mod_go_59 rfl rfl ?_
          refine V_iload_n (n := 5) X d_Mod_go_61 rfl rfl rfl ?_
          obtain ⟨x5, hx5, h⟩ := ob_s h
          refine V_ci (As := [.int x3, .int v3]) X (Z0 E) ml_Mod_150 yq_Mod_beside (c_Mod_beside E.2.1 G x3 v3 M x5 hx5 _ (Nat.le_refl _)) kd_162 rfl rfl (by omega) rfl (Nat.le_of_ble_eq_true rfl) d_Mod_go_62 rfl (fun r9 M9 hq => ?_)
          rw [hq.1, hq.2]
          refine V_istore (lv' := [(6, .int x5), (5, .int x3), (4, .int x1), (0, .ref (G.2.2 + 162)), (1, .ref (G.2.2 + v1)), (2, .int v2), (3, .int v3)]) X d_Mod_go_65 (by decide) rfl rfl ?_
          refine V_iload (n := 0) X d_Mod_go_67 rfl rfl ?_
          refine V_iconst (v := -1) X d_Mod_go_69 (by decide) rfl ?_
          refine V_icmp_eq (tgt := 95) X d_Mod_go_70 (by decide) rfl (fun c10 => ?_) (fun c10 => ?_)
          · rw [if_pos c10] at h
            refine V_iconst (v := -1) X d_Mod_go_95 (by decide) rfl ?_
            exact V_iret X (kr (-1 : Int32) (Option.some.inj h).symm) d_Mod_go_96
          · rw [if_neg c10] at h
            refine V_aload_n (n := 4) X d_Mod_go_73 rfl rfl rfl ?_
            refine V_iload_n (n := 5) X d_Mod_go_74 rfl rfl rfl ?_
            obtain ⟨x6, hx6, h⟩ := ob_s h
            refine V_si (As := [.int v2]) X (Z0 E) ml_Mod_147 yq_Mod_cellOf (c_Mod_cellOf E.2.1 G v2 M x6 hx6 _ (Nat.le_refl _)) rfl (by omega) rfl (Nat.le_of_ble_eq_true rfl) d_Mod_go_75 rfl (fun r9 M9 hq => ?_)
            rw [hq.1, hq.2]
            refine V_iload (n := 0) X d_Mod_go_78 rfl rfl ?_
            obtain ⟨x7, hx7, h⟩ := ob_s h
            refine V_si (As := [.ref (G.2.2 + v1), .int x6, .int x5]) X (Z0 E) ml_Mod_157 yq_Mod_isPlank (c_Mod_isPlank E.2.1 G v1 x6 x5 M x7 hx7 _ (Nat.le_refl _)) rfl (by omega) rfl (Nat.le_of_ble_eq_true rfl) d_Mod_go_80 rfl (fun r9 M9 hq => ?_)
            rw [hq.1, hq.2]
            refine V_if_eq (tgt := 95) X d_Mod_go_83 (by decide) rfl (fun c9 => ?_) (fun c9 => ?_)
            · rw [if_pos c9] at h
              refine V_iconst (v := -1) X d_Mod_go_95 (by decide) rfl ?_
              exact V_iret X (kr (-1 : Int32) (Option.some.inj h).symm) d_Mod_go_96
            · rw [if_neg c9] at h
              refine V_iconst (v := 1) X d_Mod_go_86 (by decide) rfl ?_
              refine V_iload (n := 0) X d_Mod_go_87 rfl rfl ?_
              obtain ⟨x8, hx8, h⟩ := ob_s h
              refine V_si (As := [.int (1 : Int32), .int x5]) X (Z0 E) ml_Mod_154 yq_Mod_placeOf (c_Mod_placeOf E.2.1 G (1 : Int32) x5 M x8 hx8 _ (Nat.le_refl _)) rfl (by omega) rfl (Nat.le_of_ble_eq_true rfl) d_Mod_go_89 rfl (fun r9 M9 hq => ?_)
              rw [hq.1, hq.2]
              refine V_goto (pc' := 96) X d_Mod_go_92 (by decide) ?_
              exact V_iret X (kr x8 (Option.some.inj h).symm) d_Mod_go_96
        · rw [if_pos c11] at h
          refine V_iconst (v := -1) X d_Mod_go_56 (by decide) rfl ?_
          exact V_iret X (kr (-1 : Int32) (Option.some.inj h).symm) d_Mod_go_57
      · rw [if_neg c13] at h
        refine V_iload (n := 1) X d_Mod_go_43 rfl rfl ?_
        refine V_iload (n := 0) X d_Mod_go_45 rfl rfl ?_
        obtain ⟨x12, hx12, h⟩ := ob_s h
        refine V_si (As := [.int x1, .int x3]) X (Z0 E) ml_Mod_154 yq_Mod_placeOf (c_Mod_placeOf E.2.1 G x1 x3 M x12 hx12 _ (Nat.le_refl _)) rfl (by omega) rfl (Nat.le_of_ble_eq_true rfl) d_Mod_go_47 rfl (fun r9 M9 hq => ?_)
        rw [hq.1, hq.2]
        exact V_iret X (kr x12 (Option.some.inj h).symm) d_Mod_go_50
    · rw [if_pos c14] at h
      refine V_iconst (v := -1) X d_Mod_go_30 (by decide) rfl ?_
      exact V_iret X (kr (-1 : Int32) (Option.some.inj h).symm) d_Mod_go_31
  · rw [if_pos c15] at h
    refine V_iload_n (n := 2) X d_Mod_go_5 rfl rfl rfl ?_
    exact V_iret X (kr v2 (Option.some.inj h).symm) d_Mod_go_6
def lb_Mod_sign_20 (v1 : Int32) (s : Int32 × Mem) : Option ((Int32 × Mem) ⊕ ((Mem))) :=
  if s.1 < 0 then
  some (.inr s.2)
  else
  mem_ (s_i s.2 162 10 ((s.2.1 162 10) + (1 : Int32))) fun M2 =>
  if inb (s.2.1 162 10) 80 = true then
  mem_ (s_i M2 167 (s.2.1 162 10).toNatClampNeg (vp_nar .byte ((v1 >>> (((8 : Int32) * s.1) &&& 31)).toInt8.toInt32))) fun M3 =>
  some (.inl ((s.1 + (-1 : Int32)), M3))
  else none
theorem lb_Mod_sign_20_ok {E : Ev} {G : Gw} {d : Nat} {post : Int32 → Mem → Prop} (X : Cx E G b_Mod_sign "WomenByTheRoofsModel" 3 d (some .int)) (hD : 1 ≤ d)  (v1 : Int32)   (s : Int32 × Mem) (o : (Int32 × Mem) ⊕ ((Mem))) (h : lb_Mod_sign_20 v1 s = some o) (kc : ∀ s9 : Int32 × Mem, o = .inl s9 → V E (0, 0) G 3 (QI E G post) s9.2 20 [(0, .ref (G.2.2 + 162)), (1, .int v1), (2, .int s9.1)] []) (kx0 : ∀ x9 : Mem, o = .inr x9 → V E (0, 0) G 3 (QI E G post) x9 53 [(0, .ref (G.2.2 + 162))] []) : V E (0, 0) G 3 (QI E G post) s.2 20 [(0, .ref (G.2.2 + 162)), (1, .int v1), (2, .int s.1)] [] := by
  unfold lb_Mod_sign_20 at h
  refine V_iload_n (n := 2) X d_Mod_sign_20 rfl rfl rfl ?_
  refine V_if_lt (tgt := 53) X d_Mod_sign_21 (by decide) rfl (fun c4 => ?_) (fun c4 => ?_)
  · rw [if_pos c4] at h
    refine V_sub (lv' := [(0, .ref (G.2.2 + 162))]) [0] rfl ?_
    exact kx0 s.2 (Option.some.inj h).symm
  · rw [if_neg c4] at h
    refine V_aload_n (n := 0) X d_Mod_sign_24 rfl rfl rfl ?_
    refine V_getr (k2 := 167) X fo_Mod_32 kd_162 rfl rf_162_9 d_Mod_sign_25 rfl ?_
    refine V_aload_n (n := 0) X d_Mod_sign_28 rfl rfl rfl ?_
    refine V_dup X d_Mod_sign_29 rfl rfl ?_
    refine V_geti X fo_Mod_161 kd_162 rfl d_Mod_sign_30 rfl ?_
    refine V_dup_x1 X d_Mod_sign_33 rfl rfl rfl ?_
    refine V_iconst (v := 1) X d_Mod_sign_34 (by decide) rfl ?_
    refine V_iadd X d_Mod_sign_35 rfl ?_
    obtain ⟨M2, eM2, h⟩ := memS h
    refine V_putI X fp_Mod_161 kd_162 rfl d_Mod_sign_36 rfl ?_
    rw [← eM2]
    refine V_iload_n (n := 1) X d_Mod_sign_39 rfl rfl rfl ?_
    refine V_bipush (v := 8) X d_Mod_sign_40 (by decide) rfl ?_
    refine V_iload_n (n := 2) X d_Mod_sign_42 rfl rfl rfl ?_
    refine V_imul X d_Mod_sign_43 rfl ?_
    refine V_ishr X d_Mod_sign_44 rfl ?_
    refine V_i2b X d_Mod_sign_45 rfl ?_
    obtain ⟨hb, h⟩ := ifn h
    obtain ⟨M3, eM3, h⟩ := memS h
    refine V_bast X kd_167 (inb_in ln_167 hb) d_Mod_sign_46 rfl ?_
    rw [← eM3]
    refine V_iinc (n := 2) (v := (s.1 + (-1 : Int32))) (lv' := [(2, .int (s.1 + (-1 : Int32))), (0, .ref (G.2.2 + 162)), (1, .int v1)]) X d_Mod_sign_47 rfl rfl (by decide) rfl rfl ?_
    refine V_goto (pc' := 20) X d_Mod_sign_50 (by decide) ?_
    refine V_sub (lv' := [(0, .ref (G.2.2 + 162)), (1, .int v1), (2, .int (s.1 + (-1 : Int32)))]) [1, 2, 0] rfl ?_
    exact kc ((s.1 + (-1 : Int32)), M3) (Option.some.inj h).symm
theorem lp_Mod_sign_20_ok {E : Ev} {G : Gw} {d : Nat} {post : Int32 → Mem → Prop} (X : Cx E G b_Mod_sign "WomenByTheRoofsModel" 3 d (some .int)) (hD : 1 ≤ d)  (v1 : Int32)   (n9 : Nat) (s : Int32 × Mem) (x : (Mem)) (h : iter (lb_Mod_sign_20 v1) n9 s = some x) (kx0 : ∀ x9 : Mem, x = x9 → V E (0, 0) G 3 (QI E G post) x9 53 [(0, .ref (G.2.2 + 162))] []) : V E (0, 0) G 3 (QI E G post) s.2 20 [(0, .ref (G.2.2 + 162)), (1, .int v1), (2, .int s.1)] [] :=
  iter_P (P := fun s : Int32 × Mem => V E (0, 0) G 3 (QI E G post) s.2 20 [(0, .ref (G.2.2 + 162)), (1, .int v1), (2, .int s.1)] []) (fun s o hb kc ky => lb_Mod_sign_20_ok X hD v1 s o hb kc (fun x9 e9 => kx0 x9 (ky _ e9).symm)) n9 s h
def f_Mod_sign (v1 : Int32) (M : Mem) : Option (Int32 × Mem) :=
  mem_ (s_i M 162 13 (0 : Int32)) fun M1 =>
  if ((M1.1 162 10) + (4 : Int32)) ≤ (80 : Int32) then
  Option.bind (iter (lb_Mod_sign_20 v1) FU ((3 : Int32), M1)) fun x5 =>
  some ((x5.1 162 10), x5)
  else
  some ((-1 : Int32), M1)
theorem c_Mod_sign (l : Launch) (G : Gw)  (v1 : Int32) (M : Mem) (x : Int32 × Mem) (h : f_Mod_sign v1 M = some x) (d : Nat) (hD : 1 ≤ d) : Ci l G y_Mod_sign b_Mod_sign 3 (some .int) d [.ref (G.2.2 + 162), .int v1] M (fun r9 M9 => r9 = x.1 ∧ M9 = x.2) := by
  refine Ci_of (by decide) (Nat.le_of_ble_eq_true rfl) (fun E hE X => ?_)
  subst hE
  have kr : ∀ x9 : Int32 × Mem, x = x9 → (fun r9 M9 => r9 = x.1 ∧ M9 = x.2) x9.1 x9.2 := fun x9 e9 => by subst e9; exact ⟨rfl, rfl⟩
  unfold f_Mod_sign at h
  refine V_aload_n (n := 0) X d_Mod_sign_0 rfl rfl rfl ?_
  refine V_iconst (v := 0) X d_Mod_sign_1 (by decide) rfl ?_
  obtain ⟨M1, eM1, h⟩ := memS h
  refine V_putI X fp_Mod_109 kd_162 rfl d_Mod_sign_2 rfl ?_
  rw [← eM1]
  refine V_aload_n (n := 0) X d_Mod_sign_5 rfl rfl rfl ?_
  refine V_geti X fo_Mod_161 kd_162 rfl d_Mod_sign_6 rfl ?_
  refine V_iconst (v := 4) X d_Mod_sign_9 (by decide) rfl ?_
  refine V_iadd X d_Mod_sign_10 rfl ?_
  refine V_bipush (v := 80) X d_Mod_sign_11 (by decide) rfl ?_
  refine V_icmp_le (tgt := 18) X d_Mod_sign_13 (by decide) rfl (fun c6 => ?_) (fun c6 => ?_)
  · rw [if_pos c6] at h
    refine V_iconst (v := 3) X d_Mod_sign_18 (by decide) rfl ?_
    refine V_istore_n (lv' := [(2, .int (3 : Int32)), (0, .ref (G.2.2 + 162)), (1, .int v1)]) X d_Mod_sign_19 rfl (by decide) rfl rfl ?_
    refine V_sub (lv' := [(0, .ref (G.2.2 + 162)), (1, .int v1), (2, .int (3 : Int32))]) [1, 2, 0] rfl ?_
    obtain ⟨x5, hx5, h⟩ := ob_s h
    refine (lp_Mod_sign_20_ok X hD v1 _ _ _ hx5 (fun x9 e9 => ?_) :)
    subst e9
    refine V_aload_n (n := 0) X d_Mod_sign_53 rfl rfl rfl ?_
    refine V_geti X fo_Mod_161 kd_162 rfl d_Mod_sign_54 rfl ?_
    exact V_iret X (kr ((x5.1 162 10), x5) (Option.some.inj h).symm) d_Mod_sign_57
  · rw [if_neg c6] at h
    refine V_iconst (v := -1) X d_Mod_sign_16 (by decide) rfl ?_
    exact V_iret X (kr ((-1 : Int32), M1) (Option.some.inj h).symm) d_Mod_sign_17
def f_Mod_end (v1 : Int32) (M : Mem) : Option (Int32 × Mem) :=
  mem_ (s_i M 162 13 (0 : Int32)) fun M1 =>
  Option.bind (f_Mod_in v1 (0 : Int32) (M1.1 162 10)) fun x2 =>
  if x2 = 0 then
  some ((0 : Int32), M1)
  else
  mem_ (s_i M1 162 10 v1) fun M3 =>
  some ((1 : Int32), M3)
theorem c_Mod_end (l : Launch) (G : Gw)  (v1 : Int32) (M : Mem) (x : Int32 × Mem) (h : f_Mod_end v1 M = some x) (d : Nat) (hD : 2 ≤ d) : Ci l G y_Mod_end b_Mod_end 2 (some .boolean) d [.ref (G.2.2 + 162), .int v1] M (fun r9 M9 => r9 = x.1 ∧ M9 = x.2) := by
  refine Ci_of (by decide) (Nat.le_of_ble_eq_true rfl) (fun E hE X => ?_)
  subst hE
  have kr : ∀ x9 : Int32 × Mem, x = x9 → (fun r9 M9 => r9 = x.1 ∧ M9 = x.2) x9.1 x9.2 := fun x9 e9 => by subst e9; exact ⟨rfl, rfl⟩
  unfold f_Mod_end at h
  refine V_aload_n (n := 0) X d_Mod_end_0 rfl rfl rfl ?_
  refine V_iconst (v := 0) X d_Mod_end_1 (by decide) rfl ?_
  obtain ⟨M1, eM1, h⟩ := memS h
  refine V_putI X fp_Mod_109 kd_162 rfl d_Mod_end_2 rfl ?_
  rw [← eM1]
  refine V_iload_n (n := 1) X d_Mod_end_5 rfl rfl rfl ?_
  refine V_iconst (v := 0) X d_Mod_end_6 (by decide) rfl ?_
  refine V_aload_n (n := 0) X d_Mod_end_7 rfl rfl rfl ?_
  refine V_geti X fo_Mod_161 kd_162 rfl d_Mod_end_8 rfl ?_
  obtain ⟨x2, hx2, h⟩ := ob_s h
  refine V_si (As := [.int v1, .int (0 : Int32), .int (M1.1 162 10)]) X (Z0 E) ml_Mod_119 yq_Mod_in (c_Mod_in E.2.1 G v1 (0 : Int32) (M1.1 162 10) M1 x2 hx2 _ (Nat.le_refl _)) rfl (by omega) rfl (Nat.le_of_ble_eq_true rfl) d_Mod_end_11 rfl (fun r9 M9 hq => ?_)
  rw [hq.1, hq.2]
  refine V_if_ne (tgt := 19) X d_Mod_end_14 (by decide) rfl (fun c4 => ?_) (fun c4 => ?_)
  · rw [if_neg c4] at h
    refine V_aload_n (n := 0) X d_Mod_end_19 rfl rfl rfl ?_
    refine V_iload_n (n := 1) X d_Mod_end_20 rfl rfl rfl ?_
    obtain ⟨M3, eM3, h⟩ := memS h
    refine V_putI X fp_Mod_161 kd_162 rfl d_Mod_end_21 rfl ?_
    rw [← eM3]
    refine V_iconst (v := 1) X d_Mod_end_24 (by decide) rfl ?_
    exact V_zret X (kr ((1 : Int32), M3) (Option.some.inj h).symm) (by decide) d_Mod_end_25
  · rw [if_pos c4] at h
    refine V_iconst (v := 0) X d_Mod_end_17 (by decide) rfl ?_
    exact V_zret X (kr ((0 : Int32), M1) (Option.some.inj h).symm) (by decide) d_Mod_end_18
def f_Mod_begin (v1 : Nat) (v2 : Int32) (v3 : Int32) (M : Mem) : Option (Mem) :=
  if kd v1 = 2 then
  mem_ (s_q M 162 14 (some v1)) fun M1 =>
  mem_ (s_i M1 162 15 v2) fun M2 =>
  mem_ (s_i M2 162 16 v3) fun M3 =>
  mem_ (s_i M3 162 17 (0 : Int32)) fun M4 =>
  mem_ (s_i M4 162 18 (-1 : Int32)) fun M5 =>
  some M5
  else none
theorem c_Mod_begin (l : Launch) (G : Gw)  (v1 : Nat) (v2 : Int32) (v3 : Int32) (M : Mem) (x : Mem) (h : f_Mod_begin v1 v2 v3 M = some x) (d : Nat) (hD : 1 ≤ d) : Cv l G y_Mod_begin b_Mod_begin 4 none d [.ref (G.2.2 + 162), .ref (G.2.2 + v1), .int v2, .int v3] M (fun M9 => M9 = x) := by
  refine Cv_of (by decide) (Nat.le_of_ble_eq_true rfl) (fun E hE X => ?_)
  subst hE
  have kr : ∀ x9 : Mem, x = x9 → (fun M9 => M9 = x) x9 := fun x9 e9 => by subst e9; exact rfl
  unfold f_Mod_begin at h
  obtain ⟨hk_v1, h⟩ := ifn h
  refine V_aload_n (n := 0) X d_Mod_begin_0 rfl rfl rfl ?_
  refine V_aload_n (n := 1) X d_Mod_begin_1 rfl rfl rfl ?_
  obtain ⟨M1, eM1, h⟩ := memS h
  refine V_putr X fp_Mod_164 kd_162 rfl d_Mod_begin_2 rfl ?_
  rw [← eM1]
  refine V_aload_n (n := 0) X d_Mod_begin_5 rfl rfl rfl ?_
  refine V_iload_n (n := 2) X d_Mod_begin_6 rfl rfl rfl ?_
  obtain ⟨M2, eM2, h⟩ := memS h
  refine V_putI X fp_Mod_167 kd_162 rfl d_Mod_begin_7 rfl ?_
  rw [← eM2]
  refine V_aload_n (n := 0) X d_Mod_begin_10 rfl rfl rfl ?_
  refine V_iload_n (n := 3) X d_Mod_begin_11 rfl rfl rfl ?_
  obtain ⟨M3, eM3, h⟩ := memS h
  refine V_putI X fp_Mod_170 kd_162 rfl d_Mod_begin_12 rfl ?_
  rw [← eM3]
  refine V_aload_n (n := 0) X d_Mod_begin_15 rfl rfl rfl ?_
  refine V_iconst (v := 0) X d_Mod_begin_16 (by decide) rfl ?_
  obtain ⟨M4, eM4, h⟩ := memS h
  refine V_putI X fp_Mod_173 kd_162 rfl d_Mod_begin_17 rfl ?_
  rw [← eM4]
  refine V_aload_n (n := 0) X d_Mod_begin_20 rfl rfl rfl ?_
  refine V_iconst (v := -1) X d_Mod_begin_21 (by decide) rfl ?_
  obtain ⟨M5, eM5, h⟩ := memS h
  refine V_putI X fp_Mod_176 kd_162 rfl d_Mod_begin_22 rfl ?_
  rw [← eM5]
  exact V_vret X (kr M5 (Option.some.inj h).symm) d_Mod_begin_25
def f_Mod_here (M : Mem) : Option (Int32) :=
  if (M.1 162 15) ≤ (M.1 162 17) then
  some (-1 : Int32)
  else
  if (M.1 162 16) ≤ (M.1 162 17) then
  some (-1 : Int32)
  else
  Option.bind (M.2.2 162 14) fun a1 =>
  if kd a1 = 2 then
  if inb (M.1 162 17) (ln a1) = true then
  some (M.1 a1 (M.1 162 17).toNatClampNeg)
  else none
  else none
theorem c_Mod_here (l : Launch) (G : Gw)   (M : Mem) (x : Int32) (h : f_Mod_here M = some x) (d : Nat) (hD : 1 ≤ d) : Ci l G y_Mod_here b_Mod_here 1 (some .int) d [.ref (G.2.2 + 162)] M (fun r9 M9 => r9 = x ∧ M9 = M) := by
  refine Ci_of (by decide) (Nat.le_of_ble_eq_true rfl) (fun E hE X => ?_)
  subst hE
  have kr : ∀ x9 : Int32, x = x9 → (fun r9 M9 => r9 = x ∧ M9 = M) x9 M := fun x9 e9 => by subst e9; exact ⟨rfl, rfl⟩
  unfold f_Mod_here at h
  refine V_aload_n (n := 0) X d_Mod_here_0 rfl rfl rfl ?_
  refine V_geti X fo_Mod_173 kd_162 rfl d_Mod_here_1 rfl ?_
  refine V_aload_n (n := 0) X d_Mod_here_4 rfl rfl rfl ?_
  refine V_geti X fo_Mod_167 kd_162 rfl d_Mod_here_5 rfl ?_
  refine V_icmp_ge (tgt := 34) X d_Mod_here_8 (by decide) rfl (fun c3 => ?_) (fun c3 => ?_)
  · rw [if_pos c3] at h
    refine V_iconst (v := -1) X d_Mod_here_34 (by decide) rfl ?_
    exact V_iret X (kr (-1 : Int32) (Option.some.inj h).symm) d_Mod_here_35
  · rw [if_neg c3] at h
    refine V_aload_n (n := 0) X d_Mod_here_11 rfl rfl rfl ?_
    refine V_geti X fo_Mod_173 kd_162 rfl d_Mod_here_12 rfl ?_
    refine V_aload_n (n := 0) X d_Mod_here_15 rfl rfl rfl ?_
    refine V_geti X fo_Mod_170 kd_162 rfl d_Mod_here_16 rfl ?_
    refine V_icmp_ge (tgt := 34) X d_Mod_here_19 (by decide) rfl (fun c2 => ?_) (fun c2 => ?_)
    · rw [if_pos c2] at h
      refine V_iconst (v := -1) X d_Mod_here_34 (by decide) rfl ?_
      exact V_iret X (kr (-1 : Int32) (Option.some.inj h).symm) d_Mod_here_35
    · rw [if_neg c2] at h
      refine V_aload_n (n := 0) X d_Mod_here_22 rfl rfl rfl ?_
      obtain ⟨a1, hqa1, h⟩ := ob_s h
      obtain ⟨hk_a1, h⟩ := ifn h
      refine V_getn X fo_Mod_164 kd_162 rfl hqa1 d_Mod_here_23 rfl ?_
      refine V_aload_n (n := 0) X d_Mod_here_26 rfl rfl rfl ?_
      refine V_geti X fo_Mod_173 kd_162 rfl d_Mod_here_27 rfl ?_
      obtain ⟨hb, h⟩ := ifn h
      refine V_bald X hk_a1 (inb_in rfl hb) d_Mod_here_30 rfl ?_
      refine V_goto (pc' := 35) X d_Mod_here_31 (by decide) ?_
      exact V_iret X (kr (M.1 a1 (M.1 162 17).toNatClampNeg) (Option.some.inj h).symm) d_Mod_here_35
def f_Mod_fine (M : Mem) : Option (Int32) :=
  if (M.1 162 18) = (-1 : Int32) then
  some (1 : Int32)
  else
  some (0 : Int32)
theorem c_Mod_fine (l : Launch) (G : Gw)   (M : Mem) (x : Int32) (h : f_Mod_fine M = some x) (d : Nat) (hD : 1 ≤ d) : Ci l G y_Mod_fine b_Mod_fine 1 (some .boolean) d [.ref (G.2.2 + 162)] M (fun r9 M9 => r9 = x ∧ M9 = M) := by
  refine Ci_of (by decide) (Nat.le_of_ble_eq_true rfl) (fun E hE X => ?_)
  subst hE
  have kr : ∀ x9 : Int32, x = x9 → (fun r9 M9 => r9 = x ∧ M9 = M) x9 M := fun x9 e9 => by subst e9; exact ⟨rfl, rfl⟩
  unfold f_Mod_fine at h
  refine V_aload_n (n := 0) X d_Mod_fine_0 rfl rfl rfl ?_
  refine V_geti X fo_Mod_176 kd_162 rfl d_Mod_fine_1 rfl ?_
  refine V_iconst (v := -1) X d_Mod_fine_4 (by decide) rfl ?_
  refine V_icmp_ne (tgt := 12) X d_Mod_fine_5 (by decide) rfl (fun c1 => ?_) (fun c1 => ?_)
  · rw [if_neg c1] at h
    refine V_iconst (v := 0) X d_Mod_fine_12 (by decide) rfl ?_
    exact V_zret X (kr (0 : Int32) (Option.some.inj h).symm) (by decide) d_Mod_fine_13
  · rw [if_pos c1] at h
    refine V_iconst (v := 1) X d_Mod_fine_8 (by decide) rfl ?_
    refine V_goto (pc' := 13) X d_Mod_fine_9 (by decide) ?_
    exact V_zret X (kr (1 : Int32) (Option.some.inj h).symm) (by decide) d_Mod_fine_13
def f_Mod_fault (v1 : Int32) (M : Mem) : Option (Mem) :=
  Option.bind (f_Mod_fine M) fun x1 =>
  if x1 = 0 then
  some M
  else
  mem_ (s_i M 162 18 v1) fun M2 =>
  some M2
theorem c_Mod_fault (l : Launch) (G : Gw)  (v1 : Int32) (M : Mem) (x : Mem) (h : f_Mod_fault v1 M = some x) (d : Nat) (hD : 2 ≤ d) : Cv l G y_Mod_fault b_Mod_fault 2 none d [.ref (G.2.2 + 162), .int v1] M (fun M9 => M9 = x) := by
  refine Cv_of (by decide) (Nat.le_of_ble_eq_true rfl) (fun E hE X => ?_)
  subst hE
  have kr : ∀ x9 : Mem, x = x9 → (fun M9 => M9 = x) x9 := fun x9 e9 => by subst e9; exact rfl
  unfold f_Mod_fault at h
  refine V_aload_n (n := 0) X d_Mod_fault_0 rfl rfl rfl ?_
  obtain ⟨x1, hx1, h⟩ := ob_s h
  refine V_ci (As := []) X (Z0 E) ml_Mod_179 yq_Mod_fine (c_Mod_fine E.2.1 G  M x1 hx1 _ (Nat.le_refl _)) kd_162 rfl rfl (by omega) rfl (Nat.le_of_ble_eq_true rfl) d_Mod_fault_1 rfl (fun r9 M9 hq => ?_)
  rw [hq.1, hq.2]
  refine V_if_eq (tgt := 12) X d_Mod_fault_4 (by decide) rfl (fun c3 => ?_) (fun c3 => ?_)
  · rw [if_pos c3] at h
    exact V_vret X (kr M (Option.some.inj h).symm) d_Mod_fault_12
  · rw [if_neg c3] at h
    refine V_aload_n (n := 0) X d_Mod_fault_7 rfl rfl rfl ?_
    refine V_iload_n (n := 1) X d_Mod_fault_8 rfl rfl rfl ?_
    obtain ⟨M2, eM2, h⟩ := memS h
    refine V_putI X fp_Mod_176 kd_162 rfl d_Mod_fault_9 rfl ?_
    rw [← eM2]
    exact V_vret X (kr M2 (Option.some.inj h).symm) d_Mod_fault_12
def f_Mod_passes (v1 : Int32) (M : Mem) : Option (Int32 × Mem) :=
  Option.bind (f_Mod_fine M) fun x1 =>
  if x1 = 0 then
  some ((0 : Int32), M)
  else
  Option.bind (f_Mod_here M) fun x2 =>
  if x2 = v1 then
  mem_ (s_i M 162 17 ((M.1 162 17) + (1 : Int32))) fun M3 =>
  some ((1 : Int32), M3)
  else
  some ((0 : Int32), M)
theorem c_Mod_passes (l : Launch) (G : Gw)  (v1 : Int32) (M : Mem) (x : Int32 × Mem) (h : f_Mod_passes v1 M = some x) (d : Nat) (hD : 2 ≤ d) : Ci l G y_Mod_passes b_Mod_passes 2 (some .boolean) d [.ref (G.2.2 + 162), .int v1] M (fun r9 M9 => r9 = x.1 ∧ M9 = x.2) := by
  refine Ci_of (by decide) (Nat.le_of_ble_eq_true rfl) (fun E hE X => ?_)
  subst hE
  have kr : ∀ x9 : Int32 × Mem, x = x9 → (fun r9 M9 => r9 = x.1 ∧ M9 = x.2) x9.1 x9.2 := fun x9 e9 => by subst e9; exact ⟨rfl, rfl⟩
  unfold f_Mod_passes at h
  refine V_aload_n (n := 0) X d_Mod_passes_0 rfl rfl rfl ?_
  obtain ⟨x1, hx1, h⟩ := ob_s h
  refine V_ci (As := []) X (Z0 E) ml_Mod_179 yq_Mod_fine (c_Mod_fine E.2.1 G  M x1 hx1 _ (Nat.le_refl _)) kd_162 rfl rfl (by omega) rfl (Nat.le_of_ble_eq_true rfl) d_Mod_passes_1 rfl (fun r9 M9 hq => ?_)
  rw [hq.1, hq.2]
  refine V_if_eq (tgt := 15) X d_Mod_passes_4 (by decide) rfl (fun c5 => ?_) (fun c5 => ?_)
  · rw [if_pos c5] at h
    refine V_iconst (v := 0) X d_Mod_passes_15 (by decide) rfl ?_
    exact V_zret X (kr ((0 : Int32), M) (Option.some.inj h).symm) (by decide) d_Mod_passes_16
  · rw [if_neg c5] at h
    refine V_aload_n (n := 0) X d_Mod_passes_7 rfl rfl rfl ?_
    obtain ⟨x2, hx2, h⟩ := ob_s h
    refine V_ci (As := []) X (Z0 E) ml_Mod_183 yq_Mod_here (c_Mod_here E.2.1 G  M x2 hx2 _ (Nat.le_refl _)) kd_162 rfl rfl (by omega) rfl (Nat.le_of_ble_eq_true rfl) d_Mod_passes_8 rfl (fun r9 M9 hq => ?_)
    rw [hq.1, hq.2]
    refine V_iload_n (n := 1) X d_Mod_passes_11 rfl rfl rfl ?_
    refine V_icmp_eq (tgt := 17) X d_Mod_passes_12 (by decide) rfl (fun c4 => ?_) (fun c4 => ?_)
    · rw [if_pos c4] at h
      refine V_aload_n (n := 0) X d_Mod_passes_17 rfl rfl rfl ?_
      refine V_dup X d_Mod_passes_18 rfl rfl ?_
      refine V_geti X fo_Mod_173 kd_162 rfl d_Mod_passes_19 rfl ?_
      refine V_iconst (v := 1) X d_Mod_passes_22 (by decide) rfl ?_
      refine V_iadd X d_Mod_passes_23 rfl ?_
      obtain ⟨M3, eM3, h⟩ := memS h
      refine V_putI X fp_Mod_173 kd_162 rfl d_Mod_passes_24 rfl ?_
      rw [← eM3]
      refine V_iconst (v := 1) X d_Mod_passes_27 (by decide) rfl ?_
      exact V_zret X (kr ((1 : Int32), M3) (Option.some.inj h).symm) (by decide) d_Mod_passes_28
    · rw [if_neg c4] at h
      refine V_iconst (v := 0) X d_Mod_passes_15 (by decide) rfl ?_
      exact V_zret X (kr ((0 : Int32), M) (Option.some.inj h).symm) (by decide) d_Mod_passes_16
def f_Mod_need (v1 : Int32) (M : Mem) : Option (Mem) :=
  Option.bind (f_Mod_passes v1 M) fun x1 =>
  if x1.1 = 0 then
  Option.bind (f_Mod_fault (x1.2.1 162 17) x1.2) fun x2 =>
  some x2
  else
  some x1.2
theorem c_Mod_need (l : Launch) (G : Gw)  (v1 : Int32) (M : Mem) (x : Mem) (h : f_Mod_need v1 M = some x) (d : Nat) (hD : 3 ≤ d) : Cv l G y_Mod_need b_Mod_need 2 none d [.ref (G.2.2 + 162), .int v1] M (fun M9 => M9 = x) := by
  refine Cv_of (by decide) (Nat.le_of_ble_eq_true rfl) (fun E hE X => ?_)
  subst hE
  have kr : ∀ x9 : Mem, x = x9 → (fun M9 => M9 = x) x9 := fun x9 e9 => by subst e9; exact rfl
  unfold f_Mod_need at h
  refine V_aload_n (n := 0) X d_Mod_need_0 rfl rfl rfl ?_
  refine V_iload_n (n := 1) X d_Mod_need_1 rfl rfl rfl ?_
  obtain ⟨x1, hx1, h⟩ := ob_s h
  refine V_ci (As := [.int v1]) X (Z0 E) ml_Mod_186 yq_Mod_passes (c_Mod_passes E.2.1 G v1 M x1 hx1 _ (Nat.le_refl _)) kd_162 rfl rfl (by omega) rfl (Nat.le_of_ble_eq_true rfl) d_Mod_need_2 rfl (fun r9 M9 hq => ?_)
  rw [hq.1, hq.2]
  refine V_if_ne (tgt := 16) X d_Mod_need_5 (by decide) rfl (fun c3 => ?_) (fun c3 => ?_)
  · rw [if_neg c3] at h
    exact V_vret X (kr x1.2 (Option.some.inj h).symm) d_Mod_need_16
  · rw [if_pos c3] at h
    refine V_aload_n (n := 0) X d_Mod_need_8 rfl rfl rfl ?_
    refine V_aload_n (n := 0) X d_Mod_need_9 rfl rfl rfl ?_
    refine V_geti X fo_Mod_173 kd_162 rfl d_Mod_need_10 rfl ?_
    obtain ⟨x2, hx2, h⟩ := ob_s h
    refine V_cv (As := [.int (x1.2.1 162 17)]) X (Z0 E) ml_Mod_190 yq_Mod_fault (c_Mod_fault E.2.1 G (x1.2.1 162 17) x1.2 x2 hx2 _ (Nat.le_refl _)) kd_162 rfl rfl (by omega) rfl (Nat.le_of_ble_eq_true rfl) d_Mod_need_13 rfl (fun M9 hq => ?_)
    rw [hq]
    exact V_vret X (kr x2 (Option.some.inj h).symm) d_Mod_need_16
def lb_Mod_number_16 (v1 : Int32) (v2 : Int32) (s : Int32 × Mem) : Option ((Int32 × Mem) ⊕ ((Int32 × Mem))) :=
  if (v2 + v1) ≤ (s.2.1 162 17) then
  some (.inr (s.1, s.2))
  else
  Option.bind (f_Mod_here s.2) fun x2 =>
  Option.bind (f_Mod_in x2 (48 : Int32) (57 : Int32)) fun x3 =>
  if x3 = 0 then
  some (.inr (s.1, s.2))
  else
  Option.bind (f_Mod_here s.2) fun x4 =>
  mem_ (s_i s.2 162 17 ((s.2.1 162 17) + (1 : Int32))) fun M5 =>
  some (.inl (((((10 : Int32) * s.1) + x4) - (48 : Int32)), M5))
theorem lb_Mod_number_16_ok {E : Ev} {G : Gw} {d : Nat} {post : Int32 → Mem → Prop} (X : Cx E G b_Mod_number "WomenByTheRoofsModel" 4 d (some .int)) (hD : 3 ≤ d)  (v1 : Int32) (v2 : Int32)   (s : Int32 × Mem) (o : (Int32 × Mem) ⊕ ((Int32 × Mem))) (h : lb_Mod_number_16 v1 v2 s = some o) (kc : ∀ s9 : Int32 × Mem, o = .inl s9 → V E (0, 0) G 4 (QI E G post) s9.2 16 [(0, .ref (G.2.2 + 162)), (1, .int v1), (2, .int v2), (3, .int s9.1)] []) (kx0 : ∀ x9 : Int32 × Mem, o = .inr x9 → V E (0, 0) G 4 (QI E G post) x9.2 66 [(0, .ref (G.2.2 + 162)), (2, .int v2), (3, .int x9.1)] []) : V E (0, 0) G 4 (QI E G post) s.2 16 [(0, .ref (G.2.2 + 162)), (1, .int v1), (2, .int v2), (3, .int s.1)] [] := by
  unfold lb_Mod_number_16 at h
  refine V_aload_n (n := 0) X d_Mod_number_16 rfl rfl rfl ?_
  refine V_geti X fo_Mod_173 kd_162 rfl d_Mod_number_17 rfl ?_
  refine V_iload_n (n := 2) X d_Mod_number_20 rfl rfl rfl ?_
  refine V_iload_n (n := 1) X d_Mod_number_21 rfl rfl rfl ?_
  refine V_iadd X d_Mod_number_22 rfl ?_
  refine V_icmp_ge (tgt := 66) X d_Mod_number_23 (by decide) rfl (fun c7 => ?_) (fun c7 => ?_)
  · rw [if_pos c7] at h
    refine V_sub (lv' := [(0, .ref (G.2.2 + 162)), (2, .int v2), (3, .int s.1)]) [0, 2, 3] rfl ?_
    exact kx0 (s.1, s.2) (Option.some.inj h).symm
  · rw [if_neg c7] at h
    refine V_aload_n (n := 0) X d_Mod_number_26 rfl rfl rfl ?_
    obtain ⟨x2, hx2, h⟩ := ob_s h
    refine V_ci (As := []) X (Z0 E) ml_Mod_183 yq_Mod_here (c_Mod_here E.2.1 G  s.2 x2 hx2 _ (Nat.le_refl _)) kd_162 rfl rfl (by omega) rfl (Nat.le_of_ble_eq_true rfl) d_Mod_number_27 rfl (fun r9 M9 hq => ?_)
    rw [hq.1, hq.2]
    refine V_bipush (v := 48) X d_Mod_number_30 (by decide) rfl ?_
    refine V_bipush (v := 57) X d_Mod_number_32 (by decide) rfl ?_
    obtain ⟨x3, hx3, h⟩ := ob_s h
    refine V_si (As := [.int x2, .int (48 : Int32), .int (57 : Int32)]) X (Z0 E) ml_Mod_119 yq_Mod_in (c_Mod_in E.2.1 G x2 (48 : Int32) (57 : Int32) s.2 x3 hx3 _ (Nat.le_refl _)) rfl (by omega) rfl (Nat.le_of_ble_eq_true rfl) d_Mod_number_34 rfl (fun r9 M9 hq => ?_)
    rw [hq.1, hq.2]
    refine V_if_eq (tgt := 66) X d_Mod_number_37 (by decide) rfl (fun c6 => ?_) (fun c6 => ?_)
    · rw [if_pos c6] at h
      refine V_sub (lv' := [(0, .ref (G.2.2 + 162)), (2, .int v2), (3, .int s.1)]) [0, 2, 3] rfl ?_
      exact kx0 (s.1, s.2) (Option.some.inj h).symm
    · rw [if_neg c6] at h
      refine V_bipush (v := 10) X d_Mod_number_40 (by decide) rfl ?_
      refine V_iload_n (n := 3) X d_Mod_number_42 rfl rfl rfl ?_
      refine V_imul X d_Mod_number_43 rfl ?_
      refine V_aload_n (n := 0) X d_Mod_number_44 rfl rfl rfl ?_
      obtain ⟨x4, hx4, h⟩ := ob_s h
      refine V_ci (As := []) X (Z0 E) ml_Mod_183 yq_Mod_here (c_Mod_here E.2.1 G  s.2 x4 hx4 _ (Nat.le_refl _)) kd_162 rfl rfl (by omega) rfl (Nat.le_of_ble_eq_true rfl) d_Mod_number_45 rfl (fun r9 M9 hq => ?_)
      rw [hq.1, hq.2]
      refine V_iadd X d_Mod_number_48 rfl ?_
      refine V_bipush (v := 48) X d_Mod_number_49 (by decide) rfl ?_
      refine V_isub X d_Mod_number_51 rfl ?_
      refine V_istore_n (lv' := [(3, .int ((((10 : Int32) * s.1) + x4) - (48 : Int32))), (0, .ref (G.2.2 + 162)), (1, .int v1), (2, .int v2)]) X d_Mod_number_52 rfl (by decide) rfl rfl ?_
      refine V_aload_n (n := 1) X d_Mod_number_53 rfl rfl rfl ?_
      refine V_dup X d_Mod_number_54 rfl rfl ?_
      refine V_geti X fo_Mod_173 kd_162 rfl d_Mod_number_55 rfl ?_
      refine V_iconst (v := 1) X d_Mod_number_58 (by decide) rfl ?_
      refine V_iadd X d_Mod_number_59 rfl ?_
      obtain ⟨M5, eM5, h⟩ := memS h
      refine V_putI X fp_Mod_173 kd_162 rfl d_Mod_number_60 rfl ?_
      rw [← eM5]
      refine V_goto (pc' := 16) X d_Mod_number_63 (by decide) ?_
      refine V_sub (lv' := [(0, .ref (G.2.2 + 162)), (1, .int v1), (2, .int v2), (3, .int ((((10 : Int32) * s.1) + x4) - (48 : Int32)))]) [1, 2, 3, 0] rfl ?_
      exact kc (((((10 : Int32) * s.1) + x4) - (48 : Int32)), M5) (Option.some.inj h).symm
theorem lp_Mod_number_16_ok {E : Ev} {G : Gw} {d : Nat} {post : Int32 → Mem → Prop} (X : Cx E G b_Mod_number "WomenByTheRoofsModel" 4 d (some .int)) (hD : 3 ≤ d)  (v1 : Int32) (v2 : Int32)   (n9 : Nat) (s : Int32 × Mem) (x : (Int32 × Mem)) (h : iter (lb_Mod_number_16 v1 v2) n9 s = some x) (kx0 : ∀ x9 : Int32 × Mem, x = x9 → V E (0, 0) G 4 (QI E G post) x9.2 66 [(0, .ref (G.2.2 + 162)), (2, .int v2), (3, .int x9.1)] []) : V E (0, 0) G 4 (QI E G post) s.2 16 [(0, .ref (G.2.2 + 162)), (1, .int v1), (2, .int v2), (3, .int s.1)] [] :=
  iter_P (P := fun s : Int32 × Mem => V E (0, 0) G 4 (QI E G post) s.2 16 [(0, .ref (G.2.2 + 162)), (1, .int v1), (2, .int v2), (3, .int s.1)] []) (fun s o hb kc ky => lb_Mod_number_16_ok X hD v1 v2 s o hb kc (fun x9 e9 => kx0 x9 (ky _ e9).symm)) n9 s h
def j_Mod_number_66 (v2 : Int32) (v3 : Int32) (M : Mem) : Option (Int32 × Mem) :=
  if (M.1 162 17) = v2 then
  Option.bind (f_Mod_fault (M.1 162 17) M) fun x9 =>
  some (v3, x9)
  else
  some (v3, M)
theorem j_Mod_number_66_ok {E : Ev} {G : Gw} {d : Nat} {post : Int32 → Mem → Prop} (X : Cx E G b_Mod_number "WomenByTheRoofsModel" 4 d (some .int)) (hD : 3 ≤ d)  (v2 : Int32) (v3 : Int32)  (M : Mem)  (o : Int32 × Mem) (h : j_Mod_number_66 v2 v3 M = some o) (kr : ∀ x9 : Int32 × Mem, o = x9 → post x9.1 x9.2) : V E (0, 0) G 4 (QI E G post) M 66 [(0, .ref (G.2.2 + 162)), (2, .int v2), (3, .int v3)] [] := by
  unfold j_Mod_number_66 at h
  refine V_aload_n (n := 0) X d_Mod_number_66 rfl rfl rfl ?_
  refine V_geti X fo_Mod_173 kd_162 rfl d_Mod_number_67 rfl ?_
  refine V_iload_n (n := 1) X d_Mod_number_70 rfl rfl rfl ?_
  refine V_icmp_ne (tgt := 82) X d_Mod_number_71 (by decide) rfl (fun c10 => ?_) (fun c10 => ?_)
  · rw [if_neg c10] at h
    refine V_iload_n (n := 2) X d_Mod_number_82 rfl rfl rfl ?_
    exact V_iret X (kr (v3, M) (Option.some.inj h).symm) d_Mod_number_83
  · rw [if_pos c10] at h
    refine V_aload_n (n := 0) X d_Mod_number_74 rfl rfl rfl ?_
    refine V_aload_n (n := 0) X d_Mod_number_75 rfl rfl rfl ?_
    refine V_geti X fo_Mod_173 kd_162 rfl d_Mod_number_76 rfl ?_
    obtain ⟨x9, hx9, h⟩ := ob_s h
    refine V_cv (As := [.int (M.1 162 17)]) X (Z0 E) ml_Mod_190 yq_Mod_fault (c_Mod_fault E.2.1 G (M.1 162 17) M x9 hx9 _ (Nat.le_refl _)) kd_162 rfl rfl (by omega) rfl (Nat.le_of_ble_eq_true rfl) d_Mod_number_79 rfl (fun M9 hq => ?_)
    rw [hq]
    refine V_iload_n (n := 2) X d_Mod_number_82 rfl rfl rfl ?_
    exact V_iret X (kr (v3, x9) (Option.some.inj h).symm) d_Mod_number_83
def f_Mod_number (v1 : Int32) (M : Mem) : Option (Int32 × Mem) :=
  Option.bind (f_Mod_fine M) fun x1 =>
  if x1 = 0 then
  some ((0 : Int32), M)
  else
  Option.bind (iter (lb_Mod_number_16 v1 (M.1 162 17)) FU ((0 : Int32), M)) fun x8 =>
  j_Mod_number_66 (M.1 162 17) x8.1 x8.2
theorem c_Mod_number (l : Launch) (G : Gw)  (v1 : Int32) (M : Mem) (x : Int32 × Mem) (h : f_Mod_number v1 M = some x) (d : Nat) (hD : 3 ≤ d) : Ci l G y_Mod_number b_Mod_number 4 (some .int) d [.ref (G.2.2 + 162), .int v1] M (fun r9 M9 => r9 = x.1 ∧ M9 = x.2) := by
  refine Ci_of (by decide) (Nat.le_of_ble_eq_true rfl) (fun E hE X => ?_)
  subst hE
  have kr : ∀ x9 : Int32 × Mem, x = x9 → (fun r9 M9 => r9 = x.1 ∧ M9 = x.2) x9.1 x9.2 := fun x9 e9 => by subst e9; exact ⟨rfl, rfl⟩
  unfold f_Mod_number at h
  refine V_aload_n (n := 0) X d_Mod_number_0 rfl rfl rfl ?_
  obtain ⟨x1, hx1, h⟩ := ob_s h
  refine V_ci (As := []) X (Z0 E) ml_Mod_179 yq_Mod_fine (c_Mod_fine E.2.1 G  M x1 hx1 _ (Nat.le_refl _)) kd_162 rfl rfl (by omega) rfl (Nat.le_of_ble_eq_true rfl) d_Mod_number_1 rfl (fun r9 M9 hq => ?_)
  rw [hq.1, hq.2]
  refine V_if_ne (tgt := 9) X d_Mod_number_4 (by decide) rfl (fun c11 => ?_) (fun c11 => ?_)
  · rw [if_neg c11] at h
    refine V_aload_n (n := 0) X d_Mod_number_9 rfl rfl rfl ?_
    refine V_geti X fo_Mod_173 kd_162 rfl d_Mod_number_10 rfl ?_
    refine V_istore_n (lv' := [(2, .int (M.1 162 17)), (0, .ref (G.2.2 + 162)), (1, .int v1)]) X d_Mod_number_13 rfl (by decide) rfl rfl ?_
    refine V_iconst (v := 0) X d_Mod_number_14 (by decide) rfl ?_
    refine V_istore_n (lv' := [(3, .int (0 : Int32)), (2, .int (M.1 162 17)), (0, .ref (G.2.2 + 162)), (1, .int v1)]) X d_Mod_number_15 rfl (by decide) rfl rfl ?_
    refine V_sub (lv' := [(0, .ref (G.2.2 + 162)), (1, .int v1), (2, .int (M.1 162 17)), (3, .int (0 : Int32))]) [2, 3, 1, 0] rfl ?_
    obtain ⟨x8, hx8, h⟩ := ob_s h
    refine (lp_Mod_number_16_ok X hD v1 (M.1 162 17) _ _ _ hx8 (fun x9 e9 => ?_) :)
    subst e9
    exact j_Mod_number_66_ok X hD (M.1 162 17) x8.1 x8.2 _ h kr
  · rw [if_pos c11] at h
    refine V_iconst (v := 0) X d_Mod_number_7 (by decide) rfl ?_
    exact V_iret X (kr ((0 : Int32), M) (Option.some.inj h).symm) d_Mod_number_8
def f_Mod_kindOf (v0 : Int32) : Option (Int32) :=
  if v0 = (46 : Int32) then
  some (1 : Int32)
  else
  if v0 = (104 : Int32) then
  some (2 : Int32)
  else
  if v0 = (115 : Int32) then
  some (3 : Int32)
  else
  if v0 = (35 : Int32) then
  some (0 : Int32)
  else
  some (-1 : Int32)
theorem c_Mod_kindOf (l : Launch) (G : Gw)  (v0 : Int32) (M : Mem) (x : Int32) (h : f_Mod_kindOf v0 = some x) (d : Nat) (hD : 1 ≤ d) : Ci l G y_Mod_kindOf b_Mod_kindOf 1 (some .int) d [.int v0] M (fun r9 M9 => r9 = x ∧ M9 = M) := by
  refine Ci_of (by decide) (Nat.le_of_ble_eq_true rfl) (fun E hE X => ?_)
  subst hE
  have kr : ∀ x9 : Int32, x = x9 → (fun r9 M9 => r9 = x ∧ M9 = M) x9 M := fun x9 e9 => by subst e9; exact ⟨rfl, rfl⟩
  unfold f_Mod_kindOf at h
  refine V_iload_n (n := 0) X d_Mod_kindOf_0 rfl rfl rfl ?_
  refine V_bipush (v := 46) X d_Mod_kindOf_1 (by decide) rfl ?_
  refine V_icmp_ne (tgt := 10) X d_Mod_kindOf_3 (by decide) rfl (fun c4 => ?_) (fun c4 => ?_)
  · rw [if_neg c4] at h
    refine V_iload_n (n := 0) X d_Mod_kindOf_10 rfl rfl rfl ?_
    refine V_bipush (v := 104) X d_Mod_kindOf_11 (by decide) rfl ?_
    refine V_icmp_ne (tgt := 20) X d_Mod_kindOf_13 (by decide) rfl (fun c3 => ?_) (fun c3 => ?_)
    · rw [if_neg c3] at h
      refine V_iload_n (n := 0) X d_Mod_kindOf_20 rfl rfl rfl ?_
      refine V_bipush (v := 115) X d_Mod_kindOf_21 (by decide) rfl ?_
      refine V_icmp_ne (tgt := 30) X d_Mod_kindOf_23 (by decide) rfl (fun c2 => ?_) (fun c2 => ?_)
      · rw [if_neg c2] at h
        refine V_iload_n (n := 0) X d_Mod_kindOf_30 rfl rfl rfl ?_
        refine V_bipush (v := 35) X d_Mod_kindOf_31 (by decide) rfl ?_
        refine V_icmp_ne (tgt := 40) X d_Mod_kindOf_33 (by decide) rfl (fun c1 => ?_) (fun c1 => ?_)
        · rw [if_neg c1] at h
          refine V_iconst (v := -1) X d_Mod_kindOf_40 (by decide) rfl ?_
          exact V_iret X (kr (-1 : Int32) (Option.some.inj h).symm) d_Mod_kindOf_41
        · rw [if_pos c1] at h
          refine V_iconst (v := 0) X d_Mod_kindOf_36 (by decide) rfl ?_
          refine V_goto (pc' := 41) X d_Mod_kindOf_37 (by decide) ?_
          exact V_iret X (kr (0 : Int32) (Option.some.inj h).symm) d_Mod_kindOf_41
      · rw [if_pos c2] at h
        refine V_iconst (v := 3) X d_Mod_kindOf_26 (by decide) rfl ?_
        refine V_goto (pc' := 41) X d_Mod_kindOf_27 (by decide) ?_
        exact V_iret X (kr (3 : Int32) (Option.some.inj h).symm) d_Mod_kindOf_41
    · rw [if_pos c3] at h
      refine V_iconst (v := 2) X d_Mod_kindOf_16 (by decide) rfl ?_
      refine V_goto (pc' := 41) X d_Mod_kindOf_17 (by decide) ?_
      exact V_iret X (kr (2 : Int32) (Option.some.inj h).symm) d_Mod_kindOf_41
  · rw [if_pos c4] at h
    refine V_iconst (v := 1) X d_Mod_kindOf_6 (by decide) rfl ?_
    refine V_goto (pc' := 41) X d_Mod_kindOf_7 (by decide) ?_
    exact V_iret X (kr (1 : Int32) (Option.some.inj h).symm) d_Mod_kindOf_41
def j_Mod_town_88_58 (v1 : Int32) (v2 : Int32) (v4 : Int32) (w0 : Int32) (w1 : Int32) (M : Mem) : Option ((Int32 × Mem) ⊕ ((Int32 × Mem))) :=
  if w1 = w0 then
  Option.bind (f_Mod_fault (M.1 162 17) M) fun x12 =>
  some (.inl (v4, x12))
  else
  Option.bind (f_Mod_here M) fun x8 =>
  Option.bind (f_Mod_kindOf x8) fun x9 =>
  if inb ((v1 * v2) + v4) 36 = true then
  mem_ (s_i M 169 ((v1 * v2) + v4).toNatClampNeg x9) fun M10 =>
  mem_ (s_i M10 162 17 ((M10.1 162 17) + (1 : Int32))) fun M11 =>
  some (.inl ((v4 + (1 : Int32)), M11))
  else none
theorem j_Mod_town_88_58_ok {E : Ev} {G : Gw} {d : Nat} {post : Int32 → Mem → Prop} (X : Cx E G b_Mod_town "WomenByTheRoofsModel" 5 d (some .int)) (hD : 3 ≤ d)  (v1 : Int32) (v2 : Int32) (v4 : Int32) (w0 : Int32) (w1 : Int32)  (M : Mem)  (o : (Int32 × Mem) ⊕ ((Int32 × Mem))) (h : j_Mod_town_88_58 v1 v2 v4 w0 w1 M = some o) (kc : ∀ s9 : Int32 × Mem, o = .inl s9 → V E (0, 0) G 5 (QI E G post) s9.2 58 [(0, .ref (G.2.2 + 162)), (1, .int v1), (2, .int v2), (4, .int s9.1)] []) (kx0 : ∀ x9 : Int32 × Mem, o = .inr x9 → V E (0, 0) G 5 (QI E G post) x9.2 136 [(0, .ref (G.2.2 + 162)), (1, .int v1), (2, .int v2), (4, .int x9.1)] []) : V E (0, 0) G 5 (QI E G post) M 88 [(0, .ref (G.2.2 + 162)), (1, .int v1), (2, .int v2), (4, .int v4)] [.int w0, .int w1] := by
  unfold j_Mod_town_88_58 at h
  refine V_icmp_ne (tgt := 102) X d_Mod_town_88 (by decide) rfl (fun c13 => ?_) (fun c13 => ?_)
  · rw [if_neg c13] at h
    refine V_aload_n (n := 0) X d_Mod_town_102 rfl rfl rfl ?_
    refine V_getr (k2 := 169) X fo_Mod_39 kd_162 rfl rf_162_19 d_Mod_town_103 rfl ?_
    refine V_iload_n (n := 1) X d_Mod_town_106 rfl rfl rfl ?_
    refine V_iload_n (n := 2) X d_Mod_town_107 rfl rfl rfl ?_
    refine V_imul X d_Mod_town_108 rfl ?_
    refine V_iload (n := 3) X d_Mod_town_109 rfl rfl ?_
    refine V_iadd X d_Mod_town_111 rfl ?_
    refine V_aload_n (n := 0) X d_Mod_town_112 rfl rfl rfl ?_
    obtain ⟨x8, hx8, h⟩ := ob_s h
    refine V_ci (As := []) X (Z0 E) ml_Mod_183 yq_Mod_here (c_Mod_here E.2.1 G  M x8 hx8 _ (Nat.le_refl _)) kd_162 rfl rfl (by omega) rfl (Nat.le_of_ble_eq_true rfl) d_Mod_town_113 rfl (fun r9 M9 hq => ?_)
    rw [hq.1, hq.2]
    obtain ⟨x9, hx9, h⟩ := ob_s h
    refine V_si (As := [.int x8]) X (Z0 E) ml_Mod_198 yq_Mod_kindOf (c_Mod_kindOf E.2.1 G x8 M x9 hx9 _ (Nat.le_refl _)) rfl (by omega) rfl (Nat.le_of_ble_eq_true rfl) d_Mod_town_116 rfl (fun r9 M9 hq => ?_)
    rw [hq.1, hq.2]
    obtain ⟨hb, h⟩ := ifn h
    obtain ⟨M10, eM10, h⟩ := memS h
    refine V_iast X kd_169 (inb_in ln_169 hb) d_Mod_town_119 rfl ?_
    rw [← eM10]
    refine V_iinc (n := 3) (v := (v4 + (1 : Int32))) (lv' := [(4, .int (v4 + (1 : Int32))), (0, .ref (G.2.2 + 162)), (1, .int v1), (2, .int v2)]) X d_Mod_town_120 rfl rfl (by decide) rfl rfl ?_
    refine V_aload_n (n := 1) X d_Mod_town_123 rfl rfl rfl ?_
    refine V_dup X d_Mod_town_124 rfl rfl ?_
    refine V_geti X fo_Mod_173 kd_162 rfl d_Mod_town_125 rfl ?_
    refine V_iconst (v := 1) X d_Mod_town_128 (by decide) rfl ?_
    refine V_iadd X d_Mod_town_129 rfl ?_
    obtain ⟨M11, eM11, h⟩ := memS h
    refine V_putI X fp_Mod_173 kd_162 rfl d_Mod_town_130 rfl ?_
    rw [← eM11]
    refine V_goto (pc' := 58) X d_Mod_town_133 (by decide) ?_
    refine V_sub (lv' := [(0, .ref (G.2.2 + 162)), (1, .int v1), (2, .int v2), (4, .int (v4 + (1 : Int32)))]) [1, 2, 3, 0] rfl ?_
    exact kc ((v4 + (1 : Int32)), M11) (Option.some.inj h).symm
  · rw [if_pos c13] at h
    refine V_aload_n (n := 0) X d_Mod_town_91 rfl rfl rfl ?_
    refine V_aload_n (n := 0) X d_Mod_town_92 rfl rfl rfl ?_
    refine V_geti X fo_Mod_173 kd_162 rfl d_Mod_town_93 rfl ?_
    obtain ⟨x12, hx12, h⟩ := ob_s h
    refine V_cv (As := [.int (M.1 162 17)]) X (Z0 E) ml_Mod_190 yq_Mod_fault (c_Mod_fault E.2.1 G (M.1 162 17) M x12 hx12 _ (Nat.le_refl _)) kd_162 rfl rfl (by omega) rfl (Nat.le_of_ble_eq_true rfl) d_Mod_town_96 rfl (fun M9 hq => ?_)
    rw [hq]
    refine V_goto (pc' := 58) X d_Mod_town_99 (by decide) ?_
    exact kc (v4, x12) (Option.some.inj h).symm
def lb_Mod_town_58 (v1 : Int32) (v2 : Int32) (s : Int32 × Mem) : Option ((Int32 × Mem) ⊕ ((Int32 × Mem))) :=
  Option.bind (f_Mod_fine s.2) fun x5 =>
  if x5 = 0 then
  some (.inr (s.1, s.2))
  else
  Option.bind (f_Mod_here s.2) fun x6 =>
  Option.bind (f_Mod_kindOf x6) fun x7 =>
  if x7 = (-1 : Int32) then
  some (.inr (s.1, s.2))
  else
  if v2 = 0 then
  j_Mod_town_88_58 v1 v2 s.1 (6 : Int32) s.1 s.2
  else
  j_Mod_town_88_58 v1 v2 s.1 v1 s.1 s.2
theorem lb_Mod_town_58_ok {E : Ev} {G : Gw} {d : Nat} {post : Int32 → Mem → Prop} (X : Cx E G b_Mod_town "WomenByTheRoofsModel" 5 d (some .int)) (hD : 3 ≤ d)  (v1 : Int32) (v2 : Int32)   (s : Int32 × Mem) (o : (Int32 × Mem) ⊕ ((Int32 × Mem))) (h : lb_Mod_town_58 v1 v2 s = some o) (kc : ∀ s9 : Int32 × Mem, o = .inl s9 → V E (0, 0) G 5 (QI E G post) s9.2 58 [(0, .ref (G.2.2 + 162)), (1, .int v1), (2, .int v2), (4, .int s9.1)] []) (kx0 : ∀ x9 : Int32 × Mem, o = .inr x9 → V E (0, 0) G 5 (QI E G post) x9.2 136 [(0, .ref (G.2.2 + 162)), (1, .int v1), (2, .int v2), (4, .int x9.1)] []) : V E (0, 0) G 5 (QI E G post) s.2 58 [(0, .ref (G.2.2 + 162)), (1, .int v1), (2, .int v2), (4, .int s.1)] [] := by
  unfold lb_Mod_town_58 at h
  refine V_aload_n (n := 0) X d_Mod_town_58 rfl rfl rfl ?_
  obtain ⟨x5, hx5, h⟩ := ob_s h
  refine V_ci (As := []) X (Z0 E) ml_Mod_179 yq_Mod_fine (c_Mod_fine E.2.1 G  s.2 x5 hx5 _ (Nat.le_refl _)) kd_162 rfl rfl (by omega) rfl (Nat.le_of_ble_eq_true rfl) d_Mod_town_59 rfl (fun r9 M9 hq => ?_)
  rw [hq.1, hq.2]
  refine V_if_eq (tgt := 136) X d_Mod_town_62 (by decide) rfl (fun c16 => ?_) (fun c16 => ?_)
  · rw [if_pos c16] at h
    exact kx0 (s.1, s.2) (Option.some.inj h).symm
  · rw [if_neg c16] at h
    refine V_aload_n (n := 0) X d_Mod_town_65 rfl rfl rfl ?_
    obtain ⟨x6, hx6, h⟩ := ob_s h
    refine V_ci (As := []) X (Z0 E) ml_Mod_183 yq_Mod_here (c_Mod_here E.2.1 G  s.2 x6 hx6 _ (Nat.le_refl _)) kd_162 rfl rfl (by omega) rfl (Nat.le_of_ble_eq_true rfl) d_Mod_town_66 rfl (fun r9 M9 hq => ?_)
    rw [hq.1, hq.2]
    obtain ⟨x7, hx7, h⟩ := ob_s h
    refine V_si (As := [.int x6]) X (Z0 E) ml_Mod_198 yq_Mod_kindOf (c_Mod_kindOf E.2.1 G x6 s.2 x7 hx7 _ (Nat.le_refl _)) rfl (by omega) rfl (Nat.le_of_ble_eq_true rfl) d_Mod_town_69 rfl (fun r9 M9 hq => ?_)
    rw [hq.1, hq.2]
    refine V_iconst (v := -1) X d_Mod_town_72 (by decide) rfl ?_
    refine V_icmp_eq (tgt := 136) X d_Mod_town_73 (by decide) rfl (fun c15 => ?_) (fun c15 => ?_)
    · rw [if_pos c15] at h
      exact kx0 (s.1, s.2) (Option.some.inj h).symm
    · rw [if_neg c15] at h
      refine V_iload (n := 3) X d_Mod_town_76 rfl rfl ?_
      refine V_iload_n (n := 2) X d_Mod_town_78 rfl rfl rfl ?_
      refine V_if_ne (tgt := 87) X d_Mod_town_79 (by decide) rfl (fun c14 => ?_) (fun c14 => ?_)
      · rw [if_neg c14] at h
        refine V_iload_n (n := 1) X d_Mod_town_87 rfl rfl rfl ?_
        exact j_Mod_town_88_58_ok X hD v1 v2 s.1 v1 s.1 s.2 _ h kc kx0
      · rw [if_pos c14] at h
        refine V_bipush (v := 6) X d_Mod_town_82 (by decide) rfl ?_
        refine V_goto (pc' := 88) X d_Mod_town_84 (by decide) ?_
        exact j_Mod_town_88_58_ok X hD v1 v2 s.1 (6 : Int32) s.1 s.2 _ h kc kx0
theorem lp_Mod_town_58_ok {E : Ev} {G : Gw} {d : Nat} {post : Int32 → Mem → Prop} (X : Cx E G b_Mod_town "WomenByTheRoofsModel" 5 d (some .int)) (hD : 3 ≤ d)  (v1 : Int32) (v2 : Int32)   (n9 : Nat) (s : Int32 × Mem) (x : (Int32 × Mem)) (h : iter (lb_Mod_town_58 v1 v2) n9 s = some x) (kx0 : ∀ x9 : Int32 × Mem, x = x9 → V E (0, 0) G 5 (QI E G post) x9.2 136 [(0, .ref (G.2.2 + 162)), (1, .int v1), (2, .int v2), (4, .int x9.1)] []) : V E (0, 0) G 5 (QI E G post) s.2 58 [(0, .ref (G.2.2 + 162)), (1, .int v1), (2, .int v2), (4, .int s.1)] [] :=
  iter_P (P := fun s : Int32 × Mem => V E (0, 0) G 5 (QI E G post) s.2 58 [(0, .ref (G.2.2 + 162)), (1, .int v1), (2, .int v2), (4, .int s.1)] []) (fun s o hb kc ky => lb_Mod_town_58_ok X hD v1 v2 s o hb kc (fun x9 e9 => kx0 x9 (ky _ e9).symm)) n9 s h
def j_Mod_town_166_30 (v1 : Int32) (v2 : Int32) (M : Mem) : Option ((Int32 × Int32 × Int32 × Mem) ⊕ ((Int32 × Int32 × Mem))) :=
  Option.bind (f_Mod_passes (47 : Int32) M) fun x19 =>
  some (.inl (v1, (v2 + (1 : Int32)), x19.1, x19.2))
theorem j_Mod_town_166_30_ok {E : Ev} {G : Gw} {d : Nat} {post : Int32 → Mem → Prop} (X : Cx E G b_Mod_town "WomenByTheRoofsModel" 5 d (some .int)) (hD : 3 ≤ d)  (v1 : Int32) (v2 : Int32)  (M : Mem)  (o : (Int32 × Int32 × Int32 × Mem) ⊕ ((Int32 × Int32 × Mem))) (h : j_Mod_town_166_30 v1 v2 M = some o) (kc : ∀ s9 : Int32 × Int32 × Int32 × Mem, o = .inl s9 → V E (0, 0) G 5 (QI E G post) s9.2.2.2 30 [(0, .ref (G.2.2 + 162)), (1, .int s9.1), (2, .int s9.2.1), (3, .int s9.2.2.1)] []) (kx0 : ∀ x9 : Int32 × Int32 × Mem, o = .inr x9 → V E (0, 0) G 5 (QI E G post) x9.2.2 179 [(0, .ref (G.2.2 + 162)), (1, .int x9.1), (2, .int x9.2.1)] []) : V E (0, 0) G 5 (QI E G post) M 166 [(0, .ref (G.2.2 + 162)), (1, .int v1), (2, .int v2)] [] := by
  unfold j_Mod_town_166_30 at h
  refine V_iinc (n := 2) (v := (v2 + (1 : Int32))) (lv' := [(2, .int (v2 + (1 : Int32))), (0, .ref (G.2.2 + 162)), (1, .int v1)]) X d_Mod_town_166 rfl rfl (by decide) rfl rfl ?_
  refine V_aload_n (n := 1) X d_Mod_town_169 rfl rfl rfl ?_
  refine V_bipush (v := 47) X d_Mod_town_170 (by decide) rfl ?_
  obtain ⟨x19, hx19, h⟩ := ob_s h
  refine V_ci (As := [.int (47 : Int32)]) X (Z0 E) ml_Mod_186 yq_Mod_passes (c_Mod_passes E.2.1 G (47 : Int32) M x19 hx19 _ (Nat.le_refl _)) kd_162 rfl rfl (by omega) rfl (Nat.le_of_ble_eq_true rfl) d_Mod_town_172 rfl (fun r9 M9 hq => ?_)
  rw [hq.1, hq.2]
  refine V_istore_n (lv' := [(3, .int x19.1), (2, .int (v2 + (1 : Int32))), (0, .ref (G.2.2 + 162)), (1, .int v1)]) X d_Mod_town_175 rfl (by decide) rfl rfl ?_
  refine V_goto (pc' := 30) X d_Mod_town_176 (by decide) ?_
  refine V_sub (lv' := [(0, .ref (G.2.2 + 162)), (1, .int v1), (2, .int (v2 + (1 : Int32))), (3, .int x19.1)]) [2, 3, 1, 0] rfl ?_
  exact kc (v1, (v2 + (1 : Int32)), x19.1, x19.2) (Option.some.inj h).symm
def j_Mod_town_159_30 (v1 : Int32) (v2 : Int32) (v4 : Int32) (M : Mem) : Option ((Int32 × Int32 × Int32 × Mem) ⊕ ((Int32 × Int32 × Mem))) :=
  if v2 = 0 then
  j_Mod_town_166_30 v4 v2 M
  else
  j_Mod_town_166_30 v1 v2 M
theorem j_Mod_town_159_30_ok {E : Ev} {G : Gw} {d : Nat} {post : Int32 → Mem → Prop} (X : Cx E G b_Mod_town "WomenByTheRoofsModel" 5 d (some .int)) (hD : 3 ≤ d)  (v1 : Int32) (v2 : Int32) (v4 : Int32)  (M : Mem)  (o : (Int32 × Int32 × Int32 × Mem) ⊕ ((Int32 × Int32 × Mem))) (h : j_Mod_town_159_30 v1 v2 v4 M = some o) (kc : ∀ s9 : Int32 × Int32 × Int32 × Mem, o = .inl s9 → V E (0, 0) G 5 (QI E G post) s9.2.2.2 30 [(0, .ref (G.2.2 + 162)), (1, .int s9.1), (2, .int s9.2.1), (3, .int s9.2.2.1)] []) (kx0 : ∀ x9 : Int32 × Int32 × Mem, o = .inr x9 → V E (0, 0) G 5 (QI E G post) x9.2.2 179 [(0, .ref (G.2.2 + 162)), (1, .int x9.1), (2, .int x9.2.1)] []) : V E (0, 0) G 5 (QI E G post) M 159 [(0, .ref (G.2.2 + 162)), (1, .int v1), (2, .int v2), (4, .int v4)] [] := by
  unfold j_Mod_town_159_30 at h
  refine V_iload_n (n := 2) X d_Mod_town_159 rfl rfl rfl ?_
  refine V_if_ne (tgt := 166) X d_Mod_town_160 (by decide) rfl (fun c20 => ?_) (fun c20 => ?_)
  · rw [if_neg c20] at h
    refine V_sub (lv' := [(0, .ref (G.2.2 + 162)), (1, .int v1), (2, .int v2)]) [0, 1, 2] rfl ?_
    exact j_Mod_town_166_30_ok X hD v1 v2 M _ h kc kx0
  · rw [if_pos c20] at h
    refine V_iload (n := 3) X d_Mod_town_163 rfl rfl ?_
    refine V_istore_n (lv' := [(1, .int v4), (0, .ref (G.2.2 + 162)), (2, .int v2), (4, .int v4)]) X d_Mod_town_165 rfl (by decide) rfl rfl ?_
    refine V_sub (lv' := [(0, .ref (G.2.2 + 162)), (1, .int v4), (2, .int v2)]) [1, 0, 2] rfl ?_
    exact j_Mod_town_166_30_ok X hD v4 v2 M _ h kc kx0
def j_Mod_town_151_30 (v1 : Int32) (v2 : Int32) (v4 : Int32) (M : Mem) : Option ((Int32 × Int32 × Int32 × Mem) ⊕ ((Int32 × Int32 × Mem))) :=
  Option.bind (f_Mod_fault (M.1 162 17) M) fun x18 =>
  j_Mod_town_159_30 v1 v2 v4 x18
theorem j_Mod_town_151_30_ok {E : Ev} {G : Gw} {d : Nat} {post : Int32 → Mem → Prop} (X : Cx E G b_Mod_town "WomenByTheRoofsModel" 5 d (some .int)) (hD : 3 ≤ d)  (v1 : Int32) (v2 : Int32) (v4 : Int32)  (M : Mem)  (o : (Int32 × Int32 × Int32 × Mem) ⊕ ((Int32 × Int32 × Mem))) (h : j_Mod_town_151_30 v1 v2 v4 M = some o) (kc : ∀ s9 : Int32 × Int32 × Int32 × Mem, o = .inl s9 → V E (0, 0) G 5 (QI E G post) s9.2.2.2 30 [(0, .ref (G.2.2 + 162)), (1, .int s9.1), (2, .int s9.2.1), (3, .int s9.2.2.1)] []) (kx0 : ∀ x9 : Int32 × Int32 × Mem, o = .inr x9 → V E (0, 0) G 5 (QI E G post) x9.2.2 179 [(0, .ref (G.2.2 + 162)), (1, .int x9.1), (2, .int x9.2.1)] []) : V E (0, 0) G 5 (QI E G post) M 151 [(0, .ref (G.2.2 + 162)), (1, .int v1), (2, .int v2), (4, .int v4)] [] := by
  unfold j_Mod_town_151_30 at h
  refine V_aload_n (n := 0) X d_Mod_town_151 rfl rfl rfl ?_
  refine V_aload_n (n := 0) X d_Mod_town_152 rfl rfl rfl ?_
  refine V_geti X fo_Mod_173 kd_162 rfl d_Mod_town_153 rfl ?_
  obtain ⟨x18, hx18, h⟩ := ob_s h
  refine V_cv (As := [.int (M.1 162 17)]) X (Z0 E) ml_Mod_190 yq_Mod_fault (c_Mod_fault E.2.1 G (M.1 162 17) M x18 hx18 _ (Nat.le_refl _)) kd_162 rfl rfl (by omega) rfl (Nat.le_of_ble_eq_true rfl) d_Mod_town_156 rfl (fun M9 hq => ?_)
  rw [hq]
  exact j_Mod_town_159_30_ok X hD v1 v2 v4 x18 _ h kc kx0
def j_Mod_town_136_30 (v1 : Int32) (v2 : Int32) (v4 : Int32) (M : Mem) : Option ((Int32 × Int32 × Int32 × Mem) ⊕ ((Int32 × Int32 × Mem))) :=
  if v4 = 0 then
  j_Mod_town_151_30 v1 v2 v4 M
  else
  if v2 ≤ 0 then
  j_Mod_town_159_30 v1 v2 v4 M
  else
  if v1 ≤ v4 then
  j_Mod_town_159_30 v1 v2 v4 M
  else
  j_Mod_town_151_30 v1 v2 v4 M
theorem j_Mod_town_136_30_ok {E : Ev} {G : Gw} {d : Nat} {post : Int32 → Mem → Prop} (X : Cx E G b_Mod_town "WomenByTheRoofsModel" 5 d (some .int)) (hD : 3 ≤ d)  (v1 : Int32) (v2 : Int32) (v4 : Int32)  (M : Mem)  (o : (Int32 × Int32 × Int32 × Mem) ⊕ ((Int32 × Int32 × Mem))) (h : j_Mod_town_136_30 v1 v2 v4 M = some o) (kc : ∀ s9 : Int32 × Int32 × Int32 × Mem, o = .inl s9 → V E (0, 0) G 5 (QI E G post) s9.2.2.2 30 [(0, .ref (G.2.2 + 162)), (1, .int s9.1), (2, .int s9.2.1), (3, .int s9.2.2.1)] []) (kx0 : ∀ x9 : Int32 × Int32 × Mem, o = .inr x9 → V E (0, 0) G 5 (QI E G post) x9.2.2 179 [(0, .ref (G.2.2 + 162)), (1, .int x9.1), (2, .int x9.2.1)] []) : V E (0, 0) G 5 (QI E G post) M 136 [(0, .ref (G.2.2 + 162)), (1, .int v1), (2, .int v2), (4, .int v4)] [] := by
  unfold j_Mod_town_136_30 at h
  refine V_iload (n := 3) X d_Mod_town_136 rfl rfl ?_
  refine V_if_eq (tgt := 151) X d_Mod_town_138 (by decide) rfl (fun c23 => ?_) (fun c23 => ?_)
  · rw [if_pos c23] at h
    exact j_Mod_town_151_30_ok X hD v1 v2 v4 M _ h kc kx0
  · rw [if_neg c23] at h
    refine V_iload_n (n := 2) X d_Mod_town_141 rfl rfl rfl ?_
    refine V_if_le (tgt := 159) X d_Mod_town_142 (by decide) rfl (fun c22 => ?_) (fun c22 => ?_)
    · rw [if_pos c22] at h
      exact j_Mod_town_159_30_ok X hD v1 v2 v4 M _ h kc kx0
    · rw [if_neg c22] at h
      refine V_iload (n := 3) X d_Mod_town_145 rfl rfl ?_
      refine V_iload_n (n := 1) X d_Mod_town_147 rfl rfl rfl ?_
      refine V_icmp_ge (tgt := 159) X d_Mod_town_148 (by decide) rfl (fun c21 => ?_) (fun c21 => ?_)
      · rw [if_pos c21] at h
        exact j_Mod_town_159_30_ok X hD v1 v2 v4 M _ h kc kx0
      · rw [if_neg c21] at h
        exact j_Mod_town_151_30_ok X hD v1 v2 v4 M _ h kc kx0
def lb_Mod_town_30  (s : Int32 × Int32 × Int32 × Mem) : Option ((Int32 × Int32 × Int32 × Mem) ⊕ ((Int32 × Int32 × Mem))) :=
  if s.2.2.1 = 0 then
  some (.inr (s.1, s.2.1, s.2.2.2))
  else
  Option.bind (f_Mod_fine s.2.2.2) fun x4 =>
  if x4 = 0 then
  some (.inr (s.1, s.2.1, s.2.2.2))
  else
  if s.2.1 = (6 : Int32) then
  Option.bind (f_Mod_fault (s.2.2.2.1 162 17) s.2.2.2) fun x24 =>
  Option.bind (iter (lb_Mod_town_58 s.1 s.2.1) FU ((0 : Int32), x24)) fun x25 =>
  j_Mod_town_136_30 s.1 s.2.1 x25.1 x25.2
  else
  Option.bind (iter (lb_Mod_town_58 s.1 s.2.1) FU ((0 : Int32), s.2.2.2)) fun x17 =>
  j_Mod_town_136_30 s.1 s.2.1 x17.1 x17.2
theorem lb_Mod_town_30_ok {E : Ev} {G : Gw} {d : Nat} {post : Int32 → Mem → Prop} (X : Cx E G b_Mod_town "WomenByTheRoofsModel" 5 d (some .int)) (hD : 3 ≤ d)     (s : Int32 × Int32 × Int32 × Mem) (o : (Int32 × Int32 × Int32 × Mem) ⊕ ((Int32 × Int32 × Mem))) (h : lb_Mod_town_30 s = some o) (kc : ∀ s9 : Int32 × Int32 × Int32 × Mem, o = .inl s9 → V E (0, 0) G 5 (QI E G post) s9.2.2.2 30 [(0, .ref (G.2.2 + 162)), (1, .int s9.1), (2, .int s9.2.1), (3, .int s9.2.2.1)] []) (kx0 : ∀ x9 : Int32 × Int32 × Mem, o = .inr x9 → V E (0, 0) G 5 (QI E G post) x9.2.2 179 [(0, .ref (G.2.2 + 162)), (1, .int x9.1), (2, .int x9.2.1)] []) : V E (0, 0) G 5 (QI E G post) s.2.2.2 30 [(0, .ref (G.2.2 + 162)), (1, .int s.1), (2, .int s.2.1), (3, .int s.2.2.1)] [] := by
  unfold lb_Mod_town_30 at h
  refine V_iload_n (n := 3) X d_Mod_town_30 rfl rfl rfl ?_
  refine V_if_eq (tgt := 179) X d_Mod_town_31 (by decide) rfl (fun c28 => ?_) (fun c28 => ?_)
  · rw [if_pos c28] at h
    refine V_sub (lv' := [(0, .ref (G.2.2 + 162)), (1, .int s.1), (2, .int s.2.1)]) [0, 1, 2] rfl ?_
    exact kx0 (s.1, s.2.1, s.2.2.2) (Option.some.inj h).symm
  · rw [if_neg c28] at h
    refine V_aload_n (n := 0) X d_Mod_town_34 rfl rfl rfl ?_
    obtain ⟨x4, hx4, h⟩ := ob_s h
    refine V_ci (As := []) X (Z0 E) ml_Mod_179 yq_Mod_fine (c_Mod_fine E.2.1 G  s.2.2.2 x4 hx4 _ (Nat.le_refl _)) kd_162 rfl rfl (by omega) rfl (Nat.le_of_ble_eq_true rfl) d_Mod_town_35 rfl (fun r9 M9 hq => ?_)
    rw [hq.1, hq.2]
    refine V_if_eq (tgt := 179) X d_Mod_town_38 (by decide) rfl (fun c27 => ?_) (fun c27 => ?_)
    · rw [if_pos c27] at h
      refine V_sub (lv' := [(0, .ref (G.2.2 + 162)), (1, .int s.1), (2, .int s.2.1)]) [0, 1, 2] rfl ?_
      exact kx0 (s.1, s.2.1, s.2.2.2) (Option.some.inj h).symm
    · rw [if_neg c27] at h
      refine V_iload_n (n := 2) X d_Mod_town_41 rfl rfl rfl ?_
      refine V_bipush (v := 6) X d_Mod_town_42 (by decide) rfl ?_
      refine V_icmp_ne (tgt := 55) X d_Mod_town_44 (by decide) rfl (fun c26 => ?_) (fun c26 => ?_)
      · rw [if_neg c26] at h
        refine V_iconst (v := 0) X d_Mod_town_55 (by decide) rfl ?_
        refine V_istore (lv' := [(4, .int (0 : Int32)), (0, .ref (G.2.2 + 162)), (1, .int s.1), (2, .int s.2.1), (3, .int s.2.2.1)]) X d_Mod_town_56 (by decide) rfl rfl ?_
        refine V_sub (lv' := [(0, .ref (G.2.2 + 162)), (1, .int s.1), (2, .int s.2.1), (4, .int (0 : Int32))]) [1, 2, 3, 0] rfl ?_
        obtain ⟨x17, hx17, h⟩ := ob_s h
        refine (lp_Mod_town_58_ok X hD s.1 s.2.1 _ _ _ hx17 (fun x9 e9 => ?_) :)
        subst e9
        exact j_Mod_town_136_30_ok X hD s.1 s.2.1 x17.1 x17.2 _ h kc kx0
      · rw [if_pos c26] at h
        refine V_aload_n (n := 0) X d_Mod_town_47 rfl rfl rfl ?_
        refine V_aload_n (n := 0) X d_Mod_town_48 rfl rfl rfl ?_
        refine V_geti X fo_Mod_173 kd_162 rfl d_Mod_town_49 rfl ?_
        obtain ⟨x24, hx24, h⟩ := ob_s h
        refine V_cv (As := [.int (s.2.2.2.1 162 17)]) X (Z0 E) ml_Mod_190 yq_Mod_fault (c_Mod_fault E.2.1 G (s.2.2.2.1 162 17) s.2.2.2 x24 hx24 _ (Nat.le_refl _)) kd_162 rfl rfl (by omega) rfl (Nat.le_of_ble_eq_true rfl) d_Mod_town_52 rfl (fun M9 hq => ?_)
        rw [hq]
        refine V_iconst (v := 0) X d_Mod_town_55 (by decide) rfl ?_
        refine V_istore (lv' := [(4, .int (0 : Int32)), (0, .ref (G.2.2 + 162)), (1, .int s.1), (2, .int s.2.1), (3, .int s.2.2.1)]) X d_Mod_town_56 (by decide) rfl rfl ?_
        refine V_sub (lv' := [(0, .ref (G.2.2 + 162)), (1, .int s.1), (2, .int s.2.1), (4, .int (0 : Int32))]) [1, 2, 3, 0] rfl ?_
        obtain ⟨x25, hx25, h⟩ := ob_s h
        refine (lp_Mod_town_58_ok X hD s.1 s.2.1 _ _ _ hx25 (fun x9 e9 => ?_) :)
        subst e9
        exact j_Mod_town_136_30_ok X hD s.1 s.2.1 x25.1 x25.2 _ h kc kx0
theorem lp_Mod_town_30_ok {E : Ev} {G : Gw} {d : Nat} {post : Int32 → Mem → Prop} (X : Cx E G b_Mod_town "WomenByTheRoofsModel" 5 d (some .int)) (hD : 3 ≤ d)     (n9 : Nat) (s : Int32 × Int32 × Int32 × Mem) (x : (Int32 × Int32 × Mem)) (h : iter (lb_Mod_town_30) n9 s = some x) (kx0 : ∀ x9 : Int32 × Int32 × Mem, x = x9 → V E (0, 0) G 5 (QI E G post) x9.2.2 179 [(0, .ref (G.2.2 + 162)), (1, .int x9.1), (2, .int x9.2.1)] []) : V E (0, 0) G 5 (QI E G post) s.2.2.2 30 [(0, .ref (G.2.2 + 162)), (1, .int s.1), (2, .int s.2.1), (3, .int s.2.2.1)] [] :=
  iter_P (P := fun s : Int32 × Int32 × Int32 × Mem => V E (0, 0) G 5 (QI E G post) s.2.2.2 30 [(0, .ref (G.2.2 + 162)), (1, .int s.1), (2, .int s.2.1), (3, .int s.2.2.1)] []) (fun s o hb kc ky => lb_Mod_town_30_ok X hD  s o hb kc (fun x9 e9 => kx0 x9 (ky _ e9).symm)) n9 s h
def lb_Mod_town_225 (v1 : Int32) (v2 : Int32) (s : Int32 × Mem) : Option ((Int32 × Mem) ⊕ ((Mem))) :=
  if (36 : Int32) ≤ s.1 then
  some (.inr s.2)
  else
  if (v1 * v2) ≤ s.1 then
  if inb s.1 36 = true then
  mem_ (s_i s.2 164 s.1.toNatClampNeg (0 : Int32)) fun M33 =>
  some (.inl ((s.1 + (1 : Int32)), M33))
  else none
  else
  if inb s.1 36 = true then
  if inb s.1 36 = true then
  mem_ (s_i s.2 164 s.1.toNatClampNeg (s.2.1 169 s.1.toNatClampNeg)) fun M34 =>
  some (.inl ((s.1 + (1 : Int32)), M34))
  else none
  else none
theorem lb_Mod_town_225_ok {E : Ev} {G : Gw} {d : Nat} {post : Int32 → Mem → Prop} (X : Cx E G b_Mod_town "WomenByTheRoofsModel" 5 d (some .int)) (hD : 3 ≤ d)  (v1 : Int32) (v2 : Int32)   (s : Int32 × Mem) (o : (Int32 × Mem) ⊕ ((Mem))) (h : lb_Mod_town_225 v1 v2 s = some o) (kc : ∀ s9 : Int32 × Mem, o = .inl s9 → V E (0, 0) G 5 (QI E G post) s9.2 225 [(0, .ref (G.2.2 + 162)), (1, .int v1), (2, .int v2), (4, .int s9.1)] []) (kx0 : ∀ x9 : Mem, o = .inr x9 → V E (0, 0) G 5 (QI E G post) x9 264 [(0, .ref (G.2.2 + 162)), (1, .int v1), (2, .int v2)] []) : V E (0, 0) G 5 (QI E G post) s.2 225 [(0, .ref (G.2.2 + 162)), (1, .int v1), (2, .int v2), (4, .int s.1)] [] := by
  unfold lb_Mod_town_225 at h
  refine V_iload (n := 3) X d_Mod_town_225 rfl rfl ?_
  refine V_bipush (v := 36) X d_Mod_town_227 (by decide) rfl ?_
  refine V_icmp_ge (tgt := 264) X d_Mod_town_229 (by decide) rfl (fun c36 => ?_) (fun c36 => ?_)
  · rw [if_pos c36] at h
    refine V_sub (lv' := [(0, .ref (G.2.2 + 162)), (1, .int v1), (2, .int v2)]) [0, 1, 2] rfl ?_
    exact kx0 s.2 (Option.some.inj h).symm
  · rw [if_neg c36] at h
    refine V_aload_n (n := 0) X d_Mod_town_232 rfl rfl rfl ?_
    refine V_getr (k2 := 164) X fo_Mod_13 kd_162 rfl rf_162_1 d_Mod_town_233 rfl ?_
    refine V_iload (n := 3) X d_Mod_town_236 rfl rfl ?_
    refine V_iload (n := 3) X d_Mod_town_238 rfl rfl ?_
    refine V_iload_n (n := 1) X d_Mod_town_240 rfl rfl rfl ?_
    refine V_iload_n (n := 2) X d_Mod_town_241 rfl rfl rfl ?_
    refine V_imul X d_Mod_town_242 rfl ?_
    refine V_icmp_ge (tgt := 256) X d_Mod_town_243 (by decide) rfl (fun c35 => ?_) (fun c35 => ?_)
    · rw [if_pos c35] at h
      refine V_iconst (v := 0) X d_Mod_town_256 (by decide) rfl ?_
      obtain ⟨hb, h⟩ := ifn h
      obtain ⟨M33, eM33, h⟩ := memS h
      refine V_iast X kd_164 (inb_in ln_164 hb) d_Mod_town_257 rfl ?_
      rw [← eM33]
      refine V_iinc (n := 3) (v := (s.1 + (1 : Int32))) (lv' := [(4, .int (s.1 + (1 : Int32))), (0, .ref (G.2.2 + 162)), (1, .int v1), (2, .int v2)]) X d_Mod_town_258 rfl rfl (by decide) rfl rfl ?_
      refine V_goto (pc' := 225) X d_Mod_town_261 (by decide) ?_
      refine V_sub (lv' := [(0, .ref (G.2.2 + 162)), (1, .int v1), (2, .int v2), (4, .int (s.1 + (1 : Int32)))]) [1, 2, 3, 0] rfl ?_
      exact kc ((s.1 + (1 : Int32)), M33) (Option.some.inj h).symm
    · rw [if_neg c35] at h
      refine V_aload_n (n := 0) X d_Mod_town_246 rfl rfl rfl ?_
      refine V_getr (k2 := 169) X fo_Mod_39 kd_162 rfl rf_162_19 d_Mod_town_247 rfl ?_
      refine V_iload (n := 3) X d_Mod_town_250 rfl rfl ?_
      obtain ⟨hb, h⟩ := ifn h
      refine V_iald X kd_169 (inb_in ln_169 hb) d_Mod_town_252 rfl ?_
      refine V_goto (pc' := 257) X d_Mod_town_253 (by decide) ?_
      obtain ⟨hb, h⟩ := ifn h
      obtain ⟨M34, eM34, h⟩ := memS h
      refine V_iast X kd_164 (inb_in ln_164 hb) d_Mod_town_257 rfl ?_
      rw [← eM34]
      refine V_iinc (n := 3) (v := (s.1 + (1 : Int32))) (lv' := [(4, .int (s.1 + (1 : Int32))), (0, .ref (G.2.2 + 162)), (1, .int v1), (2, .int v2)]) X d_Mod_town_258 rfl rfl (by decide) rfl rfl ?_
      refine V_goto (pc' := 225) X d_Mod_town_261 (by decide) ?_
      refine V_sub (lv' := [(0, .ref (G.2.2 + 162)), (1, .int v1), (2, .int v2), (4, .int (s.1 + (1 : Int32)))]) [1, 2, 3, 0] rfl ?_
      exact kc ((s.1 + (1 : Int32)), M34) (Option.some.inj h).symm
theorem lp_Mod_town_225_ok {E : Ev} {G : Gw} {d : Nat} {post : Int32 → Mem → Prop} (X : Cx E G b_Mod_town "WomenByTheRoofsModel" 5 d (some .int)) (hD : 3 ≤ d)  (v1 : Int32) (v2 : Int32)   (n9 : Nat) (s : Int32 × Mem) (x : (Mem)) (h : iter (lb_Mod_town_225 v1 v2) n9 s = some x) (kx0 : ∀ x9 : Mem, x = x9 → V E (0, 0) G 5 (QI E G post) x9 264 [(0, .ref (G.2.2 + 162)), (1, .int v1), (2, .int v2)] []) : V E (0, 0) G 5 (QI E G post) s.2 225 [(0, .ref (G.2.2 + 162)), (1, .int v1), (2, .int v2), (4, .int s.1)] [] :=
  iter_P (P := fun s : Int32 × Mem => V E (0, 0) G 5 (QI E G post) s.2 225 [(0, .ref (G.2.2 + 162)), (1, .int v1), (2, .int v2), (4, .int s.1)] []) (fun s o hb kc ky => lb_Mod_town_225_ok X hD v1 v2 s o hb kc (fun x9 e9 => kx0 x9 (ky _ e9).symm)) n9 s h
def lb_Mod_town_282 (v1 : Int32) (v2 : Int32) (s : Int32 × Mem) : Option ((Int32 × Mem) ⊕ ((Mem))) :=
  if (96 : Int32) ≤ s.1 then
  some (.inr s.2)
  else
  if inb s.1 96 = true then
  mem_ (s_i s.2 163 s.1.toNatClampNeg (0 : Int32)) fun M41 =>
  some (.inl ((s.1 + (1 : Int32)), M41))
  else none
theorem lb_Mod_town_282_ok {E : Ev} {G : Gw} {d : Nat} {post : Int32 → Mem → Prop} (X : Cx E G b_Mod_town "WomenByTheRoofsModel" 5 d (some .int)) (hD : 3 ≤ d)  (v1 : Int32) (v2 : Int32)   (s : Int32 × Mem) (o : (Int32 × Mem) ⊕ ((Mem))) (h : lb_Mod_town_282 v1 v2 s = some o) (kc : ∀ s9 : Int32 × Mem, o = .inl s9 → V E (0, 0) G 5 (QI E G post) s9.2 282 [(0, .ref (G.2.2 + 162)), (1, .int v1), (2, .int v2), (4, .int s9.1)] []) (kx0 : ∀ x9 : Mem, o = .inr x9 → V E (0, 0) G 5 (QI E G post) x9 303 [(0, .ref (G.2.2 + 162)), (1, .int v1), (2, .int v2)] []) : V E (0, 0) G 5 (QI E G post) s.2 282 [(0, .ref (G.2.2 + 162)), (1, .int v1), (2, .int v2), (4, .int s.1)] [] := by
  unfold lb_Mod_town_282 at h
  refine V_iload (n := 3) X d_Mod_town_282 rfl rfl ?_
  refine V_bipush (v := 96) X d_Mod_town_284 (by decide) rfl ?_
  refine V_icmp_ge (tgt := 303) X d_Mod_town_286 (by decide) rfl (fun c42 => ?_) (fun c42 => ?_)
  · rw [if_pos c42] at h
    refine V_sub (lv' := [(0, .ref (G.2.2 + 162)), (1, .int v1), (2, .int v2)]) [0, 1, 2] rfl ?_
    exact kx0 s.2 (Option.some.inj h).symm
  · rw [if_neg c42] at h
    refine V_aload_n (n := 0) X d_Mod_town_289 rfl rfl rfl ?_
    refine V_getr (k2 := 163) X fo_Mod_9 kd_162 rfl rf_162_0 d_Mod_town_290 rfl ?_
    refine V_iload (n := 3) X d_Mod_town_293 rfl rfl ?_
    refine V_iconst (v := 0) X d_Mod_town_295 (by decide) rfl ?_
    obtain ⟨hb, h⟩ := ifn h
    obtain ⟨M41, eM41, h⟩ := memS h
    refine V_iast X kd_163 (inb_in ln_163 hb) d_Mod_town_296 rfl ?_
    rw [← eM41]
    refine V_iinc (n := 3) (v := (s.1 + (1 : Int32))) (lv' := [(4, .int (s.1 + (1 : Int32))), (0, .ref (G.2.2 + 162)), (1, .int v1), (2, .int v2)]) X d_Mod_town_297 rfl rfl (by decide) rfl rfl ?_
    refine V_goto (pc' := 282) X d_Mod_town_300 (by decide) ?_
    refine V_sub (lv' := [(0, .ref (G.2.2 + 162)), (1, .int v1), (2, .int v2), (4, .int (s.1 + (1 : Int32)))]) [1, 2, 3, 0] rfl ?_
    exact kc ((s.1 + (1 : Int32)), M41) (Option.some.inj h).symm
theorem lp_Mod_town_282_ok {E : Ev} {G : Gw} {d : Nat} {post : Int32 → Mem → Prop} (X : Cx E G b_Mod_town "WomenByTheRoofsModel" 5 d (some .int)) (hD : 3 ≤ d)  (v1 : Int32) (v2 : Int32)   (n9 : Nat) (s : Int32 × Mem) (x : (Mem)) (h : iter (lb_Mod_town_282 v1 v2) n9 s = some x) (kx0 : ∀ x9 : Mem, x = x9 → V E (0, 0) G 5 (QI E G post) x9 303 [(0, .ref (G.2.2 + 162)), (1, .int v1), (2, .int v2)] []) : V E (0, 0) G 5 (QI E G post) s.2 282 [(0, .ref (G.2.2 + 162)), (1, .int v1), (2, .int v2), (4, .int s.1)] [] :=
  iter_P (P := fun s : Int32 × Mem => V E (0, 0) G 5 (QI E G post) s.2 282 [(0, .ref (G.2.2 + 162)), (1, .int v1), (2, .int v2), (4, .int s.1)] []) (fun s o hb kc ky => lb_Mod_town_282_ok X hD v1 v2 s o hb kc (fun x9 e9 => kx0 x9 (ky _ e9).symm)) n9 s h
def lb_Mod_town_311 (v1 : Int32) (v2 : Int32) (s : Int32 × Mem) : Option ((Int32 × Mem) ⊕ ((Mem))) :=
  if (2 : Int32) ≤ s.1 then
  some (.inr s.2)
  else
  if inb s.1 2 = true then
  mem_ (s_i s.2 190 s.1.toNatClampNeg (vp_nar .boolean (0 : Int32))) fun M45 =>
  some (.inl ((s.1 + (1 : Int32)), M45))
  else none
theorem lb_Mod_town_311_ok {E : Ev} {G : Gw} {d : Nat} {post : Int32 → Mem → Prop} (X : Cx E G b_Mod_town "WomenByTheRoofsModel" 5 d (some .int)) (hD : 3 ≤ d)  (v1 : Int32) (v2 : Int32)   (s : Int32 × Mem) (o : (Int32 × Mem) ⊕ ((Mem))) (h : lb_Mod_town_311 v1 v2 s = some o) (kc : ∀ s9 : Int32 × Mem, o = .inl s9 → V E (0, 0) G 5 (QI E G post) s9.2 311 [(0, .ref (G.2.2 + 162)), (1, .int v1), (2, .int v2), (4, .int s9.1)] []) (kx0 : ∀ x9 : Mem, o = .inr x9 → V E (0, 0) G 5 (QI E G post) x9 331 [(1, .int v1), (2, .int v2)] []) : V E (0, 0) G 5 (QI E G post) s.2 311 [(0, .ref (G.2.2 + 162)), (1, .int v1), (2, .int v2), (4, .int s.1)] [] := by
  unfold lb_Mod_town_311 at h
  refine V_iload (n := 3) X d_Mod_town_311 rfl rfl ?_
  refine V_iconst (v := 2) X d_Mod_town_313 (by decide) rfl ?_
  refine V_icmp_ge (tgt := 331) X d_Mod_town_314 (by decide) rfl (fun c46 => ?_) (fun c46 => ?_)
  · rw [if_pos c46] at h
    refine V_sub (lv' := [(1, .int v1), (2, .int v2)]) [1, 2] rfl ?_
    exact kx0 s.2 (Option.some.inj h).symm
  · rw [if_neg c46] at h
    refine V_aload_n (n := 0) X d_Mod_town_317 rfl rfl rfl ?_
    refine V_getr (k2 := 190) X fo_Mod_103 kd_162 rfl rf_162_50 d_Mod_town_318 rfl ?_
    refine V_iload (n := 3) X d_Mod_town_321 rfl rfl ?_
    refine V_iconst (v := 0) X d_Mod_town_323 (by decide) rfl ?_
    obtain ⟨hb, h⟩ := ifn h
    obtain ⟨M45, eM45, h⟩ := memS h
    refine V_zast X kd_190 (inb_in ln_190 hb) d_Mod_town_324 rfl ?_
    rw [← eM45]
    refine V_iinc (n := 3) (v := (s.1 + (1 : Int32))) (lv' := [(4, .int (s.1 + (1 : Int32))), (0, .ref (G.2.2 + 162)), (1, .int v1), (2, .int v2)]) X d_Mod_town_325 rfl rfl (by decide) rfl rfl ?_
    refine V_goto (pc' := 311) X d_Mod_town_328 (by decide) ?_
    refine V_sub (lv' := [(0, .ref (G.2.2 + 162)), (1, .int v1), (2, .int v2), (4, .int (s.1 + (1 : Int32)))]) [1, 2, 3, 0] rfl ?_
    exact kc ((s.1 + (1 : Int32)), M45) (Option.some.inj h).symm
theorem lp_Mod_town_311_ok {E : Ev} {G : Gw} {d : Nat} {post : Int32 → Mem → Prop} (X : Cx E G b_Mod_town "WomenByTheRoofsModel" 5 d (some .int)) (hD : 3 ≤ d)  (v1 : Int32) (v2 : Int32)   (n9 : Nat) (s : Int32 × Mem) (x : (Mem)) (h : iter (lb_Mod_town_311 v1 v2) n9 s = some x) (kx0 : ∀ x9 : Mem, x = x9 → V E (0, 0) G 5 (QI E G post) x9 331 [(1, .int v1), (2, .int v2)] []) : V E (0, 0) G 5 (QI E G post) s.2 311 [(0, .ref (G.2.2 + 162)), (1, .int v1), (2, .int v2), (4, .int s.1)] [] :=
  iter_P (P := fun s : Int32 × Mem => V E (0, 0) G 5 (QI E G post) s.2 311 [(0, .ref (G.2.2 + 162)), (1, .int v1), (2, .int v2), (4, .int s.1)] []) (fun s o hb kc ky => lb_Mod_town_311_ok X hD v1 v2 s o hb kc (fun x9 e9 => kx0 x9 (ky _ e9).symm)) n9 s h
def j_Mod_town_198 (v1 : Int32) (v2 : Int32) (M : Mem) : Option (Int32 × Mem) :=
  Option.bind (f_Mod_fine M) fun x30 =>
  if x30 = 0 then
  some (((-1 : Int32) - (M.1 162 18)), M)
  else
  mem_ (s_i M 162 2 v1) fun M31 =>
  mem_ (s_i M31 162 3 v2) fun M32 =>
  Option.bind (iter (lb_Mod_town_225 v1 v2) FU ((0 : Int32), M32)) fun x37 =>
  mem_ (s_i x37 162 4 (0 : Int32)) fun M38 =>
  mem_ (s_i M38 162 5 (0 : Int32)) fun M39 =>
  mem_ (s_i M39 162 8 (-1 : Int32)) fun M40 =>
  Option.bind (iter (lb_Mod_town_282 v1 v2) FU ((0 : Int32), M40)) fun x43 =>
  mem_ (s_i x43 162 27 (0 : Int32)) fun M44 =>
  Option.bind (iter (lb_Mod_town_311 v1 v2) FU ((0 : Int32), M44)) fun x47 =>
  some ((v1 * v2), x47)
theorem j_Mod_town_198_ok {E : Ev} {G : Gw} {d : Nat} {post : Int32 → Mem → Prop} (X : Cx E G b_Mod_town "WomenByTheRoofsModel" 5 d (some .int)) (hD : 3 ≤ d)  (v1 : Int32) (v2 : Int32)  (M : Mem)  (o : Int32 × Mem) (h : j_Mod_town_198 v1 v2 M = some o) (kr : ∀ x9 : Int32 × Mem, o = x9 → post x9.1 x9.2) : V E (0, 0) G 5 (QI E G post) M 198 [(0, .ref (G.2.2 + 162)), (1, .int v1), (2, .int v2)] [] := by
  unfold j_Mod_town_198 at h
  refine V_aload_n (n := 0) X d_Mod_town_198 rfl rfl rfl ?_
  obtain ⟨x30, hx30, h⟩ := ob_s h
  refine V_ci (As := []) X (Z0 E) ml_Mod_179 yq_Mod_fine (c_Mod_fine E.2.1 G  M x30 hx30 _ (Nat.le_refl _)) kd_162 rfl rfl (by omega) rfl (Nat.le_of_ble_eq_true rfl) d_Mod_town_199 rfl (fun r9 M9 hq => ?_)
  rw [hq.1, hq.2]
  refine V_if_ne (tgt := 212) X d_Mod_town_202 (by decide) rfl (fun c48 => ?_) (fun c48 => ?_)
  · rw [if_neg c48] at h
    refine V_aload_n (n := 0) X d_Mod_town_212 rfl rfl rfl ?_
    refine V_iload_n (n := 1) X d_Mod_town_213 rfl rfl rfl ?_
    obtain ⟨M31, eM31, h⟩ := memS h
    refine V_putI X fp_Mod_16 kd_162 rfl d_Mod_town_214 rfl ?_
    rw [← eM31]
    refine V_aload_n (n := 0) X d_Mod_town_217 rfl rfl rfl ?_
    refine V_iload_n (n := 2) X d_Mod_town_218 rfl rfl rfl ?_
    obtain ⟨M32, eM32, h⟩ := memS h
    refine V_putI X fp_Mod_20 kd_162 rfl d_Mod_town_219 rfl ?_
    rw [← eM32]
    refine V_iconst (v := 0) X d_Mod_town_222 (by decide) rfl ?_
    refine V_istore (lv' := [(4, .int (0 : Int32)), (0, .ref (G.2.2 + 162)), (1, .int v1), (2, .int v2)]) X d_Mod_town_223 (by decide) rfl rfl ?_
    refine V_sub (lv' := [(0, .ref (G.2.2 + 162)), (1, .int v1), (2, .int v2), (4, .int (0 : Int32))]) [1, 2, 3, 0] rfl ?_
    obtain ⟨x37, hx37, h⟩ := ob_s h
    refine (lp_Mod_town_225_ok X hD v1 v2 _ _ _ hx37 (fun x9 e9 => ?_) :)
    subst e9
    refine V_aload_n (n := 0) X d_Mod_town_264 rfl rfl rfl ?_
    refine V_iconst (v := 0) X d_Mod_town_265 (by decide) rfl ?_
    obtain ⟨M38, eM38, h⟩ := memS h
    refine V_putI X fp_Mod_123 kd_162 rfl d_Mod_town_266 rfl ?_
    rw [← eM38]
    refine V_aload_n (n := 0) X d_Mod_town_269 rfl rfl rfl ?_
    refine V_iconst (v := 0) X d_Mod_town_270 (by decide) rfl ?_
    obtain ⟨M39, eM39, h⟩ := memS h
    refine V_putI X fp_Mod_130 kd_162 rfl d_Mod_town_271 rfl ?_
    rw [← eM39]
    refine V_aload_n (n := 0) X d_Mod_town_274 rfl rfl rfl ?_
    refine V_iconst (v := -1) X d_Mod_town_275 (by decide) rfl ?_
    obtain ⟨M40, eM40, h⟩ := memS h
    refine V_putI X fp_Mod_29 kd_162 rfl d_Mod_town_276 rfl ?_
    rw [← eM40]
    refine V_iconst (v := 0) X d_Mod_town_279 (by decide) rfl ?_
    refine V_istore (lv' := [(4, .int (0 : Int32)), (0, .ref (G.2.2 + 162)), (1, .int v1), (2, .int v2)]) X d_Mod_town_280 (by decide) rfl rfl ?_
    refine V_sub (lv' := [(0, .ref (G.2.2 + 162)), (1, .int v1), (2, .int v2), (4, .int (0 : Int32))]) [1, 2, 3, 0] rfl ?_
    obtain ⟨x43, hx43, h⟩ := ob_s h
    refine (lp_Mod_town_282_ok X hD v1 v2 _ _ _ hx43 (fun x9 e9 => ?_) :)
    subst e9
    refine V_aload_n (n := 0) X d_Mod_town_303 rfl rfl rfl ?_
    refine V_iconst (v := 0) X d_Mod_town_304 (by decide) rfl ?_
    obtain ⟨M44, eM44, h⟩ := memS h
    refine V_putI X fp_Mod_201 kd_162 rfl d_Mod_town_305 rfl ?_
    rw [← eM44]
    refine V_iconst (v := 0) X d_Mod_town_308 (by decide) rfl ?_
    refine V_istore (lv' := [(4, .int (0 : Int32)), (0, .ref (G.2.2 + 162)), (1, .int v1), (2, .int v2)]) X d_Mod_town_309 (by decide) rfl rfl ?_
    refine V_sub (lv' := [(0, .ref (G.2.2 + 162)), (1, .int v1), (2, .int v2), (4, .int (0 : Int32))]) [1, 2, 3, 0] rfl ?_
    obtain ⟨x47, hx47, h⟩ := ob_s h
    refine (lp_Mod_town_311_ok X hD v1 v2 _ _ _ hx47 (fun x9 e9 => ?_) :)
    subst e9
    refine V_iload_n (n := 0) X d_Mod_town_331 rfl rfl rfl ?_
    refine V_iload_n (n := 1) X d_Mod_town_332 rfl rfl rfl ?_
    refine V_imul X d_Mod_town_333 rfl ?_
    exact V_iret X (kr ((v1 * v2), x47) (Option.some.inj h).symm) d_Mod_town_334
  · rw [if_pos c48] at h
    refine V_iconst (v := -1) X d_Mod_town_205 (by decide) rfl ?_
    refine V_aload_n (n := 0) X d_Mod_town_206 rfl rfl rfl ?_
    refine V_geti X fo_Mod_176 kd_162 rfl d_Mod_town_207 rfl ?_
    refine V_isub X d_Mod_town_210 rfl ?_
    exact V_iret X (kr (((-1 : Int32) - (M.1 162 18)), M) (Option.some.inj h).symm) d_Mod_town_211
def j_Mod_town_179 (v1 : Int32) (v2 : Int32) (M : Mem) : Option (Int32 × Mem) :=
  if (M.1 162 15) ≤ (M.1 162 17) then
  j_Mod_town_198 v1 v2 M
  else
  Option.bind (f_Mod_fault (M.1 162 17) M) fun x49 =>
  j_Mod_town_198 v1 v2 x49
theorem j_Mod_town_179_ok {E : Ev} {G : Gw} {d : Nat} {post : Int32 → Mem → Prop} (X : Cx E G b_Mod_town "WomenByTheRoofsModel" 5 d (some .int)) (hD : 3 ≤ d)  (v1 : Int32) (v2 : Int32)  (M : Mem)  (o : Int32 × Mem) (h : j_Mod_town_179 v1 v2 M = some o) (kr : ∀ x9 : Int32 × Mem, o = x9 → post x9.1 x9.2) : V E (0, 0) G 5 (QI E G post) M 179 [(0, .ref (G.2.2 + 162)), (1, .int v1), (2, .int v2)] [] := by
  unfold j_Mod_town_179 at h
  refine V_aload_n (n := 0) X d_Mod_town_179 rfl rfl rfl ?_
  refine V_geti X fo_Mod_173 kd_162 rfl d_Mod_town_180 rfl ?_
  refine V_aload_n (n := 0) X d_Mod_town_183 rfl rfl rfl ?_
  refine V_geti X fo_Mod_167 kd_162 rfl d_Mod_town_184 rfl ?_
  refine V_icmp_ge (tgt := 198) X d_Mod_town_187 (by decide) rfl (fun c50 => ?_) (fun c50 => ?_)
  · rw [if_pos c50] at h
    exact j_Mod_town_198_ok X hD v1 v2 M _ h kr
  · rw [if_neg c50] at h
    refine V_aload_n (n := 0) X d_Mod_town_190 rfl rfl rfl ?_
    refine V_aload_n (n := 0) X d_Mod_town_191 rfl rfl rfl ?_
    refine V_geti X fo_Mod_173 kd_162 rfl d_Mod_town_192 rfl ?_
    obtain ⟨x49, hx49, h⟩ := ob_s h
    refine V_cv (As := [.int (M.1 162 17)]) X (Z0 E) ml_Mod_190 yq_Mod_fault (c_Mod_fault E.2.1 G (M.1 162 17) M x49 hx49 _ (Nat.le_refl _)) kd_162 rfl rfl (by omega) rfl (Nat.le_of_ble_eq_true rfl) d_Mod_town_195 rfl (fun M9 hq => ?_)
    rw [hq]
    exact j_Mod_town_198_ok X hD v1 v2 x49 _ h kr
def f_Mod_town (M : Mem) : Option (Int32 × Mem) :=
  mem_ (s_i M 162 13 (0 : Int32)) fun M1 =>
  Option.bind (f_Mod_begin 167 (M1.1 162 10) (80 : Int32) M1) fun x2 =>
  mem_ (s_i x2 162 10 (0 : Int32)) fun M3 =>
  Option.bind (iter (lb_Mod_town_30) FU ((0 : Int32), (0 : Int32), (1 : Int32), M3)) fun x29 =>
  j_Mod_town_179 x29.1 x29.2.1 x29.2.2
theorem c_Mod_town (l : Launch) (G : Gw)   (M : Mem) (x : Int32 × Mem) (h : f_Mod_town M = some x) (d : Nat) (hD : 3 ≤ d) : Ci l G y_Mod_town b_Mod_town 5 (some .int) d [.ref (G.2.2 + 162)] M (fun r9 M9 => r9 = x.1 ∧ M9 = x.2) := by
  refine Ci_of (by decide) (Nat.le_of_ble_eq_true rfl) (fun E hE X => ?_)
  subst hE
  have kr : ∀ x9 : Int32 × Mem, x = x9 → (fun r9 M9 => r9 = x.1 ∧ M9 = x.2) x9.1 x9.2 := fun x9 e9 => by subst e9; exact ⟨rfl, rfl⟩
  unfold f_Mod_town at h
  refine V_aload_n (n := 0) X d_Mod_town_0 rfl rfl rfl ?_
  refine V_iconst (v := 0) X d_Mod_town_1 (by decide) rfl ?_
  obtain ⟨M1, eM1, h⟩ := memS h
  refine V_putI X fp_Mod_109 kd_162 rfl d_Mod_town_2 rfl ?_
  rw [← eM1]
  refine V_aload_n (n := 0) X d_Mod_town_5 rfl rfl rfl ?_
  refine V_aload_n (n := 0) X d_Mod_town_6 rfl rfl rfl ?_
  refine V_getr (k2 := 167) X fo_Mod_32 kd_162 rfl rf_162_9 d_Mod_town_7 rfl ?_
  refine V_aload_n (n := 0) X d_Mod_town_10 rfl rfl rfl ?_
  refine V_geti X fo_Mod_161 kd_162 rfl d_Mod_town_11 rfl ?_
  refine V_bipush (v := 80) X d_Mod_town_14 (by decide) rfl ?_
  obtain ⟨x2, hx2, h⟩ := ob_s h
  refine V_cv (As := [.ref (G.2.2 + 167), .int (M1.1 162 10), .int (80 : Int32)]) X (Z0 E) ml_Mod_194 yq_Mod_begin (c_Mod_begin E.2.1 G 167 (M1.1 162 10) (80 : Int32) M1 x2 hx2 _ (Nat.le_refl _)) kd_162 rfl rfl (by omega) rfl (Nat.le_of_ble_eq_true rfl) d_Mod_town_16 rfl (fun M9 hq => ?_)
  rw [hq]
  refine V_aload_n (n := 0) X d_Mod_town_19 rfl rfl rfl ?_
  refine V_iconst (v := 0) X d_Mod_town_20 (by decide) rfl ?_
  obtain ⟨M3, eM3, h⟩ := memS h
  refine V_putI X fp_Mod_161 kd_162 rfl d_Mod_town_21 rfl ?_
  rw [← eM3]
  refine V_iconst (v := 0) X d_Mod_town_24 (by decide) rfl ?_
  refine V_istore_n (lv' := [(1, .int (0 : Int32)), (0, .ref (G.2.2 + 162))]) X d_Mod_town_25 rfl (by decide) rfl rfl ?_
  refine V_iconst (v := 0) X d_Mod_town_26 (by decide) rfl ?_
  refine V_istore_n (lv' := [(2, .int (0 : Int32)), (1, .int (0 : Int32)), (0, .ref (G.2.2 + 162))]) X d_Mod_town_27 rfl (by decide) rfl rfl ?_
  refine V_iconst (v := 1) X d_Mod_town_28 (by decide) rfl ?_
  refine V_istore_n (lv' := [(3, .int (1 : Int32)), (2, .int (0 : Int32)), (1, .int (0 : Int32)), (0, .ref (G.2.2 + 162))]) X d_Mod_town_29 rfl (by decide) rfl rfl ?_
  refine V_sub (lv' := [(0, .ref (G.2.2 + 162)), (1, .int (0 : Int32)), (2, .int (0 : Int32)), (3, .int (1 : Int32))]) [3, 2, 1, 0] rfl ?_
  obtain ⟨x29, hx29, h⟩ := ob_s h
  refine (lp_Mod_town_30_ok X hD  _ _ _ hx29 (fun x9 e9 => ?_) :)
  subst e9
  exact j_Mod_town_179_ok X hD x29.1 x29.2.1 x29.2.2 _ h kr
def f_Mod_stepOf (v0 : Int32) : Option (Int32) :=
  if v0 = (117 : Int32) then
  some (0 : Int32)
  else
  if v0 = (114 : Int32) then
  some (1 : Int32)
  else
  if v0 = (100 : Int32) then
  some (2 : Int32)
  else
  if v0 = (108 : Int32) then
  some (3 : Int32)
  else
  if v0 = (111 : Int32) then
  some (4 : Int32)
  else
  some (-1 : Int32)
theorem c_Mod_stepOf (l : Launch) (G : Gw)  (v0 : Int32) (M : Mem) (x : Int32) (h : f_Mod_stepOf v0 = some x) (d : Nat) (hD : 1 ≤ d) : Ci l G y_Mod_stepOf b_Mod_stepOf 1 (some .int) d [.int v0] M (fun r9 M9 => r9 = x ∧ M9 = M) := by
  refine Ci_of (by decide) (Nat.le_of_ble_eq_true rfl) (fun E hE X => ?_)
  subst hE
  have kr : ∀ x9 : Int32, x = x9 → (fun r9 M9 => r9 = x ∧ M9 = M) x9 M := fun x9 e9 => by subst e9; exact ⟨rfl, rfl⟩
  unfold f_Mod_stepOf at h
  refine V_iload_n (n := 0) X d_Mod_stepOf_0 rfl rfl rfl ?_
  refine V_bipush (v := 117) X d_Mod_stepOf_1 (by decide) rfl ?_
  refine V_icmp_ne (tgt := 10) X d_Mod_stepOf_3 (by decide) rfl (fun c5 => ?_) (fun c5 => ?_)
  · rw [if_neg c5] at h
    refine V_iload_n (n := 0) X d_Mod_stepOf_10 rfl rfl rfl ?_
    refine V_bipush (v := 114) X d_Mod_stepOf_11 (by decide) rfl ?_
    refine V_icmp_ne (tgt := 20) X d_Mod_stepOf_13 (by decide) rfl (fun c4 => ?_) (fun c4 => ?_)
    · rw [if_neg c4] at h
      refine V_iload_n (n := 0) X d_Mod_stepOf_20 rfl rfl rfl ?_
      refine V_bipush (v := 100) X d_Mod_stepOf_21 (by decide) rfl ?_
      refine V_icmp_ne (tgt := 30) X d_Mod_stepOf_23 (by decide) rfl (fun c3 => ?_) (fun c3 => ?_)
      · rw [if_neg c3] at h
        refine V_iload_n (n := 0) X d_Mod_stepOf_30 rfl rfl rfl ?_
        refine V_bipush (v := 108) X d_Mod_stepOf_31 (by decide) rfl ?_
        refine V_icmp_ne (tgt := 40) X d_Mod_stepOf_33 (by decide) rfl (fun c2 => ?_) (fun c2 => ?_)
        · rw [if_neg c2] at h
          refine V_iload_n (n := 0) X d_Mod_stepOf_40 rfl rfl rfl ?_
          refine V_bipush (v := 111) X d_Mod_stepOf_41 (by decide) rfl ?_
          refine V_icmp_ne (tgt := 50) X d_Mod_stepOf_43 (by decide) rfl (fun c1 => ?_) (fun c1 => ?_)
          · rw [if_neg c1] at h
            refine V_iconst (v := -1) X d_Mod_stepOf_50 (by decide) rfl ?_
            exact V_iret X (kr (-1 : Int32) (Option.some.inj h).symm) d_Mod_stepOf_51
          · rw [if_pos c1] at h
            refine V_iconst (v := 4) X d_Mod_stepOf_46 (by decide) rfl ?_
            refine V_goto (pc' := 51) X d_Mod_stepOf_47 (by decide) ?_
            exact V_iret X (kr (4 : Int32) (Option.some.inj h).symm) d_Mod_stepOf_51
        · rw [if_pos c2] at h
          refine V_iconst (v := 3) X d_Mod_stepOf_36 (by decide) rfl ?_
          refine V_goto (pc' := 51) X d_Mod_stepOf_37 (by decide) ?_
          exact V_iret X (kr (3 : Int32) (Option.some.inj h).symm) d_Mod_stepOf_51
      · rw [if_pos c3] at h
        refine V_iconst (v := 2) X d_Mod_stepOf_26 (by decide) rfl ?_
        refine V_goto (pc' := 51) X d_Mod_stepOf_27 (by decide) ?_
        exact V_iret X (kr (2 : Int32) (Option.some.inj h).symm) d_Mod_stepOf_51
    · rw [if_pos c4] at h
      refine V_iconst (v := 1) X d_Mod_stepOf_16 (by decide) rfl ?_
      refine V_goto (pc' := 51) X d_Mod_stepOf_17 (by decide) ?_
      exact V_iret X (kr (1 : Int32) (Option.some.inj h).symm) d_Mod_stepOf_51
  · rw [if_pos c5] at h
    refine V_iconst (v := 0) X d_Mod_stepOf_6 (by decide) rfl ?_
    refine V_goto (pc' := 51) X d_Mod_stepOf_7 (by decide) ?_
    exact V_iret X (kr (0 : Int32) (Option.some.inj h).symm) d_Mod_stepOf_51
def lb_Mod_readRoute_2 (v1 : Nat) (v2 : Int32) (s : Int32 × Mem) : Option ((Int32 × Mem) ⊕ ((Int32 × Mem))) :=
  Option.bind (f_Mod_fine s.2) fun x1 =>
  if x1 = 0 then
  some (.inr (s.1, s.2))
  else
  Option.bind (f_Mod_here s.2) fun x2 =>
  Option.bind (f_Mod_stepOf x2) fun x3 =>
  if x3 = (-1 : Int32) then
  some (.inr (s.1, s.2))
  else
  if s.1 = (9 : Int32) then
  Option.bind (f_Mod_fault (s.2.1 162 17) s.2) fun x8 =>
  some (.inl (s.1, x8))
  else
  Option.bind (f_Mod_here s.2) fun x4 =>
  Option.bind (f_Mod_stepOf x4) fun x5 =>
  if inb (v2 + s.1) (ln v1) = true then
  mem_ (s_i s.2 v1 (v2 + s.1).toNatClampNeg x5) fun M6 =>
  mem_ (s_i M6 162 17 ((M6.1 162 17) + (1 : Int32))) fun M7 =>
  some (.inl ((s.1 + (1 : Int32)), M7))
  else none
theorem lb_Mod_readRoute_2_ok {E : Ev} {G : Gw} {d : Nat} {post : Int32 → Mem → Prop} (X : Cx E G b_Mod_readRoute "WomenByTheRoofsModel" 4 d (some .int)) (hD : 3 ≤ d)  (v1 : Nat) (v2 : Int32) (hk_v1 : kd v1 = 1)  (s : Int32 × Mem) (o : (Int32 × Mem) ⊕ ((Int32 × Mem))) (h : lb_Mod_readRoute_2 v1 v2 s = some o) (kc : ∀ s9 : Int32 × Mem, o = .inl s9 → V E (0, 0) G 4 (QI E G post) s9.2 2 [(0, .ref (G.2.2 + 162)), (1, .ref (G.2.2 + v1)), (2, .int v2), (3, .int s9.1)] []) (kx0 : ∀ x9 : Int32 × Mem, o = .inr x9 → V E (0, 0) G 4 (QI E G post) x9.2 65 [(0, .ref (G.2.2 + 162)), (3, .int x9.1)] []) : V E (0, 0) G 4 (QI E G post) s.2 2 [(0, .ref (G.2.2 + 162)), (1, .ref (G.2.2 + v1)), (2, .int v2), (3, .int s.1)] [] := by
  unfold lb_Mod_readRoute_2 at h
  refine V_aload_n (n := 0) X d_Mod_readRoute_2 rfl rfl rfl ?_
  obtain ⟨x1, hx1, h⟩ := ob_s h
  refine V_ci (As := []) X (Z0 E) ml_Mod_179 yq_Mod_fine (c_Mod_fine E.2.1 G  s.2 x1 hx1 _ (Nat.le_refl _)) kd_162 rfl rfl (by omega) rfl (Nat.le_of_ble_eq_true rfl) d_Mod_readRoute_3 rfl (fun r9 M9 hq => ?_)
  rw [hq.1, hq.2]
  refine V_if_eq (tgt := 65) X d_Mod_readRoute_6 (by decide) rfl (fun c11 => ?_) (fun c11 => ?_)
  · rw [if_pos c11] at h
    refine V_sub (lv' := [(0, .ref (G.2.2 + 162)), (3, .int s.1)]) [0, 3] rfl ?_
    exact kx0 (s.1, s.2) (Option.some.inj h).symm
  · rw [if_neg c11] at h
    refine V_aload_n (n := 0) X d_Mod_readRoute_9 rfl rfl rfl ?_
    obtain ⟨x2, hx2, h⟩ := ob_s h
    refine V_ci (As := []) X (Z0 E) ml_Mod_183 yq_Mod_here (c_Mod_here E.2.1 G  s.2 x2 hx2 _ (Nat.le_refl _)) kd_162 rfl rfl (by omega) rfl (Nat.le_of_ble_eq_true rfl) d_Mod_readRoute_10 rfl (fun r9 M9 hq => ?_)
    rw [hq.1, hq.2]
    obtain ⟨x3, hx3, h⟩ := ob_s h
    refine V_si (As := [.int x2]) X (Z0 E) ml_Mod_224 yq_Mod_stepOf (c_Mod_stepOf E.2.1 G x2 s.2 x3 hx3 _ (Nat.le_refl _)) rfl (by omega) rfl (Nat.le_of_ble_eq_true rfl) d_Mod_readRoute_13 rfl (fun r9 M9 hq => ?_)
    rw [hq.1, hq.2]
    refine V_iconst (v := -1) X d_Mod_readRoute_16 (by decide) rfl ?_
    refine V_icmp_eq (tgt := 65) X d_Mod_readRoute_17 (by decide) rfl (fun c10 => ?_) (fun c10 => ?_)
    · rw [if_pos c10] at h
      refine V_sub (lv' := [(0, .ref (G.2.2 + 162)), (3, .int s.1)]) [0, 3] rfl ?_
      exact kx0 (s.1, s.2) (Option.some.inj h).symm
    · rw [if_neg c10] at h
      refine V_iload_n (n := 3) X d_Mod_readRoute_20 rfl rfl rfl ?_
      refine V_bipush (v := 9) X d_Mod_readRoute_21 (by decide) rfl ?_
      refine V_icmp_ne (tgt := 37) X d_Mod_readRoute_23 (by decide) rfl (fun c9 => ?_) (fun c9 => ?_)
      · rw [if_neg c9] at h
        refine V_aload_n (n := 1) X d_Mod_readRoute_37 rfl rfl rfl ?_
        refine V_iload_n (n := 2) X d_Mod_readRoute_38 rfl rfl rfl ?_
        refine V_iload_n (n := 3) X d_Mod_readRoute_39 rfl rfl rfl ?_
        refine V_iadd X d_Mod_readRoute_40 rfl ?_
        refine V_aload_n (n := 0) X d_Mod_readRoute_41 rfl rfl rfl ?_
        obtain ⟨x4, hx4, h⟩ := ob_s h
        refine V_ci (As := []) X (Z0 E) ml_Mod_183 yq_Mod_here (c_Mod_here E.2.1 G  s.2 x4 hx4 _ (Nat.le_refl _)) kd_162 rfl rfl (by omega) rfl (Nat.le_of_ble_eq_true rfl) d_Mod_readRoute_42 rfl (fun r9 M9 hq => ?_)
        rw [hq.1, hq.2]
        obtain ⟨x5, hx5, h⟩ := ob_s h
        refine V_si (As := [.int x4]) X (Z0 E) ml_Mod_224 yq_Mod_stepOf (c_Mod_stepOf E.2.1 G x4 s.2 x5 hx5 _ (Nat.le_refl _)) rfl (by omega) rfl (Nat.le_of_ble_eq_true rfl) d_Mod_readRoute_45 rfl (fun r9 M9 hq => ?_)
        rw [hq.1, hq.2]
        obtain ⟨hb, h⟩ := ifn h
        obtain ⟨M6, eM6, h⟩ := memS h
        refine V_iast X hk_v1 (inb_in rfl hb) d_Mod_readRoute_48 rfl ?_
        rw [← eM6]
        refine V_iinc (n := 3) (v := (s.1 + (1 : Int32))) (lv' := [(3, .int (s.1 + (1 : Int32))), (0, .ref (G.2.2 + 162)), (1, .ref (G.2.2 + v1)), (2, .int v2)]) X d_Mod_readRoute_49 rfl rfl (by decide) rfl rfl ?_
        refine V_aload_n (n := 1) X d_Mod_readRoute_52 rfl rfl rfl ?_
        refine V_dup X d_Mod_readRoute_53 rfl rfl ?_
        refine V_geti X fo_Mod_173 kd_162 rfl d_Mod_readRoute_54 rfl ?_
        refine V_iconst (v := 1) X d_Mod_readRoute_57 (by decide) rfl ?_
        refine V_iadd X d_Mod_readRoute_58 rfl ?_
        obtain ⟨M7, eM7, h⟩ := memS h
        refine V_putI X fp_Mod_173 kd_162 rfl d_Mod_readRoute_59 rfl ?_
        rw [← eM7]
        refine V_goto (pc' := 2) X d_Mod_readRoute_62 (by decide) ?_
        refine V_sub (lv' := [(0, .ref (G.2.2 + 162)), (1, .ref (G.2.2 + v1)), (2, .int v2), (3, .int (s.1 + (1 : Int32)))]) [1, 2, 3, 0] rfl ?_
        exact kc ((s.1 + (1 : Int32)), M7) (Option.some.inj h).symm
      · rw [if_pos c9] at h
        refine V_aload_n (n := 0) X d_Mod_readRoute_26 rfl rfl rfl ?_
        refine V_aload_n (n := 0) X d_Mod_readRoute_27 rfl rfl rfl ?_
        refine V_geti X fo_Mod_173 kd_162 rfl d_Mod_readRoute_28 rfl ?_
        obtain ⟨x8, hx8, h⟩ := ob_s h
        refine V_cv (As := [.int (s.2.1 162 17)]) X (Z0 E) ml_Mod_190 yq_Mod_fault (c_Mod_fault E.2.1 G (s.2.1 162 17) s.2 x8 hx8 _ (Nat.le_refl _)) kd_162 rfl rfl (by omega) rfl (Nat.le_of_ble_eq_true rfl) d_Mod_readRoute_31 rfl (fun M9 hq => ?_)
        rw [hq]
        refine V_goto (pc' := 2) X d_Mod_readRoute_34 (by decide) ?_
        exact kc (s.1, x8) (Option.some.inj h).symm
theorem lp_Mod_readRoute_2_ok {E : Ev} {G : Gw} {d : Nat} {post : Int32 → Mem → Prop} (X : Cx E G b_Mod_readRoute "WomenByTheRoofsModel" 4 d (some .int)) (hD : 3 ≤ d)  (v1 : Nat) (v2 : Int32) (hk_v1 : kd v1 = 1)  (n9 : Nat) (s : Int32 × Mem) (x : (Int32 × Mem)) (h : iter (lb_Mod_readRoute_2 v1 v2) n9 s = some x) (kx0 : ∀ x9 : Int32 × Mem, x = x9 → V E (0, 0) G 4 (QI E G post) x9.2 65 [(0, .ref (G.2.2 + 162)), (3, .int x9.1)] []) : V E (0, 0) G 4 (QI E G post) s.2 2 [(0, .ref (G.2.2 + 162)), (1, .ref (G.2.2 + v1)), (2, .int v2), (3, .int s.1)] [] :=
  iter_P (P := fun s : Int32 × Mem => V E (0, 0) G 4 (QI E G post) s.2 2 [(0, .ref (G.2.2 + 162)), (1, .ref (G.2.2 + v1)), (2, .int v2), (3, .int s.1)] []) (fun s o hb kc ky => lb_Mod_readRoute_2_ok X hD v1 v2 hk_v1 s o hb kc (fun x9 e9 => kx0 x9 (ky _ e9).symm)) n9 s h
def j_Mod_readRoute_65 (v3 : Int32) (M : Mem) : Option (Int32 × Mem) :=
  if v3 = 0 then
  Option.bind (f_Mod_fault (M.1 162 17) M) fun x13 =>
  some (v3, x13)
  else
  some (v3, M)
theorem j_Mod_readRoute_65_ok {E : Ev} {G : Gw} {d : Nat} {post : Int32 → Mem → Prop} (X : Cx E G b_Mod_readRoute "WomenByTheRoofsModel" 4 d (some .int)) (hD : 3 ≤ d)  (v3 : Int32)  (M : Mem)  (o : Int32 × Mem) (h : j_Mod_readRoute_65 v3 M = some o) (kr : ∀ x9 : Int32 × Mem, o = x9 → post x9.1 x9.2) : V E (0, 0) G 4 (QI E G post) M 65 [(0, .ref (G.2.2 + 162)), (3, .int v3)] [] := by
  unfold j_Mod_readRoute_65 at h
  refine V_iload_n (n := 1) X d_Mod_readRoute_65 rfl rfl rfl ?_
  refine V_if_ne (tgt := 77) X d_Mod_readRoute_66 (by decide) rfl (fun c14 => ?_) (fun c14 => ?_)
  · rw [if_neg c14] at h
    refine V_iload_n (n := 1) X d_Mod_readRoute_77 rfl rfl rfl ?_
    exact V_iret X (kr (v3, M) (Option.some.inj h).symm) d_Mod_readRoute_78
  · rw [if_pos c14] at h
    refine V_aload_n (n := 0) X d_Mod_readRoute_69 rfl rfl rfl ?_
    refine V_aload_n (n := 0) X d_Mod_readRoute_70 rfl rfl rfl ?_
    refine V_geti X fo_Mod_173 kd_162 rfl d_Mod_readRoute_71 rfl ?_
    obtain ⟨x13, hx13, h⟩ := ob_s h
    refine V_cv (As := [.int (M.1 162 17)]) X (Z0 E) ml_Mod_190 yq_Mod_fault (c_Mod_fault E.2.1 G (M.1 162 17) M x13 hx13 _ (Nat.le_refl _)) kd_162 rfl rfl (by omega) rfl (Nat.le_of_ble_eq_true rfl) d_Mod_readRoute_74 rfl (fun M9 hq => ?_)
    rw [hq]
    refine V_iload_n (n := 1) X d_Mod_readRoute_77 rfl rfl rfl ?_
    exact V_iret X (kr (v3, x13) (Option.some.inj h).symm) d_Mod_readRoute_78
def f_Mod_readRoute (v1 : Nat) (v2 : Int32) (M : Mem) : Option (Int32 × Mem) :=
  if kd v1 = 1 then
  Option.bind (iter (lb_Mod_readRoute_2 v1 v2) FU ((0 : Int32), M)) fun x12 =>
  j_Mod_readRoute_65 x12.1 x12.2
  else none
theorem c_Mod_readRoute (l : Launch) (G : Gw)  (v1 : Nat) (v2 : Int32) (M : Mem) (x : Int32 × Mem) (h : f_Mod_readRoute v1 v2 M = some x) (d : Nat) (hD : 3 ≤ d) : Ci l G y_Mod_readRoute b_Mod_readRoute 4 (some .int) d [.ref (G.2.2 + 162), .ref (G.2.2 + v1), .int v2] M (fun r9 M9 => r9 = x.1 ∧ M9 = x.2) := by
  refine Ci_of (by decide) (Nat.le_of_ble_eq_true rfl) (fun E hE X => ?_)
  subst hE
  have kr : ∀ x9 : Int32 × Mem, x = x9 → (fun r9 M9 => r9 = x.1 ∧ M9 = x.2) x9.1 x9.2 := fun x9 e9 => by subst e9; exact ⟨rfl, rfl⟩
  unfold f_Mod_readRoute at h
  obtain ⟨hk_v1, h⟩ := ifn h
  refine V_iconst (v := 0) X d_Mod_readRoute_0 (by decide) rfl ?_
  refine V_istore_n (lv' := [(3, .int (0 : Int32)), (0, .ref (G.2.2 + 162)), (1, .ref (G.2.2 + v1)), (2, .int v2)]) X d_Mod_readRoute_1 rfl (by decide) rfl rfl ?_
  refine V_sub (lv' := [(0, .ref (G.2.2 + 162)), (1, .ref (G.2.2 + v1)), (2, .int v2), (3, .int (0 : Int32))]) [1, 2, 3, 0] rfl ?_
  obtain ⟨x12, hx12, h⟩ := ob_s h
  refine (lp_Mod_readRoute_2_ok X hD v1 v2 hk_v1 _ _ _ hx12 (fun x9 e9 => ?_) :)
  subst e9
  exact j_Mod_readRoute_65_ok X hD x12.1 x12.2 _ h kr
