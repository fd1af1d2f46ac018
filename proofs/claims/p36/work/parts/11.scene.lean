theorem d_Scene_put_0 : decode b_Scene_put 0 = .ok (.aload_n 0, 1) := kq_42 byq_r (by decide +kernel)
theorem d_Scene_put_1 : decode b_Scene_put 1 = .ok (.getfield 9, 3) := kq_180 byq_r (a := 0) (b := 9) (by decide +kernel)
theorem d_Scene_put_4 : decode b_Scene_put 4 = .ok (.iload_n 1, 1) := kq_27 byq_r (by decide +kernel)
theorem d_Scene_put_5 : decode b_Scene_put 5 = .ok (.iload_n 2, 1) := kq_28 byq_r (by decide +kernel)
theorem d_Scene_put_6 : decode b_Scene_put 6 = .ok (.iastore, 1) := kq_79 byq_r (by decide +kernel)
theorem d_Scene_put_7 : decode b_Scene_put 7 = .ok (.aload_n 0, 1) := kq_42 byq_r (by decide +kernel)
theorem d_Scene_put_8 : decode b_Scene_put 8 = .ok (.getfield 15, 3) := kq_180 byq_r (a := 0) (b := 15) (by decide +kernel)
theorem d_Scene_put_11 : decode b_Scene_put 11 = .ok (.iload_n 1, 1) := kq_27 byq_r (by decide +kernel)
theorem d_Scene_put_12 : decode b_Scene_put 12 = .ok (.iload_n 3, 1) := kq_29 byq_r (by decide +kernel)
theorem d_Scene_put_13 : decode b_Scene_put 13 = .ok (.iastore, 1) := kq_79 byq_r (by decide +kernel)
theorem d_Scene_put_14 : decode b_Scene_put 14 = .ok (.aload_n 0, 1) := kq_42 byq_r (by decide +kernel)
theorem d_Scene_put_15 : decode b_Scene_put 15 = .ok (.getfield 18, 3) := kq_180 byq_r (a := 0) (b := 18) (by decide +kernel)
theorem d_Scene_put_18 : decode b_Scene_put 18 = .ok (.iload_n 1, 1) := kq_27 byq_r (by decide +kernel)
theorem d_Scene_put_19 : decode b_Scene_put 19 = .ok (.iconst 0, 1) := kq_3 byq_r (by decide +kernel)
theorem d_Scene_put_20 : decode b_Scene_put 20 = .ok (.iastore, 1) := kq_79 byq_r (by decide +kernel)
theorem d_Scene_put_21 : decode b_Scene_put 21 = .ok (.return_, 1) := kq_177 byq_r (by decide +kernel)
theorem d_Scene_clear_0 : decode b_Scene_clear 0 = .ok (.iconst 0, 1) := kq_3 byq_r (by decide +kernel)
theorem d_Scene_clear_1 : decode b_Scene_clear 1 = .ok (.istore_n 1, 1) := kq_60 byq_r (by decide +kernel)
theorem d_Scene_clear_2 : decode b_Scene_clear 2 = .ok (.iload_n 1, 1) := kq_27 byq_r (by decide +kernel)
theorem d_Scene_clear_3 : decode b_Scene_clear 3 = .ok (.bipush 8, 2) := kq_16 byq_r (b := 8) (by decide +kernel)
theorem d_Scene_clear_5 : decode b_Scene_clear 5 = .ok (.if_icmp .ge 16, 3) := kq_162 byq_r (a := 0) (b := 16) (by decide +kernel)
theorem d_Scene_clear_8 : decode b_Scene_clear 8 = .ok (.aload_n 0, 1) := kq_42 byq_r (by decide +kernel)
theorem d_Scene_clear_9 : decode b_Scene_clear 9 = .ok (.iload_n 1, 1) := kq_27 byq_r (by decide +kernel)
theorem d_Scene_clear_10 : decode b_Scene_clear 10 = .ok (.iconst 0, 1) := kq_3 byq_r (by decide +kernel)
theorem d_Scene_clear_11 : decode b_Scene_clear 11 = .ok (.iconst 0, 1) := kq_3 byq_r (by decide +kernel)
theorem d_Scene_clear_12 : decode b_Scene_clear 12 = .ok (.invokevirtual 30, 3) := kq_182 byq_r (a := 0) (b := 30) (by decide +kernel)
theorem d_Scene_clear_15 : decode b_Scene_clear 15 = .ok (.iinc 1 1, 3) := kq_132 byq_r (b := 1) (by decide +kernel)
theorem d_Scene_clear_18 : decode b_Scene_clear 18 = .ok (.goto (-16), 3) := kq_167 byq_r (a := 255) (b := 240) (by decide +kernel)
theorem d_Scene_clear_21 : decode b_Scene_clear 21 = .ok (.iconst 0, 1) := kq_3 byq_r (by decide +kernel)
theorem d_Scene_clear_22 : decode b_Scene_clear 22 = .ok (.istore_n 1, 1) := kq_60 byq_r (by decide +kernel)
theorem d_Scene_clear_23 : decode b_Scene_clear 23 = .ok (.iload_n 1, 1) := kq_27 byq_r (by decide +kernel)
theorem d_Scene_clear_24 : decode b_Scene_clear 24 = .ok (.bipush 64, 2) := kq_16 byq_r (b := 64) (by decide +kernel)
theorem d_Scene_clear_26 : decode b_Scene_clear 26 = .ok (.if_icmp .ge 16, 3) := kq_162 byq_r (a := 0) (b := 16) (by decide +kernel)
theorem d_Scene_clear_29 : decode b_Scene_clear 29 = .ok (.aload_n 0, 1) := kq_42 byq_r (by decide +kernel)
theorem d_Scene_clear_30 : decode b_Scene_clear 30 = .ok (.getfield 21, 3) := kq_180 byq_r (a := 0) (b := 21) (by decide +kernel)
theorem d_Scene_clear_33 : decode b_Scene_clear 33 = .ok (.iload_n 1, 1) := kq_27 byq_r (by decide +kernel)
theorem d_Scene_clear_34 : decode b_Scene_clear 34 = .ok (.iconst 0, 1) := kq_3 byq_r (by decide +kernel)
theorem d_Scene_clear_35 : decode b_Scene_clear 35 = .ok (.iastore, 1) := kq_79 byq_r (by decide +kernel)
theorem d_Scene_clear_36 : decode b_Scene_clear 36 = .ok (.iinc 1 1, 3) := kq_132 byq_r (b := 1) (by decide +kernel)
theorem d_Scene_clear_39 : decode b_Scene_clear 39 = .ok (.goto (-16), 3) := kq_167 byq_r (a := 255) (b := 240) (by decide +kernel)
theorem d_Scene_clear_42 : decode b_Scene_clear 42 = .ok (.aload_n 0, 1) := kq_42 byq_r (by decide +kernel)
theorem d_Scene_clear_43 : decode b_Scene_clear 43 = .ok (.iconst 0, 1) := kq_3 byq_r (by decide +kernel)
theorem d_Scene_clear_44 : decode b_Scene_clear 44 = .ok (.putfield 34, 3) := kq_181 byq_r (a := 0) (b := 34) (by decide +kernel)
theorem d_Scene_clear_47 : decode b_Scene_clear 47 = .ok (.aload_n 0, 1) := kq_42 byq_r (by decide +kernel)
theorem d_Scene_clear_48 : decode b_Scene_clear 48 = .ok (.iconst 0, 1) := kq_3 byq_r (by decide +kernel)
theorem d_Scene_clear_49 : decode b_Scene_clear 49 = .ok (.putfield 38, 3) := kq_181 byq_r (a := 0) (b := 38) (by decide +kernel)
theorem d_Scene_clear_52 : decode b_Scene_clear 52 = .ok (.aload_n 0, 1) := kq_42 byq_r (by decide +kernel)
theorem d_Scene_clear_53 : decode b_Scene_clear 53 = .ok (.iconst 0, 1) := kq_3 byq_r (by decide +kernel)
theorem d_Scene_clear_54 : decode b_Scene_clear 54 = .ok (.putfield 41, 3) := kq_181 byq_r (a := 0) (b := 41) (by decide +kernel)
theorem d_Scene_clear_57 : decode b_Scene_clear 57 = .ok (.aload_n 0, 1) := kq_42 byq_r (by decide +kernel)
theorem d_Scene_clear_58 : decode b_Scene_clear 58 = .ok (.iconst 0, 1) := kq_3 byq_r (by decide +kernel)
theorem d_Scene_clear_59 : decode b_Scene_clear 59 = .ok (.putfield 44, 3) := kq_181 byq_r (a := 0) (b := 44) (by decide +kernel)
theorem d_Scene_clear_62 : decode b_Scene_clear 62 = .ok (.return_, 1) := kq_177 byq_r (by decide +kernel)
theorem d_Scene_standing_0 : decode b_Scene_standing 0 = .ok (.iconst 0, 1) := kq_3 byq_r (by decide +kernel)
theorem d_Scene_standing_1 : decode b_Scene_standing 1 = .ok (.istore 4, 2) := kq_54 byq_r (by decide +kernel)
theorem d_Scene_standing_3 : decode b_Scene_standing 3 = .ok (.iconst 0, 1) := kq_3 byq_r (by decide +kernel)
theorem d_Scene_standing_4 : decode b_Scene_standing 4 = .ok (.istore 5, 2) := kq_54 byq_r (by decide +kernel)
theorem d_Scene_standing_6 : decode b_Scene_standing 6 = .ok (.iload 5, 2) := kq_21 byq_r (by decide +kernel)
theorem d_Scene_standing_8 : decode b_Scene_standing 8 = .ok (.iload_n 3, 1) := kq_29 byq_r (by decide +kernel)
theorem d_Scene_standing_9 : decode b_Scene_standing 9 = .ok (.if_icmp .ge 40, 3) := kq_162 byq_r (a := 0) (b := 40) (by decide +kernel)
theorem d_Scene_standing_12 : decode b_Scene_standing 12 = .ok (.aload_n 0, 1) := kq_42 byq_r (by decide +kernel)
theorem d_Scene_standing_13 : decode b_Scene_standing 13 = .ok (.getfield 9, 3) := kq_180 byq_r (a := 0) (b := 9) (by decide +kernel)
theorem d_Scene_standing_16 : decode b_Scene_standing 16 = .ok (.iload 5, 2) := kq_21 byq_r (by decide +kernel)
theorem d_Scene_standing_18 : decode b_Scene_standing 18 = .ok (.iaload, 1) := kq_46 byq_r (by decide +kernel)
theorem d_Scene_standing_19 : decode b_Scene_standing 19 = .ok (.iload_n 2, 1) := kq_28 byq_r (by decide +kernel)
theorem d_Scene_standing_20 : decode b_Scene_standing 20 = .ok (.if_icmp .ne 23, 3) := kq_160 byq_r (a := 0) (b := 23) (by decide +kernel)
theorem d_Scene_standing_23 : decode b_Scene_standing 23 = .ok (.aload_n 0, 1) := kq_42 byq_r (by decide +kernel)
theorem d_Scene_standing_24 : decode b_Scene_standing 24 = .ok (.getfield 15, 3) := kq_180 byq_r (a := 0) (b := 15) (by decide +kernel)
theorem d_Scene_standing_27 : decode b_Scene_standing 27 = .ok (.iload 5, 2) := kq_21 byq_r (by decide +kernel)
theorem d_Scene_standing_29 : decode b_Scene_standing 29 = .ok (.iaload, 1) := kq_46 byq_r (by decide +kernel)
theorem d_Scene_standing_30 : decode b_Scene_standing 30 = .ok (.iload_n 1, 1) := kq_27 byq_r (by decide +kernel)
theorem d_Scene_standing_31 : decode b_Scene_standing 31 = .ok (.if_icmp .ne 12, 3) := kq_160 byq_r (a := 0) (b := 12) (by decide +kernel)
theorem d_Scene_standing_34 : decode b_Scene_standing 34 = .ok (.iload 4, 2) := kq_21 byq_r (by decide +kernel)
theorem d_Scene_standing_36 : decode b_Scene_standing 36 = .ok (.iconst 1, 1) := kq_4 byq_r (by decide +kernel)
theorem d_Scene_standing_37 : decode b_Scene_standing 37 = .ok (.iload 5, 2) := kq_21 byq_r (by decide +kernel)
theorem d_Scene_standing_39 : decode b_Scene_standing 39 = .ok (.ishl, 1) := kq_120 byq_r (by decide +kernel)
theorem d_Scene_standing_40 : decode b_Scene_standing 40 = .ok (.ior, 1) := kq_128 byq_r (by decide +kernel)
theorem d_Scene_standing_41 : decode b_Scene_standing 41 = .ok (.istore 4, 2) := kq_54 byq_r (by decide +kernel)
theorem d_Scene_standing_43 : decode b_Scene_standing 43 = .ok (.iinc 5 1, 3) := kq_132 byq_r (b := 1) (by decide +kernel)
theorem d_Scene_standing_46 : decode b_Scene_standing 46 = .ok (.goto (-40), 3) := kq_167 byq_r (a := 255) (b := 216) (by decide +kernel)
theorem d_Scene_standing_49 : decode b_Scene_standing 49 = .ok (.iload 4, 2) := kq_21 byq_r (by decide +kernel)
theorem d_Scene_standing_51 : decode b_Scene_standing 51 = .ok (.ireturn, 1) := kq_172 byq_r (by decide +kernel)
theorem d_Scene_planksAt_0 : decode b_Scene_planksAt 0 = .ok (.iconst 0, 1) := kq_3 byq_r (by decide +kernel)
theorem d_Scene_planksAt_1 : decode b_Scene_planksAt 1 = .ok (.istore_n 2, 1) := kq_61 byq_r (by decide +kernel)
theorem d_Scene_planksAt_2 : decode b_Scene_planksAt 2 = .ok (.iconst 0, 1) := kq_3 byq_r (by decide +kernel)
theorem d_Scene_planksAt_3 : decode b_Scene_planksAt 3 = .ok (.istore_n 3, 1) := kq_62 byq_r (by decide +kernel)
theorem d_Scene_planksAt_4 : decode b_Scene_planksAt 4 = .ok (.iload_n 3, 1) := kq_29 byq_r (by decide +kernel)
theorem d_Scene_planksAt_5 : decode b_Scene_planksAt 5 = .ok (.aload_n 0, 1) := kq_42 byq_r (by decide +kernel)
theorem d_Scene_planksAt_6 : decode b_Scene_planksAt 6 = .ok (.getfield 34, 3) := kq_180 byq_r (a := 0) (b := 34) (by decide +kernel)
theorem d_Scene_planksAt_9 : decode b_Scene_planksAt 9 = .ok (.if_icmp .ge 41, 3) := kq_162 byq_r (a := 0) (b := 41) (by decide +kernel)
theorem d_Scene_planksAt_12 : decode b_Scene_planksAt 12 = .ok (.iload_n 3, 1) := kq_29 byq_r (by decide +kernel)
theorem d_Scene_planksAt_13 : decode b_Scene_planksAt 13 = .ok (.bipush 6, 2) := kq_16 byq_r (b := 6) (by decide +kernel)
theorem d_Scene_planksAt_15 : decode b_Scene_planksAt 15 = .ok (.if_icmp .ge 35, 3) := kq_162 byq_r (a := 0) (b := 35) (by decide +kernel)
theorem d_Scene_planksAt_18 : decode b_Scene_planksAt 18 = .ok (.aload_n 0, 1) := kq_42 byq_r (by decide +kernel)
theorem d_Scene_planksAt_19 : decode b_Scene_planksAt 19 = .ok (.getfield 24, 3) := kq_180 byq_r (a := 0) (b := 24) (by decide +kernel)
theorem d_Scene_planksAt_22 : decode b_Scene_planksAt 22 = .ok (.iload_n 3, 1) := kq_29 byq_r (by decide +kernel)
theorem d_Scene_planksAt_23 : decode b_Scene_planksAt 23 = .ok (.iaload, 1) := kq_46 byq_r (by decide +kernel)
theorem d_Scene_planksAt_24 : decode b_Scene_planksAt 24 = .ok (.iload_n 1, 1) := kq_27 byq_r (by decide +kernel)
theorem d_Scene_planksAt_25 : decode b_Scene_planksAt 25 = .ok (.if_icmp .eq 13, 3) := kq_159 byq_r (a := 0) (b := 13) (by decide +kernel)
theorem d_Scene_planksAt_28 : decode b_Scene_planksAt 28 = .ok (.aload_n 0, 1) := kq_42 byq_r (by decide +kernel)
theorem d_Scene_planksAt_29 : decode b_Scene_planksAt 29 = .ok (.getfield 27, 3) := kq_180 byq_r (a := 0) (b := 27) (by decide +kernel)
theorem d_Scene_planksAt_32 : decode b_Scene_planksAt 32 = .ok (.iload_n 3, 1) := kq_29 byq_r (by decide +kernel)
theorem d_Scene_planksAt_33 : decode b_Scene_planksAt 33 = .ok (.iaload, 1) := kq_46 byq_r (by decide +kernel)
theorem d_Scene_planksAt_34 : decode b_Scene_planksAt 34 = .ok (.iload_n 1, 1) := kq_27 byq_r (by decide +kernel)
theorem d_Scene_planksAt_35 : decode b_Scene_planksAt 35 = .ok (.if_icmp .ne 9, 3) := kq_160 byq_r (a := 0) (b := 9) (by decide +kernel)
theorem d_Scene_planksAt_38 : decode b_Scene_planksAt 38 = .ok (.iload_n 2, 1) := kq_28 byq_r (by decide +kernel)
theorem d_Scene_planksAt_39 : decode b_Scene_planksAt 39 = .ok (.iconst 1, 1) := kq_4 byq_r (by decide +kernel)
theorem d_Scene_planksAt_40 : decode b_Scene_planksAt 40 = .ok (.iload_n 3, 1) := kq_29 byq_r (by decide +kernel)
theorem d_Scene_planksAt_41 : decode b_Scene_planksAt 41 = .ok (.ishl, 1) := kq_120 byq_r (by decide +kernel)
theorem d_Scene_planksAt_42 : decode b_Scene_planksAt 42 = .ok (.ior, 1) := kq_128 byq_r (by decide +kernel)
theorem d_Scene_planksAt_43 : decode b_Scene_planksAt 43 = .ok (.istore_n 2, 1) := kq_61 byq_r (by decide +kernel)
theorem d_Scene_planksAt_44 : decode b_Scene_planksAt 44 = .ok (.iinc 3 1, 3) := kq_132 byq_r (b := 1) (by decide +kernel)
theorem d_Scene_planksAt_47 : decode b_Scene_planksAt 47 = .ok (.goto (-43), 3) := kq_167 byq_r (a := 255) (b := 213) (by decide +kernel)
theorem d_Scene_planksAt_50 : decode b_Scene_planksAt 50 = .ok (.iload_n 2, 1) := kq_28 byq_r (by decide +kernel)
theorem d_Scene_planksAt_51 : decode b_Scene_planksAt 51 = .ok (.ireturn, 1) := kq_172 byq_r (by decide +kernel)
theorem d_Scene_meetingsOfTwo_0 : decode b_Scene_meetingsOfTwo 0 = .ok (.aload_n 0, 1) := kq_42 byq_r (by decide +kernel)
theorem d_Scene_meetingsOfTwo_1 : decode b_Scene_meetingsOfTwo 1 = .ok (.getfield 21, 3) := kq_180 byq_r (a := 0) (b := 21) (by decide +kernel)
theorem d_Scene_meetingsOfTwo_4 : decode b_Scene_meetingsOfTwo 4 = .ok (.iload_n 1, 1) := kq_27 byq_r (by decide +kernel)
theorem d_Scene_meetingsOfTwo_5 : decode b_Scene_meetingsOfTwo 5 = .ok (.bipush 8, 2) := kq_16 byq_r (b := 8) (by decide +kernel)
theorem d_Scene_meetingsOfTwo_7 : decode b_Scene_meetingsOfTwo 7 = .ok (.imul, 1) := kq_104 byq_r (by decide +kernel)
theorem d_Scene_meetingsOfTwo_8 : decode b_Scene_meetingsOfTwo 8 = .ok (.iload_n 2, 1) := kq_28 byq_r (by decide +kernel)
theorem d_Scene_meetingsOfTwo_9 : decode b_Scene_meetingsOfTwo 9 = .ok (.iadd, 1) := kq_96 byq_r (by decide +kernel)
theorem d_Scene_meetingsOfTwo_10 : decode b_Scene_meetingsOfTwo 10 = .ok (.iaload, 1) := kq_46 byq_r (by decide +kernel)
theorem d_Scene_meetingsOfTwo_11 : decode b_Scene_meetingsOfTwo 11 = .ok (.aload_n 0, 1) := kq_42 byq_r (by decide +kernel)
theorem d_Scene_meetingsOfTwo_12 : decode b_Scene_meetingsOfTwo 12 = .ok (.getfield 21, 3) := kq_180 byq_r (a := 0) (b := 21) (by decide +kernel)
theorem d_Scene_meetingsOfTwo_15 : decode b_Scene_meetingsOfTwo 15 = .ok (.iload_n 2, 1) := kq_28 byq_r (by decide +kernel)
theorem d_Scene_meetingsOfTwo_16 : decode b_Scene_meetingsOfTwo 16 = .ok (.bipush 8, 2) := kq_16 byq_r (b := 8) (by decide +kernel)
theorem d_Scene_meetingsOfTwo_18 : decode b_Scene_meetingsOfTwo 18 = .ok (.imul, 1) := kq_104 byq_r (by decide +kernel)
theorem d_Scene_meetingsOfTwo_19 : decode b_Scene_meetingsOfTwo 19 = .ok (.iload_n 1, 1) := kq_27 byq_r (by decide +kernel)
theorem d_Scene_meetingsOfTwo_20 : decode b_Scene_meetingsOfTwo 20 = .ok (.iadd, 1) := kq_96 byq_r (by decide +kernel)
theorem d_Scene_meetingsOfTwo_21 : decode b_Scene_meetingsOfTwo 21 = .ok (.iaload, 1) := kq_46 byq_r (by decide +kernel)
theorem d_Scene_meetingsOfTwo_22 : decode b_Scene_meetingsOfTwo 22 = .ok (.iadd, 1) := kq_96 byq_r (by decide +kernel)
theorem d_Scene_meetingsOfTwo_23 : decode b_Scene_meetingsOfTwo 23 = .ok (.ireturn, 1) := kq_172 byq_r (by decide +kernel)
theorem d_Scene_meetingsOf_0 : decode b_Scene_meetingsOf 0 = .ok (.iconst 0, 1) := kq_3 byq_r (by decide +kernel)
theorem d_Scene_meetingsOf_1 : decode b_Scene_meetingsOf 1 = .ok (.istore_n 2, 1) := kq_61 byq_r (by decide +kernel)
theorem d_Scene_meetingsOf_2 : decode b_Scene_meetingsOf 2 = .ok (.iconst 0, 1) := kq_3 byq_r (by decide +kernel)
theorem d_Scene_meetingsOf_3 : decode b_Scene_meetingsOf 3 = .ok (.istore_n 3, 1) := kq_62 byq_r (by decide +kernel)
theorem d_Scene_meetingsOf_4 : decode b_Scene_meetingsOf 4 = .ok (.iload_n 3, 1) := kq_29 byq_r (by decide +kernel)
theorem d_Scene_meetingsOf_5 : decode b_Scene_meetingsOf 5 = .ok (.bipush 8, 2) := kq_16 byq_r (b := 8) (by decide +kernel)
theorem d_Scene_meetingsOf_7 : decode b_Scene_meetingsOf 7 = .ok (.if_icmp .ge 18, 3) := kq_162 byq_r (a := 0) (b := 18) (by decide +kernel)
theorem d_Scene_meetingsOf_10 : decode b_Scene_meetingsOf 10 = .ok (.iload_n 2, 1) := kq_28 byq_r (by decide +kernel)
theorem d_Scene_meetingsOf_11 : decode b_Scene_meetingsOf 11 = .ok (.aload_n 0, 1) := kq_42 byq_r (by decide +kernel)
theorem d_Scene_meetingsOf_12 : decode b_Scene_meetingsOf 12 = .ok (.iload_n 1, 1) := kq_27 byq_r (by decide +kernel)
theorem d_Scene_meetingsOf_13 : decode b_Scene_meetingsOf 13 = .ok (.iload_n 3, 1) := kq_29 byq_r (by decide +kernel)
theorem d_Scene_meetingsOf_14 : decode b_Scene_meetingsOf 14 = .ok (.invokevirtual 57, 3) := kq_182 byq_r (a := 0) (b := 57) (by decide +kernel)
theorem d_Scene_meetingsOf_17 : decode b_Scene_meetingsOf 17 = .ok (.iadd, 1) := kq_96 byq_r (by decide +kernel)
theorem d_Scene_meetingsOf_18 : decode b_Scene_meetingsOf 18 = .ok (.istore_n 2, 1) := kq_61 byq_r (by decide +kernel)
theorem d_Scene_meetingsOf_19 : decode b_Scene_meetingsOf 19 = .ok (.iinc 3 1, 3) := kq_132 byq_r (b := 1) (by decide +kernel)
theorem d_Scene_meetingsOf_22 : decode b_Scene_meetingsOf 22 = .ok (.goto (-18), 3) := kq_167 byq_r (a := 255) (b := 238) (by decide +kernel)
theorem d_Scene_meetingsOf_25 : decode b_Scene_meetingsOf 25 = .ok (.iload_n 2, 1) := kq_28 byq_r (by decide +kernel)
theorem d_Scene_meetingsOf_26 : decode b_Scene_meetingsOf 26 = .ok (.ireturn, 1) := kq_172 byq_r (by decide +kernel)
theorem d_Scene_isUnderPlank_0 : decode b_Scene_isUnderPlank 0 = .ok (.iconst 0, 1) := kq_3 byq_r (by decide +kernel)
theorem d_Scene_isUnderPlank_1 : decode b_Scene_isUnderPlank 1 = .ok (.istore_n 3, 1) := kq_62 byq_r (by decide +kernel)
theorem d_Scene_isUnderPlank_2 : decode b_Scene_isUnderPlank 2 = .ok (.iload_n 3, 1) := kq_29 byq_r (by decide +kernel)
theorem d_Scene_isUnderPlank_3 : decode b_Scene_isUnderPlank 3 = .ok (.aload_n 0, 1) := kq_42 byq_r (by decide +kernel)
theorem d_Scene_isUnderPlank_4 : decode b_Scene_isUnderPlank 4 = .ok (.getfield 34, 3) := kq_180 byq_r (a := 0) (b := 34) (by decide +kernel)
theorem d_Scene_isUnderPlank_7 : decode b_Scene_isUnderPlank 7 = .ok (.if_icmp .ge 37, 3) := kq_162 byq_r (a := 0) (b := 37) (by decide +kernel)
theorem d_Scene_isUnderPlank_10 : decode b_Scene_isUnderPlank 10 = .ok (.iload_n 3, 1) := kq_29 byq_r (by decide +kernel)
theorem d_Scene_isUnderPlank_11 : decode b_Scene_isUnderPlank 11 = .ok (.bipush 6, 2) := kq_16 byq_r (b := 6) (by decide +kernel)
theorem d_Scene_isUnderPlank_13 : decode b_Scene_isUnderPlank 13 = .ok (.if_icmp .ge 31, 3) := kq_162 byq_r (a := 0) (b := 31) (by decide +kernel)
theorem d_Scene_isUnderPlank_16 : decode b_Scene_isUnderPlank 16 = .ok (.aload_n 1, 1) := kq_43 byq_r (by decide +kernel)
theorem d_Scene_isUnderPlank_17 : decode b_Scene_isUnderPlank 17 = .ok (.aload_n 0, 1) := kq_42 byq_r (by decide +kernel)
theorem d_Scene_isUnderPlank_18 : decode b_Scene_isUnderPlank 18 = .ok (.getfield 24, 3) := kq_180 byq_r (a := 0) (b := 24) (by decide +kernel)
theorem d_Scene_isUnderPlank_21 : decode b_Scene_isUnderPlank 21 = .ok (.iload_n 3, 1) := kq_29 byq_r (by decide +kernel)
theorem d_Scene_isUnderPlank_22 : decode b_Scene_isUnderPlank 22 = .ok (.iaload, 1) := kq_46 byq_r (by decide +kernel)
theorem d_Scene_isUnderPlank_23 : decode b_Scene_isUnderPlank 23 = .ok (.aload_n 0, 1) := kq_42 byq_r (by decide +kernel)
theorem d_Scene_isUnderPlank_24 : decode b_Scene_isUnderPlank 24 = .ok (.getfield 27, 3) := kq_180 byq_r (a := 0) (b := 27) (by decide +kernel)
theorem d_Scene_isUnderPlank_27 : decode b_Scene_isUnderPlank 27 = .ok (.iload_n 3, 1) := kq_29 byq_r (by decide +kernel)
theorem d_Scene_isUnderPlank_28 : decode b_Scene_isUnderPlank 28 = .ok (.iaload, 1) := kq_46 byq_r (by decide +kernel)
theorem d_Scene_isUnderPlank_29 : decode b_Scene_isUnderPlank 29 = .ok (.invokevirtual 65, 3) := kq_182 byq_r (a := 0) (b := 65) (by decide +kernel)
theorem d_Scene_isUnderPlank_32 : decode b_Scene_isUnderPlank 32 = .ok (.iload_n 2, 1) := kq_28 byq_r (by decide +kernel)
theorem d_Scene_isUnderPlank_33 : decode b_Scene_isUnderPlank 33 = .ok (.if_icmp .ne 5, 3) := kq_160 byq_r (a := 0) (b := 5) (by decide +kernel)
theorem d_Scene_isUnderPlank_36 : decode b_Scene_isUnderPlank 36 = .ok (.iconst 1, 1) := kq_4 byq_r (by decide +kernel)
theorem d_Scene_isUnderPlank_37 : decode b_Scene_isUnderPlank 37 = .ok (.ireturn, 1) := kq_172 byq_r (by decide +kernel)
theorem d_Scene_isUnderPlank_38 : decode b_Scene_isUnderPlank 38 = .ok (.iinc 3 1, 3) := kq_132 byq_r (b := 1) (by decide +kernel)
theorem d_Scene_isUnderPlank_41 : decode b_Scene_isUnderPlank 41 = .ok (.goto (-39), 3) := kq_167 byq_r (a := 255) (b := 217) (by decide +kernel)
theorem d_Scene_isUnderPlank_44 : decode b_Scene_isUnderPlank 44 = .ok (.iconst 0, 1) := kq_3 byq_r (by decide +kernel)
theorem d_Scene_isUnderPlank_45 : decode b_Scene_isUnderPlank 45 = .ok (.ireturn, 1) := kq_172 byq_r (by decide +kernel)
theorem d_Scene_copy_0 : decode b_Scene_copy 0 = .ok (.aload_n 1, 1) := kq_43 byq_r (by decide +kernel)
theorem d_Scene_copy_1 : decode b_Scene_copy 1 = .ok (.getfield 9, 3) := kq_180 byq_r (a := 0) (b := 9) (by decide +kernel)
theorem d_Scene_copy_4 : decode b_Scene_copy 4 = .ok (.iconst 0, 1) := kq_3 byq_r (by decide +kernel)
theorem d_Scene_copy_5 : decode b_Scene_copy 5 = .ok (.aload_n 0, 1) := kq_42 byq_r (by decide +kernel)
theorem d_Scene_copy_6 : decode b_Scene_copy 6 = .ok (.getfield 9, 3) := kq_180 byq_r (a := 0) (b := 9) (by decide +kernel)
theorem d_Scene_copy_9 : decode b_Scene_copy 9 = .ok (.iconst 0, 1) := kq_3 byq_r (by decide +kernel)
theorem d_Scene_copy_10 : decode b_Scene_copy 10 = .ok (.bipush 8, 2) := kq_16 byq_r (b := 8) (by decide +kernel)
theorem d_Scene_copy_12 : decode b_Scene_copy 12 = .ok (.invokestatic 47, 3) := kq_184 byq_r (a := 0) (b := 47) (by decide +kernel)
theorem d_Scene_copy_15 : decode b_Scene_copy 15 = .ok (.aload_n 1, 1) := kq_43 byq_r (by decide +kernel)
theorem d_Scene_copy_16 : decode b_Scene_copy 16 = .ok (.getfield 15, 3) := kq_180 byq_r (a := 0) (b := 15) (by decide +kernel)
theorem d_Scene_copy_19 : decode b_Scene_copy 19 = .ok (.iconst 0, 1) := kq_3 byq_r (by decide +kernel)
theorem d_Scene_copy_20 : decode b_Scene_copy 20 = .ok (.aload_n 0, 1) := kq_42 byq_r (by decide +kernel)
theorem d_Scene_copy_21 : decode b_Scene_copy 21 = .ok (.getfield 15, 3) := kq_180 byq_r (a := 0) (b := 15) (by decide +kernel)
theorem d_Scene_copy_24 : decode b_Scene_copy 24 = .ok (.iconst 0, 1) := kq_3 byq_r (by decide +kernel)
theorem d_Scene_copy_25 : decode b_Scene_copy 25 = .ok (.bipush 8, 2) := kq_16 byq_r (b := 8) (by decide +kernel)
theorem d_Scene_copy_27 : decode b_Scene_copy 27 = .ok (.invokestatic 47, 3) := kq_184 byq_r (a := 0) (b := 47) (by decide +kernel)
theorem d_Scene_copy_30 : decode b_Scene_copy 30 = .ok (.aload_n 1, 1) := kq_43 byq_r (by decide +kernel)
theorem d_Scene_copy_31 : decode b_Scene_copy 31 = .ok (.getfield 18, 3) := kq_180 byq_r (a := 0) (b := 18) (by decide +kernel)
theorem d_Scene_copy_34 : decode b_Scene_copy 34 = .ok (.iconst 0, 1) := kq_3 byq_r (by decide +kernel)
theorem d_Scene_copy_35 : decode b_Scene_copy 35 = .ok (.aload_n 0, 1) := kq_42 byq_r (by decide +kernel)
theorem d_Scene_copy_36 : decode b_Scene_copy 36 = .ok (.getfield 18, 3) := kq_180 byq_r (a := 0) (b := 18) (by decide +kernel)
theorem d_Scene_copy_39 : decode b_Scene_copy 39 = .ok (.iconst 0, 1) := kq_3 byq_r (by decide +kernel)
theorem d_Scene_copy_40 : decode b_Scene_copy 40 = .ok (.bipush 8, 2) := kq_16 byq_r (b := 8) (by decide +kernel)
theorem d_Scene_copy_42 : decode b_Scene_copy 42 = .ok (.invokestatic 47, 3) := kq_184 byq_r (a := 0) (b := 47) (by decide +kernel)
theorem d_Scene_copy_45 : decode b_Scene_copy 45 = .ok (.aload_n 1, 1) := kq_43 byq_r (by decide +kernel)
theorem d_Scene_copy_46 : decode b_Scene_copy 46 = .ok (.getfield 21, 3) := kq_180 byq_r (a := 0) (b := 21) (by decide +kernel)
theorem d_Scene_copy_49 : decode b_Scene_copy 49 = .ok (.iconst 0, 1) := kq_3 byq_r (by decide +kernel)
theorem d_Scene_copy_50 : decode b_Scene_copy 50 = .ok (.aload_n 0, 1) := kq_42 byq_r (by decide +kernel)
theorem d_Scene_copy_51 : decode b_Scene_copy 51 = .ok (.getfield 21, 3) := kq_180 byq_r (a := 0) (b := 21) (by decide +kernel)
theorem d_Scene_copy_54 : decode b_Scene_copy 54 = .ok (.iconst 0, 1) := kq_3 byq_r (by decide +kernel)
theorem d_Scene_copy_55 : decode b_Scene_copy 55 = .ok (.bipush 64, 2) := kq_16 byq_r (b := 64) (by decide +kernel)
theorem d_Scene_copy_57 : decode b_Scene_copy 57 = .ok (.invokestatic 47, 3) := kq_184 byq_r (a := 0) (b := 47) (by decide +kernel)
theorem d_Scene_copy_60 : decode b_Scene_copy 60 = .ok (.aload_n 1, 1) := kq_43 byq_r (by decide +kernel)
theorem d_Scene_copy_61 : decode b_Scene_copy 61 = .ok (.getfield 24, 3) := kq_180 byq_r (a := 0) (b := 24) (by decide +kernel)
theorem d_Scene_copy_64 : decode b_Scene_copy 64 = .ok (.iconst 0, 1) := kq_3 byq_r (by decide +kernel)
theorem d_Scene_copy_65 : decode b_Scene_copy 65 = .ok (.aload_n 0, 1) := kq_42 byq_r (by decide +kernel)
theorem d_Scene_copy_66 : decode b_Scene_copy 66 = .ok (.getfield 24, 3) := kq_180 byq_r (a := 0) (b := 24) (by decide +kernel)
theorem d_Scene_copy_69 : decode b_Scene_copy 69 = .ok (.iconst 0, 1) := kq_3 byq_r (by decide +kernel)
theorem d_Scene_copy_70 : decode b_Scene_copy 70 = .ok (.bipush 6, 2) := kq_16 byq_r (b := 6) (by decide +kernel)
theorem d_Scene_copy_72 : decode b_Scene_copy 72 = .ok (.invokestatic 47, 3) := kq_184 byq_r (a := 0) (b := 47) (by decide +kernel)
theorem d_Scene_copy_75 : decode b_Scene_copy 75 = .ok (.aload_n 1, 1) := kq_43 byq_r (by decide +kernel)
theorem d_Scene_copy_76 : decode b_Scene_copy 76 = .ok (.getfield 27, 3) := kq_180 byq_r (a := 0) (b := 27) (by decide +kernel)
theorem d_Scene_copy_79 : decode b_Scene_copy 79 = .ok (.iconst 0, 1) := kq_3 byq_r (by decide +kernel)
theorem d_Scene_copy_80 : decode b_Scene_copy 80 = .ok (.aload_n 0, 1) := kq_42 byq_r (by decide +kernel)
theorem d_Scene_copy_81 : decode b_Scene_copy 81 = .ok (.getfield 27, 3) := kq_180 byq_r (a := 0) (b := 27) (by decide +kernel)
theorem d_Scene_copy_84 : decode b_Scene_copy 84 = .ok (.iconst 0, 1) := kq_3 byq_r (by decide +kernel)
theorem d_Scene_copy_85 : decode b_Scene_copy 85 = .ok (.bipush 6, 2) := kq_16 byq_r (b := 6) (by decide +kernel)
theorem d_Scene_copy_87 : decode b_Scene_copy 87 = .ok (.invokestatic 47, 3) := kq_184 byq_r (a := 0) (b := 47) (by decide +kernel)
theorem d_Scene_copy_90 : decode b_Scene_copy 90 = .ok (.aload_n 0, 1) := kq_42 byq_r (by decide +kernel)
theorem d_Scene_copy_91 : decode b_Scene_copy 91 = .ok (.aload_n 1, 1) := kq_43 byq_r (by decide +kernel)
theorem d_Scene_copy_92 : decode b_Scene_copy 92 = .ok (.getfield 34, 3) := kq_180 byq_r (a := 0) (b := 34) (by decide +kernel)
theorem d_Scene_copy_95 : decode b_Scene_copy 95 = .ok (.putfield 34, 3) := kq_181 byq_r (a := 0) (b := 34) (by decide +kernel)
theorem d_Scene_copy_98 : decode b_Scene_copy 98 = .ok (.aload_n 0, 1) := kq_42 byq_r (by decide +kernel)
theorem d_Scene_copy_99 : decode b_Scene_copy 99 = .ok (.aload_n 1, 1) := kq_43 byq_r (by decide +kernel)
theorem d_Scene_copy_100 : decode b_Scene_copy 100 = .ok (.getfield 38, 3) := kq_180 byq_r (a := 0) (b := 38) (by decide +kernel)
theorem d_Scene_copy_103 : decode b_Scene_copy 103 = .ok (.putfield 38, 3) := kq_181 byq_r (a := 0) (b := 38) (by decide +kernel)
theorem d_Scene_copy_106 : decode b_Scene_copy 106 = .ok (.aload_n 0, 1) := kq_42 byq_r (by decide +kernel)
theorem d_Scene_copy_107 : decode b_Scene_copy 107 = .ok (.aload_n 1, 1) := kq_43 byq_r (by decide +kernel)
theorem d_Scene_copy_108 : decode b_Scene_copy 108 = .ok (.getfield 41, 3) := kq_180 byq_r (a := 0) (b := 41) (by decide +kernel)
theorem d_Scene_copy_111 : decode b_Scene_copy 111 = .ok (.putfield 41, 3) := kq_181 byq_r (a := 0) (b := 41) (by decide +kernel)
theorem d_Scene_copy_114 : decode b_Scene_copy 114 = .ok (.aload_n 0, 1) := kq_42 byq_r (by decide +kernel)
theorem d_Scene_copy_115 : decode b_Scene_copy 115 = .ok (.aload_n 1, 1) := kq_43 byq_r (by decide +kernel)
theorem d_Scene_copy_116 : decode b_Scene_copy 116 = .ok (.getfield 44, 3) := kq_180 byq_r (a := 0) (b := 44) (by decide +kernel)
theorem d_Scene_copy_119 : decode b_Scene_copy 119 = .ok (.putfield 44, 3) := kq_181 byq_r (a := 0) (b := 44) (by decide +kernel)
theorem d_Scene_copy_122 : decode b_Scene_copy 122 = .ok (.return_, 1) := kq_177 byq_r (by decide +kernel)
theorem d_Scene_hasPlank_0 : decode b_Scene_hasPlank 0 = .ok (.aload_n 0, 1) := kq_42 byq_r (by decide +kernel)
theorem d_Scene_hasPlank_1 : decode b_Scene_hasPlank 1 = .ok (.iload_n 1, 1) := kq_27 byq_r (by decide +kernel)
theorem d_Scene_hasPlank_2 : decode b_Scene_hasPlank 2 = .ok (.invokevirtual 61, 3) := kq_182 byq_r (a := 0) (b := 61) (by decide +kernel)
theorem d_Scene_hasPlank_5 : decode b_Scene_hasPlank 5 = .ok (.aload_n 0, 1) := kq_42 byq_r (by decide +kernel)
theorem d_Scene_hasPlank_6 : decode b_Scene_hasPlank 6 = .ok (.iload_n 2, 1) := kq_28 byq_r (by decide +kernel)
theorem d_Scene_hasPlank_7 : decode b_Scene_hasPlank 7 = .ok (.invokevirtual 61, 3) := kq_182 byq_r (a := 0) (b := 61) (by decide +kernel)
theorem d_Scene_hasPlank_10 : decode b_Scene_hasPlank 10 = .ok (.iand, 1) := kq_126 byq_r (by decide +kernel)
theorem d_Scene_hasPlank_11 : decode b_Scene_hasPlank 11 = .ok (.ifCond .eq 7, 3) := kq_153 byq_r (a := 0) (b := 7) (by decide +kernel)
theorem d_Scene_hasPlank_14 : decode b_Scene_hasPlank 14 = .ok (.iconst 1, 1) := kq_4 byq_r (by decide +kernel)
theorem d_Scene_hasPlank_15 : decode b_Scene_hasPlank 15 = .ok (.goto 4, 3) := kq_167 byq_r (a := 0) (b := 4) (by decide +kernel)
theorem d_Scene_hasPlank_18 : decode b_Scene_hasPlank 18 = .ok (.iconst 0, 1) := kq_3 byq_r (by decide +kernel)
theorem d_Scene_hasPlank_19 : decode b_Scene_hasPlank 19 = .ok (.ireturn, 1) := kq_172 byq_r (by decide +kernel)
theorem d_Scene_addPlank_0 : decode b_Scene_addPlank 0 = .ok (.aload_n 0, 1) := kq_42 byq_r (by decide +kernel)
theorem d_Scene_addPlank_1 : decode b_Scene_addPlank 1 = .ok (.getfield 34, 3) := kq_180 byq_r (a := 0) (b := 34) (by decide +kernel)
theorem d_Scene_addPlank_4 : decode b_Scene_addPlank 4 = .ok (.ifCond .lt 12, 3) := kq_155 byq_r (a := 0) (b := 12) (by decide +kernel)
theorem d_Scene_addPlank_7 : decode b_Scene_addPlank 7 = .ok (.aload_n 0, 1) := kq_42 byq_r (by decide +kernel)
theorem d_Scene_addPlank_8 : decode b_Scene_addPlank 8 = .ok (.getfield 34, 3) := kq_180 byq_r (a := 0) (b := 34) (by decide +kernel)
theorem d_Scene_addPlank_11 : decode b_Scene_addPlank 11 = .ok (.bipush 6, 2) := kq_16 byq_r (b := 6) (by decide +kernel)
theorem d_Scene_addPlank_13 : decode b_Scene_addPlank 13 = .ok (.if_icmp .lt 5, 3) := kq_161 byq_r (a := 0) (b := 5) (by decide +kernel)
theorem d_Scene_addPlank_16 : decode b_Scene_addPlank 16 = .ok (.iconst 0, 1) := kq_3 byq_r (by decide +kernel)
theorem d_Scene_addPlank_17 : decode b_Scene_addPlank 17 = .ok (.ireturn, 1) := kq_172 byq_r (by decide +kernel)
theorem d_Scene_addPlank_18 : decode b_Scene_addPlank 18 = .ok (.aload_n 0, 1) := kq_42 byq_r (by decide +kernel)
theorem d_Scene_addPlank_19 : decode b_Scene_addPlank 19 = .ok (.getfield 24, 3) := kq_180 byq_r (a := 0) (b := 24) (by decide +kernel)
theorem d_Scene_addPlank_22 : decode b_Scene_addPlank 22 = .ok (.aload_n 0, 1) := kq_42 byq_r (by decide +kernel)
theorem d_Scene_addPlank_23 : decode b_Scene_addPlank 23 = .ok (.getfield 34, 3) := kq_180 byq_r (a := 0) (b := 34) (by decide +kernel)
theorem d_Scene_addPlank_26 : decode b_Scene_addPlank 26 = .ok (.iload_n 1, 1) := kq_27 byq_r (by decide +kernel)
theorem d_Scene_addPlank_27 : decode b_Scene_addPlank 27 = .ok (.iastore, 1) := kq_79 byq_r (by decide +kernel)
theorem d_Scene_addPlank_28 : decode b_Scene_addPlank 28 = .ok (.aload_n 0, 1) := kq_42 byq_r (by decide +kernel)
theorem d_Scene_addPlank_29 : decode b_Scene_addPlank 29 = .ok (.getfield 27, 3) := kq_180 byq_r (a := 0) (b := 27) (by decide +kernel)
theorem d_Scene_addPlank_32 : decode b_Scene_addPlank 32 = .ok (.aload_n 0, 1) := kq_42 byq_r (by decide +kernel)
theorem d_Scene_addPlank_33 : decode b_Scene_addPlank 33 = .ok (.getfield 34, 3) := kq_180 byq_r (a := 0) (b := 34) (by decide +kernel)
theorem d_Scene_addPlank_36 : decode b_Scene_addPlank 36 = .ok (.iload_n 2, 1) := kq_28 byq_r (by decide +kernel)
theorem d_Scene_addPlank_37 : decode b_Scene_addPlank 37 = .ok (.iastore, 1) := kq_79 byq_r (by decide +kernel)
theorem d_Scene_addPlank_38 : decode b_Scene_addPlank 38 = .ok (.aload_n 0, 1) := kq_42 byq_r (by decide +kernel)
theorem d_Scene_addPlank_39 : decode b_Scene_addPlank 39 = .ok (.dup, 1) := kq_89 byq_r (by decide +kernel)
theorem d_Scene_addPlank_40 : decode b_Scene_addPlank 40 = .ok (.getfield 34, 3) := kq_180 byq_r (a := 0) (b := 34) (by decide +kernel)
theorem d_Scene_addPlank_43 : decode b_Scene_addPlank 43 = .ok (.iconst 1, 1) := kq_4 byq_r (by decide +kernel)
theorem d_Scene_addPlank_44 : decode b_Scene_addPlank 44 = .ok (.iadd, 1) := kq_96 byq_r (by decide +kernel)
theorem d_Scene_addPlank_45 : decode b_Scene_addPlank 45 = .ok (.putfield 34, 3) := kq_181 byq_r (a := 0) (b := 34) (by decide +kernel)
theorem d_Scene_addPlank_48 : decode b_Scene_addPlank 48 = .ok (.iconst 1, 1) := kq_4 byq_r (by decide +kernel)
theorem d_Scene_addPlank_49 : decode b_Scene_addPlank 49 = .ok (.ireturn, 1) := kq_172 byq_r (by decide +kernel)
theorem d_Scene_addMeeting_0 : decode b_Scene_addMeeting 0 = .ok (.aload_n 0, 1) := kq_42 byq_r (by decide +kernel)
theorem d_Scene_addMeeting_1 : decode b_Scene_addMeeting 1 = .ok (.getfield 21, 3) := kq_180 byq_r (a := 0) (b := 21) (by decide +kernel)
theorem d_Scene_addMeeting_4 : decode b_Scene_addMeeting 4 = .ok (.iload_n 1, 1) := kq_27 byq_r (by decide +kernel)
theorem d_Scene_addMeeting_5 : decode b_Scene_addMeeting 5 = .ok (.bipush 8, 2) := kq_16 byq_r (b := 8) (by decide +kernel)
theorem d_Scene_addMeeting_7 : decode b_Scene_addMeeting 7 = .ok (.imul, 1) := kq_104 byq_r (by decide +kernel)
theorem d_Scene_addMeeting_8 : decode b_Scene_addMeeting 8 = .ok (.iload_n 2, 1) := kq_28 byq_r (by decide +kernel)
theorem d_Scene_addMeeting_9 : decode b_Scene_addMeeting 9 = .ok (.iadd, 1) := kq_96 byq_r (by decide +kernel)
theorem d_Scene_addMeeting_10 : decode b_Scene_addMeeting 10 = .ok (.dup2, 1) := kq_92 byq_r (by decide +kernel)
theorem d_Scene_addMeeting_11 : decode b_Scene_addMeeting 11 = .ok (.iaload, 1) := kq_46 byq_r (by decide +kernel)
theorem d_Scene_addMeeting_12 : decode b_Scene_addMeeting 12 = .ok (.iconst 1, 1) := kq_4 byq_r (by decide +kernel)
theorem d_Scene_addMeeting_13 : decode b_Scene_addMeeting 13 = .ok (.iadd, 1) := kq_96 byq_r (by decide +kernel)
theorem d_Scene_addMeeting_14 : decode b_Scene_addMeeting 14 = .ok (.iastore, 1) := kq_79 byq_r (by decide +kernel)
theorem d_Scene_addMeeting_15 : decode b_Scene_addMeeting 15 = .ok (.return_, 1) := kq_177 byq_r (by decide +kernel)
theorem d_Scene_guarded_0 : decode b_Scene_guarded 0 = .ok (.lconst 0, 1) := kq_9 byq_r (by decide +kernel)
theorem d_Scene_guarded_1 : decode b_Scene_guarded 1 = .ok (.lstore_n 3, 1) := kq_66 byq_r (by decide +kernel)
theorem d_Scene_guarded_2 : decode b_Scene_guarded 2 = .ok (.iconst 0, 1) := kq_3 byq_r (by decide +kernel)
theorem d_Scene_guarded_3 : decode b_Scene_guarded 3 = .ok (.istore 5, 2) := kq_54 byq_r (by decide +kernel)
theorem d_Scene_guarded_5 : decode b_Scene_guarded 5 = .ok (.iload 5, 2) := kq_21 byq_r (by decide +kernel)
theorem d_Scene_guarded_7 : decode b_Scene_guarded 7 = .ok (.bipush 8, 2) := kq_16 byq_r (b := 8) (by decide +kernel)
theorem d_Scene_guarded_9 : decode b_Scene_guarded 9 = .ok (.if_icmp .ge 41, 3) := kq_162 byq_r (a := 0) (b := 41) (by decide +kernel)
theorem d_Scene_guarded_12 : decode b_Scene_guarded 12 = .ok (.iload_n 2, 1) := kq_28 byq_r (by decide +kernel)
theorem d_Scene_guarded_13 : decode b_Scene_guarded 13 = .ok (.iload 5, 2) := kq_21 byq_r (by decide +kernel)
theorem d_Scene_guarded_15 : decode b_Scene_guarded 15 = .ok (.ishr, 1) := kq_122 byq_r (by decide +kernel)
theorem d_Scene_guarded_16 : decode b_Scene_guarded 16 = .ok (.iconst 1, 1) := kq_4 byq_r (by decide +kernel)
theorem d_Scene_guarded_17 : decode b_Scene_guarded 17 = .ok (.iand, 1) := kq_126 byq_r (by decide +kernel)
theorem d_Scene_guarded_18 : decode b_Scene_guarded 18 = .ok (.ifCond .eq 26, 3) := kq_153 byq_r (a := 0) (b := 26) (by decide +kernel)
theorem d_Scene_guarded_21 : decode b_Scene_guarded 21 = .ok (.aload_n 0, 1) := kq_42 byq_r (by decide +kernel)
theorem d_Scene_guarded_22 : decode b_Scene_guarded 22 = .ok (.getfield 15, 3) := kq_180 byq_r (a := 0) (b := 15) (by decide +kernel)
theorem d_Scene_guarded_25 : decode b_Scene_guarded 25 = .ok (.iload 5, 2) := kq_21 byq_r (by decide +kernel)
theorem d_Scene_guarded_27 : decode b_Scene_guarded 27 = .ok (.iaload, 1) := kq_46 byq_r (by decide +kernel)
theorem d_Scene_guarded_28 : decode b_Scene_guarded 28 = .ok (.iload_n 1, 1) := kq_27 byq_r (by decide +kernel)
theorem d_Scene_guarded_29 : decode b_Scene_guarded 29 = .ok (.if_icmp .ne 15, 3) := kq_160 byq_r (a := 0) (b := 15) (by decide +kernel)
theorem d_Scene_guarded_32 : decode b_Scene_guarded 32 = .ok (.lload_n 3, 1) := kq_33 byq_r (by decide +kernel)
theorem d_Scene_guarded_33 : decode b_Scene_guarded 33 = .ok (.lconst 1, 1) := kq_10 byq_r (by decide +kernel)
theorem d_Scene_guarded_34 : decode b_Scene_guarded 34 = .ok (.aload_n 0, 1) := kq_42 byq_r (by decide +kernel)
theorem d_Scene_guarded_35 : decode b_Scene_guarded 35 = .ok (.getfield 9, 3) := kq_180 byq_r (a := 0) (b := 9) (by decide +kernel)
theorem d_Scene_guarded_38 : decode b_Scene_guarded 38 = .ok (.iload 5, 2) := kq_21 byq_r (by decide +kernel)
theorem d_Scene_guarded_40 : decode b_Scene_guarded 40 = .ok (.iaload, 1) := kq_46 byq_r (by decide +kernel)
theorem d_Scene_guarded_41 : decode b_Scene_guarded 41 = .ok (.lshl, 1) := kq_121 byq_r (by decide +kernel)
theorem d_Scene_guarded_42 : decode b_Scene_guarded 42 = .ok (.lor, 1) := kq_129 byq_r (by decide +kernel)
theorem d_Scene_guarded_43 : decode b_Scene_guarded 43 = .ok (.lstore_n 3, 1) := kq_66 byq_r (by decide +kernel)
theorem d_Scene_guarded_44 : decode b_Scene_guarded 44 = .ok (.iinc 5 1, 3) := kq_132 byq_r (b := 1) (by decide +kernel)
theorem d_Scene_guarded_47 : decode b_Scene_guarded 47 = .ok (.goto (-42), 3) := kq_167 byq_r (a := 255) (b := 214) (by decide +kernel)
theorem d_Scene_guarded_50 : decode b_Scene_guarded 50 = .ok (.lload_n 3, 1) := kq_33 byq_r (by decide +kernel)
theorem d_Scene_guarded_51 : decode b_Scene_guarded 51 = .ok (.lreturn, 1) := kq_173 byq_r (by decide +kernel)
theorem d_Scene_occupied_0 : decode b_Scene_occupied 0 = .ok (.aload_n 0, 1) := kq_42 byq_r (by decide +kernel)
theorem d_Scene_occupied_1 : decode b_Scene_occupied 1 = .ok (.iload_n 1, 1) := kq_27 byq_r (by decide +kernel)
theorem d_Scene_occupied_2 : decode b_Scene_occupied 2 = .ok (.iconst 1, 1) := kq_4 byq_r (by decide +kernel)
theorem d_Scene_occupied_3 : decode b_Scene_occupied 3 = .ok (.iload_n 2, 1) := kq_28 byq_r (by decide +kernel)
theorem d_Scene_occupied_4 : decode b_Scene_occupied 4 = .ok (.ishl, 1) := kq_120 byq_r (by decide +kernel)
theorem d_Scene_occupied_5 : decode b_Scene_occupied 5 = .ok (.iconst 1, 1) := kq_4 byq_r (by decide +kernel)
theorem d_Scene_occupied_6 : decode b_Scene_occupied 6 = .ok (.isub, 1) := kq_100 byq_r (by decide +kernel)
theorem d_Scene_occupied_7 : decode b_Scene_occupied 7 = .ok (.invokevirtual 53, 3) := kq_182 byq_r (a := 0) (b := 53) (by decide +kernel)
theorem d_Scene_occupied_10 : decode b_Scene_occupied 10 = .ok (.lreturn, 1) := kq_173 byq_r (by decide +kernel)
theorem d_Scene_allMeetings_0 : decode b_Scene_allMeetings 0 = .ok (.iconst 0, 1) := kq_3 byq_r (by decide +kernel)
theorem d_Scene_allMeetings_1 : decode b_Scene_allMeetings 1 = .ok (.istore_n 1, 1) := kq_60 byq_r (by decide +kernel)
theorem d_Scene_allMeetings_2 : decode b_Scene_allMeetings 2 = .ok (.iconst 0, 1) := kq_3 byq_r (by decide +kernel)
theorem d_Scene_allMeetings_3 : decode b_Scene_allMeetings 3 = .ok (.istore_n 2, 1) := kq_61 byq_r (by decide +kernel)
theorem d_Scene_allMeetings_4 : decode b_Scene_allMeetings 4 = .ok (.iload_n 2, 1) := kq_28 byq_r (by decide +kernel)
theorem d_Scene_allMeetings_5 : decode b_Scene_allMeetings 5 = .ok (.bipush 64, 2) := kq_16 byq_r (b := 64) (by decide +kernel)
theorem d_Scene_allMeetings_7 : decode b_Scene_allMeetings 7 = .ok (.if_icmp .ge 18, 3) := kq_162 byq_r (a := 0) (b := 18) (by decide +kernel)
theorem d_Scene_allMeetings_10 : decode b_Scene_allMeetings 10 = .ok (.iload_n 1, 1) := kq_27 byq_r (by decide +kernel)
theorem d_Scene_allMeetings_11 : decode b_Scene_allMeetings 11 = .ok (.aload_n 0, 1) := kq_42 byq_r (by decide +kernel)
theorem d_Scene_allMeetings_12 : decode b_Scene_allMeetings 12 = .ok (.getfield 21, 3) := kq_180 byq_r (a := 0) (b := 21) (by decide +kernel)
theorem d_Scene_allMeetings_15 : decode b_Scene_allMeetings 15 = .ok (.iload_n 2, 1) := kq_28 byq_r (by decide +kernel)
theorem d_Scene_allMeetings_16 : decode b_Scene_allMeetings 16 = .ok (.iaload, 1) := kq_46 byq_r (by decide +kernel)
theorem d_Scene_allMeetings_17 : decode b_Scene_allMeetings 17 = .ok (.iadd, 1) := kq_96 byq_r (by decide +kernel)
theorem d_Scene_allMeetings_18 : decode b_Scene_allMeetings 18 = .ok (.istore_n 1, 1) := kq_60 byq_r (by decide +kernel)
theorem d_Scene_allMeetings_19 : decode b_Scene_allMeetings 19 = .ok (.iinc 2 1, 3) := kq_132 byq_r (b := 1) (by decide +kernel)
theorem d_Scene_allMeetings_22 : decode b_Scene_allMeetings 22 = .ok (.goto (-18), 3) := kq_167 byq_r (a := 255) (b := 238) (by decide +kernel)
theorem d_Scene_allMeetings_25 : decode b_Scene_allMeetings 25 = .ok (.iload_n 1, 1) := kq_27 byq_r (by decide +kernel)
theorem d_Scene_allMeetings_26 : decode b_Scene_allMeetings 26 = .ok (.ireturn, 1) := kq_172 byq_r (by decide +kernel)
theorem d_History_forget_0 : decode b_History_forget 0 = .ok (.aload_n 0, 1) := kq_42 byq_r (by decide +kernel)
theorem d_History_forget_1 : decode b_History_forget 1 = .ok (.iconst 0, 1) := kq_3 byq_r (by decide +kernel)
theorem d_History_forget_2 : decode b_History_forget 2 = .ok (.putfield 25, 3) := kq_181 byq_r (a := 0) (b := 25) (by decide +kernel)
theorem d_History_forget_5 : decode b_History_forget 5 = .ok (.return_, 1) := kq_177 byq_r (by decide +kernel)
theorem d_History_spoil_0 : decode b_History_spoil 0 = .ok (.aload_n 0, 1) := kq_42 byq_r (by decide +kernel)
theorem d_History_spoil_1 : decode b_History_spoil 1 = .ok (.iconst 0, 1) := kq_3 byq_r (by decide +kernel)
theorem d_History_spoil_2 : decode b_History_spoil 2 = .ok (.putfield 29, 3) := kq_181 byq_r (a := 0) (b := 29) (by decide +kernel)
theorem d_History_spoil_5 : decode b_History_spoil 5 = .ok (.return_, 1) := kq_177 byq_r (by decide +kernel)
theorem d_History_clear_0 : decode b_History_clear 0 = .ok (.aload_n 0, 1) := kq_42 byq_r (by decide +kernel)
theorem d_History_clear_1 : decode b_History_clear 1 = .ok (.invokevirtual 19, 3) := kq_182 byq_r (a := 0) (b := 19) (by decide +kernel)
theorem d_History_clear_4 : decode b_History_clear 4 = .ok (.aload_n 0, 1) := kq_42 byq_r (by decide +kernel)
theorem d_History_clear_5 : decode b_History_clear 5 = .ok (.invokevirtual 22, 3) := kq_182 byq_r (a := 0) (b := 22) (by decide +kernel)
theorem d_History_clear_8 : decode b_History_clear 8 = .ok (.return_, 1) := kq_177 byq_r (by decide +kernel)
theorem d_History_add_0 : decode b_History_add 0 = .ok (.aload_n 0, 1) := kq_42 byq_r (by decide +kernel)
theorem d_History_add_1 : decode b_History_add 1 = .ok (.getfield 25, 3) := kq_180 byq_r (a := 0) (b := 25) (by decide +kernel)
theorem d_History_add_4 : decode b_History_add 4 = .ok (.bipush 12, 2) := kq_16 byq_r (b := 12) (by decide +kernel)
theorem d_History_add_6 : decode b_History_add 6 = .ok (.if_icmp .lt 52, 3) := kq_161 byq_r (a := 0) (b := 52) (by decide +kernel)
theorem d_History_add_9 : decode b_History_add 9 = .ok (.aload_n 0, 1) := kq_42 byq_r (by decide +kernel)
theorem d_History_add_10 : decode b_History_add 10 = .ok (.getfield 11, 3) := kq_180 byq_r (a := 0) (b := 11) (by decide +kernel)
theorem d_History_add_13 : decode b_History_add 13 = .ok (.iconst 0, 1) := kq_3 byq_r (by decide +kernel)
theorem d_History_add_14 : decode b_History_add 14 = .ok (.aaload, 1) := kq_50 byq_r (by decide +kernel)
theorem d_History_add_15 : decode b_History_add 15 = .ok (.astore_n 2, 1) := kq_77 byq_r (by decide +kernel)
theorem d_History_add_16 : decode b_History_add 16 = .ok (.iconst 1, 1) := kq_4 byq_r (by decide +kernel)
theorem d_History_add_17 : decode b_History_add 17 = .ok (.istore_n 3, 1) := kq_62 byq_r (by decide +kernel)
theorem d_History_add_18 : decode b_History_add 18 = .ok (.iload_n 3, 1) := kq_29 byq_r (by decide +kernel)
theorem d_History_add_19 : decode b_History_add 19 = .ok (.bipush 12, 2) := kq_16 byq_r (b := 12) (by decide +kernel)
theorem d_History_add_21 : decode b_History_add 21 = .ok (.if_icmp .ge 23, 3) := kq_162 byq_r (a := 0) (b := 23) (by decide +kernel)
theorem d_History_add_24 : decode b_History_add 24 = .ok (.aload_n 0, 1) := kq_42 byq_r (by decide +kernel)
theorem d_History_add_25 : decode b_History_add 25 = .ok (.getfield 11, 3) := kq_180 byq_r (a := 0) (b := 11) (by decide +kernel)
theorem d_History_add_28 : decode b_History_add 28 = .ok (.iload_n 3, 1) := kq_29 byq_r (by decide +kernel)
theorem d_History_add_29 : decode b_History_add 29 = .ok (.iconst 1, 1) := kq_4 byq_r (by decide +kernel)
theorem d_History_add_30 : decode b_History_add 30 = .ok (.isub, 1) := kq_100 byq_r (by decide +kernel)
theorem d_History_add_31 : decode b_History_add 31 = .ok (.aload_n 0, 1) := kq_42 byq_r (by decide +kernel)
theorem d_History_add_32 : decode b_History_add 32 = .ok (.getfield 11, 3) := kq_180 byq_r (a := 0) (b := 11) (by decide +kernel)
theorem d_History_add_35 : decode b_History_add 35 = .ok (.iload_n 3, 1) := kq_29 byq_r (by decide +kernel)
theorem d_History_add_36 : decode b_History_add 36 = .ok (.aaload, 1) := kq_50 byq_r (by decide +kernel)
theorem d_History_add_37 : decode b_History_add 37 = .ok (.aastore, 1) := kq_83 byq_r (by decide +kernel)
theorem d_History_add_38 : decode b_History_add 38 = .ok (.iinc 3 1, 3) := kq_132 byq_r (b := 1) (by decide +kernel)
theorem d_History_add_41 : decode b_History_add 41 = .ok (.goto (-23), 3) := kq_167 byq_r (a := 255) (b := 233) (by decide +kernel)
theorem d_History_add_44 : decode b_History_add 44 = .ok (.aload_n 0, 1) := kq_42 byq_r (by decide +kernel)
theorem d_History_add_45 : decode b_History_add 45 = .ok (.getfield 11, 3) := kq_180 byq_r (a := 0) (b := 11) (by decide +kernel)
theorem d_History_add_48 : decode b_History_add 48 = .ok (.bipush 11, 2) := kq_16 byq_r (b := 11) (by decide +kernel)
theorem d_History_add_50 : decode b_History_add 50 = .ok (.aload_n 2, 1) := kq_44 byq_r (by decide +kernel)
theorem d_History_add_51 : decode b_History_add 51 = .ok (.aastore, 1) := kq_83 byq_r (by decide +kernel)
theorem d_History_add_52 : decode b_History_add 52 = .ok (.aload_n 0, 1) := kq_42 byq_r (by decide +kernel)
theorem d_History_add_53 : decode b_History_add 53 = .ok (.bipush 11, 2) := kq_16 byq_r (b := 11) (by decide +kernel)
theorem d_History_add_55 : decode b_History_add 55 = .ok (.putfield 25, 3) := kq_181 byq_r (a := 0) (b := 25) (by decide +kernel)
theorem d_History_add_58 : decode b_History_add 58 = .ok (.aload_n 0, 1) := kq_42 byq_r (by decide +kernel)
theorem d_History_add_59 : decode b_History_add 59 = .ok (.getfield 11, 3) := kq_180 byq_r (a := 0) (b := 11) (by decide +kernel)
theorem d_History_add_62 : decode b_History_add 62 = .ok (.aload_n 0, 1) := kq_42 byq_r (by decide +kernel)
theorem d_History_add_63 : decode b_History_add 63 = .ok (.getfield 25, 3) := kq_180 byq_r (a := 0) (b := 25) (by decide +kernel)
theorem d_History_add_66 : decode b_History_add 66 = .ok (.aaload, 1) := kq_50 byq_r (by decide +kernel)
theorem d_History_add_67 : decode b_History_add 67 = .ok (.aload_n 1, 1) := kq_43 byq_r (by decide +kernel)
theorem d_History_add_68 : decode b_History_add 68 = .ok (.invokevirtual 32, 3) := kq_182 byq_r (a := 0) (b := 32) (by decide +kernel)
theorem d_History_add_71 : decode b_History_add 71 = .ok (.aload_n 0, 1) := kq_42 byq_r (by decide +kernel)
theorem d_History_add_72 : decode b_History_add 72 = .ok (.dup, 1) := kq_89 byq_r (by decide +kernel)
theorem d_History_add_73 : decode b_History_add 73 = .ok (.getfield 25, 3) := kq_180 byq_r (a := 0) (b := 25) (by decide +kernel)
theorem d_History_add_76 : decode b_History_add 76 = .ok (.iconst 1, 1) := kq_4 byq_r (by decide +kernel)
theorem d_History_add_77 : decode b_History_add 77 = .ok (.iadd, 1) := kq_96 byq_r (by decide +kernel)
theorem d_History_add_78 : decode b_History_add 78 = .ok (.putfield 25, 3) := kq_181 byq_r (a := 0) (b := 25) (by decide +kernel)
theorem d_History_add_81 : decode b_History_add 81 = .ok (.return_, 1) := kq_177 byq_r (by decide +kernel)
theorem d_History_back_0 : decode b_History_back 0 = .ok (.aload_n 0, 1) := kq_42 byq_r (by decide +kernel)
theorem d_History_back_1 : decode b_History_back 1 = .ok (.getfield 25, 3) := kq_180 byq_r (a := 0) (b := 25) (by decide +kernel)
theorem d_History_back_4 : decode b_History_back 4 = .ok (.iconst 1, 1) := kq_4 byq_r (by decide +kernel)
theorem d_History_back_5 : decode b_History_back 5 = .ok (.if_icmp .lt 12, 3) := kq_161 byq_r (a := 0) (b := 12) (by decide +kernel)
theorem d_History_back_8 : decode b_History_back 8 = .ok (.aload_n 0, 1) := kq_42 byq_r (by decide +kernel)
theorem d_History_back_9 : decode b_History_back 9 = .ok (.getfield 25, 3) := kq_180 byq_r (a := 0) (b := 25) (by decide +kernel)
theorem d_History_back_12 : decode b_History_back 12 = .ok (.bipush 12, 2) := kq_16 byq_r (b := 12) (by decide +kernel)
theorem d_History_back_14 : decode b_History_back 14 = .ok (.if_icmp .le 5, 3) := kq_164 byq_r (a := 0) (b := 5) (by decide +kernel)
theorem d_History_back_17 : decode b_History_back 17 = .ok (.iconst 0, 1) := kq_3 byq_r (by decide +kernel)
theorem d_History_back_18 : decode b_History_back 18 = .ok (.ireturn, 1) := kq_172 byq_r (by decide +kernel)
theorem d_History_back_19 : decode b_History_back 19 = .ok (.aload_n 0, 1) := kq_42 byq_r (by decide +kernel)
theorem d_History_back_20 : decode b_History_back 20 = .ok (.dup, 1) := kq_89 byq_r (by decide +kernel)
theorem d_History_back_21 : decode b_History_back 21 = .ok (.getfield 25, 3) := kq_180 byq_r (a := 0) (b := 25) (by decide +kernel)
theorem d_History_back_24 : decode b_History_back 24 = .ok (.iconst 1, 1) := kq_4 byq_r (by decide +kernel)
theorem d_History_back_25 : decode b_History_back 25 = .ok (.isub, 1) := kq_100 byq_r (by decide +kernel)
theorem d_History_back_26 : decode b_History_back 26 = .ok (.putfield 25, 3) := kq_181 byq_r (a := 0) (b := 25) (by decide +kernel)
theorem d_History_back_29 : decode b_History_back 29 = .ok (.aload_n 1, 1) := kq_43 byq_r (by decide +kernel)
theorem d_History_back_30 : decode b_History_back 30 = .ok (.aload_n 0, 1) := kq_42 byq_r (by decide +kernel)
theorem d_History_back_31 : decode b_History_back 31 = .ok (.getfield 11, 3) := kq_180 byq_r (a := 0) (b := 11) (by decide +kernel)
theorem d_History_back_34 : decode b_History_back 34 = .ok (.aload_n 0, 1) := kq_42 byq_r (by decide +kernel)
theorem d_History_back_35 : decode b_History_back 35 = .ok (.getfield 25, 3) := kq_180 byq_r (a := 0) (b := 25) (by decide +kernel)
theorem d_History_back_38 : decode b_History_back 38 = .ok (.aaload, 1) := kq_50 byq_r (by decide +kernel)
theorem d_History_back_39 : decode b_History_back 39 = .ok (.invokevirtual 32, 3) := kq_182 byq_r (a := 0) (b := 32) (by decide +kernel)
theorem d_History_back_42 : decode b_History_back 42 = .ok (.iconst 1, 1) := kq_4 byq_r (by decide +kernel)
theorem d_History_back_43 : decode b_History_back 43 = .ok (.ireturn, 1) := kq_172 byq_r (by decide +kernel)
theorem d_History_store_0 : decode b_History_store 0 = .ok (.iload_n 1, 1) := kq_27 byq_r (by decide +kernel)
theorem d_History_store_1 : decode b_History_store 1 = .ok (.ifCond .lt 8, 3) := kq_155 byq_r (a := 0) (b := 8) (by decide +kernel)
theorem d_History_store_4 : decode b_History_store 4 = .ok (.iload_n 1, 1) := kq_27 byq_r (by decide +kernel)
theorem d_History_store_5 : decode b_History_store 5 = .ok (.iconst 2, 1) := kq_5 byq_r (by decide +kernel)
theorem d_History_store_6 : decode b_History_store 6 = .ok (.if_icmp .lt 5, 3) := kq_161 byq_r (a := 0) (b := 5) (by decide +kernel)
theorem d_History_store_9 : decode b_History_store 9 = .ok (.iconst 0, 1) := kq_3 byq_r (by decide +kernel)
theorem d_History_store_10 : decode b_History_store 10 = .ok (.ireturn, 1) := kq_172 byq_r (by decide +kernel)
theorem d_History_store_11 : decode b_History_store 11 = .ok (.aload_n 0, 1) := kq_42 byq_r (by decide +kernel)
theorem d_History_store_12 : decode b_History_store 12 = .ok (.getfield 15, 3) := kq_180 byq_r (a := 0) (b := 15) (by decide +kernel)
theorem d_History_store_15 : decode b_History_store 15 = .ok (.iload_n 1, 1) := kq_27 byq_r (by decide +kernel)
theorem d_History_store_16 : decode b_History_store 16 = .ok (.aaload, 1) := kq_50 byq_r (by decide +kernel)
theorem d_History_store_17 : decode b_History_store 17 = .ok (.aload_n 2, 1) := kq_44 byq_r (by decide +kernel)
theorem d_History_store_18 : decode b_History_store 18 = .ok (.invokevirtual 32, 3) := kq_182 byq_r (a := 0) (b := 32) (by decide +kernel)
theorem d_History_store_21 : decode b_History_store 21 = .ok (.aload_n 0, 1) := kq_42 byq_r (by decide +kernel)
theorem d_History_store_22 : decode b_History_store 22 = .ok (.dup, 1) := kq_89 byq_r (by decide +kernel)
theorem d_History_store_23 : decode b_History_store 23 = .ok (.getfield 29, 3) := kq_180 byq_r (a := 0) (b := 29) (by decide +kernel)
theorem d_History_store_26 : decode b_History_store 26 = .ok (.iconst 1, 1) := kq_4 byq_r (by decide +kernel)
theorem d_History_store_27 : decode b_History_store 27 = .ok (.iload_n 1, 1) := kq_27 byq_r (by decide +kernel)
theorem d_History_store_28 : decode b_History_store 28 = .ok (.ishl, 1) := kq_120 byq_r (by decide +kernel)
theorem d_History_store_29 : decode b_History_store 29 = .ok (.ior, 1) := kq_128 byq_r (by decide +kernel)
theorem d_History_store_30 : decode b_History_store 30 = .ok (.putfield 29, 3) := kq_181 byq_r (a := 0) (b := 29) (by decide +kernel)
theorem d_History_store_33 : decode b_History_store 33 = .ok (.iconst 1, 1) := kq_4 byq_r (by decide +kernel)
theorem d_History_store_34 : decode b_History_store 34 = .ok (.ireturn, 1) := kq_172 byq_r (by decide +kernel)
theorem d_History_restore_0 : decode b_History_restore 0 = .ok (.iload_n 1, 1) := kq_27 byq_r (by decide +kernel)
theorem d_History_restore_1 : decode b_History_restore 1 = .ok (.ifCond .lt 19, 3) := kq_155 byq_r (a := 0) (b := 19) (by decide +kernel)
theorem d_History_restore_4 : decode b_History_restore 4 = .ok (.iload_n 1, 1) := kq_27 byq_r (by decide +kernel)
theorem d_History_restore_5 : decode b_History_restore 5 = .ok (.iconst 2, 1) := kq_5 byq_r (by decide +kernel)
theorem d_History_restore_6 : decode b_History_restore 6 = .ok (.if_icmp .ge 14, 3) := kq_162 byq_r (a := 0) (b := 14) (by decide +kernel)
theorem d_History_restore_9 : decode b_History_restore 9 = .ok (.aload_n 0, 1) := kq_42 byq_r (by decide +kernel)
theorem d_History_restore_10 : decode b_History_restore 10 = .ok (.getfield 29, 3) := kq_180 byq_r (a := 0) (b := 29) (by decide +kernel)
theorem d_History_restore_13 : decode b_History_restore 13 = .ok (.iload_n 1, 1) := kq_27 byq_r (by decide +kernel)
theorem d_History_restore_14 : decode b_History_restore 14 = .ok (.ishr, 1) := kq_122 byq_r (by decide +kernel)
theorem d_History_restore_15 : decode b_History_restore 15 = .ok (.iconst 1, 1) := kq_4 byq_r (by decide +kernel)
theorem d_History_restore_16 : decode b_History_restore 16 = .ok (.iand, 1) := kq_126 byq_r (by decide +kernel)
theorem d_History_restore_17 : decode b_History_restore 17 = .ok (.ifCond .ne 5, 3) := kq_154 byq_r (a := 0) (b := 5) (by decide +kernel)
theorem d_History_restore_20 : decode b_History_restore 20 = .ok (.iconst 0, 1) := kq_3 byq_r (by decide +kernel)
theorem d_History_restore_21 : decode b_History_restore 21 = .ok (.ireturn, 1) := kq_172 byq_r (by decide +kernel)
theorem d_History_restore_22 : decode b_History_restore 22 = .ok (.aload_n 2, 1) := kq_44 byq_r (by decide +kernel)
theorem d_History_restore_23 : decode b_History_restore 23 = .ok (.aload_n 0, 1) := kq_42 byq_r (by decide +kernel)
theorem d_History_restore_24 : decode b_History_restore 24 = .ok (.getfield 15, 3) := kq_180 byq_r (a := 0) (b := 15) (by decide +kernel)
theorem d_History_restore_27 : decode b_History_restore 27 = .ok (.iload_n 1, 1) := kq_27 byq_r (by decide +kernel)
theorem d_History_restore_28 : decode b_History_restore 28 = .ok (.aaload, 1) := kq_50 byq_r (by decide +kernel)
theorem d_History_restore_29 : decode b_History_restore 29 = .ok (.invokevirtual 32, 3) := kq_182 byq_r (a := 0) (b := 32) (by decide +kernel)
theorem d_History_restore_32 : decode b_History_restore 32 = .ok (.iconst 1, 1) := kq_4 byq_r (by decide +kernel)
theorem d_History_restore_33 : decode b_History_restore 33 = .ok (.ireturn, 1) := kq_172 byq_r (by decide +kernel)
def f_Scene_put (v0 : Nat) (v1 : Int32) (v2 : Int32) (v3 : Int32) (M : Mem) : Option (Mem) :=
  if kd v0 = 10 + 7 then
  if inb v1 8 = true then
  mem_ (s_i M (rf v0 0) v1.toNatClampNeg v2) fun M1 =>
  if inb v1 8 = true then
  mem_ (s_i M1 (rf v0 1) v1.toNatClampNeg v3) fun M2 =>
  if inb v1 8 = true then
  mem_ (s_i M2 (rf v0 2) v1.toNatClampNeg (0 : Int32)) fun M3 =>
  some M3
  else none
  else none
  else none
  else none
theorem c_Scene_put (l : Launch) (G : Gw)  (v0 : Nat) (v1 : Int32) (v2 : Int32) (v3 : Int32) (M : Mem) (x : Mem) (h : f_Scene_put v0 v1 v2 v3 M = some x) (d : Nat) (hD : 1 ≤ d) : Cv l G y_Scene_put b_Scene_put 4 none d [.ref (G.2.2 + v0), .int v1, .int v2, .int v3] M (fun M9 => M9 = x) := by
  refine Cv_of (by decide) (Nat.le_of_ble_eq_true rfl) (fun E hE X => ?_)
  subst hE
  have kr : ∀ x9 : Mem, x = x9 → (fun M9 => M9 = x) x9 := fun x9 e9 => by subst e9; exact rfl
  unfold f_Scene_put at h
  obtain ⟨hk_v0, h⟩ := ifn h
  refine V_aload_n (n := 0) X d_Scene_put_0 rfl rfl rfl ?_
  refine V_getr X fo_Scene_9 hk_v0 rfl rfl d_Scene_put_1 rfl ?_
  refine V_iload_n (n := 1) X d_Scene_put_4 rfl rfl rfl ?_
  refine V_iload_n (n := 2) X d_Scene_put_5 rfl rfl rfl ?_
  obtain ⟨hb, h⟩ := ifn h
  obtain ⟨M1, eM1, h⟩ := memS h
  refine V_iast X (kdScene_0 hk_v0) (inb_in (lnScene_0 hk_v0) hb) d_Scene_put_6 rfl ?_
  rw [← eM1]
  refine V_aload_n (n := 0) X d_Scene_put_7 rfl rfl rfl ?_
  refine V_getr X fo_Scene_15 hk_v0 rfl rfl d_Scene_put_8 rfl ?_
  refine V_iload_n (n := 1) X d_Scene_put_11 rfl rfl rfl ?_
  refine V_iload_n (n := 3) X d_Scene_put_12 rfl rfl rfl ?_
  obtain ⟨hb, h⟩ := ifn h
  obtain ⟨M2, eM2, h⟩ := memS h
  refine V_iast X (kdScene_1 hk_v0) (inb_in (lnScene_1 hk_v0) hb) d_Scene_put_13 rfl ?_
  rw [← eM2]
  refine V_aload_n (n := 0) X d_Scene_put_14 rfl rfl rfl ?_
  refine V_getr X fo_Scene_18 hk_v0 rfl rfl d_Scene_put_15 rfl ?_
  refine V_iload_n (n := 1) X d_Scene_put_18 rfl rfl rfl ?_
  refine V_iconst (v := 0) X d_Scene_put_19 (by decide) rfl ?_
  obtain ⟨hb, h⟩ := ifn h
  obtain ⟨M3, eM3, h⟩ := memS h
  refine V_iast X (kdScene_2 hk_v0) (inb_in (lnScene_2 hk_v0) hb) d_Scene_put_20 rfl ?_
  rw [← eM3]
  exact V_vret X (kr M3 (Option.some.inj h).symm) d_Scene_put_21
def lb_Scene_clear_2 (v0 : Nat) (s : Int32 × Mem) : Option ((Int32 × Mem) ⊕ ((Mem))) :=
  if (8 : Int32) ≤ s.1 then
  some (.inr s.2)
  else
  Option.bind (f_Scene_put v0 s.1 (0 : Int32) (0 : Int32) s.2) fun x1 =>
  some (.inl ((s.1 + (1 : Int32)), x1))
theorem lb_Scene_clear_2_ok {E : Ev} {G : Gw} {d : Nat} {post : Mem → Prop} (X : Cx E G b_Scene_clear "WomenByTheRoofs$Scene" 2 d none) (hD : 2 ≤ d)  (v0 : Nat) (hk_v0 : kd v0 = 10 + 7)  (s : Int32 × Mem) (o : (Int32 × Mem) ⊕ ((Mem))) (h : lb_Scene_clear_2 v0 s = some o) (kc : ∀ s9 : Int32 × Mem, o = .inl s9 → V E (0, 0) G 2 (QV E G post) s9.2 2 [(0, .ref (G.2.2 + v0)), (1, .int s9.1)] []) (kx0 : ∀ x9 : Mem, o = .inr x9 → V E (0, 0) G 2 (QV E G post) x9 21 [(0, .ref (G.2.2 + v0))] []) : V E (0, 0) G 2 (QV E G post) s.2 2 [(0, .ref (G.2.2 + v0)), (1, .int s.1)] [] := by
  unfold lb_Scene_clear_2 at h
  refine V_iload_n (n := 1) X d_Scene_clear_2 rfl rfl rfl ?_
  refine V_bipush (v := 8) X d_Scene_clear_3 (by decide) rfl ?_
  refine V_icmp_ge (tgt := 21) X d_Scene_clear_5 (by decide) rfl (fun c2 => ?_) (fun c2 => ?_)
  · rw [if_pos c2] at h
    refine V_sub (lv' := [(0, .ref (G.2.2 + v0))]) [0] rfl ?_
    exact kx0 s.2 (Option.some.inj h).symm
  · rw [if_neg c2] at h
    refine V_aload_n (n := 0) X d_Scene_clear_8 rfl rfl rfl ?_
    refine V_iload_n (n := 1) X d_Scene_clear_9 rfl rfl rfl ?_
    refine V_iconst (v := 0) X d_Scene_clear_10 (by decide) rfl ?_
    refine V_iconst (v := 0) X d_Scene_clear_11 (by decide) rfl ?_
    obtain ⟨x1, hx1, h⟩ := ob_s h
    refine V_cv (As := [.int s.1, .int (0 : Int32), .int (0 : Int32)]) X (Z0 E) ml_Scene_30 yq_Scene_put (c_Scene_put E.2.1 G v0 s.1 (0 : Int32) (0 : Int32) s.2 x1 hx1 _ (Nat.le_refl _)) hk_v0 rfl rfl (by omega) rfl (Nat.le_of_ble_eq_true rfl) d_Scene_clear_12 rfl (fun M9 hq => ?_)
    rw [hq]
    refine V_iinc (n := 1) (v := (s.1 + (1 : Int32))) (lv' := [(1, .int (s.1 + (1 : Int32))), (0, .ref (G.2.2 + v0))]) X d_Scene_clear_15 rfl rfl (by decide) rfl rfl ?_
    refine V_goto (pc' := 2) X d_Scene_clear_18 (by decide) ?_
    refine V_sub (lv' := [(0, .ref (G.2.2 + v0)), (1, .int (s.1 + (1 : Int32)))]) [1, 0] rfl ?_
    exact kc ((s.1 + (1 : Int32)), x1) (Option.some.inj h).symm
theorem lp_Scene_clear_2_ok {E : Ev} {G : Gw} {d : Nat} {post : Mem → Prop} (X : Cx E G b_Scene_clear "WomenByTheRoofs$Scene" 2 d none) (hD : 2 ≤ d)  (v0 : Nat) (hk_v0 : kd v0 = 10 + 7)  (n9 : Nat) (s : Int32 × Mem) (x : (Mem)) (h : iter (lb_Scene_clear_2 v0) n9 s = some x) (kx0 : ∀ x9 : Mem, x = x9 → V E (0, 0) G 2 (QV E G post) x9 21 [(0, .ref (G.2.2 + v0))] []) : V E (0, 0) G 2 (QV E G post) s.2 2 [(0, .ref (G.2.2 + v0)), (1, .int s.1)] [] :=
  iter_P (P := fun s : Int32 × Mem => V E (0, 0) G 2 (QV E G post) s.2 2 [(0, .ref (G.2.2 + v0)), (1, .int s.1)] []) (fun s o hb kc ky => lb_Scene_clear_2_ok X hD v0 hk_v0 s o hb kc (fun x9 e9 => kx0 x9 (ky _ e9).symm)) n9 s h
def lb_Scene_clear_23 (v0 : Nat) (s : Int32 × Mem) : Option ((Int32 × Mem) ⊕ ((Mem))) :=
  if (64 : Int32) ≤ s.1 then
  some (.inr s.2)
  else
  if inb s.1 64 = true then
  mem_ (s_i s.2 (rf v0 3) s.1.toNatClampNeg (0 : Int32)) fun M4 =>
  some (.inl ((s.1 + (1 : Int32)), M4))
  else none
theorem lb_Scene_clear_23_ok {E : Ev} {G : Gw} {d : Nat} {post : Mem → Prop} (X : Cx E G b_Scene_clear "WomenByTheRoofs$Scene" 2 d none) (hD : 2 ≤ d)  (v0 : Nat) (hk_v0 : kd v0 = 10 + 7)  (s : Int32 × Mem) (o : (Int32 × Mem) ⊕ ((Mem))) (h : lb_Scene_clear_23 v0 s = some o) (kc : ∀ s9 : Int32 × Mem, o = .inl s9 → V E (0, 0) G 2 (QV E G post) s9.2 23 [(0, .ref (G.2.2 + v0)), (1, .int s9.1)] []) (kx0 : ∀ x9 : Mem, o = .inr x9 → V E (0, 0) G 2 (QV E G post) x9 42 [(0, .ref (G.2.2 + v0))] []) : V E (0, 0) G 2 (QV E G post) s.2 23 [(0, .ref (G.2.2 + v0)), (1, .int s.1)] [] := by
  unfold lb_Scene_clear_23 at h
  refine V_iload_n (n := 1) X d_Scene_clear_23 rfl rfl rfl ?_
  refine V_bipush (v := 64) X d_Scene_clear_24 (by decide) rfl ?_
  refine V_icmp_ge (tgt := 42) X d_Scene_clear_26 (by decide) rfl (fun c5 => ?_) (fun c5 => ?_)
  · rw [if_pos c5] at h
    refine V_sub (lv' := [(0, .ref (G.2.2 + v0))]) [0] rfl ?_
    exact kx0 s.2 (Option.some.inj h).symm
  · rw [if_neg c5] at h
    refine V_aload_n (n := 0) X d_Scene_clear_29 rfl rfl rfl ?_
    refine V_getr X fo_Scene_21 hk_v0 rfl rfl d_Scene_clear_30 rfl ?_
    refine V_iload_n (n := 1) X d_Scene_clear_33 rfl rfl rfl ?_
    refine V_iconst (v := 0) X d_Scene_clear_34 (by decide) rfl ?_
    obtain ⟨hb, h⟩ := ifn h
    obtain ⟨M4, eM4, h⟩ := memS h
    refine V_iast X (kdScene_3 hk_v0) (inb_in (lnScene_3 hk_v0) hb) d_Scene_clear_35 rfl ?_
    rw [← eM4]
    refine V_iinc (n := 1) (v := (s.1 + (1 : Int32))) (lv' := [(1, .int (s.1 + (1 : Int32))), (0, .ref (G.2.2 + v0))]) X d_Scene_clear_36 rfl rfl (by decide) rfl rfl ?_
    refine V_goto (pc' := 23) X d_Scene_clear_39 (by decide) ?_
    refine V_sub (lv' := [(0, .ref (G.2.2 + v0)), (1, .int (s.1 + (1 : Int32)))]) [1, 0] rfl ?_
    exact kc ((s.1 + (1 : Int32)), M4) (Option.some.inj h).symm
theorem lp_Scene_clear_23_ok {E : Ev} {G : Gw} {d : Nat} {post : Mem → Prop} (X : Cx E G b_Scene_clear "WomenByTheRoofs$Scene" 2 d none) (hD : 2 ≤ d)  (v0 : Nat) (hk_v0 : kd v0 = 10 + 7)  (n9 : Nat) (s : Int32 × Mem) (x : (Mem)) (h : iter (lb_Scene_clear_23 v0) n9 s = some x) (kx0 : ∀ x9 : Mem, x = x9 → V E (0, 0) G 2 (QV E G post) x9 42 [(0, .ref (G.2.2 + v0))] []) : V E (0, 0) G 2 (QV E G post) s.2 23 [(0, .ref (G.2.2 + v0)), (1, .int s.1)] [] :=
  iter_P (P := fun s : Int32 × Mem => V E (0, 0) G 2 (QV E G post) s.2 23 [(0, .ref (G.2.2 + v0)), (1, .int s.1)] []) (fun s o hb kc ky => lb_Scene_clear_23_ok X hD v0 hk_v0 s o hb kc (fun x9 e9 => kx0 x9 (ky _ e9).symm)) n9 s h
def f_Scene_clear (v0 : Nat) (M : Mem) : Option (Mem) :=
  if kd v0 = 10 + 7 then
  Option.bind (iter (lb_Scene_clear_2 v0) FU ((0 : Int32), M)) fun x3 =>
  Option.bind (iter (lb_Scene_clear_23 v0) FU ((0 : Int32), x3)) fun x6 =>
  mem_ (s_i x6 v0 6 (0 : Int32)) fun M7 =>
  mem_ (s_i M7 v0 7 (0 : Int32)) fun M8 =>
  mem_ (s_i M8 v0 8 (0 : Int32)) fun M9 =>
  mem_ (s_i M9 v0 9 (0 : Int32)) fun M10 =>
  some M10
  else none
theorem c_Scene_clear (l : Launch) (G : Gw)  (v0 : Nat) (M : Mem) (x : Mem) (h : f_Scene_clear v0 M = some x) (d : Nat) (hD : 2 ≤ d) : Cv l G y_Scene_clear b_Scene_clear 2 none d [.ref (G.2.2 + v0)] M (fun M9 => M9 = x) := by
  refine Cv_of (by decide) (Nat.le_of_ble_eq_true rfl) (fun E hE X => ?_)
  subst hE
  have kr : ∀ x9 : Mem, x = x9 → (fun M9 => M9 = x) x9 := fun x9 e9 => by subst e9; exact rfl
  unfold f_Scene_clear at h
  obtain ⟨hk_v0, h⟩ := ifn h
  refine V_iconst (v := 0) X d_Scene_clear_0 (by decide) rfl ?_
  refine V_istore_n (lv' := [(1, .int (0 : Int32)), (0, .ref (G.2.2 + v0))]) X d_Scene_clear_1 rfl (by decide) rfl rfl ?_
  refine V_sub (lv' := [(0, .ref (G.2.2 + v0)), (1, .int (0 : Int32))]) [1, 0] rfl ?_
  obtain ⟨x3, hx3, h⟩ := ob_s h
  refine (lp_Scene_clear_2_ok X hD v0 hk_v0 _ _ _ hx3 (fun x9 e9 => ?_) :)
  subst e9
  refine V_iconst (v := 0) X d_Scene_clear_21 (by decide) rfl ?_
  refine V_istore_n (lv' := [(1, .int (0 : Int32)), (0, .ref (G.2.2 + v0))]) X d_Scene_clear_22 rfl (by decide) rfl rfl ?_
  refine V_sub (lv' := [(0, .ref (G.2.2 + v0)), (1, .int (0 : Int32))]) [1, 0] rfl ?_
  obtain ⟨x6, hx6, h⟩ := ob_s h
  refine (lp_Scene_clear_23_ok X hD v0 hk_v0 _ _ _ hx6 (fun x9 e9 => ?_) :)
  subst e9
  refine V_aload_n (n := 0) X d_Scene_clear_42 rfl rfl rfl ?_
  refine V_iconst (v := 0) X d_Scene_clear_43 (by decide) rfl ?_
  obtain ⟨M7, eM7, h⟩ := memS h
  refine V_putI X fp_Scene_34 hk_v0 rfl d_Scene_clear_44 rfl ?_
  rw [← eM7]
  refine V_aload_n (n := 0) X d_Scene_clear_47 rfl rfl rfl ?_
  refine V_iconst (v := 0) X d_Scene_clear_48 (by decide) rfl ?_
  obtain ⟨M8, eM8, h⟩ := memS h
  refine V_putI X fp_Scene_38 hk_v0 rfl d_Scene_clear_49 rfl ?_
  rw [← eM8]
  refine V_aload_n (n := 0) X d_Scene_clear_52 rfl rfl rfl ?_
  refine V_iconst (v := 0) X d_Scene_clear_53 (by decide) rfl ?_
  obtain ⟨M9, eM9, h⟩ := memS h
  refine V_putI X fp_Scene_41 hk_v0 rfl d_Scene_clear_54 rfl ?_
  rw [← eM9]
  refine V_aload_n (n := 0) X d_Scene_clear_57 rfl rfl rfl ?_
  refine V_iconst (v := 0) X d_Scene_clear_58 (by decide) rfl ?_
  obtain ⟨M10, eM10, h⟩ := memS h
  refine V_putI X fp_Scene_44 hk_v0 rfl d_Scene_clear_59 rfl ?_
  rw [← eM10]
  exact V_vret X (kr M10 (Option.some.inj h).symm) d_Scene_clear_62
def lb_Scene_standing_6 (v0 : Nat) (v1 : Int32) (v2 : Int32) (v3 : Int32) (M : Mem) (s : Int32 × Int32) : Option ((Int32 × Int32) ⊕ ((Int32))) :=
  if v3 ≤ s.2 then
  some (.inr s.1)
  else
  if inb s.2 8 = true then
  if (M.1 (rf v0 0) s.2.toNatClampNeg) = v2 then
  if inb s.2 8 = true then
  if (M.1 (rf v0 1) s.2.toNatClampNeg) = v1 then
  some (.inl ((s.1 ||| ((1 : Int32) <<< (s.2 &&& 31))), (s.2 + (1 : Int32))))
  else
  some (.inl (s.1, (s.2 + (1 : Int32))))
  else none
  else
  some (.inl (s.1, (s.2 + (1 : Int32))))
  else none
theorem lb_Scene_standing_6_ok {E : Ev} {G : Gw} {d : Nat} {post : Int32 → Mem → Prop} (X : Cx E G b_Scene_standing "WomenByTheRoofs$Scene" 6 d (some .int)) (hD : 1 ≤ d)  (v0 : Nat) (v1 : Int32) (v2 : Int32) (v3 : Int32) (hk_v0 : kd v0 = 10 + 7) (M : Mem) (s : Int32 × Int32) (o : (Int32 × Int32) ⊕ ((Int32))) (h : lb_Scene_standing_6 v0 v1 v2 v3 M s = some o) (kc : ∀ s9 : Int32 × Int32, o = .inl s9 → V E (0, 0) G 6 (QI E G post) M 6 [(0, .ref (G.2.2 + v0)), (1, .int v1), (2, .int v2), (3, .int v3), (4, .int s9.1), (5, .int s9.2)] []) (kx0 : ∀ x9 : Int32, o = .inr x9 → V E (0, 0) G 6 (QI E G post) M 49 [(4, .int x9)] []) : V E (0, 0) G 6 (QI E G post) M 6 [(0, .ref (G.2.2 + v0)), (1, .int v1), (2, .int v2), (3, .int v3), (4, .int s.1), (5, .int s.2)] [] := by
  unfold lb_Scene_standing_6 at h
  refine V_iload (n := 5) X d_Scene_standing_6 rfl rfl ?_
  refine V_iload_n (n := 3) X d_Scene_standing_8 rfl rfl rfl ?_
  refine V_icmp_ge (tgt := 49) X d_Scene_standing_9 (by decide) rfl (fun c3 => ?_) (fun c3 => ?_)
  · rw [if_pos c3] at h
    refine V_sub (lv' := [(4, .int s.1)]) [4] rfl ?_
    exact kx0 s.1 (Option.some.inj h).symm
  · rw [if_neg c3] at h
    refine V_aload_n (n := 0) X d_Scene_standing_12 rfl rfl rfl ?_
    refine V_getr X fo_Scene_9 hk_v0 rfl rfl d_Scene_standing_13 rfl ?_
    refine V_iload (n := 5) X d_Scene_standing_16 rfl rfl ?_
    obtain ⟨hb, h⟩ := ifn h
    refine V_iald X (kdScene_0 hk_v0) (inb_in (lnScene_0 hk_v0) hb) d_Scene_standing_18 rfl ?_
    refine V_iload_n (n := 2) X d_Scene_standing_19 rfl rfl rfl ?_
    refine V_icmp_ne (tgt := 43) X d_Scene_standing_20 (by decide) rfl (fun c2 => ?_) (fun c2 => ?_)
    · rw [if_neg c2] at h
      refine V_iinc (n := 5) (v := (s.2 + (1 : Int32))) (lv' := [(5, .int (s.2 + (1 : Int32))), (0, .ref (G.2.2 + v0)), (1, .int v1), (2, .int v2), (3, .int v3), (4, .int s.1)]) X d_Scene_standing_43 rfl rfl (by decide) rfl rfl ?_
      refine V_goto (pc' := 6) X d_Scene_standing_46 (by decide) ?_
      refine V_sub (lv' := [(0, .ref (G.2.2 + v0)), (1, .int v1), (2, .int v2), (3, .int v3), (4, .int s.1), (5, .int (s.2 + (1 : Int32)))]) [1, 2, 3, 4, 5, 0] rfl ?_
      exact kc (s.1, (s.2 + (1 : Int32))) (Option.some.inj h).symm
    · rw [if_pos c2] at h
      refine V_aload_n (n := 0) X d_Scene_standing_23 rfl rfl rfl ?_
      refine V_getr X fo_Scene_15 hk_v0 rfl rfl d_Scene_standing_24 rfl ?_
      refine V_iload (n := 5) X d_Scene_standing_27 rfl rfl ?_
      obtain ⟨hb, h⟩ := ifn h
      refine V_iald X (kdScene_1 hk_v0) (inb_in (lnScene_1 hk_v0) hb) d_Scene_standing_29 rfl ?_
      refine V_iload_n (n := 1) X d_Scene_standing_30 rfl rfl rfl ?_
      refine V_icmp_ne (tgt := 43) X d_Scene_standing_31 (by decide) rfl (fun c1 => ?_) (fun c1 => ?_)
      · rw [if_neg c1] at h
        refine V_iinc (n := 5) (v := (s.2 + (1 : Int32))) (lv' := [(5, .int (s.2 + (1 : Int32))), (0, .ref (G.2.2 + v0)), (1, .int v1), (2, .int v2), (3, .int v3), (4, .int s.1)]) X d_Scene_standing_43 rfl rfl (by decide) rfl rfl ?_
        refine V_goto (pc' := 6) X d_Scene_standing_46 (by decide) ?_
        refine V_sub (lv' := [(0, .ref (G.2.2 + v0)), (1, .int v1), (2, .int v2), (3, .int v3), (4, .int s.1), (5, .int (s.2 + (1 : Int32)))]) [1, 2, 3, 4, 5, 0] rfl ?_
        exact kc (s.1, (s.2 + (1 : Int32))) (Option.some.inj h).symm
      · rw [if_pos c1] at h
        refine V_iload (n := 4) X d_Scene_standing_34 rfl rfl ?_
        refine V_iconst (v := 1) X d_Scene_standing_36 (by decide) rfl ?_
        refine V_iload (n := 5) X d_Scene_standing_37 rfl rfl ?_
        refine V_ishl X d_Scene_standing_39 rfl ?_
        refine V_ior X d_Scene_standing_40 rfl ?_
        refine V_istore (lv' := [(4, .int (s.1 ||| ((1 : Int32) <<< (s.2 &&& 31)))), (0, .ref (G.2.2 + v0)), (1, .int v1), (2, .int v2), (3, .int v3), (5, .int s.2)]) X d_Scene_standing_41 (by decide) rfl rfl ?_
        refine V_iinc (n := 5) (v := (s.2 + (1 : Int32))) (lv' := [(5, .int (s.2 + (1 : Int32))), (4, .int (s.1 ||| ((1 : Int32) <<< (s.2 &&& 31)))), (0, .ref (G.2.2 + v0)), (1, .int v1), (2, .int v2), (3, .int v3)]) X d_Scene_standing_43 rfl rfl (by decide) rfl rfl ?_
        refine V_goto (pc' := 6) X d_Scene_standing_46 (by decide) ?_
        refine V_sub (lv' := [(0, .ref (G.2.2 + v0)), (1, .int v1), (2, .int v2), (3, .int v3), (4, .int (s.1 ||| ((1 : Int32) <<< (s.2 &&& 31)))), (5, .int (s.2 + (1 : Int32)))]) [2, 3, 4, 5, 1, 0] rfl ?_
        exact kc ((s.1 ||| ((1 : Int32) <<< (s.2 &&& 31))), (s.2 + (1 : Int32))) (Option.some.inj h).symm
theorem lp_Scene_standing_6_ok {E : Ev} {G : Gw} {d : Nat} {post : Int32 → Mem → Prop} (X : Cx E G b_Scene_standing "WomenByTheRoofs$Scene" 6 d (some .int)) (hD : 1 ≤ d)  (v0 : Nat) (v1 : Int32) (v2 : Int32) (v3 : Int32) (hk_v0 : kd v0 = 10 + 7) (M : Mem) (n9 : Nat) (s : Int32 × Int32) (x : (Int32)) (h : iter (lb_Scene_standing_6 v0 v1 v2 v3 M) n9 s = some x) (kx0 : ∀ x9 : Int32, x = x9 → V E (0, 0) G 6 (QI E G post) M 49 [(4, .int x9)] []) : V E (0, 0) G 6 (QI E G post) M 6 [(0, .ref (G.2.2 + v0)), (1, .int v1), (2, .int v2), (3, .int v3), (4, .int s.1), (5, .int s.2)] [] :=
  iter_P (P := fun s : Int32 × Int32 => V E (0, 0) G 6 (QI E G post) M 6 [(0, .ref (G.2.2 + v0)), (1, .int v1), (2, .int v2), (3, .int v3), (4, .int s.1), (5, .int s.2)] []) (fun s o hb kc ky => lb_Scene_standing_6_ok X hD v0 v1 v2 v3 hk_v0 M s o hb kc (fun x9 e9 => kx0 x9 (ky _ e9).symm)) n9 s h
def f_Scene_standing (v0 : Nat) (v1 : Int32) (v2 : Int32) (v3 : Int32) (M : Mem) : Option (Int32) :=
  if kd v0 = 10 + 7 then
  Option.bind (iter (lb_Scene_standing_6 v0 v1 v2 v3 M) FU ((0 : Int32), (0 : Int32))) fun x4 =>
  some x4
  else none
theorem c_Scene_standing (l : Launch) (G : Gw)  (v0 : Nat) (v1 : Int32) (v2 : Int32) (v3 : Int32) (M : Mem) (x : Int32) (h : f_Scene_standing v0 v1 v2 v3 M = some x) (d : Nat) (hD : 1 ≤ d) : Ci l G y_Scene_standing b_Scene_standing 6 (some .int) d [.ref (G.2.2 + v0), .int v1, .int v2, .int v3] M (fun r9 M9 => r9 = x ∧ M9 = M) := by
  refine Ci_of (by decide) (Nat.le_of_ble_eq_true rfl) (fun E hE X => ?_)
  subst hE
  have kr : ∀ x9 : Int32, x = x9 → (fun r9 M9 => r9 = x ∧ M9 = M) x9 M := fun x9 e9 => by subst e9; exact ⟨rfl, rfl⟩
  unfold f_Scene_standing at h
  obtain ⟨hk_v0, h⟩ := ifn h
  refine V_iconst (v := 0) X d_Scene_standing_0 (by decide) rfl ?_
  refine V_istore (lv' := [(4, .int (0 : Int32)), (0, .ref (G.2.2 + v0)), (1, .int v1), (2, .int v2), (3, .int v3)]) X d_Scene_standing_1 (by decide) rfl rfl ?_
  refine V_iconst (v := 0) X d_Scene_standing_3 (by decide) rfl ?_
  refine V_istore (lv' := [(5, .int (0 : Int32)), (4, .int (0 : Int32)), (0, .ref (G.2.2 + v0)), (1, .int v1), (2, .int v2), (3, .int v3)]) X d_Scene_standing_4 (by decide) rfl rfl ?_
  refine V_sub (lv' := [(0, .ref (G.2.2 + v0)), (1, .int v1), (2, .int v2), (3, .int v3), (4, .int (0 : Int32)), (5, .int (0 : Int32))]) [2, 3, 4, 5, 1, 0] rfl ?_
  obtain ⟨x4, hx4, h⟩ := ob_s h
  refine (lp_Scene_standing_6_ok X hD v0 v1 v2 v3 hk_v0 M _ _ _ hx4 (fun x9 e9 => ?_) :)
  subst e9
  refine V_iload (n := 0) X d_Scene_standing_49 rfl rfl ?_
  exact V_iret X (kr x4 (Option.some.inj h).symm) d_Scene_standing_51
def lb_Scene_planksAt_4 (v0 : Nat) (v1 : Int32) (M : Mem) (s : Int32 × Int32) : Option ((Int32 × Int32) ⊕ ((Int32))) :=
  if (M.1 v0 6) ≤ s.2 then
  some (.inr s.1)
  else
  if (6 : Int32) ≤ s.2 then
  some (.inr s.1)
  else
  if inb s.2 6 = true then
  if (M.1 (rf v0 4) s.2.toNatClampNeg) = v1 then
  some (.inl ((s.1 ||| ((1 : Int32) <<< (s.2 &&& 31))), (s.2 + (1 : Int32))))
  else
  if inb s.2 6 = true then
  if (M.1 (rf v0 5) s.2.toNatClampNeg) = v1 then
  some (.inl ((s.1 ||| ((1 : Int32) <<< (s.2 &&& 31))), (s.2 + (1 : Int32))))
  else
  some (.inl (s.1, (s.2 + (1 : Int32))))
  else none
  else none
theorem lb_Scene_planksAt_4_ok {E : Ev} {G : Gw} {d : Nat} {post : Int32 → Mem → Prop} (X : Cx E G b_Scene_planksAt "WomenByTheRoofs$Scene" 4 d (some .int)) (hD : 1 ≤ d)  (v0 : Nat) (v1 : Int32) (hk_v0 : kd v0 = 10 + 7) (M : Mem) (s : Int32 × Int32) (o : (Int32 × Int32) ⊕ ((Int32))) (h : lb_Scene_planksAt_4 v0 v1 M s = some o) (kc : ∀ s9 : Int32 × Int32, o = .inl s9 → V E (0, 0) G 4 (QI E G post) M 4 [(0, .ref (G.2.2 + v0)), (1, .int v1), (2, .int s9.1), (3, .int s9.2)] []) (kx0 : ∀ x9 : Int32, o = .inr x9 → V E (0, 0) G 4 (QI E G post) M 50 [(2, .int x9)] []) : V E (0, 0) G 4 (QI E G post) M 4 [(0, .ref (G.2.2 + v0)), (1, .int v1), (2, .int s.1), (3, .int s.2)] [] := by
  unfold lb_Scene_planksAt_4 at h
  refine V_iload_n (n := 3) X d_Scene_planksAt_4 rfl rfl rfl ?_
  refine V_aload_n (n := 0) X d_Scene_planksAt_5 rfl rfl rfl ?_
  refine V_geti X fo_Scene_34 hk_v0 rfl d_Scene_planksAt_6 rfl ?_
  refine V_icmp_ge (tgt := 50) X d_Scene_planksAt_9 (by decide) rfl (fun c4 => ?_) (fun c4 => ?_)
  · rw [if_pos c4] at h
    refine V_sub (lv' := [(2, .int s.1)]) [2] rfl ?_
    exact kx0 s.1 (Option.some.inj h).symm
  · rw [if_neg c4] at h
    refine V_iload_n (n := 3) X d_Scene_planksAt_12 rfl rfl rfl ?_
    refine V_bipush (v := 6) X d_Scene_planksAt_13 (by decide) rfl ?_
    refine V_icmp_ge (tgt := 50) X d_Scene_planksAt_15 (by decide) rfl (fun c3 => ?_) (fun c3 => ?_)
    · rw [if_pos c3] at h
      refine V_sub (lv' := [(2, .int s.1)]) [2] rfl ?_
      exact kx0 s.1 (Option.some.inj h).symm
    · rw [if_neg c3] at h
      refine V_aload_n (n := 0) X d_Scene_planksAt_18 rfl rfl rfl ?_
      refine V_getr X fo_Scene_24 hk_v0 rfl rfl d_Scene_planksAt_19 rfl ?_
      refine V_iload_n (n := 3) X d_Scene_planksAt_22 rfl rfl rfl ?_
      obtain ⟨hb, h⟩ := ifn h
      refine V_iald X (kdScene_4 hk_v0) (inb_in (lnScene_4 hk_v0) hb) d_Scene_planksAt_23 rfl ?_
      refine V_iload_n (n := 1) X d_Scene_planksAt_24 rfl rfl rfl ?_
      refine V_icmp_eq (tgt := 38) X d_Scene_planksAt_25 (by decide) rfl (fun c2 => ?_) (fun c2 => ?_)
      · rw [if_pos c2] at h
        refine V_iload_n (n := 2) X d_Scene_planksAt_38 rfl rfl rfl ?_
        refine V_iconst (v := 1) X d_Scene_planksAt_39 (by decide) rfl ?_
        refine V_iload_n (n := 3) X d_Scene_planksAt_40 rfl rfl rfl ?_
        refine V_ishl X d_Scene_planksAt_41 rfl ?_
        refine V_ior X d_Scene_planksAt_42 rfl ?_
        refine V_istore_n (lv' := [(2, .int (s.1 ||| ((1 : Int32) <<< (s.2 &&& 31)))), (0, .ref (G.2.2 + v0)), (1, .int v1), (3, .int s.2)]) X d_Scene_planksAt_43 rfl (by decide) rfl rfl ?_
        refine V_iinc (n := 3) (v := (s.2 + (1 : Int32))) (lv' := [(3, .int (s.2 + (1 : Int32))), (2, .int (s.1 ||| ((1 : Int32) <<< (s.2 &&& 31)))), (0, .ref (G.2.2 + v0)), (1, .int v1)]) X d_Scene_planksAt_44 rfl rfl (by decide) rfl rfl ?_
        refine V_goto (pc' := 4) X d_Scene_planksAt_47 (by decide) ?_
        refine V_sub (lv' := [(0, .ref (G.2.2 + v0)), (1, .int v1), (2, .int (s.1 ||| ((1 : Int32) <<< (s.2 &&& 31)))), (3, .int (s.2 + (1 : Int32)))]) [2, 3, 1, 0] rfl ?_
        exact kc ((s.1 ||| ((1 : Int32) <<< (s.2 &&& 31))), (s.2 + (1 : Int32))) (Option.some.inj h).symm
      · rw [if_neg c2] at h
        refine V_aload_n (n := 0) X d_Scene_planksAt_28 rfl rfl rfl ?_
        refine V_getr X fo_Scene_27 hk_v0 rfl rfl d_Scene_planksAt_29 rfl ?_
        refine V_iload_n (n := 3) X d_Scene_planksAt_32 rfl rfl rfl ?_
        obtain ⟨hb, h⟩ := ifn h
        refine V_iald X (kdScene_5 hk_v0) (inb_in (lnScene_5 hk_v0) hb) d_Scene_planksAt_33 rfl ?_
        refine V_iload_n (n := 1) X d_Scene_planksAt_34 rfl rfl rfl ?_
        refine V_icmp_ne (tgt := 44) X d_Scene_planksAt_35 (by decide) rfl (fun c1 => ?_) (fun c1 => ?_)
        · rw [if_neg c1] at h
          refine V_iinc (n := 3) (v := (s.2 + (1 : Int32))) (lv' := [(3, .int (s.2 + (1 : Int32))), (0, .ref (G.2.2 + v0)), (1, .int v1), (2, .int s.1)]) X d_Scene_planksAt_44 rfl rfl (by decide) rfl rfl ?_
          refine V_goto (pc' := 4) X d_Scene_planksAt_47 (by decide) ?_
          refine V_sub (lv' := [(0, .ref (G.2.2 + v0)), (1, .int v1), (2, .int s.1), (3, .int (s.2 + (1 : Int32)))]) [1, 2, 3, 0] rfl ?_
          exact kc (s.1, (s.2 + (1 : Int32))) (Option.some.inj h).symm
        · rw [if_pos c1] at h
          refine V_iload_n (n := 2) X d_Scene_planksAt_38 rfl rfl rfl ?_
          refine V_iconst (v := 1) X d_Scene_planksAt_39 (by decide) rfl ?_
          refine V_iload_n (n := 3) X d_Scene_planksAt_40 rfl rfl rfl ?_
          refine V_ishl X d_Scene_planksAt_41 rfl ?_
          refine V_ior X d_Scene_planksAt_42 rfl ?_
          refine V_istore_n (lv' := [(2, .int (s.1 ||| ((1 : Int32) <<< (s.2 &&& 31)))), (0, .ref (G.2.2 + v0)), (1, .int v1), (3, .int s.2)]) X d_Scene_planksAt_43 rfl (by decide) rfl rfl ?_
          refine V_iinc (n := 3) (v := (s.2 + (1 : Int32))) (lv' := [(3, .int (s.2 + (1 : Int32))), (2, .int (s.1 ||| ((1 : Int32) <<< (s.2 &&& 31)))), (0, .ref (G.2.2 + v0)), (1, .int v1)]) X d_Scene_planksAt_44 rfl rfl (by decide) rfl rfl ?_
          refine V_goto (pc' := 4) X d_Scene_planksAt_47 (by decide) ?_
          refine V_sub (lv' := [(0, .ref (G.2.2 + v0)), (1, .int v1), (2, .int (s.1 ||| ((1 : Int32) <<< (s.2 &&& 31)))), (3, .int (s.2 + (1 : Int32)))]) [2, 3, 1, 0] rfl ?_
          exact kc ((s.1 ||| ((1 : Int32) <<< (s.2 &&& 31))), (s.2 + (1 : Int32))) (Option.some.inj h).symm
theorem lp_Scene_planksAt_4_ok {E : Ev} {G : Gw} {d : Nat} {post : Int32 → Mem → Prop} (X : Cx E G b_Scene_planksAt "WomenByTheRoofs$Scene" 4 d (some .int)) (hD : 1 ≤ d)  (v0 : Nat) (v1 : Int32) (hk_v0 : kd v0 = 10 + 7) (M : Mem) (n9 : Nat) (s : Int32 × Int32) (x : (Int32)) (h : iter (lb_Scene_planksAt_4 v0 v1 M) n9 s = some x) (kx0 : ∀ x9 : Int32, x = x9 → V E (0, 0) G 4 (QI E G post) M 50 [(2, .int x9)] []) : V E (0, 0) G 4 (QI E G post) M 4 [(0, .ref (G.2.2 + v0)), (1, .int v1), (2, .int s.1), (3, .int s.2)] [] :=
  iter_P (P := fun s : Int32 × Int32 => V E (0, 0) G 4 (QI E G post) M 4 [(0, .ref (G.2.2 + v0)), (1, .int v1), (2, .int s.1), (3, .int s.2)] []) (fun s o hb kc ky => lb_Scene_planksAt_4_ok X hD v0 v1 hk_v0 M s o hb kc (fun x9 e9 => kx0 x9 (ky _ e9).symm)) n9 s h
def f_Scene_planksAt (v0 : Nat) (v1 : Int32) (M : Mem) : Option (Int32) :=
  if kd v0 = 10 + 7 then
  Option.bind (iter (lb_Scene_planksAt_4 v0 v1 M) FU ((0 : Int32), (0 : Int32))) fun x5 =>
  some x5
  else none
theorem c_Scene_planksAt (l : Launch) (G : Gw)  (v0 : Nat) (v1 : Int32) (M : Mem) (x : Int32) (h : f_Scene_planksAt v0 v1 M = some x) (d : Nat) (hD : 1 ≤ d) : Ci l G y_Scene_planksAt b_Scene_planksAt 4 (some .int) d [.ref (G.2.2 + v0), .int v1] M (fun r9 M9 => r9 = x ∧ M9 = M) := by
  refine Ci_of (by decide) (Nat.le_of_ble_eq_true rfl) (fun E hE X => ?_)
  subst hE
  have kr : ∀ x9 : Int32, x = x9 → (fun r9 M9 => r9 = x ∧ M9 = M) x9 M := fun x9 e9 => by subst e9; exact ⟨rfl, rfl⟩
  unfold f_Scene_planksAt at h
  obtain ⟨hk_v0, h⟩ := ifn h
  refine V_iconst (v := 0) X d_Scene_planksAt_0 (by decide) rfl ?_
  refine V_istore_n (lv' := [(2, .int (0 : Int32)), (0, .ref (G.2.2 + v0)), (1, .int v1)]) X d_Scene_planksAt_1 rfl (by decide) rfl rfl ?_
  refine V_iconst (v := 0) X d_Scene_planksAt_2 (by decide) rfl ?_
  refine V_istore_n (lv' := [(3, .int (0 : Int32)), (2, .int (0 : Int32)), (0, .ref (G.2.2 + v0)), (1, .int v1)]) X d_Scene_planksAt_3 rfl (by decide) rfl rfl ?_
  refine V_sub (lv' := [(0, .ref (G.2.2 + v0)), (1, .int v1), (2, .int (0 : Int32)), (3, .int (0 : Int32))]) [2, 3, 1, 0] rfl ?_
  obtain ⟨x5, hx5, h⟩ := ob_s h
  refine (lp_Scene_planksAt_4_ok X hD v0 v1 hk_v0 M _ _ _ hx5 (fun x9 e9 => ?_) :)
  subst e9
  refine V_iload_n (n := 0) X d_Scene_planksAt_50 rfl rfl rfl ?_
  exact V_iret X (kr x5 (Option.some.inj h).symm) d_Scene_planksAt_51
def f_Scene_meetingsOfTwo (v0 : Nat) (v1 : Int32) (v2 : Int32) (M : Mem) : Option (Int32) :=
  if kd v0 = 10 + 7 then
  if inb ((v1 * (8 : Int32)) + v2) 64 = true then
  if inb ((v2 * (8 : Int32)) + v1) 64 = true then
  some ((M.1 (rf v0 3) ((v1 * (8 : Int32)) + v2).toNatClampNeg) + (M.1 (rf v0 3) ((v2 * (8 : Int32)) + v1).toNatClampNeg))
  else none
  else none
  else none
theorem c_Scene_meetingsOfTwo (l : Launch) (G : Gw)  (v0 : Nat) (v1 : Int32) (v2 : Int32) (M : Mem) (x : Int32) (h : f_Scene_meetingsOfTwo v0 v1 v2 M = some x) (d : Nat) (hD : 1 ≤ d) : Ci l G y_Scene_meetingsOfTwo b_Scene_meetingsOfTwo 3 (some .int) d [.ref (G.2.2 + v0), .int v1, .int v2] M (fun r9 M9 => r9 = x ∧ M9 = M) := by
  refine Ci_of (by decide) (Nat.le_of_ble_eq_true rfl) (fun E hE X => ?_)
  subst hE
  have kr : ∀ x9 : Int32, x = x9 → (fun r9 M9 => r9 = x ∧ M9 = M) x9 M := fun x9 e9 => by subst e9; exact ⟨rfl, rfl⟩
  unfold f_Scene_meetingsOfTwo at h
  obtain ⟨hk_v0, h⟩ := ifn h
  refine V_aload_n (n := 0) X d_Scene_meetingsOfTwo_0 rfl rfl rfl ?_
  refine V_getr X fo_Scene_21 hk_v0 rfl rfl d_Scene_meetingsOfTwo_1 rfl ?_
  refine V_iload_n (n := 1) X d_Scene_meetingsOfTwo_4 rfl rfl rfl ?_
  refine V_bipush (v := 8) X d_Scene_meetingsOfTwo_5 (by decide) rfl ?_
  refine V_imul X d_Scene_meetingsOfTwo_7 rfl ?_
  refine V_iload_n (n := 2) X d_Scene_meetingsOfTwo_8 rfl rfl rfl ?_
  refine V_iadd X d_Scene_meetingsOfTwo_9 rfl ?_
  obtain ⟨hb, h⟩ := ifn h
  refine V_iald X (kdScene_3 hk_v0) (inb_in (lnScene_3 hk_v0) hb) d_Scene_meetingsOfTwo_10 rfl ?_
  refine V_aload_n (n := 0) X d_Scene_meetingsOfTwo_11 rfl rfl rfl ?_
  refine V_getr X fo_Scene_21 hk_v0 rfl rfl d_Scene_meetingsOfTwo_12 rfl ?_
  refine V_iload_n (n := 2) X d_Scene_meetingsOfTwo_15 rfl rfl rfl ?_
  refine V_bipush (v := 8) X d_Scene_meetingsOfTwo_16 (by decide) rfl ?_
  refine V_imul X d_Scene_meetingsOfTwo_18 rfl ?_
  refine V_iload_n (n := 1) X d_Scene_meetingsOfTwo_19 rfl rfl rfl ?_
  refine V_iadd X d_Scene_meetingsOfTwo_20 rfl ?_
  obtain ⟨hb, h⟩ := ifn h
  refine V_iald X (kdScene_3 hk_v0) (inb_in (lnScene_3 hk_v0) hb) d_Scene_meetingsOfTwo_21 rfl ?_
  refine V_iadd X d_Scene_meetingsOfTwo_22 rfl ?_
  exact V_iret X (kr ((M.1 (rf v0 3) ((v1 * (8 : Int32)) + v2).toNatClampNeg) + (M.1 (rf v0 3) ((v2 * (8 : Int32)) + v1).toNatClampNeg)) (Option.some.inj h).symm) d_Scene_meetingsOfTwo_23
def lb_Scene_meetingsOf_4 (v0 : Nat) (v1 : Int32) (M : Mem) (s : Int32 × Int32) : Option ((Int32 × Int32) ⊕ ((Int32))) :=
  if (8 : Int32) ≤ s.2 then
  some (.inr s.1)
  else
  Option.bind (f_Scene_meetingsOfTwo v0 v1 s.2 M) fun x1 =>
  some (.inl ((s.1 + x1), (s.2 + (1 : Int32))))
theorem lb_Scene_meetingsOf_4_ok {E : Ev} {G : Gw} {d : Nat} {post : Int32 → Mem → Prop} (X : Cx E G b_Scene_meetingsOf "WomenByTheRoofs$Scene" 4 d (some .int)) (hD : 2 ≤ d)  (v0 : Nat) (v1 : Int32) (hk_v0 : kd v0 = 10 + 7) (M : Mem) (s : Int32 × Int32) (o : (Int32 × Int32) ⊕ ((Int32))) (h : lb_Scene_meetingsOf_4 v0 v1 M s = some o) (kc : ∀ s9 : Int32 × Int32, o = .inl s9 → V E (0, 0) G 4 (QI E G post) M 4 [(0, .ref (G.2.2 + v0)), (1, .int v1), (2, .int s9.1), (3, .int s9.2)] []) (kx0 : ∀ x9 : Int32, o = .inr x9 → V E (0, 0) G 4 (QI E G post) M 25 [(2, .int x9)] []) : V E (0, 0) G 4 (QI E G post) M 4 [(0, .ref (G.2.2 + v0)), (1, .int v1), (2, .int s.1), (3, .int s.2)] [] := by
  unfold lb_Scene_meetingsOf_4 at h
  refine V_iload_n (n := 3) X d_Scene_meetingsOf_4 rfl rfl rfl ?_
  refine V_bipush (v := 8) X d_Scene_meetingsOf_5 (by decide) rfl ?_
  refine V_icmp_ge (tgt := 25) X d_Scene_meetingsOf_7 (by decide) rfl (fun c2 => ?_) (fun c2 => ?_)
  · rw [if_pos c2] at h
    refine V_sub (lv' := [(2, .int s.1)]) [2] rfl ?_
    exact kx0 s.1 (Option.some.inj h).symm
  · rw [if_neg c2] at h
    refine V_iload_n (n := 2) X d_Scene_meetingsOf_10 rfl rfl rfl ?_
    refine V_aload_n (n := 0) X d_Scene_meetingsOf_11 rfl rfl rfl ?_
    refine V_iload_n (n := 1) X d_Scene_meetingsOf_12 rfl rfl rfl ?_
    refine V_iload_n (n := 3) X d_Scene_meetingsOf_13 rfl rfl rfl ?_
    obtain ⟨x1, hx1, h⟩ := ob_s h
    refine V_ci (As := [.int v1, .int s.2]) X (Z0 E) ml_Scene_57 yq_Scene_meetingsOfTwo (c_Scene_meetingsOfTwo E.2.1 G v0 v1 s.2 M x1 hx1 _ (Nat.le_refl _)) hk_v0 rfl rfl (by omega) rfl (Nat.le_of_ble_eq_true rfl) d_Scene_meetingsOf_14 rfl (fun r9 M9 hq => ?_)
    rw [hq.1, hq.2]
    refine V_iadd X d_Scene_meetingsOf_17 rfl ?_
    refine V_istore_n (lv' := [(2, .int (s.1 + x1)), (0, .ref (G.2.2 + v0)), (1, .int v1), (3, .int s.2)]) X d_Scene_meetingsOf_18 rfl (by decide) rfl rfl ?_
    refine V_iinc (n := 3) (v := (s.2 + (1 : Int32))) (lv' := [(3, .int (s.2 + (1 : Int32))), (2, .int (s.1 + x1)), (0, .ref (G.2.2 + v0)), (1, .int v1)]) X d_Scene_meetingsOf_19 rfl rfl (by decide) rfl rfl ?_
    refine V_goto (pc' := 4) X d_Scene_meetingsOf_22 (by decide) ?_
    refine V_sub (lv' := [(0, .ref (G.2.2 + v0)), (1, .int v1), (2, .int (s.1 + x1)), (3, .int (s.2 + (1 : Int32)))]) [2, 3, 1, 0] rfl ?_
    exact kc ((s.1 + x1), (s.2 + (1 : Int32))) (Option.some.inj h).symm
theorem lp_Scene_meetingsOf_4_ok {E : Ev} {G : Gw} {d : Nat} {post : Int32 → Mem → Prop} (X : Cx E G b_Scene_meetingsOf "WomenByTheRoofs$Scene" 4 d (some .int)) (hD : 2 ≤ d)  (v0 : Nat) (v1 : Int32) (hk_v0 : kd v0 = 10 + 7) (M : Mem) (n9 : Nat) (s : Int32 × Int32) (x : (Int32)) (h : iter (lb_Scene_meetingsOf_4 v0 v1 M) n9 s = some x) (kx0 : ∀ x9 : Int32, x = x9 → V E (0, 0) G 4 (QI E G post) M 25 [(2, .int x9)] []) : V E (0, 0) G 4 (QI E G post) M 4 [(0, .ref (G.2.2 + v0)), (1, .int v1), (2, .int s.1), (3, .int s.2)] [] :=
  iter_P (P := fun s : Int32 × Int32 => V E (0, 0) G 4 (QI E G post) M 4 [(0, .ref (G.2.2 + v0)), (1, .int v1), (2, .int s.1), (3, .int s.2)] []) (fun s o hb kc ky => lb_Scene_meetingsOf_4_ok X hD v0 v1 hk_v0 M s o hb kc (fun x9 e9 => kx0 x9 (ky _ e9).symm)) n9 s h
def f_Scene_meetingsOf (v0 : Nat) (v1 : Int32) (M : Mem) : Option (Int32) :=
  if kd v0 = 10 + 7 then
  Option.bind (iter (lb_Scene_meetingsOf_4 v0 v1 M) FU ((0 : Int32), (0 : Int32))) fun x3 =>
  some x3
  else none
theorem c_Scene_meetingsOf (l : Launch) (G : Gw)  (v0 : Nat) (v1 : Int32) (M : Mem) (x : Int32) (h : f_Scene_meetingsOf v0 v1 M = some x) (d : Nat) (hD : 2 ≤ d) : Ci l G y_Scene_meetingsOf b_Scene_meetingsOf 4 (some .int) d [.ref (G.2.2 + v0), .int v1] M (fun r9 M9 => r9 = x ∧ M9 = M) := by
  refine Ci_of (by decide) (Nat.le_of_ble_eq_true rfl) (fun E hE X => ?_)
  subst hE
  have kr : ∀ x9 : Int32, x = x9 → (fun r9 M9 => r9 = x ∧ M9 = M) x9 M := fun x9 e9 => by subst e9; exact ⟨rfl, rfl⟩
  unfold f_Scene_meetingsOf at h
  obtain ⟨hk_v0, h⟩ := ifn h
  refine V_iconst (v := 0) X d_Scene_meetingsOf_0 (by decide) rfl ?_
  refine V_istore_n (lv' := [(2, .int (0 : Int32)), (0, .ref (G.2.2 + v0)), (1, .int v1)]) X d_Scene_meetingsOf_1 rfl (by decide) rfl rfl ?_
  refine V_iconst (v := 0) X d_Scene_meetingsOf_2 (by decide) rfl ?_
  refine V_istore_n (lv' := [(3, .int (0 : Int32)), (2, .int (0 : Int32)), (0, .ref (G.2.2 + v0)), (1, .int v1)]) X d_Scene_meetingsOf_3 rfl (by decide) rfl rfl ?_
  refine V_sub (lv' := [(0, .ref (G.2.2 + v0)), (1, .int v1), (2, .int (0 : Int32)), (3, .int (0 : Int32))]) [2, 3, 1, 0] rfl ?_
  obtain ⟨x3, hx3, h⟩ := ob_s h
  refine (lp_Scene_meetingsOf_4_ok X hD v0 v1 hk_v0 M _ _ _ hx3 (fun x9 e9 => ?_) :)
  subst e9
  refine V_iload_n (n := 0) X d_Scene_meetingsOf_25 rfl rfl rfl ?_
  exact V_iret X (kr x3 (Option.some.inj h).symm) d_Scene_meetingsOf_26
def lb_Scene_isUnderPlank_2 (v0 : Nat) (v2 : Int32) (M : Mem) (s : Int32) : Option ((Int32) ⊕ ((Unit) ⊕ (Unit))) :=
  if (M.1 v0 6) ≤ s then
  some (.inr (Sum.inl ()))
  else
  if (6 : Int32) ≤ s then
  some (.inr (Sum.inl ()))
  else
  if inb s 6 = true then
  if inb s 6 = true then
  Option.bind (f_Ground_between (M.1 (rf v0 4) s.toNatClampNeg) (M.1 (rf v0 5) s.toNatClampNeg) M) fun x1 =>
  if x1 = v2 then
  some (.inr (Sum.inr ()))
  else
  some (.inl (s + (1 : Int32)))
  else none
  else none
theorem lb_Scene_isUnderPlank_2_ok {E : Ev} {G : Gw} {d : Nat} {post : Int32 → Mem → Prop} (X : Cx E G b_Scene_isUnderPlank "WomenByTheRoofs$Scene" 4 d (some .boolean)) (hD : 4 ≤ d)  (v0 : Nat) (v2 : Int32) (hk_v0 : kd v0 = 10 + 7) (M : Mem) (s : Int32) (o : (Int32) ⊕ ((Unit) ⊕ (Unit))) (h : lb_Scene_isUnderPlank_2 v0 v2 M s = some o) (kc : ∀ s9 : Int32, o = .inl s9 → V E (0, 0) G 4 (QI E G post) M 2 [(0, .ref (G.2.2 + v0)), (1, .ref (G.2.2 + 3)), (2, .int v2), (3, .int s9)] []) (kx0 : ∀ x9 : Unit, o = .inr (Sum.inl x9) → V E (0, 0) G 4 (QI E G post) M 44 [] []) (kx1 : ∀ x9 : Unit, o = .inr (Sum.inr x9) → V E (0, 0) G 4 (QI E G post) M 36 [] []) : V E (0, 0) G 4 (QI E G post) M 2 [(0, .ref (G.2.2 + v0)), (1, .ref (G.2.2 + 3)), (2, .int v2), (3, .int s)] [] := by
  unfold lb_Scene_isUnderPlank_2 at h
  refine V_iload_n (n := 3) X d_Scene_isUnderPlank_2 rfl rfl rfl ?_
  refine V_aload_n (n := 0) X d_Scene_isUnderPlank_3 rfl rfl rfl ?_
  refine V_geti X fo_Scene_34 hk_v0 rfl d_Scene_isUnderPlank_4 rfl ?_
  refine V_icmp_ge (tgt := 44) X d_Scene_isUnderPlank_7 (by decide) rfl (fun c4 => ?_) (fun c4 => ?_)
  · rw [if_pos c4] at h
    refine V_sub (lv' := []) [] rfl ?_
    exact kx0 () (Option.some.inj h).symm
  · rw [if_neg c4] at h
    refine V_iload_n (n := 3) X d_Scene_isUnderPlank_10 rfl rfl rfl ?_
    refine V_bipush (v := 6) X d_Scene_isUnderPlank_11 (by decide) rfl ?_
    refine V_icmp_ge (tgt := 44) X d_Scene_isUnderPlank_13 (by decide) rfl (fun c3 => ?_) (fun c3 => ?_)
    · rw [if_pos c3] at h
      refine V_sub (lv' := []) [] rfl ?_
      exact kx0 () (Option.some.inj h).symm
    · rw [if_neg c3] at h
      refine V_aload_n (n := 1) X d_Scene_isUnderPlank_16 rfl rfl rfl ?_
      refine V_aload_n (n := 0) X d_Scene_isUnderPlank_17 rfl rfl rfl ?_
      refine V_getr X fo_Scene_24 hk_v0 rfl rfl d_Scene_isUnderPlank_18 rfl ?_
      refine V_iload_n (n := 3) X d_Scene_isUnderPlank_21 rfl rfl rfl ?_
      obtain ⟨hb, h⟩ := ifn h
      refine V_iald X (kdScene_4 hk_v0) (inb_in (lnScene_4 hk_v0) hb) d_Scene_isUnderPlank_22 rfl ?_
      refine V_aload_n (n := 0) X d_Scene_isUnderPlank_23 rfl rfl rfl ?_
      refine V_getr X fo_Scene_27 hk_v0 rfl rfl d_Scene_isUnderPlank_24 rfl ?_
      refine V_iload_n (n := 3) X d_Scene_isUnderPlank_27 rfl rfl rfl ?_
      obtain ⟨hb, h⟩ := ifn h
      refine V_iald X (kdScene_5 hk_v0) (inb_in (lnScene_5 hk_v0) hb) d_Scene_isUnderPlank_28 rfl ?_
      obtain ⟨x1, hx1, h⟩ := ob_s h
      refine V_ci (As := [.int (M.1 (rf v0 4) s.toNatClampNeg), .int (M.1 (rf v0 5) s.toNatClampNeg)]) X (Z0 E) ml_Scene_65 yq_Ground_between (c_Ground_between E.2.1 G (M.1 (rf v0 4) s.toNatClampNeg) (M.1 (rf v0 5) s.toNatClampNeg) M x1 hx1 _ (Nat.le_refl _)) kd_3 rfl rfl (by omega) rfl (Nat.le_of_ble_eq_true rfl) d_Scene_isUnderPlank_29 rfl (fun r9 M9 hq => ?_)
      rw [hq.1, hq.2]
      refine V_iload_n (n := 2) X d_Scene_isUnderPlank_32 rfl rfl rfl ?_
      refine V_icmp_ne (tgt := 38) X d_Scene_isUnderPlank_33 (by decide) rfl (fun c2 => ?_) (fun c2 => ?_)
      · rw [if_neg c2] at h
        refine V_iinc (n := 3) (v := (s + (1 : Int32))) (lv' := [(3, .int (s + (1 : Int32))), (0, .ref (G.2.2 + v0)), (1, .ref (G.2.2 + 3)), (2, .int v2)]) X d_Scene_isUnderPlank_38 rfl rfl (by decide) rfl rfl ?_
        refine V_goto (pc' := 2) X d_Scene_isUnderPlank_41 (by decide) ?_
        refine V_sub (lv' := [(0, .ref (G.2.2 + v0)), (1, .ref (G.2.2 + 3)), (2, .int v2), (3, .int (s + (1 : Int32)))]) [1, 2, 3, 0] rfl ?_
        exact kc (s + (1 : Int32)) (Option.some.inj h).symm
      · rw [if_pos c2] at h
        refine V_sub (lv' := []) [] rfl ?_
        exact kx1 () (Option.some.inj h).symm
theorem lp_Scene_isUnderPlank_2_ok {E : Ev} {G : Gw} {d : Nat} {post : Int32 → Mem → Prop} (X : Cx E G b_Scene_isUnderPlank "WomenByTheRoofs$Scene" 4 d (some .boolean)) (hD : 4 ≤ d)  (v0 : Nat) (v2 : Int32) (hk_v0 : kd v0 = 10 + 7) (M : Mem) (n9 : Nat) (s : Int32) (x : (Unit) ⊕ (Unit)) (h : iter (lb_Scene_isUnderPlank_2 v0 v2 M) n9 s = some x) (kx0 : ∀ x9 : Unit, x = (Sum.inl x9) → V E (0, 0) G 4 (QI E G post) M 44 [] []) (kx1 : ∀ x9 : Unit, x = (Sum.inr x9) → V E (0, 0) G 4 (QI E G post) M 36 [] []) : V E (0, 0) G 4 (QI E G post) M 2 [(0, .ref (G.2.2 + v0)), (1, .ref (G.2.2 + 3)), (2, .int v2), (3, .int s)] [] :=
  iter_P (P := fun s : Int32 => V E (0, 0) G 4 (QI E G post) M 2 [(0, .ref (G.2.2 + v0)), (1, .ref (G.2.2 + 3)), (2, .int v2), (3, .int s)] []) (fun s o hb kc ky => lb_Scene_isUnderPlank_2_ok X hD v0 v2 hk_v0 M s o hb kc (fun x9 e9 => kx0 x9 (ky _ e9).symm) (fun x9 e9 => kx1 x9 (ky _ e9).symm)) n9 s h
def f_Scene_isUnderPlank (v0 : Nat) (v2 : Int32) (M : Mem) : Option (Int32) :=
  if kd v0 = 10 + 7 then
  Option.bind (iter (lb_Scene_isUnderPlank_2 v0 v2 M) FU (0 : Int32)) (Sum.elim (fun y6 => some (0 : Int32)) (fun y7 => some (1 : Int32)))
  else none
theorem c_Scene_isUnderPlank (l : Launch) (G : Gw)  (v0 : Nat) (v2 : Int32) (M : Mem) (x : Int32) (h : f_Scene_isUnderPlank v0 v2 M = some x) (d : Nat) (hD : 4 ≤ d) : Ci l G y_Scene_isUnderPlank b_Scene_isUnderPlank 4 (some .boolean) d [.ref (G.2.2 + v0), .ref (G.2.2 + 3), .int v2] M (fun r9 M9 => r9 = x ∧ M9 = M) := by
  refine Ci_of (by decide) (Nat.le_of_ble_eq_true rfl) (fun E hE X => ?_)
  subst hE
  have kr : ∀ x9 : Int32, x = x9 → (fun r9 M9 => r9 = x ∧ M9 = M) x9 M := fun x9 e9 => by subst e9; exact ⟨rfl, rfl⟩
  unfold f_Scene_isUnderPlank at h
  obtain ⟨hk_v0, h⟩ := ifn h
  refine V_iconst (v := 0) X d_Scene_isUnderPlank_0 (by decide) rfl ?_
  refine V_istore_n (lv' := [(3, .int (0 : Int32)), (0, .ref (G.2.2 + v0)), (1, .ref (G.2.2 + 3)), (2, .int v2)]) X d_Scene_isUnderPlank_1 rfl (by decide) rfl rfl ?_
  refine V_sub (lv' := [(0, .ref (G.2.2 + v0)), (1, .ref (G.2.2 + 3)), (2, .int v2), (3, .int (0 : Int32))]) [1, 2, 3, 0] rfl ?_
  obtain ⟨x5, hx5, h⟩ := ob_s h
  rcases x5 with y6 | y7
  · simp only [Sum.elim_inl, Sum.elim_inr] at h
    refine (lp_Scene_isUnderPlank_2_ok X hD v0 v2 hk_v0 M _ _ _ hx5 (fun x9 e9 => ?_) (fun x9 e9 => by cases e9) :)
    cases e9
    refine V_iconst (v := 0) X d_Scene_isUnderPlank_44 (by decide) rfl ?_
    exact V_zret X (kr (0 : Int32) (Option.some.inj h).symm) (by decide) d_Scene_isUnderPlank_45
  · simp only [Sum.elim_inl, Sum.elim_inr] at h
    refine (lp_Scene_isUnderPlank_2_ok X hD v0 v2 hk_v0 M _ _ _ hx5 (fun x9 e9 => by cases e9) (fun x9 e9 => ?_) :)
    cases e9
    refine V_iconst (v := 1) X d_Scene_isUnderPlank_36 (by decide) rfl ?_
    exact V_zret X (kr (1 : Int32) (Option.some.inj h).symm) (by decide) d_Scene_isUnderPlank_37
def f_Scene_copy (v0 : Nat) (v1 : Nat) (M : Mem) : Option (Mem) :=
  if kd v0 = 10 + 7 then
  if kd v1 = 10 + 7 then
  mem_ (s_c M (rf v1 0) (rf v0 0) 0 0 8) fun M1 =>
  mem_ (s_c M1 (rf v1 1) (rf v0 1) 0 0 8) fun M2 =>
  mem_ (s_c M2 (rf v1 2) (rf v0 2) 0 0 8) fun M3 =>
  mem_ (s_c M3 (rf v1 3) (rf v0 3) 0 0 64) fun M4 =>
  mem_ (s_c M4 (rf v1 4) (rf v0 4) 0 0 6) fun M5 =>
  mem_ (s_c M5 (rf v1 5) (rf v0 5) 0 0 6) fun M6 =>
  mem_ (s_i M6 v0 6 (M6.1 v1 6)) fun M7 =>
  mem_ (s_i M7 v0 7 (M7.1 v1 7)) fun M8 =>
  mem_ (s_i M8 v0 8 (M8.1 v1 8)) fun M9 =>
  mem_ (s_i M9 v0 9 (M9.1 v1 9)) fun M10 =>
  some M10
  else none
  else none
theorem c_Scene_copy (l : Launch) (G : Gw)  (v0 : Nat) (v1 : Nat) (M : Mem) (x : Mem) (h : f_Scene_copy v0 v1 M = some x) (d : Nat) (hD : 2 ≤ d) : Cv l G y_Scene_copy b_Scene_copy 2 none d [.ref (G.2.2 + v0), .ref (G.2.2 + v1)] M (fun M9 => M9 = x) := by
  refine Cv_of (by decide) (Nat.le_of_ble_eq_true rfl) (fun E hE X => ?_)
  subst hE
  have kr : ∀ x9 : Mem, x = x9 → (fun M9 => M9 = x) x9 := fun x9 e9 => by subst e9; exact rfl
  unfold f_Scene_copy at h
  obtain ⟨hk_v0, h⟩ := ifn h
  obtain ⟨hk_v1, h⟩ := ifn h
  refine V_aload_n (n := 1) X d_Scene_copy_0 rfl rfl rfl ?_
  refine V_getr X fo_Scene_9 hk_v1 rfl rfl d_Scene_copy_1 rfl ?_
  refine V_iconst (v := 0) X d_Scene_copy_4 (by decide) rfl ?_
  refine V_aload_n (n := 0) X d_Scene_copy_5 rfl rfl rfl ?_
  refine V_getr X fo_Scene_9 hk_v0 rfl rfl d_Scene_copy_6 rfl ?_
  refine V_iconst (v := 0) X d_Scene_copy_9 (by decide) rfl ?_
  refine V_bipush (v := 8) X d_Scene_copy_10 (by decide) rfl ?_
  obtain ⟨M1, eM1, h⟩ := memS h
  refine V_copy X mm_Scene_47 (by omega) (Nat.le_of_ble_eq_true rfl) (kdScene_0 hk_v1) (kdScene_0 hk_v0) (by decide) (by decide) (by decide) (by rw [(lnScene_0 hk_v1)]; decide) (by rw [(lnScene_0 hk_v0)]; decide) d_Scene_copy_12 rfl ?_
  rw [show (0 : Int32).toNatClampNeg = 0 from by decide, show (8 : Int32).toNatClampNeg = 8 from by decide, ← eM1]
  refine V_aload_n (n := 1) X d_Scene_copy_15 rfl rfl rfl ?_
  refine V_getr X fo_Scene_15 hk_v1 rfl rfl d_Scene_copy_16 rfl ?_
  refine V_iconst (v := 0) X d_Scene_copy_19 (by decide) rfl ?_
  refine V_aload_n (n := 0) X d_Scene_copy_20 rfl rfl rfl ?_
  refine V_getr X fo_Scene_15 hk_v0 rfl rfl d_Scene_copy_21 rfl ?_
  refine V_iconst (v := 0) X d_Scene_copy_24 (by decide) rfl ?_
  refine V_bipush (v := 8) X d_Scene_copy_25 (by decide) rfl ?_
  obtain ⟨M2, eM2, h⟩ := memS h
  refine V_copy X mm_Scene_47 (by omega) (Nat.le_of_ble_eq_true rfl) (kdScene_1 hk_v1) (kdScene_1 hk_v0) (by decide) (by decide) (by decide) (by rw [(lnScene_1 hk_v1)]; decide) (by rw [(lnScene_1 hk_v0)]; decide) d_Scene_copy_27 rfl ?_
  rw [show (0 : Int32).toNatClampNeg = 0 from by decide, show (8 : Int32).toNatClampNeg = 8 from by decide, ← eM2]
  refine V_aload_n (n := 1) X d_Scene_copy_30 rfl rfl rfl ?_
  refine V_getr X fo_Scene_18 hk_v1 rfl rfl d_Scene_copy_31 rfl ?_
  refine V_iconst (v := 0) X d_Scene_copy_34 (by decide) rfl ?_
  refine V_aload_n (n := 0) X d_Scene_copy_35 rfl rfl rfl ?_
  refine V_getr X fo_Scene_18 hk_v0 rfl rfl d_Scene_copy_36 rfl ?_
  refine V_iconst (v := 0) X d_Scene_copy_39 (by decide) rfl ?_
  refine V_bipush (v := 8) X d_Scene_copy_40 (by decide) rfl ?_
  obtain ⟨M3, eM3, h⟩ := memS h
  refine V_copy X mm_Scene_47 (by omega) (Nat.le_of_ble_eq_true rfl) (kdScene_2 hk_v1) (kdScene_2 hk_v0) (by decide) (by decide) (by decide) (by rw [(lnScene_2 hk_v1)]; decide) (by rw [(lnScene_2 hk_v0)]; decide) d_Scene_copy_42 rfl ?_
  rw [show (0 : Int32).toNatClampNeg = 0 from by decide, show (8 : Int32).toNatClampNeg = 8 from by decide, ← eM3]
  refine V_aload_n (n := 1) X d_Scene_copy_45 rfl rfl rfl ?_
  refine V_getr X fo_Scene_21 hk_v1 rfl rfl d_Scene_copy_46 rfl ?_
  refine V_iconst (v := 0) X d_Scene_copy_49 (by decide) rfl ?_
  refine V_aload_n (n := 0) X d_Scene_copy_50 rfl rfl rfl ?_
  refine V_getr X fo_Scene_21 hk_v0 rfl rfl d_Scene_copy_51 rfl ?_
  refine V_iconst (v := 0) X d_Scene_copy_54 (by decide) rfl ?_
  refine V_bipush (v := 64) X d_Scene_copy_55 (by decide) rfl ?_
  obtain ⟨M4, eM4, h⟩ := memS h
  refine V_copy X mm_Scene_47 (by omega) (Nat.le_of_ble_eq_true rfl) (kdScene_3 hk_v1) (kdScene_3 hk_v0) (by decide) (by decide) (by decide) (by rw [(lnScene_3 hk_v1)]; decide) (by rw [(lnScene_3 hk_v0)]; decide) d_Scene_copy_57 rfl ?_
  rw [show (0 : Int32).toNatClampNeg = 0 from by decide, show (64 : Int32).toNatClampNeg = 64 from by decide, ← eM4]
  refine V_aload_n (n := 1) X d_Scene_copy_60 rfl rfl rfl ?_
  refine V_getr X fo_Scene_24 hk_v1 rfl rfl d_Scene_copy_61 rfl ?_
  refine V_iconst (v := 0) X d_Scene_copy_64 (by decide) rfl ?_
  refine V_aload_n (n := 0) X d_Scene_copy_65 rfl rfl rfl ?_
  refine V_getr X fo_Scene_24 hk_v0 rfl rfl d_Scene_copy_66 rfl ?_
  refine V_iconst (v := 0) X d_Scene_copy_69 (by decide) rfl ?_
  refine V_bipush (v := 6) X d_Scene_copy_70 (by decide) rfl ?_
  obtain ⟨M5, eM5, h⟩ := memS h
  refine V_copy X mm_Scene_47 (by omega) (Nat.le_of_ble_eq_true rfl) (kdScene_4 hk_v1) (kdScene_4 hk_v0) (by decide) (by decide) (by decide) (by rw [(lnScene_4 hk_v1)]; decide) (by rw [(lnScene_4 hk_v0)]; decide) d_Scene_copy_72 rfl ?_
  rw [show (0 : Int32).toNatClampNeg = 0 from by decide, show (6 : Int32).toNatClampNeg = 6 from by decide, ← eM5]
  refine V_aload_n (n := 1) X d_Scene_copy_75 rfl rfl rfl ?_
  refine V_getr X fo_Scene_27 hk_v1 rfl rfl d_Scene_copy_76 rfl ?_
  refine V_iconst (v := 0) X d_Scene_copy_79 (by decide) rfl ?_
  refine V_aload_n (n := 0) X d_Scene_copy_80 rfl rfl rfl ?_
  refine V_getr X fo_Scene_27 hk_v0 rfl rfl d_Scene_copy_81 rfl ?_
  refine V_iconst (v := 0) X d_Scene_copy_84 (by decide) rfl ?_
  refine V_bipush (v := 6) X d_Scene_copy_85 (by decide) rfl ?_
  obtain ⟨M6, eM6, h⟩ := memS h
  refine V_copy X mm_Scene_47 (by omega) (Nat.le_of_ble_eq_true rfl) (kdScene_5 hk_v1) (kdScene_5 hk_v0) (by decide) (by decide) (by decide) (by rw [(lnScene_5 hk_v1)]; decide) (by rw [(lnScene_5 hk_v0)]; decide) d_Scene_copy_87 rfl ?_
  rw [show (0 : Int32).toNatClampNeg = 0 from by decide, show (6 : Int32).toNatClampNeg = 6 from by decide, ← eM6]
  refine V_aload_n (n := 0) X d_Scene_copy_90 rfl rfl rfl ?_
  refine V_aload_n (n := 1) X d_Scene_copy_91 rfl rfl rfl ?_
  refine V_geti X fo_Scene_34 hk_v1 rfl d_Scene_copy_92 rfl ?_
  obtain ⟨M7, eM7, h⟩ := memS h
  refine V_putI X fp_Scene_34 hk_v0 rfl d_Scene_copy_95 rfl ?_
  rw [← eM7]
  refine V_aload_n (n := 0) X d_Scene_copy_98 rfl rfl rfl ?_
  refine V_aload_n (n := 1) X d_Scene_copy_99 rfl rfl rfl ?_
  refine V_geti X fo_Scene_38 hk_v1 rfl d_Scene_copy_100 rfl ?_
  obtain ⟨M8, eM8, h⟩ := memS h
  refine V_putI X fp_Scene_38 hk_v0 rfl d_Scene_copy_103 rfl ?_
  rw [← eM8]
  refine V_aload_n (n := 0) X d_Scene_copy_106 rfl rfl rfl ?_
  refine V_aload_n (n := 1) X d_Scene_copy_107 rfl rfl rfl ?_
  refine V_geti X fo_Scene_41 hk_v1 rfl d_Scene_copy_108 rfl ?_
  obtain ⟨M9, eM9, h⟩ := memS h
  refine V_putI X fp_Scene_41 hk_v0 rfl d_Scene_copy_111 rfl ?_
  rw [← eM9]
  refine V_aload_n (n := 0) X d_Scene_copy_114 rfl rfl rfl ?_
  refine V_aload_n (n := 1) X d_Scene_copy_115 rfl rfl rfl ?_
  refine V_geti X fo_Scene_44 hk_v1 rfl d_Scene_copy_116 rfl ?_
  obtain ⟨M10, eM10, h⟩ := memS h
  refine V_putI X fp_Scene_44 hk_v0 rfl d_Scene_copy_119 rfl ?_
  rw [← eM10]
  exact V_vret X (kr M10 (Option.some.inj h).symm) d_Scene_copy_122
def f_Scene_hasPlank (v0 : Nat) (v1 : Int32) (v2 : Int32) (M : Mem) : Option (Int32) :=
  if kd v0 = 10 + 7 then
  Option.bind (f_Scene_planksAt v0 v1 M) fun x1 =>
  Option.bind (f_Scene_planksAt v0 v2 M) fun x2 =>
  if (x1 &&& x2) = 0 then
  some (0 : Int32)
  else
  some (1 : Int32)
  else none
theorem c_Scene_hasPlank (l : Launch) (G : Gw)  (v0 : Nat) (v1 : Int32) (v2 : Int32) (M : Mem) (x : Int32) (h : f_Scene_hasPlank v0 v1 v2 M = some x) (d : Nat) (hD : 2 ≤ d) : Ci l G y_Scene_hasPlank b_Scene_hasPlank 3 (some .boolean) d [.ref (G.2.2 + v0), .int v1, .int v2] M (fun r9 M9 => r9 = x ∧ M9 = M) := by
  refine Ci_of (by decide) (Nat.le_of_ble_eq_true rfl) (fun E hE X => ?_)
  subst hE
  have kr : ∀ x9 : Int32, x = x9 → (fun r9 M9 => r9 = x ∧ M9 = M) x9 M := fun x9 e9 => by subst e9; exact ⟨rfl, rfl⟩
  unfold f_Scene_hasPlank at h
  obtain ⟨hk_v0, h⟩ := ifn h
  refine V_aload_n (n := 0) X d_Scene_hasPlank_0 rfl rfl rfl ?_
  refine V_iload_n (n := 1) X d_Scene_hasPlank_1 rfl rfl rfl ?_
  obtain ⟨x1, hx1, h⟩ := ob_s h
  refine V_ci (As := [.int v1]) X (Z0 E) ml_Scene_61 yq_Scene_planksAt (c_Scene_planksAt E.2.1 G v0 v1 M x1 hx1 _ (Nat.le_refl _)) hk_v0 rfl rfl (by omega) rfl (Nat.le_of_ble_eq_true rfl) d_Scene_hasPlank_2 rfl (fun r9 M9 hq => ?_)
  rw [hq.1, hq.2]
  refine V_aload_n (n := 0) X d_Scene_hasPlank_5 rfl rfl rfl ?_
  refine V_iload_n (n := 2) X d_Scene_hasPlank_6 rfl rfl rfl ?_
  obtain ⟨x2, hx2, h⟩ := ob_s h
  refine V_ci (As := [.int v2]) X (Z0 E) ml_Scene_61 yq_Scene_planksAt (c_Scene_planksAt E.2.1 G v0 v2 M x2 hx2 _ (Nat.le_refl _)) hk_v0 rfl rfl (by omega) rfl (Nat.le_of_ble_eq_true rfl) d_Scene_hasPlank_7 rfl (fun r9 M9 hq => ?_)
  rw [hq.1, hq.2]
  refine V_iand X d_Scene_hasPlank_10 rfl ?_
  refine V_if_eq (tgt := 18) X d_Scene_hasPlank_11 (by decide) rfl (fun c3 => ?_) (fun c3 => ?_)
  · rw [if_pos c3] at h
    refine V_iconst (v := 0) X d_Scene_hasPlank_18 (by decide) rfl ?_
    exact V_zret X (kr (0 : Int32) (Option.some.inj h).symm) (by decide) d_Scene_hasPlank_19
  · rw [if_neg c3] at h
    refine V_iconst (v := 1) X d_Scene_hasPlank_14 (by decide) rfl ?_
    refine V_goto (pc' := 19) X d_Scene_hasPlank_15 (by decide) ?_
    exact V_zret X (kr (1 : Int32) (Option.some.inj h).symm) (by decide) d_Scene_hasPlank_19
def f_Scene_addPlank (v0 : Nat) (v1 : Int32) (v2 : Int32) (M : Mem) : Option (Int32 × Mem) :=
  if kd v0 = 10 + 7 then
  if (M.1 v0 6) < 0 then
  some ((0 : Int32), M)
  else
  if (M.1 v0 6) < (6 : Int32) then
  if inb (M.1 v0 6) 6 = true then
  mem_ (s_i M (rf v0 4) (M.1 v0 6).toNatClampNeg v1) fun M1 =>
  if inb (M1.1 v0 6) 6 = true then
  mem_ (s_i M1 (rf v0 5) (M1.1 v0 6).toNatClampNeg v2) fun M2 =>
  mem_ (s_i M2 v0 6 ((M2.1 v0 6) + (1 : Int32))) fun M3 =>
  some ((1 : Int32), M3)
  else none
  else none
  else
  some ((0 : Int32), M)
  else none
theorem c_Scene_addPlank (l : Launch) (G : Gw)  (v0 : Nat) (v1 : Int32) (v2 : Int32) (M : Mem) (x : Int32 × Mem) (h : f_Scene_addPlank v0 v1 v2 M = some x) (d : Nat) (hD : 1 ≤ d) : Ci l G y_Scene_addPlank b_Scene_addPlank 3 (some .boolean) d [.ref (G.2.2 + v0), .int v1, .int v2] M (fun r9 M9 => r9 = x.1 ∧ M9 = x.2) := by
  refine Ci_of (by decide) (Nat.le_of_ble_eq_true rfl) (fun E hE X => ?_)
  subst hE
  have kr : ∀ x9 : Int32 × Mem, x = x9 → (fun r9 M9 => r9 = x.1 ∧ M9 = x.2) x9.1 x9.2 := fun x9 e9 => by subst e9; exact ⟨rfl, rfl⟩
  unfold f_Scene_addPlank at h
  obtain ⟨hk_v0, h⟩ := ifn h
  refine V_aload_n (n := 0) X d_Scene_addPlank_0 rfl rfl rfl ?_
  refine V_geti X fo_Scene_34 hk_v0 rfl d_Scene_addPlank_1 rfl ?_
  refine V_if_lt (tgt := 16) X d_Scene_addPlank_4 (by decide) rfl (fun c5 => ?_) (fun c5 => ?_)
  · rw [if_pos c5] at h
    refine V_iconst (v := 0) X d_Scene_addPlank_16 (by decide) rfl ?_
    exact V_zret X (kr ((0 : Int32), M) (Option.some.inj h).symm) (by decide) d_Scene_addPlank_17
  · rw [if_neg c5] at h
    refine V_aload_n (n := 0) X d_Scene_addPlank_7 rfl rfl rfl ?_
    refine V_geti X fo_Scene_34 hk_v0 rfl d_Scene_addPlank_8 rfl ?_
    refine V_bipush (v := 6) X d_Scene_addPlank_11 (by decide) rfl ?_
    refine V_icmp_lt (tgt := 18) X d_Scene_addPlank_13 (by decide) rfl (fun c4 => ?_) (fun c4 => ?_)
    · rw [if_pos c4] at h
      refine V_aload_n (n := 0) X d_Scene_addPlank_18 rfl rfl rfl ?_
      refine V_getr X fo_Scene_24 hk_v0 rfl rfl d_Scene_addPlank_19 rfl ?_
      refine V_aload_n (n := 0) X d_Scene_addPlank_22 rfl rfl rfl ?_
      refine V_geti X fo_Scene_34 hk_v0 rfl d_Scene_addPlank_23 rfl ?_
      refine V_iload_n (n := 1) X d_Scene_addPlank_26 rfl rfl rfl ?_
      obtain ⟨hb, h⟩ := ifn h
      obtain ⟨M1, eM1, h⟩ := memS h
      refine V_iast X (kdScene_4 hk_v0) (inb_in (lnScene_4 hk_v0) hb) d_Scene_addPlank_27 rfl ?_
      rw [← eM1]
      refine V_aload_n (n := 0) X d_Scene_addPlank_28 rfl rfl rfl ?_
      refine V_getr X fo_Scene_27 hk_v0 rfl rfl d_Scene_addPlank_29 rfl ?_
      refine V_aload_n (n := 0) X d_Scene_addPlank_32 rfl rfl rfl ?_
      refine V_geti X fo_Scene_34 hk_v0 rfl d_Scene_addPlank_33 rfl ?_
      refine V_iload_n (n := 2) X d_Scene_addPlank_36 rfl rfl rfl ?_
      obtain ⟨hb, h⟩ := ifn h
      obtain ⟨M2, eM2, h⟩ := memS h
      refine V_iast X (kdScene_5 hk_v0) (inb_in (lnScene_5 hk_v0) hb) d_Scene_addPlank_37 rfl ?_
      rw [← eM2]
      refine V_aload_n (n := 0) X d_Scene_addPlank_38 rfl rfl rfl ?_
      refine V_dup X d_Scene_addPlank_39 rfl rfl ?_
      refine V_geti X fo_Scene_34 hk_v0 rfl d_Scene_addPlank_40 rfl ?_
      refine V_iconst (v := 1) X d_Scene_addPlank_43 (by decide) rfl ?_
      refine V_iadd X d_Scene_addPlank_44 rfl ?_
      obtain ⟨M3, eM3, h⟩ := memS h
      refine V_putI X fp_Scene_34 hk_v0 rfl d_Scene_addPlank_45 rfl ?_
      rw [← eM3]
      refine V_iconst (v := 1) X d_Scene_addPlank_48 (by decide) rfl ?_
      exact V_zret X (kr ((1 : Int32), M3) (Option.some.inj h).symm) (by decide) d_Scene_addPlank_49
    · rw [if_neg c4] at h
      refine V_iconst (v := 0) X d_Scene_addPlank_16 (by decide) rfl ?_
      exact V_zret X (kr ((0 : Int32), M) (Option.some.inj h).symm) (by decide) d_Scene_addPlank_17
def f_Scene_addMeeting (v0 : Nat) (v1 : Int32) (v2 : Int32) (M : Mem) : Option (Mem) :=
  if kd v0 = 10 + 7 then
  if inb ((v1 * (8 : Int32)) + v2) 64 = true then
  if inb ((v1 * (8 : Int32)) + v2) 64 = true then
  mem_ (s_i M (rf v0 3) ((v1 * (8 : Int32)) + v2).toNatClampNeg ((M.1 (rf v0 3) ((v1 * (8 : Int32)) + v2).toNatClampNeg) + (1 : Int32))) fun M1 =>
  some M1
  else none
  else none
  else none
theorem c_Scene_addMeeting (l : Launch) (G : Gw)  (v0 : Nat) (v1 : Int32) (v2 : Int32) (M : Mem) (x : Mem) (h : f_Scene_addMeeting v0 v1 v2 M = some x) (d : Nat) (hD : 1 ≤ d) : Cv l G y_Scene_addMeeting b_Scene_addMeeting 3 none d [.ref (G.2.2 + v0), .int v1, .int v2] M (fun M9 => M9 = x) := by
  refine Cv_of (by decide) (Nat.le_of_ble_eq_true rfl) (fun E hE X => ?_)
  subst hE
  have kr : ∀ x9 : Mem, x = x9 → (fun M9 => M9 = x) x9 := fun x9 e9 => by subst e9; exact rfl
  unfold f_Scene_addMeeting at h
  obtain ⟨hk_v0, h⟩ := ifn h
  refine V_aload_n (n := 0) X d_Scene_addMeeting_0 rfl rfl rfl ?_
  refine V_getr X fo_Scene_21 hk_v0 rfl rfl d_Scene_addMeeting_1 rfl ?_
  refine V_iload_n (n := 1) X d_Scene_addMeeting_4 rfl rfl rfl ?_
  refine V_bipush (v := 8) X d_Scene_addMeeting_5 (by decide) rfl ?_
  refine V_imul X d_Scene_addMeeting_7 rfl ?_
  refine V_iload_n (n := 2) X d_Scene_addMeeting_8 rfl rfl rfl ?_
  refine V_iadd X d_Scene_addMeeting_9 rfl ?_
  refine V_dup2 X d_Scene_addMeeting_10 rfl rfl rfl ?_
  obtain ⟨hb, h⟩ := ifn h
  refine V_iald X (kdScene_3 hk_v0) (inb_in (lnScene_3 hk_v0) hb) d_Scene_addMeeting_11 rfl ?_
  refine V_iconst (v := 1) X d_Scene_addMeeting_12 (by decide) rfl ?_
  refine V_iadd X d_Scene_addMeeting_13 rfl ?_
  obtain ⟨hb, h⟩ := ifn h
  obtain ⟨M1, eM1, h⟩ := memS h
  refine V_iast X (kdScene_3 hk_v0) (inb_in (lnScene_3 hk_v0) hb) d_Scene_addMeeting_14 rfl ?_
  rw [← eM1]
  exact V_vret X (kr M1 (Option.some.inj h).symm) d_Scene_addMeeting_15
def lb_Scene_guarded_5 (v0 : Nat) (v1 : Int32) (v2 : Int32) (M : Mem) (s : Int64 × Int32) : Option ((Int64 × Int32) ⊕ ((Int64))) :=
  if (8 : Int32) ≤ s.2 then
  some (.inr s.1)
  else
  if ((v2 >>> (s.2 &&& 31)) &&& (1 : Int32)) = 0 then
  some (.inl (s.1, (s.2 + (1 : Int32))))
  else
  if inb s.2 8 = true then
  if (M.1 (rf v0 1) s.2.toNatClampNeg) = v1 then
  if inb s.2 8 = true then
  some (.inl ((s.1 ||| ((1 : Int64) <<< ((M.1 (rf v0 0) s.2.toNatClampNeg).toInt64 &&& 63))), (s.2 + (1 : Int32))))
  else none
  else
  some (.inl (s.1, (s.2 + (1 : Int32))))
  else none
theorem lb_Scene_guarded_5_ok {E : Ev} {G : Gw} {d : Nat} {post : Int64 → Mem → Prop} (X : Cx E G b_Scene_guarded "WomenByTheRoofs$Scene" 6 d (some .long)) (hD : 1 ≤ d)  (v0 : Nat) (v1 : Int32) (v2 : Int32) (hk_v0 : kd v0 = 10 + 7) (M : Mem) (s : Int64 × Int32) (o : (Int64 × Int32) ⊕ ((Int64))) (h : lb_Scene_guarded_5 v0 v1 v2 M s = some o) (kc : ∀ s9 : Int64 × Int32, o = .inl s9 → V E (0, 0) G 6 (QL E G post) M 5 [(0, .ref (G.2.2 + v0)), (1, .int v1), (2, .int v2), (3, .long s9.1), (5, .int s9.2)] []) (kx0 : ∀ x9 : Int64, o = .inr x9 → V E (0, 0) G 6 (QL E G post) M 50 [(3, .long x9)] []) : V E (0, 0) G 6 (QL E G post) M 5 [(0, .ref (G.2.2 + v0)), (1, .int v1), (2, .int v2), (3, .long s.1), (5, .int s.2)] [] := by
  unfold lb_Scene_guarded_5 at h
  refine V_iload (n := 4) X d_Scene_guarded_5 rfl rfl ?_
  refine V_bipush (v := 8) X d_Scene_guarded_7 (by decide) rfl ?_
  refine V_icmp_ge (tgt := 50) X d_Scene_guarded_9 (by decide) rfl (fun c3 => ?_) (fun c3 => ?_)
  · rw [if_pos c3] at h
    refine V_sub (lv' := [(3, .long s.1)]) [3] rfl ?_
    exact kx0 s.1 (Option.some.inj h).symm
  · rw [if_neg c3] at h
    refine V_iload_n (n := 2) X d_Scene_guarded_12 rfl rfl rfl ?_
    refine V_iload (n := 4) X d_Scene_guarded_13 rfl rfl ?_
    refine V_ishr X d_Scene_guarded_15 rfl ?_
    refine V_iconst (v := 1) X d_Scene_guarded_16 (by decide) rfl ?_
    refine V_iand X d_Scene_guarded_17 rfl ?_
    refine V_if_eq (tgt := 44) X d_Scene_guarded_18 (by decide) rfl (fun c2 => ?_) (fun c2 => ?_)
    · rw [if_pos c2] at h
      refine V_iinc (n := 4) (v := (s.2 + (1 : Int32))) (lv' := [(5, .int (s.2 + (1 : Int32))), (0, .ref (G.2.2 + v0)), (1, .int v1), (2, .int v2), (3, .long s.1)]) X d_Scene_guarded_44 rfl rfl (by decide) rfl rfl ?_
      refine V_goto (pc' := 5) X d_Scene_guarded_47 (by decide) ?_
      refine V_sub (lv' := [(0, .ref (G.2.2 + v0)), (1, .int v1), (2, .int v2), (3, .long s.1), (5, .int (s.2 + (1 : Int32)))]) [1, 2, 3, 4, 0] rfl ?_
      exact kc (s.1, (s.2 + (1 : Int32))) (Option.some.inj h).symm
    · rw [if_neg c2] at h
      refine V_aload_n (n := 0) X d_Scene_guarded_21 rfl rfl rfl ?_
      refine V_getr X fo_Scene_15 hk_v0 rfl rfl d_Scene_guarded_22 rfl ?_
      refine V_iload (n := 4) X d_Scene_guarded_25 rfl rfl ?_
      obtain ⟨hb, h⟩ := ifn h
      refine V_iald X (kdScene_1 hk_v0) (inb_in (lnScene_1 hk_v0) hb) d_Scene_guarded_27 rfl ?_
      refine V_iload_n (n := 1) X d_Scene_guarded_28 rfl rfl rfl ?_
      refine V_icmp_ne (tgt := 44) X d_Scene_guarded_29 (by decide) rfl (fun c1 => ?_) (fun c1 => ?_)
      · rw [if_neg c1] at h
        refine V_iinc (n := 4) (v := (s.2 + (1 : Int32))) (lv' := [(5, .int (s.2 + (1 : Int32))), (0, .ref (G.2.2 + v0)), (1, .int v1), (2, .int v2), (3, .long s.1)]) X d_Scene_guarded_44 rfl rfl (by decide) rfl rfl ?_
        refine V_goto (pc' := 5) X d_Scene_guarded_47 (by decide) ?_
        refine V_sub (lv' := [(0, .ref (G.2.2 + v0)), (1, .int v1), (2, .int v2), (3, .long s.1), (5, .int (s.2 + (1 : Int32)))]) [1, 2, 3, 4, 0] rfl ?_
        exact kc (s.1, (s.2 + (1 : Int32))) (Option.some.inj h).symm
      · rw [if_pos c1] at h
        refine V_lload_n (n := 3) X d_Scene_guarded_32 rfl rfl rfl ?_
        refine V_lconst (v := 1) X d_Scene_guarded_33 (by decide) rfl ?_
        refine V_aload_n (n := 0) X d_Scene_guarded_34 rfl rfl rfl ?_
        refine V_getr X fo_Scene_9 hk_v0 rfl rfl d_Scene_guarded_35 rfl ?_
        refine V_iload (n := 4) X d_Scene_guarded_38 rfl rfl ?_
        obtain ⟨hb, h⟩ := ifn h
        refine V_iald X (kdScene_0 hk_v0) (inb_in (lnScene_0 hk_v0) hb) d_Scene_guarded_40 rfl ?_
        refine V_lshl X d_Scene_guarded_41 rfl ?_
        refine V_lor X d_Scene_guarded_42 rfl ?_
        refine V_lstore_n (lv' := [(3, .long (s.1 ||| ((1 : Int64) <<< ((M.1 (rf v0 0) s.2.toNatClampNeg).toInt64 &&& 63)))), (0, .ref (G.2.2 + v0)), (1, .int v1), (2, .int v2), (5, .int s.2)]) X d_Scene_guarded_43 rfl (by decide) rfl rfl ?_
        refine V_iinc (n := 4) (v := (s.2 + (1 : Int32))) (lv' := [(5, .int (s.2 + (1 : Int32))), (3, .long (s.1 ||| ((1 : Int64) <<< ((M.1 (rf v0 0) s.2.toNatClampNeg).toInt64 &&& 63)))), (0, .ref (G.2.2 + v0)), (1, .int v1), (2, .int v2)]) X d_Scene_guarded_44 rfl rfl (by decide) rfl rfl ?_
        refine V_goto (pc' := 5) X d_Scene_guarded_47 (by decide) ?_
        refine V_sub (lv' := [(0, .ref (G.2.2 + v0)), (1, .int v1), (2, .int v2), (3, .long (s.1 ||| ((1 : Int64) <<< ((M.1 (rf v0 0) s.2.toNatClampNeg).toInt64 &&& 63)))), (5, .int (s.2 + (1 : Int32)))]) [2, 3, 4, 1, 0] rfl ?_
        exact kc ((s.1 ||| ((1 : Int64) <<< ((M.1 (rf v0 0) s.2.toNatClampNeg).toInt64 &&& 63))), (s.2 + (1 : Int32))) (Option.some.inj h).symm
theorem lp_Scene_guarded_5_ok {E : Ev} {G : Gw} {d : Nat} {post : Int64 → Mem → Prop} (X : Cx E G b_Scene_guarded "WomenByTheRoofs$Scene" 6 d (some .long)) (hD : 1 ≤ d)  (v0 : Nat) (v1 : Int32) (v2 : Int32) (hk_v0 : kd v0 = 10 + 7) (M : Mem) (n9 : Nat) (s : Int64 × Int32) (x : (Int64)) (h : iter (lb_Scene_guarded_5 v0 v1 v2 M) n9 s = some x) (kx0 : ∀ x9 : Int64, x = x9 → V E (0, 0) G 6 (QL E G post) M 50 [(3, .long x9)] []) : V E (0, 0) G 6 (QL E G post) M 5 [(0, .ref (G.2.2 + v0)), (1, .int v1), (2, .int v2), (3, .long s.1), (5, .int s.2)] [] :=
  iter_P (P := fun s : Int64 × Int32 => V E (0, 0) G 6 (QL E G post) M 5 [(0, .ref (G.2.2 + v0)), (1, .int v1), (2, .int v2), (3, .long s.1), (5, .int s.2)] []) (fun s o hb kc ky => lb_Scene_guarded_5_ok X hD v0 v1 v2 hk_v0 M s o hb kc (fun x9 e9 => kx0 x9 (ky _ e9).symm)) n9 s h
def f_Scene_guarded (v0 : Nat) (v1 : Int32) (v2 : Int32) (M : Mem) : Option (Int64) :=
  if kd v0 = 10 + 7 then
  Option.bind (iter (lb_Scene_guarded_5 v0 v1 v2 M) FU ((0 : Int64), (0 : Int32))) fun x4 =>
  some x4
  else none
theorem c_Scene_guarded (l : Launch) (G : Gw)  (v0 : Nat) (v1 : Int32) (v2 : Int32) (M : Mem) (x : Int64) (h : f_Scene_guarded v0 v1 v2 M = some x) (d : Nat) (hD : 1 ≤ d) : Cl l G y_Scene_guarded b_Scene_guarded 6 (some .long) d [.ref (G.2.2 + v0), .int v1, .int v2] M (fun r9 M9 => r9 = x ∧ M9 = M) := by
  refine Cl_of (by decide) (Nat.le_of_ble_eq_true rfl) (fun E hE X => ?_)
  subst hE
  have kr : ∀ x9 : Int64, x = x9 → (fun r9 M9 => r9 = x ∧ M9 = M) x9 M := fun x9 e9 => by subst e9; exact ⟨rfl, rfl⟩
  unfold f_Scene_guarded at h
  obtain ⟨hk_v0, h⟩ := ifn h
  refine V_lconst (v := 0) X d_Scene_guarded_0 (by decide) rfl ?_
  refine V_lstore_n (lv' := [(3, .long (0 : Int64)), (0, .ref (G.2.2 + v0)), (1, .int v1), (2, .int v2)]) X d_Scene_guarded_1 rfl (by decide) rfl rfl ?_
  refine V_iconst (v := 0) X d_Scene_guarded_2 (by decide) rfl ?_
  refine V_istore (lv' := [(5, .int (0 : Int32)), (3, .long (0 : Int64)), (0, .ref (G.2.2 + v0)), (1, .int v1), (2, .int v2)]) X d_Scene_guarded_3 (by decide) rfl rfl ?_
  refine V_sub (lv' := [(0, .ref (G.2.2 + v0)), (1, .int v1), (2, .int v2), (3, .long (0 : Int64)), (5, .int (0 : Int32))]) [2, 3, 4, 1, 0] rfl ?_
  obtain ⟨x4, hx4, h⟩ := ob_s h
  refine (lp_Scene_guarded_5_ok X hD v0 v1 v2 hk_v0 M _ _ _ hx4 (fun x9 e9 => ?_) :)
  subst e9
  refine V_lload_n (n := 0) X d_Scene_guarded_50 rfl rfl rfl ?_
  exact V_lret X (kr x4 (Option.some.inj h).symm) d_Scene_guarded_51
def f_Scene_occupied (v0 : Nat) (v1 : Int32) (v2 : Int32) (M : Mem) : Option (Int64) :=
  if kd v0 = 10 + 7 then
  Option.bind (f_Scene_guarded v0 v1 (((1 : Int32) <<< (v2 &&& 31)) - (1 : Int32)) M) fun x1 =>
  some x1
  else none
theorem c_Scene_occupied (l : Launch) (G : Gw)  (v0 : Nat) (v1 : Int32) (v2 : Int32) (M : Mem) (x : Int64) (h : f_Scene_occupied v0 v1 v2 M = some x) (d : Nat) (hD : 2 ≤ d) : Cl l G y_Scene_occupied b_Scene_occupied 3 (some .long) d [.ref (G.2.2 + v0), .int v1, .int v2] M (fun r9 M9 => r9 = x ∧ M9 = M) := by
  refine Cl_of (by decide) (Nat.le_of_ble_eq_true rfl) (fun E hE X => ?_)
  subst hE
  have kr : ∀ x9 : Int64, x = x9 → (fun r9 M9 => r9 = x ∧ M9 = M) x9 M := fun x9 e9 => by subst e9; exact ⟨rfl, rfl⟩
  unfold f_Scene_occupied at h
  obtain ⟨hk_v0, h⟩ := ifn h
  refine V_aload_n (n := 0) X d_Scene_occupied_0 rfl rfl rfl ?_
  refine V_iload_n (n := 1) X d_Scene_occupied_1 rfl rfl rfl ?_
  refine V_iconst (v := 1) X d_Scene_occupied_2 (by decide) rfl ?_
  refine V_iload_n (n := 2) X d_Scene_occupied_3 rfl rfl rfl ?_
  refine V_ishl X d_Scene_occupied_4 rfl ?_
  refine V_iconst (v := 1) X d_Scene_occupied_5 (by decide) rfl ?_
  refine V_isub X d_Scene_occupied_6 rfl ?_
  obtain ⟨x1, hx1, h⟩ := ob_s h
  refine V_cl (As := [.int v1, .int (((1 : Int32) <<< (v2 &&& 31)) - (1 : Int32))]) X (Z0 E) ml_Scene_53 yq_Scene_guarded (c_Scene_guarded E.2.1 G v0 v1 (((1 : Int32) <<< (v2 &&& 31)) - (1 : Int32)) M x1 hx1 _ (Nat.le_refl _)) hk_v0 rfl rfl (by omega) rfl (Nat.le_of_ble_eq_true rfl) d_Scene_occupied_7 rfl (fun r9 M9 hq => ?_)
  rw [hq.1, hq.2]
  exact V_lret X (kr x1 (Option.some.inj h).symm) d_Scene_occupied_10
def lb_Scene_allMeetings_4 (v0 : Nat) (M : Mem) (s : Int32 × Int32) : Option ((Int32 × Int32) ⊕ ((Int32))) :=
  if (64 : Int32) ≤ s.2 then
  some (.inr s.1)
  else
  if inb s.2 64 = true then
  some (.inl ((s.1 + (M.1 (rf v0 3) s.2.toNatClampNeg)), (s.2 + (1 : Int32))))
  else none
theorem lb_Scene_allMeetings_4_ok {E : Ev} {G : Gw} {d : Nat} {post : Int32 → Mem → Prop} (X : Cx E G b_Scene_allMeetings "WomenByTheRoofs$Scene" 3 d (some .int)) (hD : 1 ≤ d)  (v0 : Nat) (hk_v0 : kd v0 = 10 + 7) (M : Mem) (s : Int32 × Int32) (o : (Int32 × Int32) ⊕ ((Int32))) (h : lb_Scene_allMeetings_4 v0 M s = some o) (kc : ∀ s9 : Int32 × Int32, o = .inl s9 → V E (0, 0) G 3 (QI E G post) M 4 [(0, .ref (G.2.2 + v0)), (1, .int s9.1), (2, .int s9.2)] []) (kx0 : ∀ x9 : Int32, o = .inr x9 → V E (0, 0) G 3 (QI E G post) M 25 [(1, .int x9)] []) : V E (0, 0) G 3 (QI E G post) M 4 [(0, .ref (G.2.2 + v0)), (1, .int s.1), (2, .int s.2)] [] := by
  unfold lb_Scene_allMeetings_4 at h
  refine V_iload_n (n := 2) X d_Scene_allMeetings_4 rfl rfl rfl ?_
  refine V_bipush (v := 64) X d_Scene_allMeetings_5 (by decide) rfl ?_
  refine V_icmp_ge (tgt := 25) X d_Scene_allMeetings_7 (by decide) rfl (fun c1 => ?_) (fun c1 => ?_)
  · rw [if_pos c1] at h
    refine V_sub (lv' := [(1, .int s.1)]) [1] rfl ?_
    exact kx0 s.1 (Option.some.inj h).symm
  · rw [if_neg c1] at h
    refine V_iload_n (n := 1) X d_Scene_allMeetings_10 rfl rfl rfl ?_
    refine V_aload_n (n := 0) X d_Scene_allMeetings_11 rfl rfl rfl ?_
    refine V_getr X fo_Scene_21 hk_v0 rfl rfl d_Scene_allMeetings_12 rfl ?_
    refine V_iload_n (n := 2) X d_Scene_allMeetings_15 rfl rfl rfl ?_
    obtain ⟨hb, h⟩ := ifn h
    refine V_iald X (kdScene_3 hk_v0) (inb_in (lnScene_3 hk_v0) hb) d_Scene_allMeetings_16 rfl ?_
    refine V_iadd X d_Scene_allMeetings_17 rfl ?_
    refine V_istore_n (lv' := [(1, .int (s.1 + (M.1 (rf v0 3) s.2.toNatClampNeg))), (0, .ref (G.2.2 + v0)), (2, .int s.2)]) X d_Scene_allMeetings_18 rfl (by decide) rfl rfl ?_
    refine V_iinc (n := 2) (v := (s.2 + (1 : Int32))) (lv' := [(2, .int (s.2 + (1 : Int32))), (1, .int (s.1 + (M.1 (rf v0 3) s.2.toNatClampNeg))), (0, .ref (G.2.2 + v0))]) X d_Scene_allMeetings_19 rfl rfl (by decide) rfl rfl ?_
    refine V_goto (pc' := 4) X d_Scene_allMeetings_22 (by decide) ?_
    refine V_sub (lv' := [(0, .ref (G.2.2 + v0)), (1, .int (s.1 + (M.1 (rf v0 3) s.2.toNatClampNeg))), (2, .int (s.2 + (1 : Int32)))]) [2, 1, 0] rfl ?_
    exact kc ((s.1 + (M.1 (rf v0 3) s.2.toNatClampNeg)), (s.2 + (1 : Int32))) (Option.some.inj h).symm
theorem lp_Scene_allMeetings_4_ok {E : Ev} {G : Gw} {d : Nat} {post : Int32 → Mem → Prop} (X : Cx E G b_Scene_allMeetings "WomenByTheRoofs$Scene" 3 d (some .int)) (hD : 1 ≤ d)  (v0 : Nat) (hk_v0 : kd v0 = 10 + 7) (M : Mem) (n9 : Nat) (s : Int32 × Int32) (x : (Int32)) (h : iter (lb_Scene_allMeetings_4 v0 M) n9 s = some x) (kx0 : ∀ x9 : Int32, x = x9 → V E (0, 0) G 3 (QI E G post) M 25 [(1, .int x9)] []) : V E (0, 0) G 3 (QI E G post) M 4 [(0, .ref (G.2.2 + v0)), (1, .int s.1), (2, .int s.2)] [] :=
  iter_P (P := fun s : Int32 × Int32 => V E (0, 0) G 3 (QI E G post) M 4 [(0, .ref (G.2.2 + v0)), (1, .int s.1), (2, .int s.2)] []) (fun s o hb kc ky => lb_Scene_allMeetings_4_ok X hD v0 hk_v0 M s o hb kc (fun x9 e9 => kx0 x9 (ky _ e9).symm)) n9 s h
def f_Scene_allMeetings (v0 : Nat) (M : Mem) : Option (Int32) :=
  if kd v0 = 10 + 7 then
  Option.bind (iter (lb_Scene_allMeetings_4 v0 M) FU ((0 : Int32), (0 : Int32))) fun x2 =>
  some x2
  else none
theorem c_Scene_allMeetings (l : Launch) (G : Gw)  (v0 : Nat) (M : Mem) (x : Int32) (h : f_Scene_allMeetings v0 M = some x) (d : Nat) (hD : 1 ≤ d) : Ci l G y_Scene_allMeetings b_Scene_allMeetings 3 (some .int) d [.ref (G.2.2 + v0)] M (fun r9 M9 => r9 = x ∧ M9 = M) := by
  refine Ci_of (by decide) (Nat.le_of_ble_eq_true rfl) (fun E hE X => ?_)
  subst hE
  have kr : ∀ x9 : Int32, x = x9 → (fun r9 M9 => r9 = x ∧ M9 = M) x9 M := fun x9 e9 => by subst e9; exact ⟨rfl, rfl⟩
  unfold f_Scene_allMeetings at h
  obtain ⟨hk_v0, h⟩ := ifn h
  refine V_iconst (v := 0) X d_Scene_allMeetings_0 (by decide) rfl ?_
  refine V_istore_n (lv' := [(1, .int (0 : Int32)), (0, .ref (G.2.2 + v0))]) X d_Scene_allMeetings_1 rfl (by decide) rfl rfl ?_
  refine V_iconst (v := 0) X d_Scene_allMeetings_2 (by decide) rfl ?_
  refine V_istore_n (lv' := [(2, .int (0 : Int32)), (1, .int (0 : Int32)), (0, .ref (G.2.2 + v0))]) X d_Scene_allMeetings_3 rfl (by decide) rfl rfl ?_
  refine V_sub (lv' := [(0, .ref (G.2.2 + v0)), (1, .int (0 : Int32)), (2, .int (0 : Int32))]) [2, 1, 0] rfl ?_
  obtain ⟨x2, hx2, h⟩ := ob_s h
  refine (lp_Scene_allMeetings_4_ok X hD v0 hk_v0 M _ _ _ hx2 (fun x9 e9 => ?_) :)
  subst e9
  refine V_iload_n (n := 0) X d_Scene_allMeetings_25 rfl rfl rfl ?_
  exact V_iret X (kr x2 (Option.some.inj h).symm) d_Scene_allMeetings_26
def f_History_forget (M : Mem) : Option (Mem) :=
  mem_ (s_i M 46 2 (0 : Int32)) fun M1 =>
  some M1
theorem c_History_forget (l : Launch) (G : Gw)   (M : Mem) (x : Mem) (h : f_History_forget M = some x) (d : Nat) (hD : 1 ≤ d) : Cv l G y_History_forget b_History_forget 1 none d [.ref (G.2.2 + 46)] M (fun M9 => M9 = x) := by
  refine Cv_of (by decide) (Nat.le_of_ble_eq_true rfl) (fun E hE X => ?_)
  subst hE
  have kr : ∀ x9 : Mem, x = x9 → (fun M9 => M9 = x) x9 := fun x9 e9 => by subst e9; exact rfl
  unfold f_History_forget at h
  refine V_aload_n (n := 0) X d_History_forget_0 rfl rfl rfl ?_
  refine V_iconst (v := 0) X d_History_forget_1 (by decide) rfl ?_
  obtain ⟨M1, eM1, h⟩ := memS h
  refine V_putI X fp_History_25 kd_46 rfl d_History_forget_2 rfl ?_
  rw [← eM1]
  exact V_vret X (kr M1 (Option.some.inj h).symm) d_History_forget_5
def f_History_spoil (M : Mem) : Option (Mem) :=
  mem_ (s_i M 46 3 (0 : Int32)) fun M1 =>
  some M1
theorem c_History_spoil (l : Launch) (G : Gw)   (M : Mem) (x : Mem) (h : f_History_spoil M = some x) (d : Nat) (hD : 1 ≤ d) : Cv l G y_History_spoil b_History_spoil 1 none d [.ref (G.2.2 + 46)] M (fun M9 => M9 = x) := by
  refine Cv_of (by decide) (Nat.le_of_ble_eq_true rfl) (fun E hE X => ?_)
  subst hE
  have kr : ∀ x9 : Mem, x = x9 → (fun M9 => M9 = x) x9 := fun x9 e9 => by subst e9; exact rfl
  unfold f_History_spoil at h
  refine V_aload_n (n := 0) X d_History_spoil_0 rfl rfl rfl ?_
  refine V_iconst (v := 0) X d_History_spoil_1 (by decide) rfl ?_
  obtain ⟨M1, eM1, h⟩ := memS h
  refine V_putI X fp_History_29 kd_46 rfl d_History_spoil_2 rfl ?_
  rw [← eM1]
  exact V_vret X (kr M1 (Option.some.inj h).symm) d_History_spoil_5
def f_History_clear (M : Mem) : Option (Mem) :=
  Option.bind (f_History_forget M) fun x1 =>
  Option.bind (f_History_spoil x1) fun x2 =>
  some x2
theorem c_History_clear (l : Launch) (G : Gw)   (M : Mem) (x : Mem) (h : f_History_clear M = some x) (d : Nat) (hD : 2 ≤ d) : Cv l G y_History_clear b_History_clear 1 none d [.ref (G.2.2 + 46)] M (fun M9 => M9 = x) := by
  refine Cv_of (by decide) (Nat.le_of_ble_eq_true rfl) (fun E hE X => ?_)
  subst hE
  have kr : ∀ x9 : Mem, x = x9 → (fun M9 => M9 = x) x9 := fun x9 e9 => by subst e9; exact rfl
  unfold f_History_clear at h
  refine V_aload_n (n := 0) X d_History_clear_0 rfl rfl rfl ?_
  obtain ⟨x1, hx1, h⟩ := ob_s h
  refine V_cv (As := []) X (Z0 E) ml_History_19 yq_History_forget (c_History_forget E.2.1 G  M x1 hx1 _ (Nat.le_refl _)) kd_46 rfl rfl (by omega) rfl (Nat.le_of_ble_eq_true rfl) d_History_clear_1 rfl (fun M9 hq => ?_)
  rw [hq]
  refine V_aload_n (n := 0) X d_History_clear_4 rfl rfl rfl ?_
  obtain ⟨x2, hx2, h⟩ := ob_s h
  refine V_cv (As := []) X (Z0 E) ml_History_22 yq_History_spoil (c_History_spoil E.2.1 G  x1 x2 hx2 _ (Nat.le_refl _)) kd_46 rfl rfl (by omega) rfl (Nat.le_of_ble_eq_true rfl) d_History_clear_5 rfl (fun M9 hq => ?_)
  rw [hq]
  exact V_vret X (kr x2 (Option.some.inj h).symm) d_History_clear_8
def j_History_add_58 (v1 : Nat) (M : Mem) : Option (Mem) :=
  if inb (M.1 46 2) 12 = true then
  Option.bind (M.2.2 47 (M.1 46 2).toNatClampNeg) fun a1 =>
  if kd a1 = 10 + 7 then
  Option.bind (f_Scene_copy a1 v1 M) fun x2 =>
  mem_ (s_i x2 46 2 ((x2.1 46 2) + (1 : Int32))) fun M3 =>
  some M3
  else none
  else none
theorem j_History_add_58_ok {E : Ev} {G : Gw} {d : Nat} {post : Mem → Prop} (X : Cx E G b_History_add "WomenByTheRoofs$History" 4 d none) (hD : 3 ≤ d)  (v1 : Nat) (hk_v1 : kd v1 = 10 + 7)  (M : Mem)  (o : Mem) (h : j_History_add_58 v1 M = some o) (kr : ∀ x9 : Mem, o = x9 → post x9) : V E (0, 0) G 4 (QV E G post) M 58 [(0, .ref (G.2.2 + 46)), (1, .ref (G.2.2 + v1))] [] := by
  unfold j_History_add_58 at h
  refine V_aload_n (n := 0) X d_History_add_58 rfl rfl rfl ?_
  refine V_getr (k2 := 47) X fo_History_11 kd_46 rfl rf_46_0 d_History_add_59 rfl ?_
  refine V_aload_n (n := 0) X d_History_add_62 rfl rfl rfl ?_
  refine V_geti X fo_History_25 kd_46 rfl d_History_add_63 rfl ?_
  obtain ⟨hb, h⟩ := ifn h
  obtain ⟨a1, hqa1, h⟩ := ob_s h
  obtain ⟨hk_a1, h⟩ := ifn h
  refine V_aaldn X kd_47 (inb_in ln_47 hb) hqa1 d_History_add_66 rfl ?_
  refine V_aload_n (n := 1) X d_History_add_67 rfl rfl rfl ?_
  obtain ⟨x2, hx2, h⟩ := ob_s h
  refine V_cv (As := [.ref (G.2.2 + v1)]) X (Z0 E) ml_History_32 yq_Scene_copy (c_Scene_copy E.2.1 G a1 v1 M x2 hx2 _ (Nat.le_refl _)) hk_a1 rfl rfl (by omega) rfl (Nat.le_of_ble_eq_true rfl) d_History_add_68 rfl (fun M9 hq => ?_)
  rw [hq]
  refine V_aload_n (n := 0) X d_History_add_71 rfl rfl rfl ?_
  refine V_dup X d_History_add_72 rfl rfl ?_
  refine V_geti X fo_History_25 kd_46 rfl d_History_add_73 rfl ?_
  refine V_iconst (v := 1) X d_History_add_76 (by decide) rfl ?_
  refine V_iadd X d_History_add_77 rfl ?_
  obtain ⟨M3, eM3, h⟩ := memS h
  refine V_putI X fp_History_25 kd_46 rfl d_History_add_78 rfl ?_
  rw [← eM3]
  exact V_vret X (kr M3 (Option.some.inj h).symm) d_History_add_81
def lb_History_add_18 (v1 : Nat) (v2 : Nat) (s : Int32 × Mem) : Option ((Int32 × Mem) ⊕ ((Mem))) :=
  if (12 : Int32) ≤ s.1 then
  some (.inr s.2)
  else
  if inb s.1 12 = true then
  Option.bind (s.2.2.2 47 s.1.toNatClampNeg) fun a5 =>
  if kd a5 = 10 + 7 then
  if inb (s.1 - (1 : Int32)) 12 = true then
  mem_ (s_q s.2 47 (s.1 - (1 : Int32)).toNatClampNeg (some a5)) fun M6 =>
  some (.inl ((s.1 + (1 : Int32)), M6))
  else none
  else none
  else none
theorem lb_History_add_18_ok {E : Ev} {G : Gw} {d : Nat} {post : Mem → Prop} (X : Cx E G b_History_add "WomenByTheRoofs$History" 4 d none) (hD : 3 ≤ d)  (v1 : Nat) (v2 : Nat) (hk_v1 : kd v1 = 10 + 7) (hk_v2 : kd v2 = 10 + 7)  (s : Int32 × Mem) (o : (Int32 × Mem) ⊕ ((Mem))) (h : lb_History_add_18 v1 v2 s = some o) (kc : ∀ s9 : Int32 × Mem, o = .inl s9 → V E (0, 0) G 4 (QV E G post) s9.2 18 [(0, .ref (G.2.2 + 46)), (1, .ref (G.2.2 + v1)), (2, .ref (G.2.2 + v2)), (3, .int s9.1)] []) (kx0 : ∀ x9 : Mem, o = .inr x9 → V E (0, 0) G 4 (QV E G post) x9 44 [(0, .ref (G.2.2 + 46)), (1, .ref (G.2.2 + v1)), (2, .ref (G.2.2 + v2))] []) : V E (0, 0) G 4 (QV E G post) s.2 18 [(0, .ref (G.2.2 + 46)), (1, .ref (G.2.2 + v1)), (2, .ref (G.2.2 + v2)), (3, .int s.1)] [] := by
  unfold lb_History_add_18 at h
  refine V_iload_n (n := 3) X d_History_add_18 rfl rfl rfl ?_
  refine V_bipush (v := 12) X d_History_add_19 (by decide) rfl ?_
  refine V_icmp_ge (tgt := 44) X d_History_add_21 (by decide) rfl (fun c7 => ?_) (fun c7 => ?_)
  · rw [if_pos c7] at h
    refine V_sub (lv' := [(0, .ref (G.2.2 + 46)), (1, .ref (G.2.2 + v1)), (2, .ref (G.2.2 + v2))]) [0, 1, 2] rfl ?_
    exact kx0 s.2 (Option.some.inj h).symm
  · rw [if_neg c7] at h
    refine V_aload_n (n := 0) X d_History_add_24 rfl rfl rfl ?_
    refine V_getr (k2 := 47) X fo_History_11 kd_46 rfl rf_46_0 d_History_add_25 rfl ?_
    refine V_iload_n (n := 3) X d_History_add_28 rfl rfl rfl ?_
    refine V_iconst (v := 1) X d_History_add_29 (by decide) rfl ?_
    refine V_isub X d_History_add_30 rfl ?_
    refine V_aload_n (n := 0) X d_History_add_31 rfl rfl rfl ?_
    refine V_getr (k2 := 47) X fo_History_11 kd_46 rfl rf_46_0 d_History_add_32 rfl ?_
    refine V_iload_n (n := 3) X d_History_add_35 rfl rfl rfl ?_
    obtain ⟨hb, h⟩ := ifn h
    obtain ⟨a5, hqa5, h⟩ := ob_s h
    obtain ⟨hk_a5, h⟩ := ifn h
    refine V_aaldn X kd_47 (inb_in ln_47 hb) hqa5 d_History_add_36 rfl ?_
    obtain ⟨hb, h⟩ := ifn h
    obtain ⟨M6, eM6, h⟩ := memS h
    refine V_aast X kd_47 hk_a5 (inb_in ln_47 hb) d_History_add_37 rfl ?_
    rw [← eM6]
    refine V_iinc (n := 3) (v := (s.1 + (1 : Int32))) (lv' := [(3, .int (s.1 + (1 : Int32))), (0, .ref (G.2.2 + 46)), (1, .ref (G.2.2 + v1)), (2, .ref (G.2.2 + v2))]) X d_History_add_38 rfl rfl (by decide) rfl rfl ?_
    refine V_goto (pc' := 18) X d_History_add_41 (by decide) ?_
    refine V_sub (lv' := [(0, .ref (G.2.2 + 46)), (1, .ref (G.2.2 + v1)), (2, .ref (G.2.2 + v2)), (3, .int (s.1 + (1 : Int32)))]) [1, 2, 3, 0] rfl ?_
    exact kc ((s.1 + (1 : Int32)), M6) (Option.some.inj h).symm
theorem lp_History_add_18_ok {E : Ev} {G : Gw} {d : Nat} {post : Mem → Prop} (X : Cx E G b_History_add "WomenByTheRoofs$History" 4 d none) (hD : 3 ≤ d)  (v1 : Nat) (v2 : Nat) (hk_v1 : kd v1 = 10 + 7) (hk_v2 : kd v2 = 10 + 7)  (n9 : Nat) (s : Int32 × Mem) (x : (Mem)) (h : iter (lb_History_add_18 v1 v2) n9 s = some x) (kx0 : ∀ x9 : Mem, x = x9 → V E (0, 0) G 4 (QV E G post) x9 44 [(0, .ref (G.2.2 + 46)), (1, .ref (G.2.2 + v1)), (2, .ref (G.2.2 + v2))] []) : V E (0, 0) G 4 (QV E G post) s.2 18 [(0, .ref (G.2.2 + 46)), (1, .ref (G.2.2 + v1)), (2, .ref (G.2.2 + v2)), (3, .int s.1)] [] :=
  iter_P (P := fun s : Int32 × Mem => V E (0, 0) G 4 (QV E G post) s.2 18 [(0, .ref (G.2.2 + 46)), (1, .ref (G.2.2 + v1)), (2, .ref (G.2.2 + v2)), (3, .int s.1)] []) (fun s o hb kc ky => lb_History_add_18_ok X hD v1 v2 hk_v1 hk_v2 s o hb kc (fun x9 e9 => kx0 x9 (ky _ e9).symm)) n9 s h
def f_History_add (v1 : Nat) (M : Mem) : Option (Mem) :=
  if kd v1 = 10 + 7 then
  if (M.1 46 2) < (12 : Int32) then
  j_History_add_58 v1 M
  else
  if inb (0 : Int32) 12 = true then
  Option.bind (M.2.2 47 (0 : Int32).toNatClampNeg) fun a4 =>
  if kd a4 = 10 + 7 then
  Option.bind (iter (lb_History_add_18 v1 a4) FU ((1 : Int32), M)) fun x8 =>
  mem_ (s_q x8 47 (11 : Int32).toNatClampNeg (some a4)) fun M9 =>
  mem_ (s_i M9 46 2 (11 : Int32)) fun M10 =>
  j_History_add_58 v1 M10
  else none
  else none
  else none
theorem c_History_add (l : Launch) (G : Gw)  (v1 : Nat) (M : Mem) (x : Mem) (h : f_History_add v1 M = some x) (d : Nat) (hD : 3 ≤ d) : Cv l G y_History_add b_History_add 4 none d [.ref (G.2.2 + 46), .ref (G.2.2 + v1)] M (fun M9 => M9 = x) := by
  refine Cv_of (by decide) (Nat.le_of_ble_eq_true rfl) (fun E hE X => ?_)
  subst hE
  have kr : ∀ x9 : Mem, x = x9 → (fun M9 => M9 = x) x9 := fun x9 e9 => by subst e9; exact rfl
  unfold f_History_add at h
  obtain ⟨hk_v1, h⟩ := ifn h
  refine V_aload_n (n := 0) X d_History_add_0 rfl rfl rfl ?_
  refine V_geti X fo_History_25 kd_46 rfl d_History_add_1 rfl ?_
  refine V_bipush (v := 12) X d_History_add_4 (by decide) rfl ?_
  refine V_icmp_lt (tgt := 58) X d_History_add_6 (by decide) rfl (fun c11 => ?_) (fun c11 => ?_)
  · rw [if_pos c11] at h
    exact j_History_add_58_ok X hD v1 hk_v1 M _ h kr
  · rw [if_neg c11] at h
    refine V_aload_n (n := 0) X d_History_add_9 rfl rfl rfl ?_
    refine V_getr (k2 := 47) X fo_History_11 kd_46 rfl rf_46_0 d_History_add_10 rfl ?_
    refine V_iconst (v := 0) X d_History_add_13 (by decide) rfl ?_
    obtain ⟨hb, h⟩ := ifn h
    obtain ⟨a4, hqa4, h⟩ := ob_s h
    obtain ⟨hk_a4, h⟩ := ifn h
    refine V_aaldn X kd_47 (inb_in ln_47 hb) hqa4 d_History_add_14 rfl ?_
    refine V_astore_n (lv' := [(2, .ref (G.2.2 + a4)), (0, .ref (G.2.2 + 46)), (1, .ref (G.2.2 + v1))]) X d_History_add_15 rfl (by decide) rfl rfl ?_
    refine V_iconst (v := 1) X d_History_add_16 (by decide) rfl ?_
    refine V_istore_n (lv' := [(3, .int (1 : Int32)), (2, .ref (G.2.2 + a4)), (0, .ref (G.2.2 + 46)), (1, .ref (G.2.2 + v1))]) X d_History_add_17 rfl (by decide) rfl rfl ?_
    refine V_sub (lv' := [(0, .ref (G.2.2 + 46)), (1, .ref (G.2.2 + v1)), (2, .ref (G.2.2 + a4)), (3, .int (1 : Int32))]) [2, 3, 1, 0] rfl ?_
    obtain ⟨x8, hx8, h⟩ := ob_s h
    refine (lp_History_add_18_ok X hD v1 a4 hk_v1 hk_a4 _ _ _ hx8 (fun x9 e9 => ?_) :)
    subst e9
    refine V_aload_n (n := 0) X d_History_add_44 rfl rfl rfl ?_
    refine V_getr (k2 := 47) X fo_History_11 kd_46 rfl rf_46_0 d_History_add_45 rfl ?_
    refine V_bipush (v := 11) X d_History_add_48 (by decide) rfl ?_
    refine V_aload_n (n := 2) X d_History_add_50 rfl rfl rfl ?_
    obtain ⟨M9, eM9, h⟩ := memS h
    refine V_aast X kd_47 hk_a4 (inb_in ln_47 (by decide)) d_History_add_51 rfl ?_
    rw [← eM9]
    refine V_aload_n (n := 0) X d_History_add_52 rfl rfl rfl ?_
    refine V_bipush (v := 11) X d_History_add_53 (by decide) rfl ?_
    obtain ⟨M10, eM10, h⟩ := memS h
    refine V_putI X fp_History_25 kd_46 rfl d_History_add_55 rfl ?_
    rw [← eM10]
    refine V_sub (lv' := [(0, .ref (G.2.2 + 46)), (1, .ref (G.2.2 + v1))]) [0, 1] rfl ?_
    exact j_History_add_58_ok X hD v1 hk_v1 M10 _ h kr
def f_History_back (v1 : Nat) (M : Mem) : Option (Int32 × Mem) :=
  if kd v1 = 10 + 7 then
  if (M.1 46 2) < (1 : Int32) then
  some ((0 : Int32), M)
  else
  if (M.1 46 2) ≤ (12 : Int32) then
  mem_ (s_i M 46 2 ((M.1 46 2) - (1 : Int32))) fun M1 =>
  if inb (M1.1 46 2) 12 = true then
  Option.bind (M1.2.2 47 (M1.1 46 2).toNatClampNeg) fun a2 =>
  if kd a2 = 10 + 7 then
  Option.bind (f_Scene_copy v1 a2 M1) fun x3 =>
  some ((1 : Int32), x3)
  else none
  else none
  else
  some ((0 : Int32), M)
  else none
theorem c_History_back (l : Launch) (G : Gw)  (v1 : Nat) (M : Mem) (x : Int32 × Mem) (h : f_History_back v1 M = some x) (d : Nat) (hD : 3 ≤ d) : Ci l G y_History_back b_History_back 2 (some .boolean) d [.ref (G.2.2 + 46), .ref (G.2.2 + v1)] M (fun r9 M9 => r9 = x.1 ∧ M9 = x.2) := by
  refine Ci_of (by decide) (Nat.le_of_ble_eq_true rfl) (fun E hE X => ?_)
  subst hE
  have kr : ∀ x9 : Int32 × Mem, x = x9 → (fun r9 M9 => r9 = x.1 ∧ M9 = x.2) x9.1 x9.2 := fun x9 e9 => by subst e9; exact ⟨rfl, rfl⟩
  unfold f_History_back at h
  obtain ⟨hk_v1, h⟩ := ifn h
  refine V_aload_n (n := 0) X d_History_back_0 rfl rfl rfl ?_
  refine V_geti X fo_History_25 kd_46 rfl d_History_back_1 rfl ?_
  refine V_iconst (v := 1) X d_History_back_4 (by decide) rfl ?_
  refine V_icmp_lt (tgt := 17) X d_History_back_5 (by decide) rfl (fun c5 => ?_) (fun c5 => ?_)
  · rw [if_pos c5] at h
    refine V_iconst (v := 0) X d_History_back_17 (by decide) rfl ?_
    exact V_zret X (kr ((0 : Int32), M) (Option.some.inj h).symm) (by decide) d_History_back_18
  · rw [if_neg c5] at h
    refine V_aload_n (n := 0) X d_History_back_8 rfl rfl rfl ?_
    refine V_geti X fo_History_25 kd_46 rfl d_History_back_9 rfl ?_
    refine V_bipush (v := 12) X d_History_back_12 (by decide) rfl ?_
    refine V_icmp_le (tgt := 19) X d_History_back_14 (by decide) rfl (fun c4 => ?_) (fun c4 => ?_)
    · rw [if_pos c4] at h
      refine V_aload_n (n := 0) X d_History_back_19 rfl rfl rfl ?_
      refine V_dup X d_History_back_20 rfl rfl ?_
      refine V_geti X fo_History_25 kd_46 rfl d_History_back_21 rfl ?_
      refine V_iconst (v := 1) X d_History_back_24 (by decide) rfl ?_
      refine V_isub X d_History_back_25 rfl ?_
      obtain ⟨M1, eM1, h⟩ := memS h
      refine V_putI X fp_History_25 kd_46 rfl d_History_back_26 rfl ?_
      rw [← eM1]
      refine V_aload_n (n := 1) X d_History_back_29 rfl rfl rfl ?_
      refine V_aload_n (n := 0) X d_History_back_30 rfl rfl rfl ?_
      refine V_getr (k2 := 47) X fo_History_11 kd_46 rfl rf_46_0 d_History_back_31 rfl ?_
      refine V_aload_n (n := 0) X d_History_back_34 rfl rfl rfl ?_
      refine V_geti X fo_History_25 kd_46 rfl d_History_back_35 rfl ?_
      obtain ⟨hb, h⟩ := ifn h
      obtain ⟨a2, hqa2, h⟩ := ob_s h
      obtain ⟨hk_a2, h⟩ := ifn h
      refine V_aaldn X kd_47 (inb_in ln_47 hb) hqa2 d_History_back_38 rfl ?_
      obtain ⟨x3, hx3, h⟩ := ob_s h
      refine V_cv (As := [.ref (G.2.2 + a2)]) X (Z0 E) ml_History_32 yq_Scene_copy (c_Scene_copy E.2.1 G v1 a2 M1 x3 hx3 _ (Nat.le_refl _)) hk_v1 rfl rfl (by omega) rfl (Nat.le_of_ble_eq_true rfl) d_History_back_39 rfl (fun M9 hq => ?_)
      rw [hq]
      refine V_iconst (v := 1) X d_History_back_42 (by decide) rfl ?_
      exact V_zret X (kr ((1 : Int32), x3) (Option.some.inj h).symm) (by decide) d_History_back_43
    · rw [if_neg c4] at h
      refine V_iconst (v := 0) X d_History_back_17 (by decide) rfl ?_
      exact V_zret X (kr ((0 : Int32), M) (Option.some.inj h).symm) (by decide) d_History_back_18
def f_History_store (v1 : Int32) (v2 : Nat) (M : Mem) : Option (Int32 × Mem) :=
  if kd v2 = 10 + 7 then
  if v1 < 0 then
  some ((0 : Int32), M)
  else
  if v1 < (2 : Int32) then
  if inb v1 2 = true then
  Option.bind (M.2.2 48 v1.toNatClampNeg) fun a1 =>
  if kd a1 = 10 + 7 then
  Option.bind (f_Scene_copy a1 v2 M) fun x2 =>
  mem_ (s_i x2 46 3 ((x2.1 46 3) ||| ((1 : Int32) <<< (v1 &&& 31)))) fun M3 =>
  some ((1 : Int32), M3)
  else none
  else none
  else
  some ((0 : Int32), M)
  else none
theorem c_History_store (l : Launch) (G : Gw)  (v1 : Int32) (v2 : Nat) (M : Mem) (x : Int32 × Mem) (h : f_History_store v1 v2 M = some x) (d : Nat) (hD : 3 ≤ d) : Ci l G y_History_store b_History_store 3 (some .boolean) d [.ref (G.2.2 + 46), .int v1, .ref (G.2.2 + v2)] M (fun r9 M9 => r9 = x.1 ∧ M9 = x.2) := by
  refine Ci_of (by decide) (Nat.le_of_ble_eq_true rfl) (fun E hE X => ?_)
  subst hE
  have kr : ∀ x9 : Int32 × Mem, x = x9 → (fun r9 M9 => r9 = x.1 ∧ M9 = x.2) x9.1 x9.2 := fun x9 e9 => by subst e9; exact ⟨rfl, rfl⟩
  unfold f_History_store at h
  obtain ⟨hk_v2, h⟩ := ifn h
  refine V_iload_n (n := 1) X d_History_store_0 rfl rfl rfl ?_
  refine V_if_lt (tgt := 9) X d_History_store_1 (by decide) rfl (fun c5 => ?_) (fun c5 => ?_)
  · rw [if_pos c5] at h
    refine V_iconst (v := 0) X d_History_store_9 (by decide) rfl ?_
    exact V_zret X (kr ((0 : Int32), M) (Option.some.inj h).symm) (by decide) d_History_store_10
  · rw [if_neg c5] at h
    refine V_iload_n (n := 1) X d_History_store_4 rfl rfl rfl ?_
    refine V_iconst (v := 2) X d_History_store_5 (by decide) rfl ?_
    refine V_icmp_lt (tgt := 11) X d_History_store_6 (by decide) rfl (fun c4 => ?_) (fun c4 => ?_)
    · rw [if_pos c4] at h
      refine V_aload_n (n := 0) X d_History_store_11 rfl rfl rfl ?_
      refine V_getr (k2 := 48) X fo_History_15 kd_46 rfl rf_46_1 d_History_store_12 rfl ?_
      refine V_iload_n (n := 1) X d_History_store_15 rfl rfl rfl ?_
      obtain ⟨hb, h⟩ := ifn h
      obtain ⟨a1, hqa1, h⟩ := ob_s h
      obtain ⟨hk_a1, h⟩ := ifn h
      refine V_aaldn X kd_48 (inb_in ln_48 hb) hqa1 d_History_store_16 rfl ?_
      refine V_aload_n (n := 2) X d_History_store_17 rfl rfl rfl ?_
      obtain ⟨x2, hx2, h⟩ := ob_s h
      refine V_cv (As := [.ref (G.2.2 + v2)]) X (Z0 E) ml_History_32 yq_Scene_copy (c_Scene_copy E.2.1 G a1 v2 M x2 hx2 _ (Nat.le_refl _)) hk_a1 rfl rfl (by omega) rfl (Nat.le_of_ble_eq_true rfl) d_History_store_18 rfl (fun M9 hq => ?_)
      rw [hq]
      refine V_aload_n (n := 0) X d_History_store_21 rfl rfl rfl ?_
      refine V_dup X d_History_store_22 rfl rfl ?_
      refine V_geti X fo_History_29 kd_46 rfl d_History_store_23 rfl ?_
      refine V_iconst (v := 1) X d_History_store_26 (by decide) rfl ?_
      refine V_iload_n (n := 1) X d_History_store_27 rfl rfl rfl ?_
      refine V_ishl X d_History_store_28 rfl ?_
      refine V_ior X d_History_store_29 rfl ?_
      obtain ⟨M3, eM3, h⟩ := memS h
      refine V_putI X fp_History_29 kd_46 rfl d_History_store_30 rfl ?_
      rw [← eM3]
      refine V_iconst (v := 1) X d_History_store_33 (by decide) rfl ?_
      exact V_zret X (kr ((1 : Int32), M3) (Option.some.inj h).symm) (by decide) d_History_store_34
    · rw [if_neg c4] at h
      refine V_iconst (v := 0) X d_History_store_9 (by decide) rfl ?_
      exact V_zret X (kr ((0 : Int32), M) (Option.some.inj h).symm) (by decide) d_History_store_10
def f_History_restore (v1 : Int32) (v2 : Nat) (M : Mem) : Option (Int32 × Mem) :=
  if kd v2 = 10 + 7 then
  if v1 < 0 then
  some ((0 : Int32), M)
  else
  if (2 : Int32) ≤ v1 then
  some ((0 : Int32), M)
  else
  if (((M.1 46 3) >>> (v1 &&& 31)) &&& (1 : Int32)) = 0 then
  some ((0 : Int32), M)
  else
  if inb v1 2 = true then
  Option.bind (M.2.2 48 v1.toNatClampNeg) fun a1 =>
  if kd a1 = 10 + 7 then
  Option.bind (f_Scene_copy v2 a1 M) fun x2 =>
  some ((1 : Int32), x2)
  else none
  else none
  else none
theorem c_History_restore (l : Launch) (G : Gw)  (v1 : Int32) (v2 : Nat) (M : Mem) (x : Int32 × Mem) (h : f_History_restore v1 v2 M = some x) (d : Nat) (hD : 3 ≤ d) : Ci l G y_History_restore b_History_restore 3 (some .boolean) d [.ref (G.2.2 + 46), .int v1, .ref (G.2.2 + v2)] M (fun r9 M9 => r9 = x.1 ∧ M9 = x.2) := by
  refine Ci_of (by decide) (Nat.le_of_ble_eq_true rfl) (fun E hE X => ?_)
  subst hE
  have kr : ∀ x9 : Int32 × Mem, x = x9 → (fun r9 M9 => r9 = x.1 ∧ M9 = x.2) x9.1 x9.2 := fun x9 e9 => by subst e9; exact ⟨rfl, rfl⟩
  unfold f_History_restore at h
  obtain ⟨hk_v2, h⟩ := ifn h
  refine V_iload_n (n := 1) X d_History_restore_0 rfl rfl rfl ?_
  refine V_if_lt (tgt := 20) X d_History_restore_1 (by decide) rfl (fun c5 => ?_) (fun c5 => ?_)
  · rw [if_pos c5] at h
    refine V_iconst (v := 0) X d_History_restore_20 (by decide) rfl ?_
    exact V_zret X (kr ((0 : Int32), M) (Option.some.inj h).symm) (by decide) d_History_restore_21
  · rw [if_neg c5] at h
    refine V_iload_n (n := 1) X d_History_restore_4 rfl rfl rfl ?_
    refine V_iconst (v := 2) X d_History_restore_5 (by decide) rfl ?_
    refine V_icmp_ge (tgt := 20) X d_History_restore_6 (by decide) rfl (fun c4 => ?_) (fun c4 => ?_)
    · rw [if_pos c4] at h
      refine V_iconst (v := 0) X d_History_restore_20 (by decide) rfl ?_
      exact V_zret X (kr ((0 : Int32), M) (Option.some.inj h).symm) (by decide) d_History_restore_21
    · rw [if_neg c4] at h
      refine V_aload_n (n := 0) X d_History_restore_9 rfl rfl rfl ?_
      refine V_geti X fo_History_29 kd_46 rfl d_History_restore_10 rfl ?_
      refine V_iload_n (n := 1) X d_History_restore_13 rfl rfl rfl ?_
      refine V_ishr X d_History_restore_14 rfl ?_
      refine V_iconst (v := 1) X d_History_restore_15 (by decide) rfl ?_
      refine V_iand X d_History_restore_16 rfl ?_
      refine V_if_ne (tgt := 22) X d_History_restore_17 (by decide) rfl (fun c3 => ?_) (fun c3 => ?_)
      · rw [if_neg c3] at h
        refine V_aload_n (n := 2) X d_History_restore_22 rfl rfl rfl ?_
        refine V_aload_n (n := 0) X d_History_restore_23 rfl rfl rfl ?_
        refine V_getr (k2 := 48) X fo_History_15 kd_46 rfl rf_46_1 d_History_restore_24 rfl ?_
        refine V_iload_n (n := 1) X d_History_restore_27 rfl rfl rfl ?_
        obtain ⟨hb, h⟩ := ifn h
        obtain ⟨a1, hqa1, h⟩ := ob_s h
        obtain ⟨hk_a1, h⟩ := ifn h
        refine V_aaldn X kd_48 (inb_in ln_48 hb) hqa1 d_History_restore_28 rfl ?_
        obtain ⟨x2, hx2, h⟩ := ob_s h
        refine V_cv (As := [.ref (G.2.2 + a1)]) X (Z0 E) ml_History_32 yq_Scene_copy (c_Scene_copy E.2.1 G v2 a1 M x2 hx2 _ (Nat.le_refl _)) hk_v2 rfl rfl (by omega) rfl (Nat.le_of_ble_eq_true rfl) d_History_restore_29 rfl (fun M9 hq => ?_)
        rw [hq]
        refine V_iconst (v := 1) X d_History_restore_32 (by decide) rfl ?_
        exact V_zret X (kr ((1 : Int32), x2) (Option.some.inj h).symm) (by decide) d_History_restore_33
      · rw [if_pos c3] at h
        refine V_iconst (v := 0) X d_History_restore_20 (by decide) rfl ?_
        exact V_zret X (kr ((0 : Int32), M) (Option.some.inj h).symm) (by decide) d_History_restore_21
