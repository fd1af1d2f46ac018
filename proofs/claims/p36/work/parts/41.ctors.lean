/-! the constructors -/
theorem ob_w : Cond.instanceMethod Lib.objectInit ∈ gw ∧ Cond.code Lib.objectInit ⟨#[0xb1]⟩ 1 none ∈ gw := ⟨gt_1 29 rfl rfl, gt_1 30 rfl rfl⟩
theorem aw_int : Cond.arrayClass (newarray.typeOf .int) ∈ gw := gt_1 54 rfl rfl
theorem aw_byte : Cond.arrayClass (newarray.typeOf .byte) ∈ gw := gt_6 196 rfl rfl
theorem aw_boolean : Cond.arrayClass (newarray.typeOf .boolean) ∈ gw := gt_6 197 rfl rfl
theorem aw_long : Cond.arrayClass (newarray.typeOf .long) ∈ gw := gt_1 186 rfl rfl
theorem d_Acts_init_0 : decode b_Acts_init 0 = .ok (.aload_n 0, 1) := kq_42 byq_r (by decide +kernel)
theorem d_Acts_init_1 : decode b_Acts_init 1 = .ok (.invokespecial 3, 3) := kq_183 byq_r (a := 0) (b := 3) (by decide +kernel)
theorem d_Acts_init_4 : decode b_Acts_init 4 = .ok (.aload_n 0, 1) := kq_42 byq_r (by decide +kernel)
theorem d_Acts_init_5 : decode b_Acts_init 5 = .ok (.bipush 32, 2) := kq_16 byq_r (b := 32) (by decide +kernel)
theorem d_Acts_init_7 : decode b_Acts_init 7 = .ok (.newarray .int, 2) := by decide +kernel
theorem d_Acts_init_9 : decode b_Acts_init 9 = .ok (.putfield 11, 3) := kq_181 byq_r (a := 0) (b := 11) (by decide +kernel)
theorem d_Acts_init_12 : decode b_Acts_init 12 = .ok (.aload_n 0, 1) := kq_42 byq_r (by decide +kernel)
theorem d_Acts_init_13 : decode b_Acts_init 13 = .ok (.bipush 32, 2) := kq_16 byq_r (b := 32) (by decide +kernel)
theorem d_Acts_init_15 : decode b_Acts_init 15 = .ok (.newarray .int, 2) := by decide +kernel
theorem d_Acts_init_17 : decode b_Acts_init 17 = .ok (.putfield 15, 3) := kq_181 byq_r (a := 0) (b := 15) (by decide +kernel)
theorem d_Acts_init_20 : decode b_Acts_init 20 = .ok (.aload_n 0, 1) := kq_42 byq_r (by decide +kernel)
theorem d_Acts_init_21 : decode b_Acts_init 21 = .ok (.bipush 32, 2) := kq_16 byq_r (b := 32) (by decide +kernel)
theorem d_Acts_init_23 : decode b_Acts_init 23 = .ok (.newarray .int, 2) := by decide +kernel
theorem d_Acts_init_25 : decode b_Acts_init 25 = .ok (.putfield 18, 3) := kq_181 byq_r (a := 0) (b := 18) (by decide +kernel)
theorem d_Acts_init_28 : decode b_Acts_init 28 = .ok (.return_, 1) := kq_177 byq_r (by decide +kernel)
theorem ff_Acts_11 : fFin "WomenByTheRoofs$Acts" 11 0 0 (.array .int) := ⟨R_Acts, F_Acts, 4, t_Acts, rfl, iw_Acts, by decide, by decide +kernel, gt_2 43 rfl rfl, rfl, t_Acts_ok, n_Acts, by decide +kernel, rfl⟩
theorem ff_Acts_15 : fFin "WomenByTheRoofs$Acts" 15 0 1 (.array .int) := ⟨R_Acts, F_Acts, 4, t_Acts, rfl, iw_Acts, by decide, by decide +kernel, gt_2 45 rfl rfl, rfl, t_Acts_ok, n_Acts, by decide +kernel, rfl⟩
theorem ff_Acts_18 : fFin "WomenByTheRoofs$Acts" 18 0 2 (.array .int) := ⟨R_Acts, F_Acts, 4, t_Acts, rfl, iw_Acts, by decide, by decide +kernel, gt_2 47 rfl rfl, rfl, t_Acts_ok, n_Acts, by decide +kernel, rfl⟩
theorem yi_Acts : (Cond.instanceMethod y_Acts_init ∈ gw ∧ Cond.initialized y_Acts_init.cls ∈ gw ∧ Cond.code y_Acts_init b_Acts_init 1 none ∈ gw) ∧ (y_Acts_init.name = "<init>" ∧ (y_Acts_init.cls ≠ "java/lang/invoke/MethodHandle" ∧ y_Acts_init.cls ≠ "java/lang/invoke/VarHandle" ∧ (parseMethodDescriptor y_Acts_init.desc).map (fun d => d.parameters.length) = some 0) ∧ 1 ≤ 21) := ⟨⟨gt_2 40 rfl rfl, gt_1 10 rfl rfl, gt_2 41 rfl rfl⟩, by decide +kernel⟩
theorem d_Clock_init_0 : decode b_Clock_init 0 = .ok (.aload_n 0, 1) := kq_42 byq_r (by decide +kernel)
theorem d_Clock_init_1 : decode b_Clock_init 1 = .ok (.invokespecial 3, 3) := kq_183 byq_r (a := 0) (b := 3) (by decide +kernel)
theorem d_Clock_init_4 : decode b_Clock_init 4 = .ok (.return_, 1) := kq_177 byq_r (by decide +kernel)
theorem yi_Clock : (Cond.instanceMethod y_Clock_init ∈ gw ∧ Cond.initialized y_Clock_init.cls ∈ gw ∧ Cond.code y_Clock_init b_Clock_init 1 none ∈ gw) ∧ (y_Clock_init.name = "<init>" ∧ (y_Clock_init.cls ≠ "java/lang/invoke/MethodHandle" ∧ y_Clock_init.cls ≠ "java/lang/invoke/VarHandle" ∧ (parseMethodDescriptor y_Clock_init.desc).map (fun d => d.parameters.length) = some 0) ∧ 1 ≤ 21) := ⟨⟨gt_1 230 rfl rfl, gt_1 8 rfl rfl, gt_1 231 rfl rfl⟩, by decide +kernel⟩
theorem d_Crowd_init_0 : decode b_Crowd_init 0 = .ok (.aload_n 0, 1) := kq_42 byq_r (by decide +kernel)
theorem d_Crowd_init_1 : decode b_Crowd_init 1 = .ok (.invokespecial 3, 3) := kq_183 byq_r (a := 0) (b := 3) (by decide +kernel)
theorem d_Crowd_init_4 : decode b_Crowd_init 4 = .ok (.aload_n 0, 1) := kq_42 byq_r (by decide +kernel)
theorem d_Crowd_init_5 : decode b_Crowd_init 5 = .ok (.bipush 72, 2) := kq_16 byq_r (b := 72) (by decide +kernel)
theorem d_Crowd_init_7 : decode b_Crowd_init 7 = .ok (.newarray .int, 2) := by decide +kernel
theorem d_Crowd_init_9 : decode b_Crowd_init 9 = .ok (.putfield 9, 3) := kq_181 byq_r (a := 0) (b := 9) (by decide +kernel)
theorem d_Crowd_init_12 : decode b_Crowd_init 12 = .ok (.aload_n 0, 1) := kq_42 byq_r (by decide +kernel)
theorem d_Crowd_init_13 : decode b_Crowd_init 13 = .ok (.bipush 8, 2) := kq_16 byq_r (b := 8) (by decide +kernel)
theorem d_Crowd_init_15 : decode b_Crowd_init 15 = .ok (.newarray .int, 2) := by decide +kernel
theorem d_Crowd_init_17 : decode b_Crowd_init 17 = .ok (.putfield 15, 3) := kq_181 byq_r (a := 0) (b := 15) (by decide +kernel)
theorem d_Crowd_init_20 : decode b_Crowd_init 20 = .ok (.aload_n 0, 1) := kq_42 byq_r (by decide +kernel)
theorem d_Crowd_init_21 : decode b_Crowd_init 21 = .ok (.bipush 8, 2) := kq_16 byq_r (b := 8) (by decide +kernel)
theorem d_Crowd_init_23 : decode b_Crowd_init 23 = .ok (.newarray .int, 2) := by decide +kernel
theorem d_Crowd_init_25 : decode b_Crowd_init 25 = .ok (.putfield 18, 3) := kq_181 byq_r (a := 0) (b := 18) (by decide +kernel)
theorem d_Crowd_init_28 : decode b_Crowd_init 28 = .ok (.aload_n 0, 1) := kq_42 byq_r (by decide +kernel)
theorem d_Crowd_init_29 : decode b_Crowd_init 29 = .ok (.bipush 9, 2) := kq_16 byq_r (b := 9) (by decide +kernel)
theorem d_Crowd_init_31 : decode b_Crowd_init 31 = .ok (.newarray .int, 2) := by decide +kernel
theorem d_Crowd_init_33 : decode b_Crowd_init 33 = .ok (.putfield 21, 3) := kq_181 byq_r (a := 0) (b := 21) (by decide +kernel)
theorem d_Crowd_init_36 : decode b_Crowd_init 36 = .ok (.return_, 1) := kq_177 byq_r (by decide +kernel)
theorem ff_Crowd_9 : fFin "WomenByTheRoofs$Crowd" 9 2 0 (.array .int) := ⟨R_Crowd, F_Crowd, 7, t_Crowd, rfl, iw_Crowd, by decide, by decide +kernel, gt_1 83 rfl rfl, rfl, t_Crowd_ok, n_Crowd, by decide +kernel, rfl⟩
theorem ff_Crowd_15 : fFin "WomenByTheRoofs$Crowd" 15 2 1 (.array .int) := ⟨R_Crowd, F_Crowd, 7, t_Crowd, rfl, iw_Crowd, by decide, by decide +kernel, gt_1 84 rfl rfl, rfl, t_Crowd_ok, n_Crowd, by decide +kernel, rfl⟩
theorem ff_Crowd_18 : fFin "WomenByTheRoofs$Crowd" 18 2 2 (.array .int) := ⟨R_Crowd, F_Crowd, 7, t_Crowd, rfl, iw_Crowd, by decide, by decide +kernel, gt_1 86 rfl rfl, rfl, t_Crowd_ok, n_Crowd, by decide +kernel, rfl⟩
theorem ff_Crowd_21 : fFin "WomenByTheRoofs$Crowd" 21 2 3 (.array .int) := ⟨R_Crowd, F_Crowd, 7, t_Crowd, rfl, iw_Crowd, by decide, by decide +kernel, gt_1 88 rfl rfl, rfl, t_Crowd_ok, n_Crowd, by decide +kernel, rfl⟩
theorem yi_Crowd : (Cond.instanceMethod y_Crowd_init ∈ gw ∧ Cond.initialized y_Crowd_init.cls ∈ gw ∧ Cond.code y_Crowd_init b_Crowd_init 1 none ∈ gw) ∧ (y_Crowd_init.name = "<init>" ∧ (y_Crowd_init.cls ≠ "java/lang/invoke/MethodHandle" ∧ y_Crowd_init.cls ≠ "java/lang/invoke/VarHandle" ∧ (parseMethodDescriptor y_Crowd_init.desc).map (fun d => d.parameters.length) = some 0) ∧ 1 ≤ 21) := ⟨⟨gt_1 80 rfl rfl, gt_1 4 rfl rfl, gt_1 81 rfl rfl⟩, by decide +kernel⟩
theorem d_Ground_init_0 : decode b_Ground_init 0 = .ok (.aload_n 0, 1) := kq_42 byq_r (by decide +kernel)
theorem d_Ground_init_1 : decode b_Ground_init 1 = .ok (.invokespecial 3, 3) := kq_183 byq_r (a := 0) (b := 3) (by decide +kernel)
theorem d_Ground_init_4 : decode b_Ground_init 4 = .ok (.aload_n 0, 1) := kq_42 byq_r (by decide +kernel)
theorem d_Ground_init_5 : decode b_Ground_init 5 = .ok (.bipush 36, 2) := kq_16 byq_r (b := 36) (by decide +kernel)
theorem d_Ground_init_7 : decode b_Ground_init 7 = .ok (.newarray .int, 2) := by decide +kernel
theorem d_Ground_init_9 : decode b_Ground_init 9 = .ok (.putfield 9, 3) := kq_181 byq_r (a := 0) (b := 9) (by decide +kernel)
theorem d_Ground_init_12 : decode b_Ground_init 12 = .ok (.aload_n 0, 1) := kq_42 byq_r (by decide +kernel)
theorem d_Ground_init_13 : decode b_Ground_init 13 = .ok (.bipush 36, 2) := kq_16 byq_r (b := 36) (by decide +kernel)
theorem d_Ground_init_15 : decode b_Ground_init 15 = .ok (.newarray .int, 2) := by decide +kernel
theorem d_Ground_init_17 : decode b_Ground_init 17 = .ok (.putfield 15, 3) := kq_181 byq_r (a := 0) (b := 15) (by decide +kernel)
theorem d_Ground_init_20 : decode b_Ground_init 20 = .ok (.aload_n 0, 1) := kq_42 byq_r (by decide +kernel)
theorem d_Ground_init_21 : decode b_Ground_init 21 = .ok (.iconst 1, 1) := kq_4 byq_r (by decide +kernel)
theorem d_Ground_init_22 : decode b_Ground_init 22 = .ok (.putfield 18, 3) := kq_181 byq_r (a := 0) (b := 18) (by decide +kernel)
theorem d_Ground_init_25 : decode b_Ground_init 25 = .ok (.aload_n 0, 1) := kq_42 byq_r (by decide +kernel)
theorem d_Ground_init_26 : decode b_Ground_init 26 = .ok (.iconst 1, 1) := kq_4 byq_r (by decide +kernel)
theorem d_Ground_init_27 : decode b_Ground_init 27 = .ok (.putfield 22, 3) := kq_181 byq_r (a := 0) (b := 22) (by decide +kernel)
theorem d_Ground_init_30 : decode b_Ground_init 30 = .ok (.aload_n 0, 1) := kq_42 byq_r (by decide +kernel)
theorem d_Ground_init_31 : decode b_Ground_init 31 = .ok (.getfield 9, 3) := kq_180 byq_r (a := 0) (b := 9) (by decide +kernel)
theorem d_Ground_init_34 : decode b_Ground_init 34 = .ok (.iconst 0, 1) := kq_3 byq_r (by decide +kernel)
theorem d_Ground_init_35 : decode b_Ground_init 35 = .ok (.iconst 3, 1) := kq_6 byq_r (by decide +kernel)
theorem d_Ground_init_36 : decode b_Ground_init 36 = .ok (.iastore, 1) := kq_79 byq_r (by decide +kernel)
theorem d_Ground_init_37 : decode b_Ground_init 37 = .ok (.return_, 1) := kq_177 byq_r (by decide +kernel)
theorem ff_Ground_9 : fFin "WomenByTheRoofs$Ground" 9 3 0 (.array .int) := ⟨R_Ground, F_Ground, 4, t_Ground, rfl, iw_Ground, by decide, by decide +kernel, gt_1 61 rfl rfl, rfl, t_Ground_ok, n_Ground, by decide +kernel, rfl⟩
theorem ff_Ground_15 : fFin "WomenByTheRoofs$Ground" 15 3 1 (.array .int) := ⟨R_Ground, F_Ground, 4, t_Ground, rfl, iw_Ground, by decide, by decide +kernel, gt_1 63 rfl rfl, rfl, t_Ground_ok, n_Ground, by decide +kernel, rfl⟩
theorem yi_Ground : (Cond.instanceMethod y_Ground_init ∈ gw ∧ Cond.initialized y_Ground_init.cls ∈ gw ∧ Cond.code y_Ground_init b_Ground_init 1 none ∈ gw) ∧ (y_Ground_init.name = "<init>" ∧ (y_Ground_init.cls ≠ "java/lang/invoke/MethodHandle" ∧ y_Ground_init.cls ≠ "java/lang/invoke/VarHandle" ∧ (parseMethodDescriptor y_Ground_init.desc).map (fun d => d.parameters.length) = some 0) ∧ 1 ≤ 21) := ⟨⟨gt_1 58 rfl rfl, gt_1 3 rfl rfl, gt_1 59 rfl rfl⟩, by decide +kernel⟩
theorem d_History_init_0 : decode b_History_init 0 = .ok (.aload_n 0, 1) := kq_42 byq_r (by decide +kernel)
theorem d_History_init_1 : decode b_History_init 1 = .ok (.invokespecial 1, 3) := kq_183 byq_r (a := 0) (b := 1) (by decide +kernel)
theorem d_History_init_4 : decode b_History_init 4 = .ok (.aload_n 0, 1) := kq_42 byq_r (by decide +kernel)
theorem d_History_init_5 : decode b_History_init 5 = .ok (.bipush 12, 2) := kq_16 byq_r (b := 12) (by decide +kernel)
theorem d_History_init_7 : decode b_History_init 7 = .ok (.anewarray 9, 3) := kq_189 byq_r (a := 0) (b := 9) (by decide +kernel)
theorem d_History_init_10 : decode b_History_init 10 = .ok (.putfield 11, 3) := kq_181 byq_r (a := 0) (b := 11) (by decide +kernel)
theorem d_History_init_13 : decode b_History_init 13 = .ok (.aload_n 0, 1) := kq_42 byq_r (by decide +kernel)
theorem d_History_init_14 : decode b_History_init 14 = .ok (.iconst 2, 1) := kq_5 byq_r (by decide +kernel)
theorem d_History_init_15 : decode b_History_init 15 = .ok (.anewarray 9, 3) := kq_189 byq_r (a := 0) (b := 9) (by decide +kernel)
theorem d_History_init_18 : decode b_History_init 18 = .ok (.putfield 15, 3) := kq_181 byq_r (a := 0) (b := 15) (by decide +kernel)
theorem d_History_init_21 : decode b_History_init 21 = .ok (.iconst 0, 1) := kq_3 byq_r (by decide +kernel)
theorem d_History_init_22 : decode b_History_init 22 = .ok (.istore_n 1, 1) := kq_60 byq_r (by decide +kernel)
theorem d_History_init_23 : decode b_History_init 23 = .ok (.iload_n 1, 1) := kq_27 byq_r (by decide +kernel)
theorem d_History_init_24 : decode b_History_init 24 = .ok (.bipush 12, 2) := kq_16 byq_r (b := 12) (by decide +kernel)
theorem d_History_init_26 : decode b_History_init 26 = .ok (.if_icmp .ge 22, 3) := kq_162 byq_r (a := 0) (b := 22) (by decide +kernel)
theorem d_History_init_29 : decode b_History_init 29 = .ok (.aload_n 0, 1) := kq_42 byq_r (by decide +kernel)
theorem d_History_init_30 : decode b_History_init 30 = .ok (.getfield 11, 3) := kq_180 byq_r (a := 0) (b := 11) (by decide +kernel)
theorem d_History_init_33 : decode b_History_init 33 = .ok (.iload_n 1, 1) := kq_27 byq_r (by decide +kernel)
theorem d_History_init_34 : decode b_History_init 34 = .ok (.new 9, 3) := kq_187 byq_r (a := 0) (b := 9) (by decide +kernel)
theorem d_History_init_37 : decode b_History_init 37 = .ok (.dup, 1) := kq_89 byq_r (by decide +kernel)
theorem d_History_init_38 : decode b_History_init 38 = .ok (.invokespecial 18, 3) := kq_183 byq_r (a := 0) (b := 18) (by decide +kernel)
theorem d_History_init_41 : decode b_History_init 41 = .ok (.aastore, 1) := kq_83 byq_r (by decide +kernel)
theorem d_History_init_42 : decode b_History_init 42 = .ok (.iinc 1 1, 3) := kq_132 byq_r (b := 1) (by decide +kernel)
theorem d_History_init_45 : decode b_History_init 45 = .ok (.goto (-22), 3) := kq_167 byq_r (a := 255) (b := 234) (by decide +kernel)
theorem d_History_init_48 : decode b_History_init 48 = .ok (.iconst 0, 1) := kq_3 byq_r (by decide +kernel)
theorem d_History_init_49 : decode b_History_init 49 = .ok (.istore_n 1, 1) := kq_60 byq_r (by decide +kernel)
theorem d_History_init_50 : decode b_History_init 50 = .ok (.iload_n 1, 1) := kq_27 byq_r (by decide +kernel)
theorem d_History_init_51 : decode b_History_init 51 = .ok (.iconst 2, 1) := kq_5 byq_r (by decide +kernel)
theorem d_History_init_52 : decode b_History_init 52 = .ok (.if_icmp .ge 22, 3) := kq_162 byq_r (a := 0) (b := 22) (by decide +kernel)
theorem d_History_init_55 : decode b_History_init 55 = .ok (.aload_n 0, 1) := kq_42 byq_r (by decide +kernel)
theorem d_History_init_56 : decode b_History_init 56 = .ok (.getfield 15, 3) := kq_180 byq_r (a := 0) (b := 15) (by decide +kernel)
theorem d_History_init_59 : decode b_History_init 59 = .ok (.iload_n 1, 1) := kq_27 byq_r (by decide +kernel)
theorem d_History_init_60 : decode b_History_init 60 = .ok (.new 9, 3) := kq_187 byq_r (a := 0) (b := 9) (by decide +kernel)
theorem d_History_init_63 : decode b_History_init 63 = .ok (.dup, 1) := kq_89 byq_r (by decide +kernel)
theorem d_History_init_64 : decode b_History_init 64 = .ok (.invokespecial 18, 3) := kq_183 byq_r (a := 0) (b := 18) (by decide +kernel)
theorem d_History_init_67 : decode b_History_init 67 = .ok (.aastore, 1) := kq_83 byq_r (by decide +kernel)
theorem d_History_init_68 : decode b_History_init 68 = .ok (.iinc 1 1, 3) := kq_132 byq_r (b := 1) (by decide +kernel)
theorem d_History_init_71 : decode b_History_init 71 = .ok (.goto (-21), 3) := kq_167 byq_r (a := 255) (b := 235) (by decide +kernel)
theorem d_History_init_74 : decode b_History_init 74 = .ok (.return_, 1) := kq_177 byq_r (by decide +kernel)
theorem cl_History_9 : Cond.classLink "WomenByTheRoofs$History" 9 "WomenByTheRoofs$Scene" ∈ gw ∧ Cond.instantiable "WomenByTheRoofs$Scene" 10 ∈ gw ∧ Cond.initialized "WomenByTheRoofs$Scene" ∈ gw := ⟨gt_2 20 rfl rfl, gt_1 112 rfl rfl, gt_1 5 rfl rfl⟩
theorem ff_History_11 : fFin "WomenByTheRoofs$History" 11 4 0 (.array (.object "WomenByTheRoofs$Scene")) := ⟨R_History, F_History, 4, t_History, rfl, iw_History, by decide, by decide +kernel, gt_2 23 rfl rfl, rfl, t_History_ok, n_History, by decide +kernel, rfl⟩
theorem ff_History_15 : fFin "WomenByTheRoofs$History" 15 4 1 (.array (.object "WomenByTheRoofs$Scene")) := ⟨R_History, F_History, 4, t_History, rfl, iw_History, by decide, by decide +kernel, gt_2 24 rfl rfl, rfl, t_History_ok, n_History, by decide +kernel, rfl⟩
theorem yi_History : (Cond.instanceMethod y_History_init ∈ gw ∧ Cond.initialized y_History_init.cls ∈ gw ∧ Cond.code y_History_init b_History_init 2 none ∈ gw) ∧ (y_History_init.name = "<init>" ∧ (y_History_init.cls ≠ "java/lang/invoke/MethodHandle" ∧ y_History_init.cls ≠ "java/lang/invoke/VarHandle" ∧ (parseMethodDescriptor y_History_init.desc).map (fun d => d.parameters.length) = some 0) ∧ 2 ≤ 21) := ⟨⟨gt_2 17 rfl rfl, gt_1 9 rfl rfl, gt_2 18 rfl rfl⟩, by decide +kernel⟩
theorem d_Law_init_0 : decode b_Law_init 0 = .ok (.aload_n 0, 1) := kq_42 byq_r (by decide +kernel)
theorem d_Law_init_1 : decode b_Law_init 1 = .ok (.invokespecial 3, 3) := kq_183 byq_r (a := 0) (b := 3) (by decide +kernel)
theorem d_Law_init_4 : decode b_Law_init 4 = .ok (.aload_n 0, 1) := kq_42 byq_r (by decide +kernel)
theorem d_Law_init_5 : decode b_Law_init 5 = .ok (.bipush 40, 2) := kq_16 byq_r (b := 40) (by decide +kernel)
theorem d_Law_init_7 : decode b_Law_init 7 = .ok (.newarray .int, 2) := by decide +kernel
theorem d_Law_init_9 : decode b_Law_init 9 = .ok (.putfield 9, 3) := kq_181 byq_r (a := 0) (b := 9) (by decide +kernel)
theorem d_Law_init_12 : decode b_Law_init 12 = .ok (.aload_n 0, 1) := kq_42 byq_r (by decide +kernel)
theorem d_Law_init_13 : decode b_Law_init 13 = .ok (.bipush 40, 2) := kq_16 byq_r (b := 40) (by decide +kernel)
theorem d_Law_init_15 : decode b_Law_init 15 = .ok (.newarray .int, 2) := by decide +kernel
theorem d_Law_init_17 : decode b_Law_init 17 = .ok (.putfield 15, 3) := kq_181 byq_r (a := 0) (b := 15) (by decide +kernel)
theorem d_Law_init_20 : decode b_Law_init 20 = .ok (.aload_n 0, 1) := kq_42 byq_r (by decide +kernel)
theorem d_Law_init_21 : decode b_Law_init 21 = .ok (.bipush 40, 2) := kq_16 byq_r (b := 40) (by decide +kernel)
theorem d_Law_init_23 : decode b_Law_init 23 = .ok (.newarray .int, 2) := by decide +kernel
theorem d_Law_init_25 : decode b_Law_init 25 = .ok (.putfield 18, 3) := kq_181 byq_r (a := 0) (b := 18) (by decide +kernel)
theorem d_Law_init_28 : decode b_Law_init 28 = .ok (.aload_n 0, 1) := kq_42 byq_r (by decide +kernel)
theorem d_Law_init_29 : decode b_Law_init 29 = .ok (.bipush 40, 2) := kq_16 byq_r (b := 40) (by decide +kernel)
theorem d_Law_init_31 : decode b_Law_init 31 = .ok (.newarray .int, 2) := by decide +kernel
theorem d_Law_init_33 : decode b_Law_init 33 = .ok (.putfield 21, 3) := kq_181 byq_r (a := 0) (b := 21) (by decide +kernel)
theorem d_Law_init_36 : decode b_Law_init 36 = .ok (.return_, 1) := kq_177 byq_r (by decide +kernel)
theorem ff_Law_9 : fFin "WomenByTheRoofs$Law" 9 5 0 (.array .int) := ⟨R_Law, F_Law, 11, t_Law, rfl, iw_Law, by decide, by decide +kernel, gt_1 193 rfl rfl, rfl, t_Law_ok, n_Law, by decide +kernel, rfl⟩
theorem ff_Law_15 : fFin "WomenByTheRoofs$Law" 15 5 1 (.array .int) := ⟨R_Law, F_Law, 11, t_Law, rfl, iw_Law, by decide, by decide +kernel, gt_1 194 rfl rfl, rfl, t_Law_ok, n_Law, by decide +kernel, rfl⟩
theorem ff_Law_18 : fFin "WomenByTheRoofs$Law" 18 5 2 (.array .int) := ⟨R_Law, F_Law, 11, t_Law, rfl, iw_Law, by decide, by decide +kernel, gt_1 195 rfl rfl, rfl, t_Law_ok, n_Law, by decide +kernel, rfl⟩
theorem ff_Law_21 : fFin "WomenByTheRoofs$Law" 21 5 3 (.array .int) := ⟨R_Law, F_Law, 11, t_Law, rfl, iw_Law, by decide, by decide +kernel, gt_1 196 rfl rfl, rfl, t_Law_ok, n_Law, by decide +kernel, rfl⟩
theorem yi_Law : (Cond.instanceMethod y_Law_init ∈ gw ∧ Cond.initialized y_Law_init.cls ∈ gw ∧ Cond.code y_Law_init b_Law_init 1 none ∈ gw) ∧ (y_Law_init.name = "<init>" ∧ (y_Law_init.cls ≠ "java/lang/invoke/MethodHandle" ∧ y_Law_init.cls ≠ "java/lang/invoke/VarHandle" ∧ (parseMethodDescriptor y_Law_init.desc).map (fun d => d.parameters.length) = some 0) ∧ 1 ≤ 21) := ⟨⟨gt_1 190 rfl rfl, gt_1 7 rfl rfl, gt_1 191 rfl rfl⟩, by decide +kernel⟩
theorem d_Nets_init_0 : decode b_Nets_init 0 = .ok (.aload_n 0, 1) := kq_42 byq_r (by decide +kernel)
theorem d_Nets_init_1 : decode b_Nets_init 1 = .ok (.invokespecial 3, 3) := kq_183 byq_r (a := 0) (b := 3) (by decide +kernel)
theorem d_Nets_init_4 : decode b_Nets_init 4 = .ok (.aload_n 0, 1) := kq_42 byq_r (by decide +kernel)
theorem d_Nets_init_5 : decode b_Nets_init 5 = .ok (.iconst 2, 1) := kq_5 byq_r (by decide +kernel)
theorem d_Nets_init_6 : decode b_Nets_init 6 = .ok (.newarray .long, 2) := by decide +kernel
theorem d_Nets_init_8 : decode b_Nets_init 8 = .ok (.putfield 9, 3) := kq_181 byq_r (a := 0) (b := 9) (by decide +kernel)
theorem d_Nets_init_11 : decode b_Nets_init 11 = .ok (.aload_n 0, 1) := kq_42 byq_r (by decide +kernel)
theorem d_Nets_init_12 : decode b_Nets_init 12 = .ok (.bipush 72, 2) := kq_16 byq_r (b := 72) (by decide +kernel)
theorem d_Nets_init_14 : decode b_Nets_init 14 = .ok (.newarray .long, 2) := by decide +kernel
theorem d_Nets_init_16 : decode b_Nets_init 16 = .ok (.putfield 15, 3) := kq_181 byq_r (a := 0) (b := 15) (by decide +kernel)
theorem d_Nets_init_19 : decode b_Nets_init 19 = .ok (.aload_n 0, 1) := kq_42 byq_r (by decide +kernel)
theorem d_Nets_init_20 : decode b_Nets_init 20 = .ok (.sipush 288, 3) := kq_17 byq_r (a := 1) (b := 32) (by decide +kernel)
theorem d_Nets_init_23 : decode b_Nets_init 23 = .ok (.newarray .int, 2) := by decide +kernel
theorem d_Nets_init_25 : decode b_Nets_init 25 = .ok (.putfield 18, 3) := kq_181 byq_r (a := 0) (b := 18) (by decide +kernel)
theorem d_Nets_init_28 : decode b_Nets_init 28 = .ok (.aload_n 0, 1) := kq_42 byq_r (by decide +kernel)
theorem d_Nets_init_29 : decode b_Nets_init 29 = .ok (.getfield 9, 3) := kq_180 byq_r (a := 0) (b := 9) (by decide +kernel)
theorem d_Nets_init_32 : decode b_Nets_init 32 = .ok (.iconst 0, 1) := kq_3 byq_r (by decide +kernel)
theorem d_Nets_init_33 : decode b_Nets_init 33 = .ok (.lconst 1, 1) := kq_10 byq_r (by decide +kernel)
theorem d_Nets_init_34 : decode b_Nets_init 34 = .ok (.lastore, 1) := kq_80 byq_r (by decide +kernel)
theorem d_Nets_init_35 : decode b_Nets_init 35 = .ok (.aload_n 0, 1) := kq_42 byq_r (by decide +kernel)
theorem d_Nets_init_36 : decode b_Nets_init 36 = .ok (.getfield 9, 3) := kq_180 byq_r (a := 0) (b := 9) (by decide +kernel)
theorem d_Nets_init_39 : decode b_Nets_init 39 = .ok (.iconst 1, 1) := kq_4 byq_r (by decide +kernel)
theorem d_Nets_init_40 : decode b_Nets_init 40 = .ok (.lconst 1, 1) := kq_10 byq_r (by decide +kernel)
theorem d_Nets_init_41 : decode b_Nets_init 41 = .ok (.lastore, 1) := kq_80 byq_r (by decide +kernel)
theorem d_Nets_init_42 : decode b_Nets_init 42 = .ok (.iconst 0, 1) := kq_3 byq_r (by decide +kernel)
theorem d_Nets_init_43 : decode b_Nets_init 43 = .ok (.istore_n 1, 1) := kq_60 byq_r (by decide +kernel)
theorem d_Nets_init_44 : decode b_Nets_init 44 = .ok (.iload_n 1, 1) := kq_27 byq_r (by decide +kernel)
theorem d_Nets_init_45 : decode b_Nets_init 45 = .ok (.sipush 288, 3) := kq_17 byq_r (a := 1) (b := 32) (by decide +kernel)
theorem d_Nets_init_48 : decode b_Nets_init 48 = .ok (.if_icmp .ge 16, 3) := kq_162 byq_r (a := 0) (b := 16) (by decide +kernel)
theorem d_Nets_init_51 : decode b_Nets_init 51 = .ok (.aload_n 0, 1) := kq_42 byq_r (by decide +kernel)
theorem d_Nets_init_52 : decode b_Nets_init 52 = .ok (.getfield 18, 3) := kq_180 byq_r (a := 0) (b := 18) (by decide +kernel)
theorem d_Nets_init_55 : decode b_Nets_init 55 = .ok (.iload_n 1, 1) := kq_27 byq_r (by decide +kernel)
theorem d_Nets_init_56 : decode b_Nets_init 56 = .ok (.iconst (-1), 1) := kq_2 byq_r (by decide +kernel)
theorem d_Nets_init_57 : decode b_Nets_init 57 = .ok (.iastore, 1) := kq_79 byq_r (by decide +kernel)
theorem d_Nets_init_58 : decode b_Nets_init 58 = .ok (.iinc 1 1, 3) := kq_132 byq_r (b := 1) (by decide +kernel)
theorem d_Nets_init_61 : decode b_Nets_init 61 = .ok (.goto (-17), 3) := kq_167 byq_r (a := 255) (b := 239) (by decide +kernel)
theorem d_Nets_init_64 : decode b_Nets_init 64 = .ok (.return_, 1) := kq_177 byq_r (by decide +kernel)
theorem ff_Nets_9 : fFin "WomenByTheRoofs$Nets" 9 6 0 (.array .long) := ⟨R_Nets, F_Nets, 3, t_Nets, rfl, iw_Nets, by decide, by decide +kernel, gt_1 174 rfl rfl, rfl, t_Nets_ok, n_Nets, by decide +kernel, rfl⟩
theorem ff_Nets_15 : fFin "WomenByTheRoofs$Nets" 15 6 1 (.array .long) := ⟨R_Nets, F_Nets, 3, t_Nets, rfl, iw_Nets, by decide, by decide +kernel, gt_1 176 rfl rfl, rfl, t_Nets_ok, n_Nets, by decide +kernel, rfl⟩
theorem ff_Nets_18 : fFin "WomenByTheRoofs$Nets" 18 6 2 (.array .int) := ⟨R_Nets, F_Nets, 3, t_Nets, rfl, iw_Nets, by decide, by decide +kernel, gt_1 178 rfl rfl, rfl, t_Nets_ok, n_Nets, by decide +kernel, rfl⟩
theorem yi_Nets : (Cond.instanceMethod y_Nets_init ∈ gw ∧ Cond.initialized y_Nets_init.cls ∈ gw ∧ Cond.code y_Nets_init b_Nets_init 2 none ∈ gw) ∧ (y_Nets_init.name = "<init>" ∧ (y_Nets_init.cls ≠ "java/lang/invoke/MethodHandle" ∧ y_Nets_init.cls ≠ "java/lang/invoke/VarHandle" ∧ (parseMethodDescriptor y_Nets_init.desc).map (fun d => d.parameters.length) = some 0) ∧ 2 ≤ 21) := ⟨⟨gt_1 171 rfl rfl, gt_1 6 rfl rfl, gt_1 172 rfl rfl⟩, by decide +kernel⟩
theorem d_Scene_init_0 : decode b_Scene_init 0 = .ok (.aload_n 0, 1) := kq_42 byq_r (by decide +kernel)
theorem d_Scene_init_1 : decode b_Scene_init 1 = .ok (.invokespecial 3, 3) := kq_183 byq_r (a := 0) (b := 3) (by decide +kernel)
theorem d_Scene_init_4 : decode b_Scene_init 4 = .ok (.aload_n 0, 1) := kq_42 byq_r (by decide +kernel)
theorem d_Scene_init_5 : decode b_Scene_init 5 = .ok (.bipush 8, 2) := kq_16 byq_r (b := 8) (by decide +kernel)
theorem d_Scene_init_7 : decode b_Scene_init 7 = .ok (.newarray .int, 2) := by decide +kernel
theorem d_Scene_init_9 : decode b_Scene_init 9 = .ok (.putfield 9, 3) := kq_181 byq_r (a := 0) (b := 9) (by decide +kernel)
theorem d_Scene_init_12 : decode b_Scene_init 12 = .ok (.aload_n 0, 1) := kq_42 byq_r (by decide +kernel)
theorem d_Scene_init_13 : decode b_Scene_init 13 = .ok (.bipush 8, 2) := kq_16 byq_r (b := 8) (by decide +kernel)
theorem d_Scene_init_15 : decode b_Scene_init 15 = .ok (.newarray .int, 2) := by decide +kernel
theorem d_Scene_init_17 : decode b_Scene_init 17 = .ok (.putfield 15, 3) := kq_181 byq_r (a := 0) (b := 15) (by decide +kernel)
theorem d_Scene_init_20 : decode b_Scene_init 20 = .ok (.aload_n 0, 1) := kq_42 byq_r (by decide +kernel)
theorem d_Scene_init_21 : decode b_Scene_init 21 = .ok (.bipush 8, 2) := kq_16 byq_r (b := 8) (by decide +kernel)
theorem d_Scene_init_23 : decode b_Scene_init 23 = .ok (.newarray .int, 2) := by decide +kernel
theorem d_Scene_init_25 : decode b_Scene_init 25 = .ok (.putfield 18, 3) := kq_181 byq_r (a := 0) (b := 18) (by decide +kernel)
theorem d_Scene_init_28 : decode b_Scene_init 28 = .ok (.aload_n 0, 1) := kq_42 byq_r (by decide +kernel)
theorem d_Scene_init_29 : decode b_Scene_init 29 = .ok (.bipush 64, 2) := kq_16 byq_r (b := 64) (by decide +kernel)
theorem d_Scene_init_31 : decode b_Scene_init 31 = .ok (.newarray .int, 2) := by decide +kernel
theorem d_Scene_init_33 : decode b_Scene_init 33 = .ok (.putfield 21, 3) := kq_181 byq_r (a := 0) (b := 21) (by decide +kernel)
theorem d_Scene_init_36 : decode b_Scene_init 36 = .ok (.aload_n 0, 1) := kq_42 byq_r (by decide +kernel)
theorem d_Scene_init_37 : decode b_Scene_init 37 = .ok (.bipush 6, 2) := kq_16 byq_r (b := 6) (by decide +kernel)
theorem d_Scene_init_39 : decode b_Scene_init 39 = .ok (.newarray .int, 2) := by decide +kernel
theorem d_Scene_init_41 : decode b_Scene_init 41 = .ok (.putfield 24, 3) := kq_181 byq_r (a := 0) (b := 24) (by decide +kernel)
theorem d_Scene_init_44 : decode b_Scene_init 44 = .ok (.aload_n 0, 1) := kq_42 byq_r (by decide +kernel)
theorem d_Scene_init_45 : decode b_Scene_init 45 = .ok (.bipush 6, 2) := kq_16 byq_r (b := 6) (by decide +kernel)
theorem d_Scene_init_47 : decode b_Scene_init 47 = .ok (.newarray .int, 2) := by decide +kernel
theorem d_Scene_init_49 : decode b_Scene_init 49 = .ok (.putfield 27, 3) := kq_181 byq_r (a := 0) (b := 27) (by decide +kernel)
theorem d_Scene_init_52 : decode b_Scene_init 52 = .ok (.return_, 1) := kq_177 byq_r (by decide +kernel)
theorem ff_Scene_9 : fFin "WomenByTheRoofs$Scene" 9 7 0 (.array .int) := ⟨R_Scene, F_Scene, 10, t_Scene, rfl, iw_Scene, by decide, by decide +kernel, gt_1 117 rfl rfl, rfl, t_Scene_ok, n_Scene, by decide +kernel, rfl⟩
theorem ff_Scene_15 : fFin "WomenByTheRoofs$Scene" 15 7 1 (.array .int) := ⟨R_Scene, F_Scene, 10, t_Scene, rfl, iw_Scene, by decide, by decide +kernel, gt_1 121 rfl rfl, rfl, t_Scene_ok, n_Scene, by decide +kernel, rfl⟩
theorem ff_Scene_18 : fFin "WomenByTheRoofs$Scene" 18 7 2 (.array .int) := ⟨R_Scene, F_Scene, 10, t_Scene, rfl, iw_Scene, by decide, by decide +kernel, gt_1 125 rfl rfl, rfl, t_Scene_ok, n_Scene, by decide +kernel, rfl⟩
theorem ff_Scene_21 : fFin "WomenByTheRoofs$Scene" 21 7 3 (.array .int) := ⟨R_Scene, F_Scene, 10, t_Scene, rfl, iw_Scene, by decide, by decide +kernel, gt_1 128 rfl rfl, rfl, t_Scene_ok, n_Scene, by decide +kernel, rfl⟩
theorem ff_Scene_24 : fFin "WomenByTheRoofs$Scene" 24 7 4 (.array .int) := ⟨R_Scene, F_Scene, 10, t_Scene, rfl, iw_Scene, by decide, by decide +kernel, gt_1 129 rfl rfl, rfl, t_Scene_ok, n_Scene, by decide +kernel, rfl⟩
theorem ff_Scene_27 : fFin "WomenByTheRoofs$Scene" 27 7 5 (.array .int) := ⟨R_Scene, F_Scene, 10, t_Scene, rfl, iw_Scene, by decide, by decide +kernel, gt_1 131 rfl rfl, rfl, t_Scene_ok, n_Scene, by decide +kernel, rfl⟩
theorem yi_Scene : (Cond.instanceMethod y_Scene_init ∈ gw ∧ Cond.initialized y_Scene_init.cls ∈ gw ∧ Cond.code y_Scene_init b_Scene_init 1 none ∈ gw) ∧ (y_Scene_init.name = "<init>" ∧ (y_Scene_init.cls ≠ "java/lang/invoke/MethodHandle" ∧ y_Scene_init.cls ≠ "java/lang/invoke/VarHandle" ∧ (parseMethodDescriptor y_Scene_init.desc).map (fun d => d.parameters.length) = some 0) ∧ 1 ≤ 21) := ⟨⟨gt_1 114 rfl rfl, gt_1 5 rfl rfl, gt_1 115 rfl rfl⟩, by decide +kernel⟩
theorem d_Signs_init_0 : decode b_Signs_init 0 = .ok (.aload_n 0, 1) := kq_42 byq_r (by decide +kernel)
theorem d_Signs_init_1 : decode b_Signs_init 1 = .ok (.invokespecial 3, 3) := kq_183 byq_r (a := 0) (b := 3) (by decide +kernel)
theorem d_Signs_init_4 : decode b_Signs_init 4 = .ok (.aload_n 0, 1) := kq_42 byq_r (by decide +kernel)
theorem d_Signs_init_5 : decode b_Signs_init 5 = .ok (.bipush 80, 2) := kq_16 byq_r (b := 80) (by decide +kernel)
theorem d_Signs_init_7 : decode b_Signs_init 7 = .ok (.newarray .int, 2) := by decide +kernel
theorem d_Signs_init_9 : decode b_Signs_init 9 = .ok (.putfield 9, 3) := kq_181 byq_r (a := 0) (b := 9) (by decide +kernel)
theorem d_Signs_init_12 : decode b_Signs_init 12 = .ok (.return_, 1) := kq_177 byq_r (by decide +kernel)
theorem ff_Signs_9 : fFin "WomenByTheRoofs$Signs" 9 8 0 (.array .int) := ⟨R_Signs, F_Signs, 3, t_Signs, rfl, iw_Signs, by decide, by decide +kernel, gt_1 37 rfl rfl, rfl, t_Signs_ok, n_Signs, by decide +kernel, rfl⟩
theorem yi_Signs : (Cond.instanceMethod y_Signs_init ∈ gw ∧ Cond.initialized y_Signs_init.cls ∈ gw ∧ Cond.code y_Signs_init b_Signs_init 1 none ∈ gw) ∧ (y_Signs_init.name = "<init>" ∧ (y_Signs_init.cls ≠ "java/lang/invoke/MethodHandle" ∧ y_Signs_init.cls ≠ "java/lang/invoke/VarHandle" ∧ (parseMethodDescriptor y_Signs_init.desc).map (fun d => d.parameters.length) = some 0) ∧ 1 ≤ 21) := ⟨⟨gt_1 34 rfl rfl, gt_1 2 rfl rfl, gt_1 35 rfl rfl⟩, by decide +kernel⟩
theorem d_Thief_init_0 : decode b_Thief_init 0 = .ok (.aload_n 0, 1) := kq_42 byq_r (by decide +kernel)
theorem d_Thief_init_1 : decode b_Thief_init 1 = .ok (.invokespecial 3, 3) := kq_183 byq_r (a := 0) (b := 3) (by decide +kernel)
theorem d_Thief_init_4 : decode b_Thief_init 4 = .ok (.aload_n 0, 1) := kq_42 byq_r (by decide +kernel)
theorem d_Thief_init_5 : decode b_Thief_init 5 = .ok (.bipush 30, 2) := kq_16 byq_r (b := 30) (by decide +kernel)
theorem d_Thief_init_7 : decode b_Thief_init 7 = .ok (.newarray .long, 2) := by decide +kernel
theorem d_Thief_init_9 : decode b_Thief_init 9 = .ok (.putfield 9, 3) := kq_181 byq_r (a := 0) (b := 9) (by decide +kernel)
theorem d_Thief_init_12 : decode b_Thief_init 12 = .ok (.aload_n 0, 1) := kq_42 byq_r (by decide +kernel)
theorem d_Thief_init_13 : decode b_Thief_init 13 = .ok (.bipush 30, 2) := kq_16 byq_r (b := 30) (by decide +kernel)
theorem d_Thief_init_15 : decode b_Thief_init 15 = .ok (.newarray .long, 2) := by decide +kernel
theorem d_Thief_init_17 : decode b_Thief_init 17 = .ok (.putfield 15, 3) := kq_181 byq_r (a := 0) (b := 15) (by decide +kernel)
theorem d_Thief_init_20 : decode b_Thief_init 20 = .ok (.return_, 1) := kq_177 byq_r (by decide +kernel)
theorem ff_Thief_9 : fFin "WomenByTheRoofs$Thief" 9 9 0 (.array .long) := ⟨R_Thief, F_Thief, 4, t_Thief, rfl, iw_Thief, by decide, by decide +kernel, gt_2 65 rfl rfl, rfl, t_Thief_ok, n_Thief, by decide +kernel, rfl⟩
theorem ff_Thief_15 : fFin "WomenByTheRoofs$Thief" 15 9 1 (.array .long) := ⟨R_Thief, F_Thief, 4, t_Thief, rfl, iw_Thief, by decide, by decide +kernel, gt_2 66 rfl rfl, rfl, t_Thief_ok, n_Thief, by decide +kernel, rfl⟩
theorem yi_Thief : (Cond.instanceMethod y_Thief_init ∈ gw ∧ Cond.initialized y_Thief_init.cls ∈ gw ∧ Cond.code y_Thief_init b_Thief_init 1 none ∈ gw) ∧ (y_Thief_init.name = "<init>" ∧ (y_Thief_init.cls ≠ "java/lang/invoke/MethodHandle" ∧ y_Thief_init.cls ≠ "java/lang/invoke/VarHandle" ∧ (parseMethodDescriptor y_Thief_init.desc).map (fun d => d.parameters.length) = some 0) ∧ 1 ≤ 21) := ⟨⟨gt_2 62 rfl rfl, gt_1 11 rfl rfl, gt_2 63 rfl rfl⟩, by decide +kernel⟩
theorem d_Ways_init_0 : decode b_Ways_init 0 = .ok (.aload_n 0, 1) := kq_42 byq_r (by decide +kernel)
theorem d_Ways_init_1 : decode b_Ways_init 1 = .ok (.invokespecial 3, 3) := kq_183 byq_r (a := 0) (b := 3) (by decide +kernel)
theorem d_Ways_init_4 : decode b_Ways_init 4 = .ok (.aload_n 0, 1) := kq_42 byq_r (by decide +kernel)
theorem d_Ways_init_5 : decode b_Ways_init 5 = .ok (.bipush 36, 2) := kq_16 byq_r (b := 36) (by decide +kernel)
theorem d_Ways_init_7 : decode b_Ways_init 7 = .ok (.newarray .int, 2) := by decide +kernel
theorem d_Ways_init_9 : decode b_Ways_init 9 = .ok (.putfield 9, 3) := kq_181 byq_r (a := 0) (b := 9) (by decide +kernel)
theorem d_Ways_init_12 : decode b_Ways_init 12 = .ok (.aload_n 0, 1) := kq_42 byq_r (by decide +kernel)
theorem d_Ways_init_13 : decode b_Ways_init 13 = .ok (.bipush 36, 2) := kq_16 byq_r (b := 36) (by decide +kernel)
theorem d_Ways_init_15 : decode b_Ways_init 15 = .ok (.newarray .int, 2) := by decide +kernel
theorem d_Ways_init_17 : decode b_Ways_init 17 = .ok (.putfield 15, 3) := kq_181 byq_r (a := 0) (b := 15) (by decide +kernel)
theorem d_Ways_init_20 : decode b_Ways_init 20 = .ok (.aload_n 0, 1) := kq_42 byq_r (by decide +kernel)
theorem d_Ways_init_21 : decode b_Ways_init 21 = .ok (.bipush 36, 2) := kq_16 byq_r (b := 36) (by decide +kernel)
theorem d_Ways_init_23 : decode b_Ways_init 23 = .ok (.newarray .int, 2) := by decide +kernel
theorem d_Ways_init_25 : decode b_Ways_init 25 = .ok (.putfield 18, 3) := kq_181 byq_r (a := 0) (b := 18) (by decide +kernel)
theorem d_Ways_init_28 : decode b_Ways_init 28 = .ok (.aload_n 0, 1) := kq_42 byq_r (by decide +kernel)
theorem d_Ways_init_29 : decode b_Ways_init 29 = .ok (.bipush 72, 2) := kq_16 byq_r (b := 72) (by decide +kernel)
theorem d_Ways_init_31 : decode b_Ways_init 31 = .ok (.newarray .int, 2) := by decide +kernel
theorem d_Ways_init_33 : decode b_Ways_init 33 = .ok (.putfield 21, 3) := kq_181 byq_r (a := 0) (b := 21) (by decide +kernel)
theorem d_Ways_init_36 : decode b_Ways_init 36 = .ok (.aload_n 0, 1) := kq_42 byq_r (by decide +kernel)
theorem d_Ways_init_37 : decode b_Ways_init 37 = .ok (.sipush 180, 3) := kq_17 byq_r (a := 0) (b := 180) (by decide +kernel)
theorem d_Ways_init_40 : decode b_Ways_init 40 = .ok (.newarray .int, 2) := by decide +kernel
theorem d_Ways_init_42 : decode b_Ways_init 42 = .ok (.putfield 24, 3) := kq_181 byq_r (a := 0) (b := 24) (by decide +kernel)
theorem d_Ways_init_45 : decode b_Ways_init 45 = .ok (.aload_n 0, 1) := kq_42 byq_r (by decide +kernel)
theorem d_Ways_init_46 : decode b_Ways_init 46 = .ok (.sipush 180, 3) := kq_17 byq_r (a := 0) (b := 180) (by decide +kernel)
theorem d_Ways_init_49 : decode b_Ways_init 49 = .ok (.newarray .int, 2) := by decide +kernel
theorem d_Ways_init_51 : decode b_Ways_init 51 = .ok (.putfield 27, 3) := kq_181 byq_r (a := 0) (b := 27) (by decide +kernel)
theorem d_Ways_init_54 : decode b_Ways_init 54 = .ok (.return_, 1) := kq_177 byq_r (by decide +kernel)
theorem ff_Ways_9 : fFin "WomenByTheRoofs$Ways" 9 10 0 (.array .int) := ⟨R_Ways, F_Ways, 6, t_Ways, rfl, iw_Ways, by decide, by decide +kernel, gt_2 86 rfl rfl, rfl, t_Ways_ok, n_Ways, by decide +kernel, rfl⟩
theorem ff_Ways_15 : fFin "WomenByTheRoofs$Ways" 15 10 1 (.array .int) := ⟨R_Ways, F_Ways, 6, t_Ways, rfl, iw_Ways, by decide, by decide +kernel, gt_2 88 rfl rfl, rfl, t_Ways_ok, n_Ways, by decide +kernel, rfl⟩
theorem ff_Ways_18 : fFin "WomenByTheRoofs$Ways" 18 10 2 (.array .int) := ⟨R_Ways, F_Ways, 6, t_Ways, rfl, iw_Ways, by decide, by decide +kernel, gt_2 90 rfl rfl, rfl, t_Ways_ok, n_Ways, by decide +kernel, rfl⟩
theorem ff_Ways_21 : fFin "WomenByTheRoofs$Ways" 21 10 3 (.array .int) := ⟨R_Ways, F_Ways, 6, t_Ways, rfl, iw_Ways, by decide, by decide +kernel, gt_2 92 rfl rfl, rfl, t_Ways_ok, n_Ways, by decide +kernel, rfl⟩
theorem ff_Ways_24 : fFin "WomenByTheRoofs$Ways" 24 10 4 (.array .int) := ⟨R_Ways, F_Ways, 6, t_Ways, rfl, iw_Ways, by decide, by decide +kernel, gt_2 93 rfl rfl, rfl, t_Ways_ok, n_Ways, by decide +kernel, rfl⟩
theorem ff_Ways_27 : fFin "WomenByTheRoofs$Ways" 27 10 5 (.array .int) := ⟨R_Ways, F_Ways, 6, t_Ways, rfl, iw_Ways, by decide, by decide +kernel, gt_2 95 rfl rfl, rfl, t_Ways_ok, n_Ways, by decide +kernel, rfl⟩
theorem yi_Ways : (Cond.instanceMethod y_Ways_init ∈ gw ∧ Cond.initialized y_Ways_init.cls ∈ gw ∧ Cond.code y_Ways_init b_Ways_init 1 none ∈ gw) ∧ (y_Ways_init.name = "<init>" ∧ (y_Ways_init.cls ≠ "java/lang/invoke/MethodHandle" ∧ y_Ways_init.cls ≠ "java/lang/invoke/VarHandle" ∧ (parseMethodDescriptor y_Ways_init.desc).map (fun d => d.parameters.length) = some 0) ∧ 1 ≤ 21) := ⟨⟨gt_2 83 rfl rfl, gt_1 12 rfl rfl, gt_2 84 rfl rfl⟩, by decide +kernel⟩
theorem d_Top_init_0 : decode b_Top_init 0 = .ok (.aload_n 0, 1) := kq_42 byq_r (by decide +kernel)
theorem d_Top_init_1 : decode b_Top_init 1 = .ok (.invokespecial 1, 3) := kq_183 byq_r (a := 0) (b := 1) (by decide +kernel)
theorem d_Top_init_4 : decode b_Top_init 4 = .ok (.aload_n 0, 1) := kq_42 byq_r (by decide +kernel)
theorem d_Top_init_5 : decode b_Top_init 5 = .ok (.new 7, 3) := kq_187 byq_r (a := 0) (b := 7) (by decide +kernel)
theorem d_Top_init_8 : decode b_Top_init 8 = .ok (.dup, 1) := kq_89 byq_r (by decide +kernel)
theorem d_Top_init_9 : decode b_Top_init 9 = .ok (.invokespecial 9, 3) := kq_183 byq_r (a := 0) (b := 9) (by decide +kernel)
theorem d_Top_init_12 : decode b_Top_init 12 = .ok (.putfield 10, 3) := kq_181 byq_r (a := 0) (b := 10) (by decide +kernel)
theorem d_Top_init_15 : decode b_Top_init 15 = .ok (.aload_n 0, 1) := kq_42 byq_r (by decide +kernel)
theorem d_Top_init_16 : decode b_Top_init 16 = .ok (.new 16, 3) := kq_187 byq_r (a := 0) (b := 16) (by decide +kernel)
theorem d_Top_init_19 : decode b_Top_init 19 = .ok (.dup, 1) := kq_89 byq_r (by decide +kernel)
theorem d_Top_init_20 : decode b_Top_init 20 = .ok (.invokespecial 18, 3) := kq_183 byq_r (a := 0) (b := 18) (by decide +kernel)
theorem d_Top_init_23 : decode b_Top_init 23 = .ok (.putfield 19, 3) := kq_181 byq_r (a := 0) (b := 19) (by decide +kernel)
theorem d_Top_init_26 : decode b_Top_init 26 = .ok (.aload_n 0, 1) := kq_42 byq_r (by decide +kernel)
theorem d_Top_init_27 : decode b_Top_init 27 = .ok (.new 23, 3) := kq_187 byq_r (a := 0) (b := 23) (by decide +kernel)
theorem d_Top_init_30 : decode b_Top_init 30 = .ok (.dup, 1) := kq_89 byq_r (by decide +kernel)
theorem d_Top_init_31 : decode b_Top_init 31 = .ok (.invokespecial 25, 3) := kq_183 byq_r (a := 0) (b := 25) (by decide +kernel)
theorem d_Top_init_34 : decode b_Top_init 34 = .ok (.putfield 26, 3) := kq_181 byq_r (a := 0) (b := 26) (by decide +kernel)
theorem d_Top_init_37 : decode b_Top_init 37 = .ok (.aload_n 0, 1) := kq_42 byq_r (by decide +kernel)
theorem d_Top_init_38 : decode b_Top_init 38 = .ok (.new 30, 3) := kq_187 byq_r (a := 0) (b := 30) (by decide +kernel)
theorem d_Top_init_41 : decode b_Top_init 41 = .ok (.dup, 1) := kq_89 byq_r (by decide +kernel)
theorem d_Top_init_42 : decode b_Top_init 42 = .ok (.invokespecial 32, 3) := kq_183 byq_r (a := 0) (b := 32) (by decide +kernel)
theorem d_Top_init_45 : decode b_Top_init 45 = .ok (.putfield 33, 3) := kq_181 byq_r (a := 0) (b := 33) (by decide +kernel)
theorem d_Top_init_48 : decode b_Top_init 48 = .ok (.aload_n 0, 1) := kq_42 byq_r (by decide +kernel)
theorem d_Top_init_49 : decode b_Top_init 49 = .ok (.new 30, 3) := kq_187 byq_r (a := 0) (b := 30) (by decide +kernel)
theorem d_Top_init_52 : decode b_Top_init 52 = .ok (.dup, 1) := kq_89 byq_r (by decide +kernel)
theorem d_Top_init_53 : decode b_Top_init 53 = .ok (.invokespecial 32, 3) := kq_183 byq_r (a := 0) (b := 32) (by decide +kernel)
theorem d_Top_init_56 : decode b_Top_init 56 = .ok (.putfield 37, 3) := kq_181 byq_r (a := 0) (b := 37) (by decide +kernel)
theorem d_Top_init_59 : decode b_Top_init 59 = .ok (.aload_n 0, 1) := kq_42 byq_r (by decide +kernel)
theorem d_Top_init_60 : decode b_Top_init 60 = .ok (.new 30, 3) := kq_187 byq_r (a := 0) (b := 30) (by decide +kernel)
theorem d_Top_init_63 : decode b_Top_init 63 = .ok (.dup, 1) := kq_89 byq_r (by decide +kernel)
theorem d_Top_init_64 : decode b_Top_init 64 = .ok (.invokespecial 32, 3) := kq_183 byq_r (a := 0) (b := 32) (by decide +kernel)
theorem d_Top_init_67 : decode b_Top_init 67 = .ok (.putfield 40, 3) := kq_181 byq_r (a := 0) (b := 40) (by decide +kernel)
theorem d_Top_init_70 : decode b_Top_init 70 = .ok (.aload_n 0, 1) := kq_42 byq_r (by decide +kernel)
theorem d_Top_init_71 : decode b_Top_init 71 = .ok (.new 43, 3) := kq_187 byq_r (a := 0) (b := 43) (by decide +kernel)
theorem d_Top_init_74 : decode b_Top_init 74 = .ok (.dup, 1) := kq_89 byq_r (by decide +kernel)
theorem d_Top_init_75 : decode b_Top_init 75 = .ok (.invokespecial 45, 3) := kq_183 byq_r (a := 0) (b := 45) (by decide +kernel)
theorem d_Top_init_78 : decode b_Top_init 78 = .ok (.putfield 46, 3) := kq_181 byq_r (a := 0) (b := 46) (by decide +kernel)
theorem d_Top_init_81 : decode b_Top_init 81 = .ok (.aload_n 0, 1) := kq_42 byq_r (by decide +kernel)
theorem d_Top_init_82 : decode b_Top_init 82 = .ok (.new 43, 3) := kq_187 byq_r (a := 0) (b := 43) (by decide +kernel)
theorem d_Top_init_85 : decode b_Top_init 85 = .ok (.dup, 1) := kq_89 byq_r (by decide +kernel)
theorem d_Top_init_86 : decode b_Top_init 86 = .ok (.invokespecial 45, 3) := kq_183 byq_r (a := 0) (b := 45) (by decide +kernel)
theorem d_Top_init_89 : decode b_Top_init 89 = .ok (.putfield 50, 3) := kq_181 byq_r (a := 0) (b := 50) (by decide +kernel)
theorem d_Top_init_92 : decode b_Top_init 92 = .ok (.aload_n 0, 1) := kq_42 byq_r (by decide +kernel)
theorem d_Top_init_93 : decode b_Top_init 93 = .ok (.new 53, 3) := kq_187 byq_r (a := 0) (b := 53) (by decide +kernel)
theorem d_Top_init_96 : decode b_Top_init 96 = .ok (.dup, 1) := kq_89 byq_r (by decide +kernel)
theorem d_Top_init_97 : decode b_Top_init 97 = .ok (.invokespecial 55, 3) := kq_183 byq_r (a := 0) (b := 55) (by decide +kernel)
theorem d_Top_init_100 : decode b_Top_init 100 = .ok (.putfield 56, 3) := kq_181 byq_r (a := 0) (b := 56) (by decide +kernel)
theorem d_Top_init_103 : decode b_Top_init 103 = .ok (.aload_n 0, 1) := kq_42 byq_r (by decide +kernel)
theorem d_Top_init_104 : decode b_Top_init 104 = .ok (.new 60, 3) := kq_187 byq_r (a := 0) (b := 60) (by decide +kernel)
theorem d_Top_init_107 : decode b_Top_init 107 = .ok (.dup, 1) := kq_89 byq_r (by decide +kernel)
theorem d_Top_init_108 : decode b_Top_init 108 = .ok (.invokespecial 62, 3) := kq_183 byq_r (a := 0) (b := 62) (by decide +kernel)
theorem d_Top_init_111 : decode b_Top_init 111 = .ok (.putfield 63, 3) := kq_181 byq_r (a := 0) (b := 63) (by decide +kernel)
theorem d_Top_init_114 : decode b_Top_init 114 = .ok (.aload_n 0, 1) := kq_42 byq_r (by decide +kernel)
theorem d_Top_init_115 : decode b_Top_init 115 = .ok (.new 67, 3) := kq_187 byq_r (a := 0) (b := 67) (by decide +kernel)
theorem d_Top_init_118 : decode b_Top_init 118 = .ok (.dup, 1) := kq_89 byq_r (by decide +kernel)
theorem d_Top_init_119 : decode b_Top_init 119 = .ok (.invokespecial 69, 3) := kq_183 byq_r (a := 0) (b := 69) (by decide +kernel)
theorem d_Top_init_122 : decode b_Top_init 122 = .ok (.putfield 70, 3) := kq_181 byq_r (a := 0) (b := 70) (by decide +kernel)
theorem d_Top_init_125 : decode b_Top_init 125 = .ok (.aload_n 0, 1) := kq_42 byq_r (by decide +kernel)
theorem d_Top_init_126 : decode b_Top_init 126 = .ok (.new 74, 3) := kq_187 byq_r (a := 0) (b := 74) (by decide +kernel)
theorem d_Top_init_129 : decode b_Top_init 129 = .ok (.dup, 1) := kq_89 byq_r (by decide +kernel)
theorem d_Top_init_130 : decode b_Top_init 130 = .ok (.invokespecial 76, 3) := kq_183 byq_r (a := 0) (b := 76) (by decide +kernel)
theorem d_Top_init_133 : decode b_Top_init 133 = .ok (.putfield 77, 3) := kq_181 byq_r (a := 0) (b := 77) (by decide +kernel)
theorem d_Top_init_136 : decode b_Top_init 136 = .ok (.aload_n 0, 1) := kq_42 byq_r (by decide +kernel)
theorem d_Top_init_137 : decode b_Top_init 137 = .ok (.new 81, 3) := kq_187 byq_r (a := 0) (b := 81) (by decide +kernel)
theorem d_Top_init_140 : decode b_Top_init 140 = .ok (.dup, 1) := kq_89 byq_r (by decide +kernel)
theorem d_Top_init_141 : decode b_Top_init 141 = .ok (.invokespecial 83, 3) := kq_183 byq_r (a := 0) (b := 83) (by decide +kernel)
theorem d_Top_init_144 : decode b_Top_init 144 = .ok (.putfield 84, 3) := kq_181 byq_r (a := 0) (b := 84) (by decide +kernel)
theorem d_Top_init_147 : decode b_Top_init 147 = .ok (.aload_n 0, 1) := kq_42 byq_r (by decide +kernel)
theorem d_Top_init_148 : decode b_Top_init 148 = .ok (.new 88, 3) := kq_187 byq_r (a := 0) (b := 88) (by decide +kernel)
theorem d_Top_init_151 : decode b_Top_init 151 = .ok (.dup, 1) := kq_89 byq_r (by decide +kernel)
theorem d_Top_init_152 : decode b_Top_init 152 = .ok (.invokespecial 90, 3) := kq_183 byq_r (a := 0) (b := 90) (by decide +kernel)
theorem d_Top_init_155 : decode b_Top_init 155 = .ok (.putfield 91, 3) := kq_181 byq_r (a := 0) (b := 91) (by decide +kernel)
theorem d_Top_init_158 : decode b_Top_init 158 = .ok (.aload_n 0, 1) := kq_42 byq_r (by decide +kernel)
theorem d_Top_init_159 : decode b_Top_init 159 = .ok (.bipush 10, 2) := kq_16 byq_r (b := 10) (by decide +kernel)
theorem d_Top_init_161 : decode b_Top_init 161 = .ok (.newarray .int, 2) := by decide +kernel
theorem d_Top_init_163 : decode b_Top_init 163 = .ok (.putfield 95, 3) := kq_181 byq_r (a := 0) (b := 95) (by decide +kernel)
theorem d_Top_init_166 : decode b_Top_init 166 = .ok (.aload_n 0, 1) := kq_42 byq_r (by decide +kernel)
theorem d_Top_init_167 : decode b_Top_init 167 = .ok (.iconst 0, 1) := kq_3 byq_r (by decide +kernel)
theorem d_Top_init_168 : decode b_Top_init 168 = .ok (.putfield 99, 3) := kq_181 byq_r (a := 0) (b := 99) (by decide +kernel)
theorem d_Top_init_171 : decode b_Top_init 171 = .ok (.aload_n 0, 1) := kq_42 byq_r (by decide +kernel)
theorem d_Top_init_172 : decode b_Top_init 172 = .ok (.iconst (-1), 1) := kq_2 byq_r (by decide +kernel)
theorem d_Top_init_173 : decode b_Top_init 173 = .ok (.putfield 103, 3) := kq_181 byq_r (a := 0) (b := 103) (by decide +kernel)
theorem d_Top_init_176 : decode b_Top_init 176 = .ok (.return_, 1) := kq_177 byq_r (by decide +kernel)
theorem cl_Top_7 : Cond.classLink "WomenByTheRoofs" 7 "WomenByTheRoofs$Signs" ∈ gw ∧ Cond.instantiable "WomenByTheRoofs$Signs" 3 ∈ gw ∧ Cond.initialized "WomenByTheRoofs$Signs" ∈ gw := ⟨gt_1 31 rfl rfl, gt_1 32 rfl rfl, gt_1 2 rfl rfl⟩
theorem ff_Top_10 : fFin "WomenByTheRoofs" 10 11 0 (.object "WomenByTheRoofs$Signs") := ⟨R_Top, F_Top, 17, t_Top, rfl, iw_Top, by decide, by decide +kernel, gt_2 109 rfl rfl, rfl, t_Top_ok, n_Top, by decide +kernel, rfl⟩
theorem cl_Top_16 : Cond.classLink "WomenByTheRoofs" 16 "WomenByTheRoofs$Ground" ∈ gw ∧ Cond.instantiable "WomenByTheRoofs$Ground" 4 ∈ gw ∧ Cond.initialized "WomenByTheRoofs$Ground" ∈ gw := ⟨gt_1 55 rfl rfl, gt_1 56 rfl rfl, gt_1 3 rfl rfl⟩
theorem ff_Top_19 : fFin "WomenByTheRoofs" 19 11 1 (.object "WomenByTheRoofs$Ground") := ⟨R_Top, F_Top, 17, t_Top, rfl, iw_Top, by decide, by decide +kernel, gt_2 110 rfl rfl, rfl, t_Top_ok, n_Top, by decide +kernel, rfl⟩
theorem cl_Top_23 : Cond.classLink "WomenByTheRoofs" 23 "WomenByTheRoofs$Crowd" ∈ gw ∧ Cond.instantiable "WomenByTheRoofs$Crowd" 7 ∈ gw ∧ Cond.initialized "WomenByTheRoofs$Crowd" ∈ gw := ⟨gt_1 77 rfl rfl, gt_1 78 rfl rfl, gt_1 4 rfl rfl⟩
theorem ff_Top_26 : fFin "WomenByTheRoofs" 26 11 2 (.object "WomenByTheRoofs$Crowd") := ⟨R_Top, F_Top, 17, t_Top, rfl, iw_Top, by decide, by decide +kernel, gt_2 111 rfl rfl, rfl, t_Top_ok, n_Top, by decide +kernel, rfl⟩
theorem cl_Top_30 : Cond.classLink "WomenByTheRoofs" 30 "WomenByTheRoofs$Scene" ∈ gw ∧ Cond.instantiable "WomenByTheRoofs$Scene" 10 ∈ gw ∧ Cond.initialized "WomenByTheRoofs$Scene" ∈ gw := ⟨gt_1 111 rfl rfl, gt_1 112 rfl rfl, gt_1 5 rfl rfl⟩
theorem ff_Top_33 : fFin "WomenByTheRoofs" 33 11 3 (.object "WomenByTheRoofs$Scene") := ⟨R_Top, F_Top, 17, t_Top, rfl, iw_Top, by decide, by decide +kernel, gt_2 112 rfl rfl, rfl, t_Top_ok, n_Top, by decide +kernel, rfl⟩
theorem ff_Top_37 : fFin "WomenByTheRoofs" 37 11 4 (.object "WomenByTheRoofs$Scene") := ⟨R_Top, F_Top, 17, t_Top, rfl, iw_Top, by decide, by decide +kernel, gt_2 113 rfl rfl, rfl, t_Top_ok, n_Top, by decide +kernel, rfl⟩
theorem ff_Top_40 : fFin "WomenByTheRoofs" 40 11 5 (.object "WomenByTheRoofs$Scene") := ⟨R_Top, F_Top, 17, t_Top, rfl, iw_Top, by decide, by decide +kernel, gt_2 114 rfl rfl, rfl, t_Top_ok, n_Top, by decide +kernel, rfl⟩
theorem cl_Top_43 : Cond.classLink "WomenByTheRoofs" 43 "WomenByTheRoofs$Nets" ∈ gw ∧ Cond.instantiable "WomenByTheRoofs$Nets" 3 ∈ gw ∧ Cond.initialized "WomenByTheRoofs$Nets" ∈ gw := ⟨gt_1 168 rfl rfl, gt_1 169 rfl rfl, gt_1 6 rfl rfl⟩
theorem ff_Top_46 : fFin "WomenByTheRoofs" 46 11 6 (.object "WomenByTheRoofs$Nets") := ⟨R_Top, F_Top, 17, t_Top, rfl, iw_Top, by decide, by decide +kernel, gt_2 115 rfl rfl, rfl, t_Top_ok, n_Top, by decide +kernel, rfl⟩
theorem ff_Top_50 : fFin "WomenByTheRoofs" 50 11 7 (.object "WomenByTheRoofs$Nets") := ⟨R_Top, F_Top, 17, t_Top, rfl, iw_Top, by decide, by decide +kernel, gt_2 116 rfl rfl, rfl, t_Top_ok, n_Top, by decide +kernel, rfl⟩
theorem cl_Top_53 : Cond.classLink "WomenByTheRoofs" 53 "WomenByTheRoofs$Law" ∈ gw ∧ Cond.instantiable "WomenByTheRoofs$Law" 11 ∈ gw ∧ Cond.initialized "WomenByTheRoofs$Law" ∈ gw := ⟨gt_1 187 rfl rfl, gt_1 188 rfl rfl, gt_1 7 rfl rfl⟩
theorem ff_Top_56 : fFin "WomenByTheRoofs" 56 11 8 (.object "WomenByTheRoofs$Law") := ⟨R_Top, F_Top, 17, t_Top, rfl, iw_Top, by decide, by decide +kernel, gt_2 117 rfl rfl, rfl, t_Top_ok, n_Top, by decide +kernel, rfl⟩
theorem cl_Top_60 : Cond.classLink "WomenByTheRoofs" 60 "WomenByTheRoofs$Clock" ∈ gw ∧ Cond.instantiable "WomenByTheRoofs$Clock" 5 ∈ gw ∧ Cond.initialized "WomenByTheRoofs$Clock" ∈ gw := ⟨gt_1 227 rfl rfl, gt_1 228 rfl rfl, gt_1 8 rfl rfl⟩
theorem ff_Top_63 : fFin "WomenByTheRoofs" 63 11 9 (.object "WomenByTheRoofs$Clock") := ⟨R_Top, F_Top, 17, t_Top, rfl, iw_Top, by decide, by decide +kernel, gt_2 118 rfl rfl, rfl, t_Top_ok, n_Top, by decide +kernel, rfl⟩
theorem cl_Top_67 : Cond.classLink "WomenByTheRoofs" 67 "WomenByTheRoofs$History" ∈ gw ∧ Cond.instantiable "WomenByTheRoofs$History" 4 ∈ gw ∧ Cond.initialized "WomenByTheRoofs$History" ∈ gw := ⟨gt_2 14 rfl rfl, gt_2 15 rfl rfl, gt_1 9 rfl rfl⟩
theorem ff_Top_70 : fFin "WomenByTheRoofs" 70 11 10 (.object "WomenByTheRoofs$History") := ⟨R_Top, F_Top, 17, t_Top, rfl, iw_Top, by decide, by decide +kernel, gt_2 119 rfl rfl, rfl, t_Top_ok, n_Top, by decide +kernel, rfl⟩
theorem cl_Top_74 : Cond.classLink "WomenByTheRoofs" 74 "WomenByTheRoofs$Acts" ∈ gw ∧ Cond.instantiable "WomenByTheRoofs$Acts" 4 ∈ gw ∧ Cond.initialized "WomenByTheRoofs$Acts" ∈ gw := ⟨gt_2 37 rfl rfl, gt_2 38 rfl rfl, gt_1 10 rfl rfl⟩
theorem ff_Top_77 : fFin "WomenByTheRoofs" 77 11 11 (.object "WomenByTheRoofs$Acts") := ⟨R_Top, F_Top, 17, t_Top, rfl, iw_Top, by decide, by decide +kernel, gt_2 120 rfl rfl, rfl, t_Top_ok, n_Top, by decide +kernel, rfl⟩
theorem cl_Top_81 : Cond.classLink "WomenByTheRoofs" 81 "WomenByTheRoofs$Thief" ∈ gw ∧ Cond.instantiable "WomenByTheRoofs$Thief" 4 ∈ gw ∧ Cond.initialized "WomenByTheRoofs$Thief" ∈ gw := ⟨gt_2 59 rfl rfl, gt_2 60 rfl rfl, gt_1 11 rfl rfl⟩
theorem ff_Top_84 : fFin "WomenByTheRoofs" 84 11 12 (.object "WomenByTheRoofs$Thief") := ⟨R_Top, F_Top, 17, t_Top, rfl, iw_Top, by decide, by decide +kernel, gt_2 121 rfl rfl, rfl, t_Top_ok, n_Top, by decide +kernel, rfl⟩
theorem cl_Top_88 : Cond.classLink "WomenByTheRoofs" 88 "WomenByTheRoofs$Ways" ∈ gw ∧ Cond.instantiable "WomenByTheRoofs$Ways" 6 ∈ gw ∧ Cond.initialized "WomenByTheRoofs$Ways" ∈ gw := ⟨gt_2 80 rfl rfl, gt_2 81 rfl rfl, gt_1 12 rfl rfl⟩
theorem ff_Top_91 : fFin "WomenByTheRoofs" 91 11 13 (.object "WomenByTheRoofs$Ways") := ⟨R_Top, F_Top, 17, t_Top, rfl, iw_Top, by decide, by decide +kernel, gt_2 122 rfl rfl, rfl, t_Top_ok, n_Top, by decide +kernel, rfl⟩
theorem ff_Top_95 : fFin "WomenByTheRoofs" 95 11 14 (.array .int) := ⟨R_Top, F_Top, 17, t_Top, rfl, iw_Top, by decide, by decide +kernel, gt_2 123 rfl rfl, rfl, t_Top_ok, n_Top, by decide +kernel, rfl⟩
theorem yi_Top : (Cond.instanceMethod y_Top_init ∈ gw ∧ Cond.initialized y_Top_init.cls ∈ gw ∧ Cond.code y_Top_init b_Top_init 1 none ∈ gw) ∧ (y_Top_init.name = "<init>" ∧ (y_Top_init.cls ≠ "java/lang/invoke/MethodHandle" ∧ y_Top_init.cls ≠ "java/lang/invoke/VarHandle" ∧ (parseMethodDescriptor y_Top_init.desc).map (fun d => d.parameters.length) = some 0) ∧ 1 ≤ 21) := ⟨⟨gt_1 26 rfl rfl, gt_1 1 rfl rfl, gt_1 27 rfl rfl⟩, by decide +kernel⟩
theorem d_Mod_init_0 : decode b_Mod_init 0 = .ok (.aload_n 0, 1) := kq_42 byq_r (by decide +kernel)
theorem d_Mod_init_1 : decode b_Mod_init 1 = .ok (.invokespecial 3, 3) := kq_183 byq_r (a := 0) (b := 3) (by decide +kernel)
theorem d_Mod_init_4 : decode b_Mod_init 4 = .ok (.aload_n 0, 1) := kq_42 byq_r (by decide +kernel)
theorem d_Mod_init_5 : decode b_Mod_init 5 = .ok (.bipush 96, 2) := kq_16 byq_r (b := 96) (by decide +kernel)
theorem d_Mod_init_7 : decode b_Mod_init 7 = .ok (.newarray .int, 2) := by decide +kernel
theorem d_Mod_init_9 : decode b_Mod_init 9 = .ok (.putfield 9, 3) := kq_181 byq_r (a := 0) (b := 9) (by decide +kernel)
theorem d_Mod_init_12 : decode b_Mod_init 12 = .ok (.aload_n 0, 1) := kq_42 byq_r (by decide +kernel)
theorem d_Mod_init_13 : decode b_Mod_init 13 = .ok (.bipush 36, 2) := kq_16 byq_r (b := 36) (by decide +kernel)
theorem d_Mod_init_15 : decode b_Mod_init 15 = .ok (.newarray .int, 2) := by decide +kernel
theorem d_Mod_init_17 : decode b_Mod_init 17 = .ok (.putfield 13, 3) := kq_181 byq_r (a := 0) (b := 13) (by decide +kernel)
theorem d_Mod_init_20 : decode b_Mod_init 20 = .ok (.aload_n 0, 1) := kq_42 byq_r (by decide +kernel)
theorem d_Mod_init_21 : decode b_Mod_init 21 = .ok (.iconst 1, 1) := kq_4 byq_r (by decide +kernel)
theorem d_Mod_init_22 : decode b_Mod_init 22 = .ok (.putfield 16, 3) := kq_181 byq_r (a := 0) (b := 16) (by decide +kernel)
theorem d_Mod_init_25 : decode b_Mod_init 25 = .ok (.aload_n 0, 1) := kq_42 byq_r (by decide +kernel)
theorem d_Mod_init_26 : decode b_Mod_init 26 = .ok (.iconst 1, 1) := kq_4 byq_r (by decide +kernel)
theorem d_Mod_init_27 : decode b_Mod_init 27 = .ok (.putfield 20, 3) := kq_181 byq_r (a := 0) (b := 20) (by decide +kernel)
theorem d_Mod_init_30 : decode b_Mod_init 30 = .ok (.aload_n 0, 1) := kq_42 byq_r (by decide +kernel)
theorem d_Mod_init_31 : decode b_Mod_init 31 = .ok (.bipush 72, 2) := kq_16 byq_r (b := 72) (by decide +kernel)
theorem d_Mod_init_33 : decode b_Mod_init 33 = .ok (.newarray .int, 2) := by decide +kernel
theorem d_Mod_init_35 : decode b_Mod_init 35 = .ok (.putfield 23, 3) := kq_181 byq_r (a := 0) (b := 23) (by decide +kernel)
theorem d_Mod_init_38 : decode b_Mod_init 38 = .ok (.aload_n 0, 1) := kq_42 byq_r (by decide +kernel)
theorem d_Mod_init_39 : decode b_Mod_init 39 = .ok (.bipush 8, 2) := kq_16 byq_r (b := 8) (by decide +kernel)
theorem d_Mod_init_41 : decode b_Mod_init 41 = .ok (.newarray .int, 2) := by decide +kernel
theorem d_Mod_init_43 : decode b_Mod_init 43 = .ok (.putfield 26, 3) := kq_181 byq_r (a := 0) (b := 26) (by decide +kernel)
theorem d_Mod_init_46 : decode b_Mod_init 46 = .ok (.aload_n 0, 1) := kq_42 byq_r (by decide +kernel)
theorem d_Mod_init_47 : decode b_Mod_init 47 = .ok (.iconst (-1), 1) := kq_2 byq_r (by decide +kernel)
theorem d_Mod_init_48 : decode b_Mod_init 48 = .ok (.putfield 29, 3) := kq_181 byq_r (a := 0) (b := 29) (by decide +kernel)
theorem d_Mod_init_51 : decode b_Mod_init 51 = .ok (.aload_n 0, 1) := kq_42 byq_r (by decide +kernel)
theorem d_Mod_init_52 : decode b_Mod_init 52 = .ok (.bipush 80, 2) := kq_16 byq_r (b := 80) (by decide +kernel)
theorem d_Mod_init_54 : decode b_Mod_init 54 = .ok (.newarray .byte, 2) := by decide +kernel
theorem d_Mod_init_56 : decode b_Mod_init 56 = .ok (.putfield 32, 3) := kq_181 byq_r (a := 0) (b := 32) (by decide +kernel)
theorem d_Mod_init_59 : decode b_Mod_init 59 = .ok (.aload_n 0, 1) := kq_42 byq_r (by decide +kernel)
theorem d_Mod_init_60 : decode b_Mod_init 60 = .ok (.bipush 16, 2) := kq_16 byq_r (b := 16) (by decide +kernel)
theorem d_Mod_init_62 : decode b_Mod_init 62 = .ok (.newarray .int, 2) := by decide +kernel
theorem d_Mod_init_64 : decode b_Mod_init 64 = .ok (.putfield 36, 3) := kq_181 byq_r (a := 0) (b := 36) (by decide +kernel)
theorem d_Mod_init_67 : decode b_Mod_init 67 = .ok (.aload_n 0, 1) := kq_42 byq_r (by decide +kernel)
theorem d_Mod_init_68 : decode b_Mod_init 68 = .ok (.bipush 36, 2) := kq_16 byq_r (b := 36) (by decide +kernel)
theorem d_Mod_init_70 : decode b_Mod_init 70 = .ok (.newarray .int, 2) := by decide +kernel
theorem d_Mod_init_72 : decode b_Mod_init 72 = .ok (.putfield 39, 3) := kq_181 byq_r (a := 0) (b := 39) (by decide +kernel)
theorem d_Mod_init_75 : decode b_Mod_init 75 = .ok (.aload_n 0, 1) := kq_42 byq_r (by decide +kernel)
theorem d_Mod_init_76 : decode b_Mod_init 76 = .ok (.bipush 96, 2) := kq_16 byq_r (b := 96) (by decide +kernel)
theorem d_Mod_init_78 : decode b_Mod_init 78 = .ok (.newarray .int, 2) := by decide +kernel
theorem d_Mod_init_80 : decode b_Mod_init 80 = .ok (.putfield 42, 3) := kq_181 byq_r (a := 0) (b := 42) (by decide +kernel)
theorem d_Mod_init_83 : decode b_Mod_init 83 = .ok (.aload_n 0, 1) := kq_42 byq_r (by decide +kernel)
theorem d_Mod_init_84 : decode b_Mod_init 84 = .ok (.bipush 9, 2) := kq_16 byq_r (b := 9) (by decide +kernel)
theorem d_Mod_init_86 : decode b_Mod_init 86 = .ok (.newarray .int, 2) := by decide +kernel
theorem d_Mod_init_88 : decode b_Mod_init 88 = .ok (.putfield 45, 3) := kq_181 byq_r (a := 0) (b := 45) (by decide +kernel)
theorem d_Mod_init_91 : decode b_Mod_init 91 = .ok (.aload_n 0, 1) := kq_42 byq_r (by decide +kernel)
theorem d_Mod_init_92 : decode b_Mod_init 92 = .ok (.bipush 40, 2) := kq_16 byq_r (b := 40) (by decide +kernel)
theorem d_Mod_init_94 : decode b_Mod_init 94 = .ok (.newarray .byte, 2) := by decide +kernel
theorem d_Mod_init_96 : decode b_Mod_init 96 = .ok (.putfield 48, 3) := kq_181 byq_r (a := 0) (b := 48) (by decide +kernel)
theorem d_Mod_init_99 : decode b_Mod_init 99 = .ok (.aload_n 0, 1) := kq_42 byq_r (by decide +kernel)
theorem d_Mod_init_100 : decode b_Mod_init 100 = .ok (.sipush 1152, 3) := kq_17 byq_r (a := 4) (b := 128) (by decide +kernel)
theorem d_Mod_init_103 : decode b_Mod_init 103 = .ok (.newarray .int, 2) := by decide +kernel
theorem d_Mod_init_105 : decode b_Mod_init 105 = .ok (.putfield 51, 3) := kq_181 byq_r (a := 0) (b := 51) (by decide +kernel)
theorem d_Mod_init_108 : decode b_Mod_init 108 = .ok (.aload_n 0, 1) := kq_42 byq_r (by decide +kernel)
theorem d_Mod_init_109 : decode b_Mod_init 109 = .ok (.bipush 96, 2) := kq_16 byq_r (b := 96) (by decide +kernel)
theorem d_Mod_init_111 : decode b_Mod_init 111 = .ok (.newarray .int, 2) := by decide +kernel
theorem d_Mod_init_113 : decode b_Mod_init 113 = .ok (.putfield 54, 3) := kq_181 byq_r (a := 0) (b := 54) (by decide +kernel)
theorem d_Mod_init_116 : decode b_Mod_init 116 = .ok (.aload_n 0, 1) := kq_42 byq_r (by decide +kernel)
theorem d_Mod_init_117 : decode b_Mod_init 117 = .ok (.sipush 240, 3) := kq_17 byq_r (a := 0) (b := 240) (by decide +kernel)
theorem d_Mod_init_120 : decode b_Mod_init 120 = .ok (.newarray .int, 2) := by decide +kernel
theorem d_Mod_init_122 : decode b_Mod_init 122 = .ok (.putfield 57, 3) := kq_181 byq_r (a := 0) (b := 57) (by decide +kernel)
theorem d_Mod_init_125 : decode b_Mod_init 125 = .ok (.aload_n 0, 1) := kq_42 byq_r (by decide +kernel)
theorem d_Mod_init_126 : decode b_Mod_init 126 = .ok (.bipush 96, 2) := kq_16 byq_r (b := 96) (by decide +kernel)
theorem d_Mod_init_128 : decode b_Mod_init 128 = .ok (.newarray .int, 2) := by decide +kernel
theorem d_Mod_init_130 : decode b_Mod_init 130 = .ok (.putfield 60, 3) := kq_181 byq_r (a := 0) (b := 60) (by decide +kernel)
theorem d_Mod_init_133 : decode b_Mod_init 133 = .ok (.aload_n 0, 1) := kq_42 byq_r (by decide +kernel)
theorem d_Mod_init_134 : decode b_Mod_init 134 = .ok (.bipush 72, 2) := kq_16 byq_r (b := 72) (by decide +kernel)
theorem d_Mod_init_136 : decode b_Mod_init 136 = .ok (.newarray .int, 2) := by decide +kernel
theorem d_Mod_init_138 : decode b_Mod_init 138 = .ok (.putfield 63, 3) := kq_181 byq_r (a := 0) (b := 63) (by decide +kernel)
theorem d_Mod_init_141 : decode b_Mod_init 141 = .ok (.aload_n 0, 1) := kq_42 byq_r (by decide +kernel)
theorem d_Mod_init_142 : decode b_Mod_init 142 = .ok (.iconst 2, 1) := kq_5 byq_r (by decide +kernel)
theorem d_Mod_init_143 : decode b_Mod_init 143 = .ok (.newarray .int, 2) := by decide +kernel
theorem d_Mod_init_145 : decode b_Mod_init 145 = .ok (.putfield 66, 3) := kq_181 byq_r (a := 0) (b := 66) (by decide +kernel)
theorem d_Mod_init_148 : decode b_Mod_init 148 = .ok (.aload_n 0, 1) := kq_42 byq_r (by decide +kernel)
theorem d_Mod_init_149 : decode b_Mod_init 149 = .ok (.bipush 36, 2) := kq_16 byq_r (b := 36) (by decide +kernel)
theorem d_Mod_init_151 : decode b_Mod_init 151 = .ok (.newarray .boolean, 2) := by decide +kernel
theorem d_Mod_init_153 : decode b_Mod_init 153 = .ok (.putfield 69, 3) := kq_181 byq_r (a := 0) (b := 69) (by decide +kernel)
theorem d_Mod_init_156 : decode b_Mod_init 156 = .ok (.aload_n 0, 1) := kq_42 byq_r (by decide +kernel)
theorem d_Mod_init_157 : decode b_Mod_init 157 = .ok (.bipush 72, 2) := kq_16 byq_r (b := 72) (by decide +kernel)
theorem d_Mod_init_159 : decode b_Mod_init 159 = .ok (.newarray .int, 2) := by decide +kernel
theorem d_Mod_init_161 : decode b_Mod_init 161 = .ok (.putfield 73, 3) := kq_181 byq_r (a := 0) (b := 73) (by decide +kernel)
theorem d_Mod_init_164 : decode b_Mod_init 164 = .ok (.aload_n 0, 1) := kq_42 byq_r (by decide +kernel)
theorem d_Mod_init_165 : decode b_Mod_init 165 = .ok (.bipush 72, 2) := kq_16 byq_r (b := 72) (by decide +kernel)
theorem d_Mod_init_167 : decode b_Mod_init 167 = .ok (.newarray .int, 2) := by decide +kernel
theorem d_Mod_init_169 : decode b_Mod_init 169 = .ok (.putfield 76, 3) := kq_181 byq_r (a := 0) (b := 76) (by decide +kernel)
theorem d_Mod_init_172 : decode b_Mod_init 172 = .ok (.aload_n 0, 1) := kq_42 byq_r (by decide +kernel)
theorem d_Mod_init_173 : decode b_Mod_init 173 = .ok (.bipush 72, 2) := kq_16 byq_r (b := 72) (by decide +kernel)
theorem d_Mod_init_175 : decode b_Mod_init 175 = .ok (.newarray .int, 2) := by decide +kernel
theorem d_Mod_init_177 : decode b_Mod_init 177 = .ok (.putfield 79, 3) := kq_181 byq_r (a := 0) (b := 79) (by decide +kernel)
theorem d_Mod_init_180 : decode b_Mod_init 180 = .ok (.aload_n 0, 1) := kq_42 byq_r (by decide +kernel)
theorem d_Mod_init_181 : decode b_Mod_init 181 = .ok (.bipush 72, 2) := kq_16 byq_r (b := 72) (by decide +kernel)
theorem d_Mod_init_183 : decode b_Mod_init 183 = .ok (.newarray .int, 2) := by decide +kernel
theorem d_Mod_init_185 : decode b_Mod_init 185 = .ok (.putfield 82, 3) := kq_181 byq_r (a := 0) (b := 82) (by decide +kernel)
theorem d_Mod_init_188 : decode b_Mod_init 188 = .ok (.aload_n 0, 1) := kq_42 byq_r (by decide +kernel)
theorem d_Mod_init_189 : decode b_Mod_init 189 = .ok (.iconst 3, 1) := kq_6 byq_r (by decide +kernel)
theorem d_Mod_init_190 : decode b_Mod_init 190 = .ok (.newarray .int, 2) := by decide +kernel
theorem d_Mod_init_192 : decode b_Mod_init 192 = .ok (.putfield 85, 3) := kq_181 byq_r (a := 0) (b := 85) (by decide +kernel)
theorem d_Mod_init_195 : decode b_Mod_init 195 = .ok (.aload_n 0, 1) := kq_42 byq_r (by decide +kernel)
theorem d_Mod_init_196 : decode b_Mod_init 196 = .ok (.sipush 1296, 3) := kq_17 byq_r (a := 5) (b := 16) (by decide +kernel)
theorem d_Mod_init_199 : decode b_Mod_init 199 = .ok (.newarray .int, 2) := by decide +kernel
theorem d_Mod_init_201 : decode b_Mod_init 201 = .ok (.putfield 88, 3) := kq_181 byq_r (a := 0) (b := 88) (by decide +kernel)
theorem d_Mod_init_204 : decode b_Mod_init 204 = .ok (.aload_n 0, 1) := kq_42 byq_r (by decide +kernel)
theorem d_Mod_init_205 : decode b_Mod_init 205 = .ok (.bipush 72, 2) := kq_16 byq_r (b := 72) (by decide +kernel)
theorem d_Mod_init_207 : decode b_Mod_init 207 = .ok (.newarray .boolean, 2) := by decide +kernel
theorem d_Mod_init_209 : decode b_Mod_init 209 = .ok (.putfield 91, 3) := kq_181 byq_r (a := 0) (b := 91) (by decide +kernel)
theorem d_Mod_init_212 : decode b_Mod_init 212 = .ok (.aload_n 0, 1) := kq_42 byq_r (by decide +kernel)
theorem d_Mod_init_213 : decode b_Mod_init 213 = .ok (.bipush 72, 2) := kq_16 byq_r (b := 72) (by decide +kernel)
theorem d_Mod_init_215 : decode b_Mod_init 215 = .ok (.newarray .boolean, 2) := by decide +kernel
theorem d_Mod_init_217 : decode b_Mod_init 217 = .ok (.putfield 94, 3) := kq_181 byq_r (a := 0) (b := 94) (by decide +kernel)
theorem d_Mod_init_220 : decode b_Mod_init 220 = .ok (.aload_n 0, 1) := kq_42 byq_r (by decide +kernel)
theorem d_Mod_init_221 : decode b_Mod_init 221 = .ok (.bipush 72, 2) := kq_16 byq_r (b := 72) (by decide +kernel)
theorem d_Mod_init_223 : decode b_Mod_init 223 = .ok (.newarray .boolean, 2) := by decide +kernel
theorem d_Mod_init_225 : decode b_Mod_init 225 = .ok (.putfield 97, 3) := kq_181 byq_r (a := 0) (b := 97) (by decide +kernel)
theorem d_Mod_init_228 : decode b_Mod_init 228 = .ok (.aload_n 0, 1) := kq_42 byq_r (by decide +kernel)
theorem d_Mod_init_229 : decode b_Mod_init 229 = .ok (.sipush 192, 3) := kq_17 byq_r (a := 0) (b := 192) (by decide +kernel)
theorem d_Mod_init_232 : decode b_Mod_init 232 = .ok (.newarray .int, 2) := by decide +kernel
theorem d_Mod_init_234 : decode b_Mod_init 234 = .ok (.putfield 100, 3) := kq_181 byq_r (a := 0) (b := 100) (by decide +kernel)
theorem d_Mod_init_237 : decode b_Mod_init 237 = .ok (.aload_n 0, 1) := kq_42 byq_r (by decide +kernel)
theorem d_Mod_init_238 : decode b_Mod_init 238 = .ok (.iconst 2, 1) := kq_5 byq_r (by decide +kernel)
theorem d_Mod_init_239 : decode b_Mod_init 239 = .ok (.newarray .boolean, 2) := by decide +kernel
theorem d_Mod_init_241 : decode b_Mod_init 241 = .ok (.putfield 103, 3) := kq_181 byq_r (a := 0) (b := 103) (by decide +kernel)
theorem d_Mod_init_244 : decode b_Mod_init 244 = .ok (.aload_n 0, 1) := kq_42 byq_r (by decide +kernel)
theorem d_Mod_init_245 : decode b_Mod_init 245 = .ok (.iconst 2, 1) := kq_5 byq_r (by decide +kernel)
theorem d_Mod_init_246 : decode b_Mod_init 246 = .ok (.newarray .int, 2) := by decide +kernel
theorem d_Mod_init_248 : decode b_Mod_init 248 = .ok (.putfield 106, 3) := kq_181 byq_r (a := 0) (b := 106) (by decide +kernel)
theorem d_Mod_init_251 : decode b_Mod_init 251 = .ok (.aload_n 0, 1) := kq_42 byq_r (by decide +kernel)
theorem d_Mod_init_252 : decode b_Mod_init 252 = .ok (.getfield 13, 3) := kq_180 byq_r (a := 0) (b := 13) (by decide +kernel)
theorem d_Mod_init_255 : decode b_Mod_init 255 = .ok (.iconst 0, 1) := kq_3 byq_r (by decide +kernel)
theorem d_Mod_init_256 : decode b_Mod_init 256 = .ok (.iconst 3, 1) := kq_6 byq_r (by decide +kernel)
theorem d_Mod_init_257 : decode b_Mod_init 257 = .ok (.iastore, 1) := kq_79 byq_r (by decide +kernel)
theorem d_Mod_init_258 : decode b_Mod_init 258 = .ok (.return_, 1) := kq_177 byq_r (by decide +kernel)
theorem ff_Mod_9 : fFin "WomenByTheRoofsModel" 9 12 0 (.array .int) := ⟨R_Mod, F_Mod, 52, t_Mod, rfl, iw_Mod, by decide, by decide +kernel, gt_6 39 rfl rfl, rfl, t_Mod_ok, n_Mod, by decide +kernel, rfl⟩
theorem ff_Mod_13 : fFin "WomenByTheRoofsModel" 13 12 1 (.array .int) := ⟨R_Mod, F_Mod, 52, t_Mod, rfl, iw_Mod, by decide, by decide +kernel, gt_6 40 rfl rfl, rfl, t_Mod_ok, n_Mod, by decide +kernel, rfl⟩
theorem ff_Mod_23 : fFin "WomenByTheRoofsModel" 23 12 6 (.array .int) := ⟨R_Mod, F_Mod, 52, t_Mod, rfl, iw_Mod, by decide, by decide +kernel, gt_6 45 rfl rfl, rfl, t_Mod_ok, n_Mod, by decide +kernel, rfl⟩
theorem ff_Mod_26 : fFin "WomenByTheRoofsModel" 26 12 7 (.array .int) := ⟨R_Mod, F_Mod, 52, t_Mod, rfl, iw_Mod, by decide, by decide +kernel, gt_6 46 rfl rfl, rfl, t_Mod_ok, n_Mod, by decide +kernel, rfl⟩
theorem ff_Mod_32 : fFin "WomenByTheRoofsModel" 32 12 9 (.array .byte) := ⟨R_Mod, F_Mod, 52, t_Mod, rfl, iw_Mod, by decide, by decide +kernel, gt_6 48 rfl rfl, rfl, t_Mod_ok, n_Mod, by decide +kernel, rfl⟩
theorem ff_Mod_36 : fFin "WomenByTheRoofsModel" 36 12 11 (.array .int) := ⟨R_Mod, F_Mod, 52, t_Mod, rfl, iw_Mod, by decide, by decide +kernel, gt_6 50 rfl rfl, rfl, t_Mod_ok, n_Mod, by decide +kernel, rfl⟩
theorem ff_Mod_39 : fFin "WomenByTheRoofsModel" 39 12 19 (.array .int) := ⟨R_Mod, F_Mod, 52, t_Mod, rfl, iw_Mod, by decide, by decide +kernel, gt_6 58 rfl rfl, rfl, t_Mod_ok, n_Mod, by decide +kernel, rfl⟩
theorem ff_Mod_42 : fFin "WomenByTheRoofsModel" 42 12 20 (.array .int) := ⟨R_Mod, F_Mod, 52, t_Mod, rfl, iw_Mod, by decide, by decide +kernel, gt_6 59 rfl rfl, rfl, t_Mod_ok, n_Mod, by decide +kernel, rfl⟩
theorem ff_Mod_45 : fFin "WomenByTheRoofsModel" 45 12 21 (.array .int) := ⟨R_Mod, F_Mod, 52, t_Mod, rfl, iw_Mod, by decide, by decide +kernel, gt_6 60 rfl rfl, rfl, t_Mod_ok, n_Mod, by decide +kernel, rfl⟩
theorem ff_Mod_48 : fFin "WomenByTheRoofsModel" 48 12 22 (.array .byte) := ⟨R_Mod, F_Mod, 52, t_Mod, rfl, iw_Mod, by decide, by decide +kernel, gt_6 61 rfl rfl, rfl, t_Mod_ok, n_Mod, by decide +kernel, rfl⟩
theorem ff_Mod_51 : fFin "WomenByTheRoofsModel" 51 12 26 (.array .int) := ⟨R_Mod, F_Mod, 52, t_Mod, rfl, iw_Mod, by decide, by decide +kernel, gt_6 65 rfl rfl, rfl, t_Mod_ok, n_Mod, by decide +kernel, rfl⟩
theorem ff_Mod_54 : fFin "WomenByTheRoofsModel" 54 12 28 (.array .int) := ⟨R_Mod, F_Mod, 52, t_Mod, rfl, iw_Mod, by decide, by decide +kernel, gt_6 67 rfl rfl, rfl, t_Mod_ok, n_Mod, by decide +kernel, rfl⟩
theorem ff_Mod_57 : fFin "WomenByTheRoofsModel" 57 12 32 (.array .int) := ⟨R_Mod, F_Mod, 52, t_Mod, rfl, iw_Mod, by decide, by decide +kernel, gt_6 71 rfl rfl, rfl, t_Mod_ok, n_Mod, by decide +kernel, rfl⟩
theorem ff_Mod_60 : fFin "WomenByTheRoofsModel" 60 12 34 (.array .int) := ⟨R_Mod, F_Mod, 52, t_Mod, rfl, iw_Mod, by decide, by decide +kernel, gt_6 73 rfl rfl, rfl, t_Mod_ok, n_Mod, by decide +kernel, rfl⟩
theorem ff_Mod_63 : fFin "WomenByTheRoofsModel" 63 12 35 (.array .int) := ⟨R_Mod, F_Mod, 52, t_Mod, rfl, iw_Mod, by decide, by decide +kernel, gt_6 74 rfl rfl, rfl, t_Mod_ok, n_Mod, by decide +kernel, rfl⟩
theorem ff_Mod_66 : fFin "WomenByTheRoofsModel" 66 12 36 (.array .int) := ⟨R_Mod, F_Mod, 52, t_Mod, rfl, iw_Mod, by decide, by decide +kernel, gt_6 75 rfl rfl, rfl, t_Mod_ok, n_Mod, by decide +kernel, rfl⟩
theorem ff_Mod_69 : fFin "WomenByTheRoofsModel" 69 12 37 (.array .boolean) := ⟨R_Mod, F_Mod, 52, t_Mod, rfl, iw_Mod, by decide, by decide +kernel, gt_6 76 rfl rfl, rfl, t_Mod_ok, n_Mod, by decide +kernel, rfl⟩
theorem ff_Mod_73 : fFin "WomenByTheRoofsModel" 73 12 38 (.array .int) := ⟨R_Mod, F_Mod, 52, t_Mod, rfl, iw_Mod, by decide, by decide +kernel, gt_6 77 rfl rfl, rfl, t_Mod_ok, n_Mod, by decide +kernel, rfl⟩
theorem ff_Mod_76 : fFin "WomenByTheRoofsModel" 76 12 39 (.array .int) := ⟨R_Mod, F_Mod, 52, t_Mod, rfl, iw_Mod, by decide, by decide +kernel, gt_6 78 rfl rfl, rfl, t_Mod_ok, n_Mod, by decide +kernel, rfl⟩
theorem ff_Mod_79 : fFin "WomenByTheRoofsModel" 79 12 40 (.array .int) := ⟨R_Mod, F_Mod, 52, t_Mod, rfl, iw_Mod, by decide, by decide +kernel, gt_6 79 rfl rfl, rfl, t_Mod_ok, n_Mod, by decide +kernel, rfl⟩
theorem ff_Mod_82 : fFin "WomenByTheRoofsModel" 82 12 41 (.array .int) := ⟨R_Mod, F_Mod, 52, t_Mod, rfl, iw_Mod, by decide, by decide +kernel, gt_6 80 rfl rfl, rfl, t_Mod_ok, n_Mod, by decide +kernel, rfl⟩
theorem ff_Mod_85 : fFin "WomenByTheRoofsModel" 85 12 43 (.array .int) := ⟨R_Mod, F_Mod, 52, t_Mod, rfl, iw_Mod, by decide, by decide +kernel, gt_6 82 rfl rfl, rfl, t_Mod_ok, n_Mod, by decide +kernel, rfl⟩
theorem ff_Mod_88 : fFin "WomenByTheRoofsModel" 88 12 44 (.array .int) := ⟨R_Mod, F_Mod, 52, t_Mod, rfl, iw_Mod, by decide, by decide +kernel, gt_6 83 rfl rfl, rfl, t_Mod_ok, n_Mod, by decide +kernel, rfl⟩
theorem ff_Mod_91 : fFin "WomenByTheRoofsModel" 91 12 45 (.array .boolean) := ⟨R_Mod, F_Mod, 52, t_Mod, rfl, iw_Mod, by decide, by decide +kernel, gt_6 84 rfl rfl, rfl, t_Mod_ok, n_Mod, by decide +kernel, rfl⟩
theorem ff_Mod_94 : fFin "WomenByTheRoofsModel" 94 12 46 (.array .boolean) := ⟨R_Mod, F_Mod, 52, t_Mod, rfl, iw_Mod, by decide, by decide +kernel, gt_6 85 rfl rfl, rfl, t_Mod_ok, n_Mod, by decide +kernel, rfl⟩
theorem ff_Mod_97 : fFin "WomenByTheRoofsModel" 97 12 47 (.array .boolean) := ⟨R_Mod, F_Mod, 52, t_Mod, rfl, iw_Mod, by decide, by decide +kernel, gt_6 86 rfl rfl, rfl, t_Mod_ok, n_Mod, by decide +kernel, rfl⟩
theorem ff_Mod_100 : fFin "WomenByTheRoofsModel" 100 12 49 (.array .int) := ⟨R_Mod, F_Mod, 52, t_Mod, rfl, iw_Mod, by decide, by decide +kernel, gt_6 88 rfl rfl, rfl, t_Mod_ok, n_Mod, by decide +kernel, rfl⟩
theorem ff_Mod_103 : fFin "WomenByTheRoofsModel" 103 12 50 (.array .boolean) := ⟨R_Mod, F_Mod, 52, t_Mod, rfl, iw_Mod, by decide, by decide +kernel, gt_6 89 rfl rfl, rfl, t_Mod_ok, n_Mod, by decide +kernel, rfl⟩
theorem ff_Mod_106 : fFin "WomenByTheRoofsModel" 106 12 51 (.array .int) := ⟨R_Mod, F_Mod, 52, t_Mod, rfl, iw_Mod, by decide, by decide +kernel, gt_6 90 rfl rfl, rfl, t_Mod_ok, n_Mod, by decide +kernel, rfl⟩
theorem yi_Mod : (Cond.instanceMethod y_Mod_init ∈ gw ∧ Cond.initialized y_Mod_init.cls ∈ gw ∧ Cond.code y_Mod_init b_Mod_init 1 none ∈ gw) ∧ (y_Mod_init.name = "<init>" ∧ (y_Mod_init.cls ≠ "java/lang/invoke/MethodHandle" ∧ y_Mod_init.cls ≠ "java/lang/invoke/VarHandle" ∧ (parseMethodDescriptor y_Mod_init.desc).map (fun d => d.parameters.length) = some 0) ∧ 1 ≤ 21) := ⟨⟨gt_6 36 rfl rfl, gt_1 13 rfl rfl, gt_6 37 rfl rfl⟩, by decide +kernel⟩
theorem fv_r {G : Gw} {M : Mem} {k c j k2 : Nat} (h : fc c j = 2) (hr : rf k j = k2) : fv G M k c j = .ref (G.2.2 + k2) := by simp [fv, h, hr]
theorem fv_i {G : Gw} {M : Mem} {k c j : Nat} {v : Int32} (h : fc c j = 0) (hv : M.1 k j = v) : fv G M k c j = .int v := by simp [fv, h, hv]
theorem fv_l {G : Gw} {M : Mem} {k c j : Nat} {v : Int64} (h : fc c j = 1) (hv : M.2.1 k j = v) : fv G M k c j = .long v := by simp [fv, h, hv]
theorem fv_q {G : Gw} {M : Mem} {k c j : Nat} (h : fc c j = 3) (hv : M.2.2 k j = none) : fv G M k c j = .null := by simp [fv, h, hv, va_rf]
theorem sScene_0 {k : Nat} (h : kd k = 10 + 7) : kd (k + 1) = 1 ∧ ln (k + 1) = 8 ∧ rf k 0 = k + 1 := by
  have h1 : ∀ k, k < NT → kd k = 10 + 7 → kd (k + 1) = 1 ∧ ln (k + 1) = 8 ∧ rf k 0 = k + 1 := by decide +kernel
  exact h1 k (kd_lt (by omega)) h
theorem sScene_1 {k : Nat} (h : kd k = 10 + 7) : kd (k + 2) = 1 ∧ ln (k + 2) = 8 ∧ rf k 1 = k + 2 := by
  have h1 : ∀ k, k < NT → kd k = 10 + 7 → kd (k + 2) = 1 ∧ ln (k + 2) = 8 ∧ rf k 1 = k + 2 := by decide +kernel
  exact h1 k (kd_lt (by omega)) h
theorem sScene_2 {k : Nat} (h : kd k = 10 + 7) : kd (k + 3) = 1 ∧ ln (k + 3) = 8 ∧ rf k 2 = k + 3 := by
  have h1 : ∀ k, k < NT → kd k = 10 + 7 → kd (k + 3) = 1 ∧ ln (k + 3) = 8 ∧ rf k 2 = k + 3 := by decide +kernel
  exact h1 k (kd_lt (by omega)) h
theorem sScene_3 {k : Nat} (h : kd k = 10 + 7) : kd (k + 4) = 1 ∧ ln (k + 4) = 64 ∧ rf k 3 = k + 4 := by
  have h1 : ∀ k, k < NT → kd k = 10 + 7 → kd (k + 4) = 1 ∧ ln (k + 4) = 64 ∧ rf k 3 = k + 4 := by decide +kernel
  exact h1 k (kd_lt (by omega)) h
theorem sScene_4 {k : Nat} (h : kd k = 10 + 7) : kd (k + 5) = 1 ∧ ln (k + 5) = 6 ∧ rf k 4 = k + 5 := by
  have h1 : ∀ k, k < NT → kd k = 10 + 7 → kd (k + 5) = 1 ∧ ln (k + 5) = 6 ∧ rf k 4 = k + 5 := by decide +kernel
  exact h1 k (kd_lt (by omega)) h
theorem sScene_5 {k : Nat} (h : kd k = 10 + 7) : kd (k + 6) = 1 ∧ ln (k + 6) = 6 ∧ rf k 5 = k + 6 := by
  have h1 : ∀ k, k < NT → kd k = 10 + 7 → kd (k + 6) = 1 ∧ ln (k + 6) = 6 ∧ rf k 5 = k + 6 := by decide +kernel
  exact h1 k (kd_lt (by omega)) h
theorem sNets_0 {k : Nat} (h : kd k = 10 + 6) : kd (k + 1) = 4 ∧ ln (k + 1) = 2 ∧ rf k 0 = k + 1 := by
  have h1 : ∀ k, k < NT → kd k = 10 + 6 → kd (k + 1) = 4 ∧ ln (k + 1) = 2 ∧ rf k 0 = k + 1 := by decide +kernel
  exact h1 k (kd_lt (by omega)) h
theorem sNets_1 {k : Nat} (h : kd k = 10 + 6) : kd (k + 2) = 4 ∧ ln (k + 2) = 72 ∧ rf k 1 = k + 2 := by
  have h1 : ∀ k, k < NT → kd k = 10 + 6 → kd (k + 2) = 4 ∧ ln (k + 2) = 72 ∧ rf k 1 = k + 2 := by decide +kernel
  exact h1 k (kd_lt (by omega)) h
theorem sNets_2 {k : Nat} (h : kd k = 10 + 6) : kd (k + 3) = 1 ∧ ln (k + 3) = 288 ∧ rf k 2 = k + 3 := by
  have h1 : ∀ k, k < NT → kd k = 10 + 6 → kd (k + 3) = 1 ∧ ln (k + 3) = 288 ∧ rf k 2 = k + 3 := by decide +kernel
  exact h1 k (kd_lt (by omega)) h
theorem kdp : ∀ i, i < 12 → kd (49 + 7 * i) = 10 + 7 := by decide +kernel
theorem kds : ∀ i, i < 2 → kd (133 + 7 * i) = 10 + 7 := by decide +kernel
set_option maxHeartbeats 1000000 in
theorem n_Signs_init (l : Launch) (G : Gw) (M : Mem) (o : Nat → Option va_E) (hM : Zr M 1) (ho : ∀ i, 1 ≤ i → o i = none) (d : Nat) (hD : 1 ≤ d) : Cn l G y_Signs_init b_Signs_init 1 d 1 M (o_s o 1 (some (.inr (8, [.null, .int 0, .int 0])))) 2 M o 1 80 := by
  refine Cn_of (by decide) rfl (by decide) (fun E hE X hz hin ha hR => ?_)
  subst hE
  have h0 : G.2.2 ≤ E.2.2.2.2.1.heap.size := by omega
  have hrc : E.2.2.2.1.cells = 1 := by rw [hR]; rfl
  have hrs : E.2.2.2.1.slots = 80 := by rw [hR]; rfl
  have hM0 : M.1 1 = fun _ => 0 := (hM 1 (Nat.le_refl _)).1
  have hM1 : M.2.1 1 = fun _ => 0 := (hM 1 (Nat.le_refl _)).2.1
  have hM2 : M.2.2 1 = fun _ => none := (hM 1 (Nat.le_refl _)).2.2
  refine N_aload_n (j := 0) X d_Signs_init_0 rfl rfl rfl ?_
  refine N_obj X ml_Signs_3 ob_w (by omega) (Nat.le_of_ble_eq_true rfl) d_Signs_init_1 rfl ?_
  refine N_aload_n (j := 0) X d_Signs_init_4 rfl rfl rfl ?_
  refine N_bipush (v := 80) X d_Signs_init_5 (by decide) rfl ?_
  refine N_newa (n := 2) (cs' := (1, 80)) (t := 1) (N := 80) (ty := .int) (a0 := (80, .inl (fun _ => 0))) X (by dsimp only; omega) h0 ⟨by rw [hrc]; decide, by rw [hrs]; decide⟩ aw_int rfl rfl (fun _ => nofun) (fun _ => rfl) (by decide) (by decide) (by decide) (o_ne (by omega) (ho _ (by omega))) (new_i (show Zr M 2 from (fun i hi => hM i (by omega))) (by omega) kd_2 (by decide) ln_2) d_Signs_init_7 rfl rfl ?_
  refine N_fin2 (fs' := [.ref (G.2.2 + 2), .int 0, .int 0]) X hin ff_Signs_9 (by omega) (Nat.le_of_ble_eq_true rfl) rfl rfl rfl d_Signs_init_9 rfl ?_
  refine N_done2 (M' := M) (ho 1 (Nat.le_refl _)) (by rw [dsc_o kd_1]; show Sum.inr (8, [fv G M 1 8 0, fv G M 1 8 1, fv G M 1 8 2]) = _; rw [fv_r (j := 0) rfl rf_1_0, fv_i (j := 1) (v := 0) rfl (by simp [s_i, s_l, fil, qfl, mG, mN, mH, hM0]), fv_i (j := 2) (v := 0) rfl (by simp [s_i, s_l, fil, qfl, mG, mN, mH, hM0])]) (fun a h => rfl) ?_
  exact N_ret X ⟨by decide, by decide⟩ d_Signs_init_12
set_option maxHeartbeats 1000000 in
theorem n_Ground_init (l : Launch) (G : Gw) (M : Mem) (o : Nat → Option va_E) (hM : Zr M 3) (ho : ∀ i, 3 ≤ i → o i = none) (d : Nat) (hD : 1 ≤ d) : Cn l G y_Ground_init b_Ground_init 1 d 3 M (o_s o 3 (some (.inr (3, [.null, .null, .int 0, .int 0])))) 4 (mG M) o 2 72 := by
  refine Cn_of (by decide) rfl (by decide) (fun E hE X hz hin ha hR => ?_)
  subst hE
  have h0 : G.2.2 ≤ E.2.2.2.2.1.heap.size := by omega
  have hrc : E.2.2.2.1.cells = 2 := by rw [hR]; rfl
  have hrs : E.2.2.2.1.slots = 72 := by rw [hR]; rfl
  have hM0 : M.1 3 = fun _ => 0 := (hM 3 (Nat.le_refl _)).1
  have hM1 : M.2.1 3 = fun _ => 0 := (hM 3 (Nat.le_refl _)).2.1
  have hM2 : M.2.2 3 = fun _ => none := (hM 3 (Nat.le_refl _)).2.2
  refine N_aload_n (j := 0) X d_Ground_init_0 rfl rfl rfl ?_
  refine N_obj X ml_Ground_3 ob_w (by omega) (Nat.le_of_ble_eq_true rfl) d_Ground_init_1 rfl ?_
  refine N_aload_n (j := 0) X d_Ground_init_4 rfl rfl rfl ?_
  refine N_bipush (v := 36) X d_Ground_init_5 (by decide) rfl ?_
  refine N_newa (n := 4) (cs' := (1, 36)) (t := 1) (N := 36) (ty := .int) (a0 := (36, .inl (fun _ => 0))) X (by dsimp only; omega) h0 ⟨by rw [hrc]; decide, by rw [hrs]; decide⟩ aw_int rfl rfl (fun _ => nofun) (fun _ => rfl) (by decide) (by decide) (by decide) (o_ne (by omega) (ho _ (by omega))) (new_i (show Zr M 4 from (fun i hi => hM i (by omega))) (by omega) kd_4 (by decide) ln_4) d_Ground_init_7 rfl rfl ?_
  refine N_fin2 (fs' := [.ref (G.2.2 + 4), .null, .int 0, .int 0]) X hin ff_Ground_9 (by omega) (Nat.le_of_ble_eq_true rfl) rfl rfl rfl d_Ground_init_9 rfl ?_
  refine N_aload_n (j := 0) X d_Ground_init_12 rfl rfl rfl ?_
  refine N_bipush (v := 36) X d_Ground_init_13 (by decide) rfl ?_
  refine N_newa (n := 5) (cs' := (2, 72)) (t := 1) (N := 36) (ty := .int) (a0 := (36, .inl (fun _ => 0))) X (by dsimp only; omega) h0 ⟨by rw [hrc]; decide, by rw [hrs]; decide⟩ aw_int rfl rfl (fun _ => nofun) (fun _ => rfl) (by decide) (by decide) (by decide) (o_ne (by omega) (ho _ (by omega))) (new_i (show Zr M 5 from (fun i hi => hM i (by omega))) (by omega) kd_5 (by decide) ln_5) d_Ground_init_15 rfl rfl ?_
  refine N_fin2 (fs' := [.ref (G.2.2 + 4), .ref (G.2.2 + 5), .int 0, .int 0]) X hin ff_Ground_15 (by omega) (Nat.le_of_ble_eq_true rfl) rfl rfl rfl d_Ground_init_17 rfl ?_
  refine N_aload_n (j := 0) X d_Ground_init_20 rfl rfl rfl ?_
  refine N_iconst (v := 1) X d_Ground_init_21 (by decide) rfl ?_
  refine N_putu2 (fs' := [.ref (G.2.2 + 4), .ref (G.2.2 + 5), .int 1, .int 0]) X fp_Ground_18 (by omega) (Nat.le_of_ble_eq_true rfl) rfl rfl rfl d_Ground_init_22 rfl ?_
  refine N_aload_n (j := 0) X d_Ground_init_25 rfl rfl rfl ?_
  refine N_iconst (v := 1) X d_Ground_init_26 (by decide) rfl ?_
  refine N_putu2 (fs' := [.ref (G.2.2 + 4), .ref (G.2.2 + 5), .int 1, .int 1]) X fp_Ground_22 (by omega) (Nat.le_of_ble_eq_true rfl) rfl rfl rfl d_Ground_init_27 rfl ?_
  refine N_aload_n (j := 0) X d_Ground_init_30 rfl rfl rfl ?_
  refine N_done2 (M' := (s_i (s_i M 3 2 1) 3 3 1)) (ho 3 (Nat.le_refl _)) (by rw [dsc_o kd_3]; show Sum.inr (3, [fv G (s_i (s_i M 3 2 1) 3 3 1) 3 3 0, fv G (s_i (s_i M 3 2 1) 3 3 1) 3 3 1, fv G (s_i (s_i M 3 2 1) 3 3 1) 3 3 2, fv G (s_i (s_i M 3 2 1) 3 3 1) 3 3 3]) = _; rw [fv_r (j := 0) rfl rf_3_0, fv_r (j := 1) rfl rf_3_1, fv_i (j := 2) (v := 1) rfl (by simp [s_i, s_l, fil, qfl, mG, mN, mH, hM0]), fv_i (j := 3) (v := 1) rfl (by simp [s_i, s_l, fil, qfl, mG, mN, mH, hM0])]) (fun a h => by rw [dsc_si h, dsc_si h]) ?_
  refine N_getr (k2 := 4) X fo_Ground_9 (by omega) (ho _ (by omega)) kd_3 rfl rf_3_0 d_Ground_init_31 rfl ?_
  refine N_iconst (v := 0) X d_Ground_init_34 (by decide) rfl ?_
  refine N_iconst (v := 3) X d_Ground_init_35 (by decide) rfl ?_
  refine N_iast X (by omega) (ho _ (by omega)) kd_4 (inb_in ln_4 (by decide)) d_Ground_init_36 rfl ?_
  show Nj _ _ _ _ _ (s_i (s_i (s_i M 3 2 1) 3 3 1) 4 0 3) _ _ _ _ _
  exact N_ret X ⟨by decide, by decide⟩ d_Ground_init_37
set_option maxHeartbeats 1000000 in
theorem n_Crowd_init (l : Launch) (G : Gw) (M : Mem) (o : Nat → Option va_E) (hM : Zr M 6) (ho : ∀ i, 6 ≤ i → o i = none) (d : Nat) (hD : 1 ≤ d) : Cn l G y_Crowd_init b_Crowd_init 1 d 6 M (o_s o 6 (some (.inr (2, [.null, .null, .null, .null, .int 0, .int 0, .int 0])))) 7 M o 4 97 := by
  refine Cn_of (by decide) rfl (by decide) (fun E hE X hz hin ha hR => ?_)
  subst hE
  have h0 : G.2.2 ≤ E.2.2.2.2.1.heap.size := by omega
  have hrc : E.2.2.2.1.cells = 4 := by rw [hR]; rfl
  have hrs : E.2.2.2.1.slots = 97 := by rw [hR]; rfl
  have hM0 : M.1 6 = fun _ => 0 := (hM 6 (Nat.le_refl _)).1
  have hM1 : M.2.1 6 = fun _ => 0 := (hM 6 (Nat.le_refl _)).2.1
  have hM2 : M.2.2 6 = fun _ => none := (hM 6 (Nat.le_refl _)).2.2
  refine N_aload_n (j := 0) X d_Crowd_init_0 rfl rfl rfl ?_
  refine N_obj X ml_Crowd_3 ob_w (by omega) (Nat.le_of_ble_eq_true rfl) d_Crowd_init_1 rfl ?_
  refine N_aload_n (j := 0) X d_Crowd_init_4 rfl rfl rfl ?_
  refine N_bipush (v := 72) X d_Crowd_init_5 (by decide) rfl ?_
  refine N_newa (n := 7) (cs' := (1, 72)) (t := 1) (N := 72) (ty := .int) (a0 := (72, .inl (fun _ => 0))) X (by dsimp only; omega) h0 ⟨by rw [hrc]; decide, by rw [hrs]; decide⟩ aw_int rfl rfl (fun _ => nofun) (fun _ => rfl) (by decide) (by decide) (by decide) (o_ne (by omega) (ho _ (by omega))) (new_i (show Zr M 7 from (fun i hi => hM i (by omega))) (by omega) kd_7 (by decide) ln_7) d_Crowd_init_7 rfl rfl ?_
  refine N_fin2 (fs' := [.ref (G.2.2 + 7), .null, .null, .null, .int 0, .int 0, .int 0]) X hin ff_Crowd_9 (by omega) (Nat.le_of_ble_eq_true rfl) rfl rfl rfl d_Crowd_init_9 rfl ?_
  refine N_aload_n (j := 0) X d_Crowd_init_12 rfl rfl rfl ?_
  refine N_bipush (v := 8) X d_Crowd_init_13 (by decide) rfl ?_
  refine N_newa (n := 8) (cs' := (2, 80)) (t := 1) (N := 8) (ty := .int) (a0 := (8, .inl (fun _ => 0))) X (by dsimp only; omega) h0 ⟨by rw [hrc]; decide, by rw [hrs]; decide⟩ aw_int rfl rfl (fun _ => nofun) (fun _ => rfl) (by decide) (by decide) (by decide) (o_ne (by omega) (ho _ (by omega))) (new_i (show Zr M 8 from (fun i hi => hM i (by omega))) (by omega) kd_8 (by decide) ln_8) d_Crowd_init_15 rfl rfl ?_
  refine N_fin2 (fs' := [.ref (G.2.2 + 7), .ref (G.2.2 + 8), .null, .null, .int 0, .int 0, .int 0]) X hin ff_Crowd_15 (by omega) (Nat.le_of_ble_eq_true rfl) rfl rfl rfl d_Crowd_init_17 rfl ?_
  refine N_aload_n (j := 0) X d_Crowd_init_20 rfl rfl rfl ?_
  refine N_bipush (v := 8) X d_Crowd_init_21 (by decide) rfl ?_
  refine N_newa (n := 9) (cs' := (3, 88)) (t := 1) (N := 8) (ty := .int) (a0 := (8, .inl (fun _ => 0))) X (by dsimp only; omega) h0 ⟨by rw [hrc]; decide, by rw [hrs]; decide⟩ aw_int rfl rfl (fun _ => nofun) (fun _ => rfl) (by decide) (by decide) (by decide) (o_ne (by omega) (ho _ (by omega))) (new_i (show Zr M 9 from (fun i hi => hM i (by omega))) (by omega) kd_9 (by decide) ln_9) d_Crowd_init_23 rfl rfl ?_
  refine N_fin2 (fs' := [.ref (G.2.2 + 7), .ref (G.2.2 + 8), .ref (G.2.2 + 9), .null, .int 0, .int 0, .int 0]) X hin ff_Crowd_18 (by omega) (Nat.le_of_ble_eq_true rfl) rfl rfl rfl d_Crowd_init_25 rfl ?_
  refine N_aload_n (j := 0) X d_Crowd_init_28 rfl rfl rfl ?_
  refine N_bipush (v := 9) X d_Crowd_init_29 (by decide) rfl ?_
  refine N_newa (n := 10) (cs' := (4, 97)) (t := 1) (N := 9) (ty := .int) (a0 := (9, .inl (fun _ => 0))) X (by dsimp only; omega) h0 ⟨by rw [hrc]; decide, by rw [hrs]; decide⟩ aw_int rfl rfl (fun _ => nofun) (fun _ => rfl) (by decide) (by decide) (by decide) (o_ne (by omega) (ho _ (by omega))) (new_i (show Zr M 10 from (fun i hi => hM i (by omega))) (by omega) kd_10 (by decide) ln_10) d_Crowd_init_31 rfl rfl ?_
  refine N_fin2 (fs' := [.ref (G.2.2 + 7), .ref (G.2.2 + 8), .ref (G.2.2 + 9), .ref (G.2.2 + 10), .int 0, .int 0, .int 0]) X hin ff_Crowd_21 (by omega) (Nat.le_of_ble_eq_true rfl) rfl rfl rfl d_Crowd_init_33 rfl ?_
  refine N_done2 (M' := M) (ho 6 (Nat.le_refl _)) (by rw [dsc_o kd_6]; show Sum.inr (2, [fv G M 6 2 0, fv G M 6 2 1, fv G M 6 2 2, fv G M 6 2 3, fv G M 6 2 4, fv G M 6 2 5, fv G M 6 2 6]) = _; rw [fv_r (j := 0) rfl rf_6_0, fv_r (j := 1) rfl rf_6_1, fv_r (j := 2) rfl rf_6_2, fv_r (j := 3) rfl rf_6_3, fv_i (j := 4) (v := 0) rfl (by simp [s_i, s_l, fil, qfl, mG, mN, mH, hM0]), fv_i (j := 5) (v := 0) rfl (by simp [s_i, s_l, fil, qfl, mG, mN, mH, hM0]), fv_i (j := 6) (v := 0) rfl (by simp [s_i, s_l, fil, qfl, mG, mN, mH, hM0])]) (fun a h => rfl) ?_
  exact N_ret X ⟨by decide, by decide⟩ d_Crowd_init_36
set_option maxHeartbeats 1000000 in
theorem n_Scene_init (l : Launch) (G : Gw) (k : Nat) (hk : kd k = 10 + 7) (M : Mem) (o : Nat → Option va_E) (hM : Zr M k) (ho : ∀ i, k ≤ i → o i = none) (d : Nat) (hD : 1 ≤ d) : Cn l G y_Scene_init b_Scene_init 1 d k M (o_s o k (some (.inr (7, [.null, .null, .null, .null, .null, .null, .int 0, .int 0, .int 0, .int 0])))) (k + 1) M o 6 100 := by
  refine Cn_of (by decide) rfl (by decide) (fun E hE X hz hin ha hR => ?_)
  subst hE
  have h0 : G.2.2 ≤ E.2.2.2.2.1.heap.size := by omega
  have hrc : E.2.2.2.1.cells = 6 := by rw [hR]; rfl
  have hrs : E.2.2.2.1.slots = 100 := by rw [hR]; rfl
  have hM0 : M.1 k = fun _ => 0 := (hM k (Nat.le_refl _)).1
  have hM1 : M.2.1 k = fun _ => 0 := (hM k (Nat.le_refl _)).2.1
  have hM2 : M.2.2 k = fun _ => none := (hM k (Nat.le_refl _)).2.2
  refine N_aload_n (j := 0) X d_Scene_init_0 rfl rfl rfl ?_
  refine N_obj X ml_Scene_3 ob_w (by omega) (Nat.le_of_ble_eq_true rfl) d_Scene_init_1 rfl ?_
  refine N_aload_n (j := 0) X d_Scene_init_4 rfl rfl rfl ?_
  refine N_bipush (v := 8) X d_Scene_init_5 (by decide) rfl ?_
  refine N_newa (n := (k + 1)) (cs' := (1, 8)) (t := 1) (N := 8) (ty := .int) (a0 := (8, .inl (fun _ => 0))) X (by dsimp only; omega) h0 ⟨by rw [hrc]; decide, by rw [hrs]; decide⟩ aw_int rfl rfl (fun _ => nofun) (fun _ => rfl) (by decide) (by decide) (by decide) (o_ne (by omega) (ho _ (by omega))) (new_i (show Zr M (k + 1) from (fun i hi => hM i (by omega))) (by omega) (sScene_0 hk).1 (by decide) (sScene_0 hk).2.1) d_Scene_init_7 rfl rfl ?_
  refine N_fin2 (fs' := [.ref (G.2.2 + (k + 1)), .null, .null, .null, .null, .null, .int 0, .int 0, .int 0, .int 0]) X hin ff_Scene_9 (by omega) (Nat.le_of_ble_eq_true rfl) rfl rfl rfl d_Scene_init_9 rfl ?_
  refine N_aload_n (j := 0) X d_Scene_init_12 rfl rfl rfl ?_
  refine N_bipush (v := 8) X d_Scene_init_13 (by decide) rfl ?_
  refine N_newa (n := (k + 2)) (cs' := (2, 16)) (t := 1) (N := 8) (ty := .int) (a0 := (8, .inl (fun _ => 0))) X (by dsimp only; omega) h0 ⟨by rw [hrc]; decide, by rw [hrs]; decide⟩ aw_int rfl rfl (fun _ => nofun) (fun _ => rfl) (by decide) (by decide) (by decide) (o_ne (by omega) (ho _ (by omega))) (new_i (show Zr M (k + 2) from (fun i hi => hM i (by omega))) (by omega) (sScene_1 hk).1 (by decide) (sScene_1 hk).2.1) d_Scene_init_15 rfl rfl ?_
  refine N_fin2 (fs' := [.ref (G.2.2 + (k + 1)), .ref (G.2.2 + (k + 2)), .null, .null, .null, .null, .int 0, .int 0, .int 0, .int 0]) X hin ff_Scene_15 (by omega) (Nat.le_of_ble_eq_true rfl) rfl rfl rfl d_Scene_init_17 rfl ?_
  refine N_aload_n (j := 0) X d_Scene_init_20 rfl rfl rfl ?_
  refine N_bipush (v := 8) X d_Scene_init_21 (by decide) rfl ?_
  refine N_newa (n := (k + 3)) (cs' := (3, 24)) (t := 1) (N := 8) (ty := .int) (a0 := (8, .inl (fun _ => 0))) X (by dsimp only; omega) h0 ⟨by rw [hrc]; decide, by rw [hrs]; decide⟩ aw_int rfl rfl (fun _ => nofun) (fun _ => rfl) (by decide) (by decide) (by decide) (o_ne (by omega) (ho _ (by omega))) (new_i (show Zr M (k + 3) from (fun i hi => hM i (by omega))) (by omega) (sScene_2 hk).1 (by decide) (sScene_2 hk).2.1) d_Scene_init_23 rfl rfl ?_
  refine N_fin2 (fs' := [.ref (G.2.2 + (k + 1)), .ref (G.2.2 + (k + 2)), .ref (G.2.2 + (k + 3)), .null, .null, .null, .int 0, .int 0, .int 0, .int 0]) X hin ff_Scene_18 (by omega) (Nat.le_of_ble_eq_true rfl) rfl rfl rfl d_Scene_init_25 rfl ?_
  refine N_aload_n (j := 0) X d_Scene_init_28 rfl rfl rfl ?_
  refine N_bipush (v := 64) X d_Scene_init_29 (by decide) rfl ?_
  refine N_newa (n := (k + 4)) (cs' := (4, 88)) (t := 1) (N := 64) (ty := .int) (a0 := (64, .inl (fun _ => 0))) X (by dsimp only; omega) h0 ⟨by rw [hrc]; decide, by rw [hrs]; decide⟩ aw_int rfl rfl (fun _ => nofun) (fun _ => rfl) (by decide) (by decide) (by decide) (o_ne (by omega) (ho _ (by omega))) (new_i (show Zr M (k + 4) from (fun i hi => hM i (by omega))) (by omega) (sScene_3 hk).1 (by decide) (sScene_3 hk).2.1) d_Scene_init_31 rfl rfl ?_
  refine N_fin2 (fs' := [.ref (G.2.2 + (k + 1)), .ref (G.2.2 + (k + 2)), .ref (G.2.2 + (k + 3)), .ref (G.2.2 + (k + 4)), .null, .null, .int 0, .int 0, .int 0, .int 0]) X hin ff_Scene_21 (by omega) (Nat.le_of_ble_eq_true rfl) rfl rfl rfl d_Scene_init_33 rfl ?_
  refine N_aload_n (j := 0) X d_Scene_init_36 rfl rfl rfl ?_
  refine N_bipush (v := 6) X d_Scene_init_37 (by decide) rfl ?_
  refine N_newa (n := (k + 5)) (cs' := (5, 94)) (t := 1) (N := 6) (ty := .int) (a0 := (6, .inl (fun _ => 0))) X (by dsimp only; omega) h0 ⟨by rw [hrc]; decide, by rw [hrs]; decide⟩ aw_int rfl rfl (fun _ => nofun) (fun _ => rfl) (by decide) (by decide) (by decide) (o_ne (by omega) (ho _ (by omega))) (new_i (show Zr M (k + 5) from (fun i hi => hM i (by omega))) (by omega) (sScene_4 hk).1 (by decide) (sScene_4 hk).2.1) d_Scene_init_39 rfl rfl ?_
  refine N_fin2 (fs' := [.ref (G.2.2 + (k + 1)), .ref (G.2.2 + (k + 2)), .ref (G.2.2 + (k + 3)), .ref (G.2.2 + (k + 4)), .ref (G.2.2 + (k + 5)), .null, .int 0, .int 0, .int 0, .int 0]) X hin ff_Scene_24 (by omega) (Nat.le_of_ble_eq_true rfl) rfl rfl rfl d_Scene_init_41 rfl ?_
  refine N_aload_n (j := 0) X d_Scene_init_44 rfl rfl rfl ?_
  refine N_bipush (v := 6) X d_Scene_init_45 (by decide) rfl ?_
  refine N_newa (n := (k + 6)) (cs' := (6, 100)) (t := 1) (N := 6) (ty := .int) (a0 := (6, .inl (fun _ => 0))) X (by dsimp only; omega) h0 ⟨by rw [hrc]; decide, by rw [hrs]; decide⟩ aw_int rfl rfl (fun _ => nofun) (fun _ => rfl) (by decide) (by decide) (by decide) (o_ne (by omega) (ho _ (by omega))) (new_i (show Zr M (k + 6) from (fun i hi => hM i (by omega))) (by omega) (sScene_5 hk).1 (by decide) (sScene_5 hk).2.1) d_Scene_init_47 rfl rfl ?_
  refine N_fin2 (fs' := [.ref (G.2.2 + (k + 1)), .ref (G.2.2 + (k + 2)), .ref (G.2.2 + (k + 3)), .ref (G.2.2 + (k + 4)), .ref (G.2.2 + (k + 5)), .ref (G.2.2 + (k + 6)), .int 0, .int 0, .int 0, .int 0]) X hin ff_Scene_27 (by omega) (Nat.le_of_ble_eq_true rfl) rfl rfl rfl d_Scene_init_49 rfl ?_
  refine N_done2 (M' := M) (ho k (Nat.le_refl _)) (by rw [dsc_o hk]; show Sum.inr (7, [fv G M k 7 0, fv G M k 7 1, fv G M k 7 2, fv G M k 7 3, fv G M k 7 4, fv G M k 7 5, fv G M k 7 6, fv G M k 7 7, fv G M k 7 8, fv G M k 7 9]) = _; rw [fv_r (j := 0) rfl (sScene_0 hk).2.2, fv_r (j := 1) rfl (sScene_1 hk).2.2, fv_r (j := 2) rfl (sScene_2 hk).2.2, fv_r (j := 3) rfl (sScene_3 hk).2.2, fv_r (j := 4) rfl (sScene_4 hk).2.2, fv_r (j := 5) rfl (sScene_5 hk).2.2, fv_i (j := 6) (v := 0) rfl (by simp [s_i, s_l, fil, qfl, mG, mN, mH, hM0]), fv_i (j := 7) (v := 0) rfl (by simp [s_i, s_l, fil, qfl, mG, mN, mH, hM0]), fv_i (j := 8) (v := 0) rfl (by simp [s_i, s_l, fil, qfl, mG, mN, mH, hM0]), fv_i (j := 9) (v := 0) rfl (by simp [s_i, s_l, fil, qfl, mG, mN, mH, hM0])]) (fun a h => rfl) ?_
  exact N_ret X ⟨by decide, by decide⟩ d_Scene_init_52
set_option maxHeartbeats 1000000 in
theorem n_Nets_init (l : Launch) (G : Gw) (k : Nat) (hk : kd k = 10 + 6) (M : Mem) (o : Nat → Option va_E) (hM : Zr M k) (ho : ∀ i, k ≤ i → o i = none) (d : Nat) (hD : 1 ≤ d) : Cn l G y_Nets_init b_Nets_init 2 d k M (o_s o k (some (.inr (6, [.null, .null, .null])))) (k + 1) (mN k M) o 3 362 := by
  refine Cn_of (by decide) rfl (by decide) (fun E hE X hz hin ha hR => ?_)
  subst hE
  have h0 : G.2.2 ≤ E.2.2.2.2.1.heap.size := by omega
  have hrc : E.2.2.2.1.cells = 3 := by rw [hR]; rfl
  have hrs : E.2.2.2.1.slots = 362 := by rw [hR]; rfl
  have hM0 : M.1 k = fun _ => 0 := (hM k (Nat.le_refl _)).1
  have hM1 : M.2.1 k = fun _ => 0 := (hM k (Nat.le_refl _)).2.1
  have hM2 : M.2.2 k = fun _ => none := (hM k (Nat.le_refl _)).2.2
  refine N_aload_n (j := 0) X d_Nets_init_0 rfl rfl rfl ?_
  refine N_obj X ml_Nets_3 ob_w (by omega) (Nat.le_of_ble_eq_true rfl) d_Nets_init_1 rfl ?_
  refine N_aload_n (j := 0) X d_Nets_init_4 rfl rfl rfl ?_
  refine N_iconst (v := 2) X d_Nets_init_5 (by decide) rfl ?_
  refine N_newa (n := (k + 1)) (cs' := (1, 2)) (t := 4) (N := 2) (ty := .long) (a0 := (2, .inr (.inl (fun _ => 0)))) X (by dsimp only; omega) h0 ⟨by rw [hrc]; decide, by rw [hrs]; decide⟩ aw_long rfl rfl (fun _ => nofun) (fun _ => rfl) (by decide) (by decide) (by decide) (o_ne (by omega) (ho _ (by omega))) (new_l (show Zr M (k + 1) from (fun i hi => hM i (by omega))) (by omega) (sNets_0 hk).1 (sNets_0 hk).2.1) d_Nets_init_6 rfl rfl ?_
  refine N_fin2 (fs' := [.ref (G.2.2 + (k + 1)), .null, .null]) X hin ff_Nets_9 (by omega) (Nat.le_of_ble_eq_true rfl) rfl rfl rfl d_Nets_init_8 rfl ?_
  refine N_aload_n (j := 0) X d_Nets_init_11 rfl rfl rfl ?_
  refine N_bipush (v := 72) X d_Nets_init_12 (by decide) rfl ?_
  refine N_newa (n := (k + 2)) (cs' := (2, 74)) (t := 4) (N := 72) (ty := .long) (a0 := (72, .inr (.inl (fun _ => 0)))) X (by dsimp only; omega) h0 ⟨by rw [hrc]; decide, by rw [hrs]; decide⟩ aw_long rfl rfl (fun _ => nofun) (fun _ => rfl) (by decide) (by decide) (by decide) (o_ne (by omega) (ho _ (by omega))) (new_l (show Zr M (k + 2) from (fun i hi => hM i (by omega))) (by omega) (sNets_1 hk).1 (sNets_1 hk).2.1) d_Nets_init_14 rfl rfl ?_
  refine N_fin2 (fs' := [.ref (G.2.2 + (k + 1)), .ref (G.2.2 + (k + 2)), .null]) X hin ff_Nets_15 (by omega) (Nat.le_of_ble_eq_true rfl) rfl rfl rfl d_Nets_init_16 rfl ?_
  refine N_aload_n (j := 0) X d_Nets_init_19 rfl rfl rfl ?_
  refine N_sipush (v := 288) X d_Nets_init_20 (by decide) rfl ?_
  refine N_newa (n := (k + 3)) (cs' := (3, 362)) (t := 1) (N := 288) (ty := .int) (a0 := (288, .inl (fun _ => 0))) X (by dsimp only; omega) h0 ⟨by rw [hrc]; decide, by rw [hrs]; decide⟩ aw_int rfl rfl (fun _ => nofun) (fun _ => rfl) (by decide) (by decide) (by decide) (o_ne (by omega) (ho _ (by omega))) (new_i (show Zr M (k + 3) from (fun i hi => hM i (by omega))) (by omega) (sNets_2 hk).1 (by decide) (sNets_2 hk).2.1) d_Nets_init_23 rfl rfl ?_
  refine N_fin2 (fs' := [.ref (G.2.2 + (k + 1)), .ref (G.2.2 + (k + 2)), .ref (G.2.2 + (k + 3))]) X hin ff_Nets_18 (by omega) (Nat.le_of_ble_eq_true rfl) rfl rfl rfl d_Nets_init_25 rfl ?_
  refine N_aload_n (j := 0) X d_Nets_init_28 rfl rfl rfl ?_
  refine N_done2 (M' := M) (ho k (Nat.le_refl _)) (by rw [dsc_o hk]; show Sum.inr (6, [fv G M k 6 0, fv G M k 6 1, fv G M k 6 2]) = _; rw [fv_r (j := 0) rfl (sNets_0 hk).2.2, fv_r (j := 1) rfl (sNets_1 hk).2.2, fv_r (j := 2) rfl (sNets_2 hk).2.2]) (fun a h => rfl) ?_
  refine N_getr (k2 := (k + 1)) X fo_Nets_9 (by omega) (ho _ (by omega)) hk rfl (sNets_0 hk).2.2 d_Nets_init_29 rfl ?_
  refine N_iconst (v := 0) X d_Nets_init_32 (by decide) rfl ?_
  refine N_lconst (v := 1) X d_Nets_init_33 (by decide) rfl ?_
  refine N_last X (by omega) (ho _ (by omega)) (sNets_0 hk).1 (inb_in (sNets_0 hk).2.1 (by decide)) d_Nets_init_34 rfl ?_
  show Nj _ _ _ _ _ (s_l M (k + 1) 0 1) _ _ _ _ _
  refine N_aload_n (j := 0) X d_Nets_init_35 rfl rfl rfl ?_
  refine N_getr (k2 := (k + 1)) X fo_Nets_9 (by omega) (ho _ (by omega)) hk rfl (sNets_0 hk).2.2 d_Nets_init_36 rfl ?_
  refine N_iconst (v := 1) X d_Nets_init_39 (by decide) rfl ?_
  refine N_lconst (v := 1) X d_Nets_init_40 (by decide) rfl ?_
  refine N_last X (by omega) (ho _ (by omega)) (sNets_0 hk).1 (inb_in (sNets_0 hk).2.1 (by decide)) d_Nets_init_41 rfl ?_
  show Nj _ _ _ _ _ (s_l (s_l M (k + 1) 0 1) (k + 1) 1 1) _ _ _ _ _
  refine N_iconst (v := 0) X d_Nets_init_42 (by decide) rfl ?_
  refine N_istore_n (lv' := [(1, .int 0), (0, .ref (G.2.2 + k))]) X d_Nets_init_43 rfl (by decide) rfl rfl ?_
  refine N_sub (lv' := [(0, .ref (G.2.2 + k)), (1, .int 0)]) [1, 0] rfl ?_
  have lp : ∀ (j i : Nat), i + j = 288 → Nj E (3, 362) G 2 (QN E G (mN k M) o (k + 1 + 3) 3 362) (fil (s_l (s_l M (k + 1) 0 1) (k + 1) 1 1) (k + 3) i (-1)) o (k + 4) 44 [(0, .ref (G.2.2 + k)), (1, .int (nI i))] [] := by
    intro j
    induction j with
    | zero =>
      intro i hi
      have hi : i = 288 := by omega
      subst hi
      refine N_iload_n (j := 1) X d_Nets_init_44 rfl rfl rfl ?_
      refine N_sipush (v := 288) X d_Nets_init_45 (by decide) rfl ?_
      refine N_icmp_ge (tgt := 64) X d_Nets_init_48 (by decide) rfl (fun _ => ?_) (fun hc => absurd (by decide) hc)
      exact N_ret X ⟨by decide, by decide⟩ d_Nets_init_64
    | succ j ih =>
      intro i hi
      refine N_iload_n (j := 1) X d_Nets_init_44 rfl rfl rfl ?_
      refine N_sipush (v := 288) X d_Nets_init_45 (by decide) rfl ?_
      refine N_icmp_ge (tgt := 64) X d_Nets_init_48 (by decide) rfl (fun hc => absurd hc (nI_ge (b := 288) (by omega) (by decide))) (fun _ => ?_)
      refine N_aload_n (j := 0) X d_Nets_init_51 rfl rfl rfl ?_
      refine N_getr (k2 := k + 3) X fo_Nets_18 (by omega) (ho _ (by omega)) hk rfl (sNets_2 hk).2.2 d_Nets_init_52 rfl ?_
      refine N_iload_n (j := 1) X d_Nets_init_55 rfl rfl rfl ?_
      refine N_iconst (v := -1) X d_Nets_init_56 (by decide) rfl ?_
      refine N_iast X (by omega) (ho _ (by omega)) (sNets_2 hk).1 (by rw [(sNets_2 hk).2.1]; exact vp_in_nI (by omega) (by decide)) d_Nets_init_57 rfl ?_
      rw [nI_clamp (by omega), fil_s]
      refine N_iinc (j := 1) (v := nI (i + 1)) (lv' := [(1, .int (nI (i + 1))), (0, .ref (G.2.2 + k))]) X d_Nets_init_58 rfl (nI_1 i) (by decide) rfl rfl ?_
      refine N_goto (pc' := 44) X d_Nets_init_61 (by decide) ?_
      refine N_sub (lv' := [(0, .ref (G.2.2 + k)), (1, .int (nI (i + 1)))]) [1, 0] rfl ?_
      exact ih (i + 1) (by omega)
  have h9 := lp 288 0 rfl
  rw [fil_0] at h9
  exact h9
set_option maxHeartbeats 1000000 in
theorem n_Law_init (l : Launch) (G : Gw) (M : Mem) (o : Nat → Option va_E) (hM : Zr M 40) (ho : ∀ i, 40 ≤ i → o i = none) (d : Nat) (hD : 1 ≤ d) : Cn l G y_Law_init b_Law_init 1 d 40 M (o_s o 40 (some (.inr (5, [.null, .null, .null, .null, .int 0, .int 0, .int 0, .int 0, .int 0, .int 0, .int 0])))) 41 M o 4 160 := by
  refine Cn_of (by decide) rfl (by decide) (fun E hE X hz hin ha hR => ?_)
  subst hE
  have h0 : G.2.2 ≤ E.2.2.2.2.1.heap.size := by omega
  have hrc : E.2.2.2.1.cells = 4 := by rw [hR]; rfl
  have hrs : E.2.2.2.1.slots = 160 := by rw [hR]; rfl
  have hM0 : M.1 40 = fun _ => 0 := (hM 40 (Nat.le_refl _)).1
  have hM1 : M.2.1 40 = fun _ => 0 := (hM 40 (Nat.le_refl _)).2.1
  have hM2 : M.2.2 40 = fun _ => none := (hM 40 (Nat.le_refl _)).2.2
  refine N_aload_n (j := 0) X d_Law_init_0 rfl rfl rfl ?_
  refine N_obj X ml_Law_3 ob_w (by omega) (Nat.le_of_ble_eq_true rfl) d_Law_init_1 rfl ?_
  refine N_aload_n (j := 0) X d_Law_init_4 rfl rfl rfl ?_
  refine N_bipush (v := 40) X d_Law_init_5 (by decide) rfl ?_
  refine N_newa (n := 41) (cs' := (1, 40)) (t := 1) (N := 40) (ty := .int) (a0 := (40, .inl (fun _ => 0))) X (by dsimp only; omega) h0 ⟨by rw [hrc]; decide, by rw [hrs]; decide⟩ aw_int rfl rfl (fun _ => nofun) (fun _ => rfl) (by decide) (by decide) (by decide) (o_ne (by omega) (ho _ (by omega))) (new_i (show Zr M 41 from (fun i hi => hM i (by omega))) (by omega) kd_41 (by decide) ln_41) d_Law_init_7 rfl rfl ?_
  refine N_fin2 (fs' := [.ref (G.2.2 + 41), .null, .null, .null, .int 0, .int 0, .int 0, .int 0, .int 0, .int 0, .int 0]) X hin ff_Law_9 (by omega) (Nat.le_of_ble_eq_true rfl) rfl rfl rfl d_Law_init_9 rfl ?_
  refine N_aload_n (j := 0) X d_Law_init_12 rfl rfl rfl ?_
  refine N_bipush (v := 40) X d_Law_init_13 (by decide) rfl ?_
  refine N_newa (n := 42) (cs' := (2, 80)) (t := 1) (N := 40) (ty := .int) (a0 := (40, .inl (fun _ => 0))) X (by dsimp only; omega) h0 ⟨by rw [hrc]; decide, by rw [hrs]; decide⟩ aw_int rfl rfl (fun _ => nofun) (fun _ => rfl) (by decide) (by decide) (by decide) (o_ne (by omega) (ho _ (by omega))) (new_i (show Zr M 42 from (fun i hi => hM i (by omega))) (by omega) kd_42 (by decide) ln_42) d_Law_init_15 rfl rfl ?_
  refine N_fin2 (fs' := [.ref (G.2.2 + 41), .ref (G.2.2 + 42), .null, .null, .int 0, .int 0, .int 0, .int 0, .int 0, .int 0, .int 0]) X hin ff_Law_15 (by omega) (Nat.le_of_ble_eq_true rfl) rfl rfl rfl d_Law_init_17 rfl ?_
  refine N_aload_n (j := 0) X d_Law_init_20 rfl rfl rfl ?_
  refine N_bipush (v := 40) X d_Law_init_21 (by decide) rfl ?_
  refine N_newa (n := 43) (cs' := (3, 120)) (t := 1) (N := 40) (ty := .int) (a0 := (40, .inl (fun _ => 0))) X (by dsimp only; omega) h0 ⟨by rw [hrc]; decide, by rw [hrs]; decide⟩ aw_int rfl rfl (fun _ => nofun) (fun _ => rfl) (by decide) (by decide) (by decide) (o_ne (by omega) (ho _ (by omega))) (new_i (show Zr M 43 from (fun i hi => hM i (by omega))) (by omega) kd_43 (by decide) ln_43) d_Law_init_23 rfl rfl ?_
  refine N_fin2 (fs' := [.ref (G.2.2 + 41), .ref (G.2.2 + 42), .ref (G.2.2 + 43), .null, .int 0, .int 0, .int 0, .int 0, .int 0, .int 0, .int 0]) X hin ff_Law_18 (by omega) (Nat.le_of_ble_eq_true rfl) rfl rfl rfl d_Law_init_25 rfl ?_
  refine N_aload_n (j := 0) X d_Law_init_28 rfl rfl rfl ?_
  refine N_bipush (v := 40) X d_Law_init_29 (by decide) rfl ?_
  refine N_newa (n := 44) (cs' := (4, 160)) (t := 1) (N := 40) (ty := .int) (a0 := (40, .inl (fun _ => 0))) X (by dsimp only; omega) h0 ⟨by rw [hrc]; decide, by rw [hrs]; decide⟩ aw_int rfl rfl (fun _ => nofun) (fun _ => rfl) (by decide) (by decide) (by decide) (o_ne (by omega) (ho _ (by omega))) (new_i (show Zr M 44 from (fun i hi => hM i (by omega))) (by omega) kd_44 (by decide) ln_44) d_Law_init_31 rfl rfl ?_
  refine N_fin2 (fs' := [.ref (G.2.2 + 41), .ref (G.2.2 + 42), .ref (G.2.2 + 43), .ref (G.2.2 + 44), .int 0, .int 0, .int 0, .int 0, .int 0, .int 0, .int 0]) X hin ff_Law_21 (by omega) (Nat.le_of_ble_eq_true rfl) rfl rfl rfl d_Law_init_33 rfl ?_
  refine N_done2 (M' := M) (ho 40 (Nat.le_refl _)) (by rw [dsc_o kd_40]; show Sum.inr (5, [fv G M 40 5 0, fv G M 40 5 1, fv G M 40 5 2, fv G M 40 5 3, fv G M 40 5 4, fv G M 40 5 5, fv G M 40 5 6, fv G M 40 5 7, fv G M 40 5 8, fv G M 40 5 9, fv G M 40 5 10]) = _; rw [fv_r (j := 0) rfl rf_40_0, fv_r (j := 1) rfl rf_40_1, fv_r (j := 2) rfl rf_40_2, fv_r (j := 3) rfl rf_40_3, fv_i (j := 4) (v := 0) rfl (by simp [s_i, s_l, fil, qfl, mG, mN, mH, hM0]), fv_i (j := 5) (v := 0) rfl (by simp [s_i, s_l, fil, qfl, mG, mN, mH, hM0]), fv_i (j := 6) (v := 0) rfl (by simp [s_i, s_l, fil, qfl, mG, mN, mH, hM0]), fv_i (j := 7) (v := 0) rfl (by simp [s_i, s_l, fil, qfl, mG, mN, mH, hM0]), fv_i (j := 8) (v := 0) rfl (by simp [s_i, s_l, fil, qfl, mG, mN, mH, hM0]), fv_i (j := 9) (v := 0) rfl (by simp [s_i, s_l, fil, qfl, mG, mN, mH, hM0]), fv_i (j := 10) (v := 0) rfl (by simp [s_i, s_l, fil, qfl, mG, mN, mH, hM0])]) (fun a h => rfl) ?_
  exact N_ret X ⟨by decide, by decide⟩ d_Law_init_36
set_option maxHeartbeats 1000000 in
theorem n_Clock_init (l : Launch) (G : Gw) (M : Mem) (o : Nat → Option va_E) (hM : Zr M 45) (ho : ∀ i, 45 ≤ i → o i = none) (d : Nat) (hD : 1 ≤ d) : Cn l G y_Clock_init b_Clock_init 1 d 45 M (o_s o 45 (some (.inr (1, [.int 0, .int 0, .int 0, .int 0, .int 0])))) 46 M o 0 0 := by
  refine Cn_of (by decide) rfl (by decide) (fun E hE X hz hin ha hR => ?_)
  subst hE
  have h0 : G.2.2 ≤ E.2.2.2.2.1.heap.size := by omega
  have hrc : E.2.2.2.1.cells = 0 := by rw [hR]; rfl
  have hrs : E.2.2.2.1.slots = 0 := by rw [hR]; rfl
  have hM0 : M.1 45 = fun _ => 0 := (hM 45 (Nat.le_refl _)).1
  have hM1 : M.2.1 45 = fun _ => 0 := (hM 45 (Nat.le_refl _)).2.1
  have hM2 : M.2.2 45 = fun _ => none := (hM 45 (Nat.le_refl _)).2.2
  refine N_aload_n (j := 0) X d_Clock_init_0 rfl rfl rfl ?_
  refine N_obj X ml_Clock_3 ob_w (by omega) (Nat.le_of_ble_eq_true rfl) d_Clock_init_1 rfl ?_
  refine N_done2 (M' := M) (ho 45 (Nat.le_refl _)) (by rw [dsc_o kd_45]; show Sum.inr (1, [fv G M 45 1 0, fv G M 45 1 1, fv G M 45 1 2, fv G M 45 1 3, fv G M 45 1 4]) = _; rw [fv_i (j := 0) (v := 0) rfl (by simp [s_i, s_l, fil, qfl, mG, mN, mH, hM0]), fv_i (j := 1) (v := 0) rfl (by simp [s_i, s_l, fil, qfl, mG, mN, mH, hM0]), fv_i (j := 2) (v := 0) rfl (by simp [s_i, s_l, fil, qfl, mG, mN, mH, hM0]), fv_i (j := 3) (v := 0) rfl (by simp [s_i, s_l, fil, qfl, mG, mN, mH, hM0]), fv_i (j := 4) (v := 0) rfl (by simp [s_i, s_l, fil, qfl, mG, mN, mH, hM0])]) (fun a h => rfl) ?_
  exact N_ret X ⟨by decide, by decide⟩ d_Clock_init_4
set_option maxHeartbeats 1000000 in
theorem n_History_init (l : Launch) (G : Gw) (M : Mem) (o : Nat → Option va_E) (hM : Zr M 46) (ho : ∀ i, 46 ≤ i → o i = none) (d : Nat) (hD : 2 ≤ d) : Cn l G y_History_init b_History_init 2 d 46 M (o_s o 46 (some (.inr (4, [.null, .null, .int 0, .int 0])))) 47 (mH M) o 100 1554 := by
  refine Cn_of (by decide) rfl (by decide) (fun E hE X hz hin ha hR => ?_)
  subst hE
  have h0 : G.2.2 ≤ E.2.2.2.2.1.heap.size := by omega
  have hrc : E.2.2.2.1.cells = 100 := by rw [hR]; rfl
  have hrs : E.2.2.2.1.slots = 1554 := by rw [hR]; rfl
  have hM0 : M.1 46 = fun _ => 0 := (hM 46 (Nat.le_refl _)).1
  have hM1 : M.2.1 46 = fun _ => 0 := (hM 46 (Nat.le_refl _)).2.1
  have hM2 : M.2.2 46 = fun _ => none := (hM 46 (Nat.le_refl _)).2.2
  refine N_aload_n (j := 0) X d_History_init_0 rfl rfl rfl ?_
  refine N_obj X ml_History_1 ob_w (by omega) (Nat.le_of_ble_eq_true rfl) d_History_init_1 rfl ?_
  refine N_aload_n (j := 0) X d_History_init_4 rfl rfl rfl ?_
  refine N_bipush (v := 12) X d_History_init_5 (by decide) rfl ?_
  refine N_newq (n := 47) (cs' := (1, 12)) (N := 12) X (by dsimp only; omega) h0 ⟨by rw [hrc]; decide, by rw [hrs]; decide⟩ cl_History_9.1 ha.1 (by decide) (by decide) (by decide) (o_ne (by omega) (ho _ (by omega))) (new_q (show Zr M 47 from (fun i hi => hM i (by omega))) (by omega) kd_47 ln_47) d_History_init_7 rfl rfl ?_
  refine N_fin2 (fs' := [.ref (G.2.2 + 47), .null, .int 0, .int 0]) X hin ff_History_11 (by omega) (Nat.le_of_ble_eq_true rfl) rfl rfl rfl d_History_init_10 rfl ?_
  refine N_aload_n (j := 0) X d_History_init_13 rfl rfl rfl ?_
  refine N_iconst (v := 2) X d_History_init_14 (by decide) rfl ?_
  refine N_newq (n := 48) (cs' := (2, 14)) (N := 2) X (by dsimp only; omega) h0 ⟨by rw [hrc]; decide, by rw [hrs]; decide⟩ cl_History_9.1 ha.1 (by decide) (by decide) (by decide) (o_ne (by omega) (ho _ (by omega))) (new_q (show Zr M 48 from (fun i hi => hM i (by omega))) (by omega) kd_48 ln_48) d_History_init_15 rfl rfl ?_
  refine N_fin2 (fs' := [.ref (G.2.2 + 47), .ref (G.2.2 + 48), .int 0, .int 0]) X hin ff_History_15 (by omega) (Nat.le_of_ble_eq_true rfl) rfl rfl rfl d_History_init_18 rfl ?_
  refine N_iconst (v := 0) X d_History_init_21 (by decide) rfl ?_
  refine N_done2 (M' := M) (ho 46 (Nat.le_refl _)) (by rw [dsc_o kd_46]; show Sum.inr (4, [fv G M 46 4 0, fv G M 46 4 1, fv G M 46 4 2, fv G M 46 4 3]) = _; rw [fv_r (j := 0) rfl rf_46_0, fv_r (j := 1) rfl rf_46_1, fv_i (j := 2) (v := 0) rfl (by simp [s_i, s_l, fil, qfl, mG, mN, mH, hM0]), fv_i (j := 3) (v := 0) rfl (by simp [s_i, s_l, fil, qfl, mG, mN, mH, hM0])]) (fun a h => rfl) ?_
  have lp2 : ∀ (j i : Nat), i + j = 2 → Nj E (86 + 7 * i, 1334 + 110 * i) G 2 (QN E G (mH M) o (47 + 100) 100 1554) (qfl (qfl M 47 12 49) 48 i 133) o (133 + 7 * i) 50 [(0, .ref (G.2.2 + 46)), (1, .int (nI i))] [] := by
    intro j
    induction j with
    | zero =>
      intro i hi
      have hi : i = 2 := by omega
      subst hi
      refine N_iload_n (j := 1) X d_History_init_50 rfl rfl rfl ?_
      refine N_iconst (v := 2) X d_History_init_51 (by decide) rfl ?_
      refine N_icmp_ge (tgt := 74) X d_History_init_52 (by decide) rfl (fun _ => ?_) (fun hc => absurd (by decide) hc)
      exact N_ret X ⟨by decide, by decide⟩ d_History_init_74
    | succ j ih =>
      intro i hi
      have hk : kd (133 + 7 * i) = 10 + 7 := kds i (by omega)
      refine N_iload_n (j := 1) X d_History_init_50 rfl rfl rfl ?_
      refine N_iconst (v := 2) X d_History_init_51 (by decide) rfl ?_
      refine N_icmp_ge (tgt := 74) X d_History_init_52 (by decide) rfl (fun hc => absurd hc (nI_ge (b := 2) (by omega) (by decide))) (fun _ => ?_)
      refine N_aload_n (j := 0) X d_History_init_55 rfl rfl rfl ?_
      refine N_getr (k2 := 48) X fo_History_15 (by omega) (ho _ (by omega)) kd_46 rfl rf_46_1 d_History_init_56 rfl ?_
      refine N_iload_n (j := 1) X d_History_init_59 rfl rfl rfl ?_
      refine N_new (cs' := (86 + 7 * i + 1, 1334 + 110 * i + 10)) (fs := [.null, .null, .null, .null, .null, .null, .int 0, .int 0, .int 0, .int 0]) X (by dsimp only; omega) h0 ⟨by rw [hrc]; dsimp only; omega, by rw [hrs]; dsimp only; omega⟩ cl_History_9 (c := 7) rfl iw_Scene t_Scene t_Scene_ok (by decide) d_History_init_60 rfl rfl ?_
      refine N_dup X d_History_init_63 rfl rfl ?_
      refine N_init (k := 133 + 7 * i) (M' := qfl (qfl M 47 12 49) 48 i 133) (n' := 133 + 7 * (i + 1)) (cs' := (86 + 7 * (i + 1), 1334 + 110 * (i + 1))) X (by dsimp only; omega) h0 ⟨by rw [hrc]; dsimp only; omega, by rw [hrs]; dsimp only; omega⟩ ha ml_History_18 yi_Scene.1 yi_Scene.2 (n_Scene_init E.2.1 G (133 + 7 * i) hk (qfl (qfl M 47 12 49) 48 i 133) _ (Zr.q (Zr.q (fun i hi => hM i (by omega)) (by omega)) (by omega)) (fun i hi => ho i (by omega)) 1 (Nat.le_refl _)) (by omega) (Nat.le_of_ble_eq_true rfl) d_History_init_64 rfl (by simp only [Prod.mk.injEq]; omega) (by omega) ?_
      refine N_aast X (by omega) (by omega) (ho _ (by omega)) (ho _ (by omega)) kd_48 hk (by rw [ln_48]; exact vp_in_nI (by omega) (by decide)) d_History_init_67 rfl ?_
      rw [nI_clamp (by omega), qfl_s]
      refine N_iinc (j := 1) (v := nI (i + 1)) (lv' := [(1, .int (nI (i + 1))), (0, .ref (G.2.2 + 46))]) X d_History_init_68 rfl (nI_1 i) (by decide) rfl rfl ?_
      refine N_goto (pc' := 50) X d_History_init_71 (by decide) ?_
      refine N_sub (lv' := [(0, .ref (G.2.2 + 46)), (1, .int (nI (i + 1)))]) [1, 0] rfl ?_
      exact ih (i + 1) (by omega)
  have lp1 : ∀ (j i : Nat), i + j = 12 → Nj E (2 + 7 * i, 14 + 110 * i) G 2 (QN E G (mH M) o (47 + 100) 100 1554) (qfl M 47 i 49) o (49 + 7 * i) 23 [(0, .ref (G.2.2 + 46)), (1, .int (nI i))] [] := by
    intro j
    induction j with
    | zero =>
      intro i hi
      have hi : i = 12 := by omega
      subst hi
      refine N_iload_n (j := 1) X d_History_init_23 rfl rfl rfl ?_
      refine N_bipush (v := 12) X d_History_init_24 (by decide) rfl ?_
      refine N_icmp_ge (tgt := 48) X d_History_init_26 (by decide) rfl (fun _ => ?_) (fun hc => absurd (by decide) hc)
      refine N_iconst (v := 0) X d_History_init_48 (by decide) rfl ?_
      refine N_istore_n (lv' := [(1, .int 0), (0, .ref (G.2.2 + 46))]) X d_History_init_49 rfl (by decide) rfl rfl ?_
      refine N_sub (lv' := [(0, .ref (G.2.2 + 46)), (1, .int 0)]) [1, 0] rfl ?_
      have h9 := lp2 2 0 rfl
      rw [qfl_0] at h9
      exact h9
    | succ j ih =>
      intro i hi
      have hk : kd (49 + 7 * i) = 10 + 7 := kdp i (by omega)
      refine N_iload_n (j := 1) X d_History_init_23 rfl rfl rfl ?_
      refine N_bipush (v := 12) X d_History_init_24 (by decide) rfl ?_
      refine N_icmp_ge (tgt := 48) X d_History_init_26 (by decide) rfl (fun hc => absurd hc (nI_ge (b := 12) (by omega) (by decide))) (fun _ => ?_)
      refine N_aload_n (j := 0) X d_History_init_29 rfl rfl rfl ?_
      refine N_getr (k2 := 47) X fo_History_11 (by omega) (ho _ (by omega)) kd_46 rfl rf_46_0 d_History_init_30 rfl ?_
      refine N_iload_n (j := 1) X d_History_init_33 rfl rfl rfl ?_
      refine N_new (cs' := (2 + 7 * i + 1, 14 + 110 * i + 10)) (fs := [.null, .null, .null, .null, .null, .null, .int 0, .int 0, .int 0, .int 0]) X (by dsimp only; omega) h0 ⟨by rw [hrc]; dsimp only; omega, by rw [hrs]; dsimp only; omega⟩ cl_History_9 (c := 7) rfl iw_Scene t_Scene t_Scene_ok (by decide) d_History_init_34 rfl rfl ?_
      refine N_dup X d_History_init_37 rfl rfl ?_
      refine N_init (k := 49 + 7 * i) (M' := qfl M 47 i 49) (n' := 49 + 7 * (i + 1)) (cs' := (2 + 7 * (i + 1), 14 + 110 * (i + 1))) X (by dsimp only; omega) h0 ⟨by rw [hrc]; dsimp only; omega, by rw [hrs]; dsimp only; omega⟩ ha ml_History_18 yi_Scene.1 yi_Scene.2 (n_Scene_init E.2.1 G (49 + 7 * i) hk (qfl M 47 i 49) _ (Zr.q (fun i hi => hM i (by omega)) (by omega)) (fun i hi => ho i (by omega)) 1 (Nat.le_refl _)) (by omega) (Nat.le_of_ble_eq_true rfl) d_History_init_38 rfl (by simp only [Prod.mk.injEq]; omega) (by omega) ?_
      refine N_aast X (by omega) (by omega) (ho _ (by omega)) (ho _ (by omega)) kd_47 hk (by rw [ln_47]; exact vp_in_nI (by omega) (by decide)) d_History_init_41 rfl ?_
      rw [nI_clamp (by omega), qfl_s]
      refine N_iinc (j := 1) (v := nI (i + 1)) (lv' := [(1, .int (nI (i + 1))), (0, .ref (G.2.2 + 46))]) X d_History_init_42 rfl (nI_1 i) (by decide) rfl rfl ?_
      refine N_goto (pc' := 23) X d_History_init_45 (by decide) ?_
      refine N_sub (lv' := [(0, .ref (G.2.2 + 46)), (1, .int (nI (i + 1)))]) [1, 0] rfl ?_
      exact ih (i + 1) (by omega)
  refine N_istore_n (lv' := [(1, .int 0), (0, .ref (G.2.2 + 46))]) X d_History_init_22 rfl (by decide) rfl rfl ?_
  refine N_sub (lv' := [(0, .ref (G.2.2 + 46)), (1, .int 0)]) [1, 0] rfl ?_
  have h9 := lp1 12 0 rfl
  rw [qfl_0] at h9
  exact h9
set_option maxHeartbeats 1000000 in
theorem n_Acts_init (l : Launch) (G : Gw) (M : Mem) (o : Nat → Option va_E) (hM : Zr M 147) (ho : ∀ i, 147 ≤ i → o i = none) (d : Nat) (hD : 1 ≤ d) : Cn l G y_Acts_init b_Acts_init 1 d 147 M (o_s o 147 (some (.inr (0, [.null, .null, .null, .int 0])))) 148 M o 3 96 := by
  refine Cn_of (by decide) rfl (by decide) (fun E hE X hz hin ha hR => ?_)
  subst hE
  have h0 : G.2.2 ≤ E.2.2.2.2.1.heap.size := by omega
  have hrc : E.2.2.2.1.cells = 3 := by rw [hR]; rfl
  have hrs : E.2.2.2.1.slots = 96 := by rw [hR]; rfl
  have hM0 : M.1 147 = fun _ => 0 := (hM 147 (Nat.le_refl _)).1
  have hM1 : M.2.1 147 = fun _ => 0 := (hM 147 (Nat.le_refl _)).2.1
  have hM2 : M.2.2 147 = fun _ => none := (hM 147 (Nat.le_refl _)).2.2
  refine N_aload_n (j := 0) X d_Acts_init_0 rfl rfl rfl ?_
  refine N_obj X ml_Acts_3 ob_w (by omega) (Nat.le_of_ble_eq_true rfl) d_Acts_init_1 rfl ?_
  refine N_aload_n (j := 0) X d_Acts_init_4 rfl rfl rfl ?_
  refine N_bipush (v := 32) X d_Acts_init_5 (by decide) rfl ?_
  refine N_newa (n := 148) (cs' := (1, 32)) (t := 1) (N := 32) (ty := .int) (a0 := (32, .inl (fun _ => 0))) X (by dsimp only; omega) h0 ⟨by rw [hrc]; decide, by rw [hrs]; decide⟩ aw_int rfl rfl (fun _ => nofun) (fun _ => rfl) (by decide) (by decide) (by decide) (o_ne (by omega) (ho _ (by omega))) (new_i (show Zr M 148 from (fun i hi => hM i (by omega))) (by omega) kd_148 (by decide) ln_148) d_Acts_init_7 rfl rfl ?_
  refine N_fin2 (fs' := [.ref (G.2.2 + 148), .null, .null, .int 0]) X hin ff_Acts_11 (by omega) (Nat.le_of_ble_eq_true rfl) rfl rfl rfl d_Acts_init_9 rfl ?_
  refine N_aload_n (j := 0) X d_Acts_init_12 rfl rfl rfl ?_
  refine N_bipush (v := 32) X d_Acts_init_13 (by decide) rfl ?_
  refine N_newa (n := 149) (cs' := (2, 64)) (t := 1) (N := 32) (ty := .int) (a0 := (32, .inl (fun _ => 0))) X (by dsimp only; omega) h0 ⟨by rw [hrc]; decide, by rw [hrs]; decide⟩ aw_int rfl rfl (fun _ => nofun) (fun _ => rfl) (by decide) (by decide) (by decide) (o_ne (by omega) (ho _ (by omega))) (new_i (show Zr M 149 from (fun i hi => hM i (by omega))) (by omega) kd_149 (by decide) ln_149) d_Acts_init_15 rfl rfl ?_
  refine N_fin2 (fs' := [.ref (G.2.2 + 148), .ref (G.2.2 + 149), .null, .int 0]) X hin ff_Acts_15 (by omega) (Nat.le_of_ble_eq_true rfl) rfl rfl rfl d_Acts_init_17 rfl ?_
  refine N_aload_n (j := 0) X d_Acts_init_20 rfl rfl rfl ?_
  refine N_bipush (v := 32) X d_Acts_init_21 (by decide) rfl ?_
  refine N_newa (n := 150) (cs' := (3, 96)) (t := 1) (N := 32) (ty := .int) (a0 := (32, .inl (fun _ => 0))) X (by dsimp only; omega) h0 ⟨by rw [hrc]; decide, by rw [hrs]; decide⟩ aw_int rfl rfl (fun _ => nofun) (fun _ => rfl) (by decide) (by decide) (by decide) (o_ne (by omega) (ho _ (by omega))) (new_i (show Zr M 150 from (fun i hi => hM i (by omega))) (by omega) kd_150 (by decide) ln_150) d_Acts_init_23 rfl rfl ?_
  refine N_fin2 (fs' := [.ref (G.2.2 + 148), .ref (G.2.2 + 149), .ref (G.2.2 + 150), .int 0]) X hin ff_Acts_18 (by omega) (Nat.le_of_ble_eq_true rfl) rfl rfl rfl d_Acts_init_25 rfl ?_
  refine N_done2 (M' := M) (ho 147 (Nat.le_refl _)) (by rw [dsc_o kd_147]; show Sum.inr (0, [fv G M 147 0 0, fv G M 147 0 1, fv G M 147 0 2, fv G M 147 0 3]) = _; rw [fv_r (j := 0) rfl rf_147_0, fv_r (j := 1) rfl rf_147_1, fv_r (j := 2) rfl rf_147_2, fv_i (j := 3) (v := 0) rfl (by simp [s_i, s_l, fil, qfl, mG, mN, mH, hM0])]) (fun a h => rfl) ?_
  exact N_ret X ⟨by decide, by decide⟩ d_Acts_init_28
set_option maxHeartbeats 1000000 in
theorem n_Thief_init (l : Launch) (G : Gw) (M : Mem) (o : Nat → Option va_E) (hM : Zr M 151) (ho : ∀ i, 151 ≤ i → o i = none) (d : Nat) (hD : 1 ≤ d) : Cn l G y_Thief_init b_Thief_init 1 d 151 M (o_s o 151 (some (.inr (9, [.null, .null, .long 0, .long 0])))) 152 M o 2 60 := by
  refine Cn_of (by decide) rfl (by decide) (fun E hE X hz hin ha hR => ?_)
  subst hE
  have h0 : G.2.2 ≤ E.2.2.2.2.1.heap.size := by omega
  have hrc : E.2.2.2.1.cells = 2 := by rw [hR]; rfl
  have hrs : E.2.2.2.1.slots = 60 := by rw [hR]; rfl
  have hM0 : M.1 151 = fun _ => 0 := (hM 151 (Nat.le_refl _)).1
  have hM1 : M.2.1 151 = fun _ => 0 := (hM 151 (Nat.le_refl _)).2.1
  have hM2 : M.2.2 151 = fun _ => none := (hM 151 (Nat.le_refl _)).2.2
  refine N_aload_n (j := 0) X d_Thief_init_0 rfl rfl rfl ?_
  refine N_obj X ml_Thief_3 ob_w (by omega) (Nat.le_of_ble_eq_true rfl) d_Thief_init_1 rfl ?_
  refine N_aload_n (j := 0) X d_Thief_init_4 rfl rfl rfl ?_
  refine N_bipush (v := 30) X d_Thief_init_5 (by decide) rfl ?_
  refine N_newa (n := 152) (cs' := (1, 30)) (t := 4) (N := 30) (ty := .long) (a0 := (30, .inr (.inl (fun _ => 0)))) X (by dsimp only; omega) h0 ⟨by rw [hrc]; decide, by rw [hrs]; decide⟩ aw_long rfl rfl (fun _ => nofun) (fun _ => rfl) (by decide) (by decide) (by decide) (o_ne (by omega) (ho _ (by omega))) (new_l (show Zr M 152 from (fun i hi => hM i (by omega))) (by omega) kd_152 ln_152) d_Thief_init_7 rfl rfl ?_
  refine N_fin2 (fs' := [.ref (G.2.2 + 152), .null, .long 0, .long 0]) X hin ff_Thief_9 (by omega) (Nat.le_of_ble_eq_true rfl) rfl rfl rfl d_Thief_init_9 rfl ?_
  refine N_aload_n (j := 0) X d_Thief_init_12 rfl rfl rfl ?_
  refine N_bipush (v := 30) X d_Thief_init_13 (by decide) rfl ?_
  refine N_newa (n := 153) (cs' := (2, 60)) (t := 4) (N := 30) (ty := .long) (a0 := (30, .inr (.inl (fun _ => 0)))) X (by dsimp only; omega) h0 ⟨by rw [hrc]; decide, by rw [hrs]; decide⟩ aw_long rfl rfl (fun _ => nofun) (fun _ => rfl) (by decide) (by decide) (by decide) (o_ne (by omega) (ho _ (by omega))) (new_l (show Zr M 153 from (fun i hi => hM i (by omega))) (by omega) kd_153 ln_153) d_Thief_init_15 rfl rfl ?_
  refine N_fin2 (fs' := [.ref (G.2.2 + 152), .ref (G.2.2 + 153), .long 0, .long 0]) X hin ff_Thief_15 (by omega) (Nat.le_of_ble_eq_true rfl) rfl rfl rfl d_Thief_init_17 rfl ?_
  refine N_done2 (M' := M) (ho 151 (Nat.le_refl _)) (by rw [dsc_o kd_151]; show Sum.inr (9, [fv G M 151 9 0, fv G M 151 9 1, fv G M 151 9 2, fv G M 151 9 3]) = _; rw [fv_r (j := 0) rfl rf_151_0, fv_r (j := 1) rfl rf_151_1, fv_l (j := 2) (v := 0) rfl (by simp [s_i, s_l, fil, qfl, mG, mN, mH, hM1]), fv_l (j := 3) (v := 0) rfl (by simp [s_i, s_l, fil, qfl, mG, mN, mH, hM1])]) (fun a h => rfl) ?_
  exact N_ret X ⟨by decide, by decide⟩ d_Thief_init_20
set_option maxHeartbeats 1000000 in
theorem n_Ways_init (l : Launch) (G : Gw) (M : Mem) (o : Nat → Option va_E) (hM : Zr M 154) (ho : ∀ i, 154 ≤ i → o i = none) (d : Nat) (hD : 1 ≤ d) : Cn l G y_Ways_init b_Ways_init 1 d 154 M (o_s o 154 (some (.inr (10, [.null, .null, .null, .null, .null, .null])))) 155 M o 6 540 := by
  refine Cn_of (by decide) rfl (by decide) (fun E hE X hz hin ha hR => ?_)
  subst hE
  have h0 : G.2.2 ≤ E.2.2.2.2.1.heap.size := by omega
  have hrc : E.2.2.2.1.cells = 6 := by rw [hR]; rfl
  have hrs : E.2.2.2.1.slots = 540 := by rw [hR]; rfl
  have hM0 : M.1 154 = fun _ => 0 := (hM 154 (Nat.le_refl _)).1
  have hM1 : M.2.1 154 = fun _ => 0 := (hM 154 (Nat.le_refl _)).2.1
  have hM2 : M.2.2 154 = fun _ => none := (hM 154 (Nat.le_refl _)).2.2
  refine N_aload_n (j := 0) X d_Ways_init_0 rfl rfl rfl ?_
  refine N_obj X ml_Ways_3 ob_w (by omega) (Nat.le_of_ble_eq_true rfl) d_Ways_init_1 rfl ?_
  refine N_aload_n (j := 0) X d_Ways_init_4 rfl rfl rfl ?_
  refine N_bipush (v := 36) X d_Ways_init_5 (by decide) rfl ?_
  refine N_newa (n := 155) (cs' := (1, 36)) (t := 1) (N := 36) (ty := .int) (a0 := (36, .inl (fun _ => 0))) X (by dsimp only; omega) h0 ⟨by rw [hrc]; decide, by rw [hrs]; decide⟩ aw_int rfl rfl (fun _ => nofun) (fun _ => rfl) (by decide) (by decide) (by decide) (o_ne (by omega) (ho _ (by omega))) (new_i (show Zr M 155 from (fun i hi => hM i (by omega))) (by omega) kd_155 (by decide) ln_155) d_Ways_init_7 rfl rfl ?_
  refine N_fin2 (fs' := [.ref (G.2.2 + 155), .null, .null, .null, .null, .null]) X hin ff_Ways_9 (by omega) (Nat.le_of_ble_eq_true rfl) rfl rfl rfl d_Ways_init_9 rfl ?_
  refine N_aload_n (j := 0) X d_Ways_init_12 rfl rfl rfl ?_
  refine N_bipush (v := 36) X d_Ways_init_13 (by decide) rfl ?_
  refine N_newa (n := 156) (cs' := (2, 72)) (t := 1) (N := 36) (ty := .int) (a0 := (36, .inl (fun _ => 0))) X (by dsimp only; omega) h0 ⟨by rw [hrc]; decide, by rw [hrs]; decide⟩ aw_int rfl rfl (fun _ => nofun) (fun _ => rfl) (by decide) (by decide) (by decide) (o_ne (by omega) (ho _ (by omega))) (new_i (show Zr M 156 from (fun i hi => hM i (by omega))) (by omega) kd_156 (by decide) ln_156) d_Ways_init_15 rfl rfl ?_
  refine N_fin2 (fs' := [.ref (G.2.2 + 155), .ref (G.2.2 + 156), .null, .null, .null, .null]) X hin ff_Ways_15 (by omega) (Nat.le_of_ble_eq_true rfl) rfl rfl rfl d_Ways_init_17 rfl ?_
  refine N_aload_n (j := 0) X d_Ways_init_20 rfl rfl rfl ?_
  refine N_bipush (v := 36) X d_Ways_init_21 (by decide) rfl ?_
  refine N_newa (n := 157) (cs' := (3, 108)) (t := 1) (N := 36) (ty := .int) (a0 := (36, .inl (fun _ => 0))) X (by dsimp only; omega) h0 ⟨by rw [hrc]; decide, by rw [hrs]; decide⟩ aw_int rfl rfl (fun _ => nofun) (fun _ => rfl) (by decide) (by decide) (by decide) (o_ne (by omega) (ho _ (by omega))) (new_i (show Zr M 157 from (fun i hi => hM i (by omega))) (by omega) kd_157 (by decide) ln_157) d_Ways_init_23 rfl rfl ?_
  refine N_fin2 (fs' := [.ref (G.2.2 + 155), .ref (G.2.2 + 156), .ref (G.2.2 + 157), .null, .null, .null]) X hin ff_Ways_18 (by omega) (Nat.le_of_ble_eq_true rfl) rfl rfl rfl d_Ways_init_25 rfl ?_
  refine N_aload_n (j := 0) X d_Ways_init_28 rfl rfl rfl ?_
  refine N_bipush (v := 72) X d_Ways_init_29 (by decide) rfl ?_
  refine N_newa (n := 158) (cs' := (4, 180)) (t := 1) (N := 72) (ty := .int) (a0 := (72, .inl (fun _ => 0))) X (by dsimp only; omega) h0 ⟨by rw [hrc]; decide, by rw [hrs]; decide⟩ aw_int rfl rfl (fun _ => nofun) (fun _ => rfl) (by decide) (by decide) (by decide) (o_ne (by omega) (ho _ (by omega))) (new_i (show Zr M 158 from (fun i hi => hM i (by omega))) (by omega) kd_158 (by decide) ln_158) d_Ways_init_31 rfl rfl ?_
  refine N_fin2 (fs' := [.ref (G.2.2 + 155), .ref (G.2.2 + 156), .ref (G.2.2 + 157), .ref (G.2.2 + 158), .null, .null]) X hin ff_Ways_21 (by omega) (Nat.le_of_ble_eq_true rfl) rfl rfl rfl d_Ways_init_33 rfl ?_
  refine N_aload_n (j := 0) X d_Ways_init_36 rfl rfl rfl ?_
  refine N_sipush (v := 180) X d_Ways_init_37 (by decide) rfl ?_
  refine N_newa (n := 159) (cs' := (5, 360)) (t := 1) (N := 180) (ty := .int) (a0 := (180, .inl (fun _ => 0))) X (by dsimp only; omega) h0 ⟨by rw [hrc]; decide, by rw [hrs]; decide⟩ aw_int rfl rfl (fun _ => nofun) (fun _ => rfl) (by decide) (by decide) (by decide) (o_ne (by omega) (ho _ (by omega))) (new_i (show Zr M 159 from (fun i hi => hM i (by omega))) (by omega) kd_159 (by decide) ln_159) d_Ways_init_40 rfl rfl ?_
  refine N_fin2 (fs' := [.ref (G.2.2 + 155), .ref (G.2.2 + 156), .ref (G.2.2 + 157), .ref (G.2.2 + 158), .ref (G.2.2 + 159), .null]) X hin ff_Ways_24 (by omega) (Nat.le_of_ble_eq_true rfl) rfl rfl rfl d_Ways_init_42 rfl ?_
  refine N_aload_n (j := 0) X d_Ways_init_45 rfl rfl rfl ?_
  refine N_sipush (v := 180) X d_Ways_init_46 (by decide) rfl ?_
  refine N_newa (n := 160) (cs' := (6, 540)) (t := 1) (N := 180) (ty := .int) (a0 := (180, .inl (fun _ => 0))) X (by dsimp only; omega) h0 ⟨by rw [hrc]; decide, by rw [hrs]; decide⟩ aw_int rfl rfl (fun _ => nofun) (fun _ => rfl) (by decide) (by decide) (by decide) (o_ne (by omega) (ho _ (by omega))) (new_i (show Zr M 160 from (fun i hi => hM i (by omega))) (by omega) kd_160 (by decide) ln_160) d_Ways_init_49 rfl rfl ?_
  refine N_fin2 (fs' := [.ref (G.2.2 + 155), .ref (G.2.2 + 156), .ref (G.2.2 + 157), .ref (G.2.2 + 158), .ref (G.2.2 + 159), .ref (G.2.2 + 160)]) X hin ff_Ways_27 (by omega) (Nat.le_of_ble_eq_true rfl) rfl rfl rfl d_Ways_init_51 rfl ?_
  refine N_done2 (M' := M) (ho 154 (Nat.le_refl _)) (by rw [dsc_o kd_154]; show Sum.inr (10, [fv G M 154 10 0, fv G M 154 10 1, fv G M 154 10 2, fv G M 154 10 3, fv G M 154 10 4, fv G M 154 10 5]) = _; rw [fv_r (j := 0) rfl rf_154_0, fv_r (j := 1) rfl rf_154_1, fv_r (j := 2) rfl rf_154_2, fv_r (j := 3) rfl rf_154_3, fv_r (j := 4) rfl rf_154_4, fv_r (j := 5) rfl rf_154_5]) (fun a h => rfl) ?_
  exact N_ret X ⟨by decide, by decide⟩ d_Ways_init_54
set_option maxHeartbeats 1000000 in
theorem n_Top_init (l : Launch) (G : Gw) (M : Mem) (o : Nat → Option va_E) (hM : Zr M 0) (ho : ∀ i, 0 ≤ i → o i = none) (d : Nat) (hD : 3 ≤ d) : Cn l G y_Top_init b_Top_init 1 d 0 M (o_s o 0 (some (.inr (11, [.null, .null, .null, .null, .null, .null, .null, .null, .null, .null, .null, .null, .null, .null, .null, .int 0, .int 0])))) 1 (s_i (s_i (mH (mN 36 (mN 32 (mG M)))) 0 15 0) 0 16 (-1)) o 161 3777 := by
  refine Cn_of (by decide) rfl (by decide) (fun E hE X hz hin ha hR => ?_)
  subst hE
  have h0 : G.2.2 ≤ E.2.2.2.2.1.heap.size := by omega
  have hrc : E.2.2.2.1.cells = 161 := by rw [hR]; rfl
  have hrs : E.2.2.2.1.slots = 3777 := by rw [hR]; rfl
  have hM0 : M.1 0 = fun _ => 0 := (hM 0 (Nat.le_refl _)).1
  have hM1 : M.2.1 0 = fun _ => 0 := (hM 0 (Nat.le_refl _)).2.1
  have hM2 : M.2.2 0 = fun _ => none := (hM 0 (Nat.le_refl _)).2.2
  refine N_aload_n (j := 0) X d_Top_init_0 rfl rfl rfl ?_
  refine N_obj X ml_Top_1 ob_w (by omega) (Nat.le_of_ble_eq_true rfl) d_Top_init_1 rfl ?_
  refine N_aload_n (j := 0) X d_Top_init_4 rfl rfl rfl ?_
  refine N_new (cs' := (1, 3)) (fs := [.null, .int 0, .int 0]) X (by dsimp only; omega) h0 ⟨by rw [hrc]; decide, by rw [hrs]; decide⟩ cl_Top_7 (c := 8) rfl iw_Signs t_Signs t_Signs_ok (by decide) d_Top_init_5 rfl rfl ?_
  refine N_dup X d_Top_init_8 rfl rfl ?_
  refine N_init (k := 1) (M' := M) (n' := 3) (cs' := (2, 83)) X (by dsimp only; omega) h0 ⟨by rw [hrc]; decide, by rw [hrs]; decide⟩ ha ml_Top_9 yi_Signs.1 yi_Signs.2 (n_Signs_init E.2.1 G M _ (show Zr M 1 from (fun i hi => hM i (by omega))) (fun i hi => o_ne (by omega) (ho i (by omega))) 1 (Nat.le_refl _)) (by omega) (Nat.le_of_ble_eq_true rfl) d_Top_init_9 rfl rfl rfl ?_
  refine N_fin2 (fs' := [.ref (G.2.2 + 1), .null, .null, .null, .null, .null, .null, .null, .null, .null, .null, .null, .null, .null, .null, .int 0, .int 0]) X hin ff_Top_10 (by omega) (Nat.le_of_ble_eq_true rfl) rfl rfl rfl d_Top_init_12 rfl ?_
  refine N_aload_n (j := 0) X d_Top_init_15 rfl rfl rfl ?_
  refine N_new (cs' := (3, 87)) (fs := [.null, .null, .int 0, .int 0]) X (by dsimp only; omega) h0 ⟨by rw [hrc]; decide, by rw [hrs]; decide⟩ cl_Top_16 (c := 3) rfl iw_Ground t_Ground t_Ground_ok (by decide) d_Top_init_16 rfl rfl ?_
  refine N_dup X d_Top_init_19 rfl rfl ?_
  refine N_init (k := 3) (M' := (mG M)) (n' := 6) (cs' := (5, 159)) X (by dsimp only; omega) h0 ⟨by rw [hrc]; decide, by rw [hrs]; decide⟩ ha ml_Top_18 yi_Ground.1 yi_Ground.2 (n_Ground_init E.2.1 G M _ (show Zr M 3 from (fun i hi => hM i (by omega))) (fun i hi => o_ne (by omega) (ho i (by omega))) 1 (Nat.le_refl _)) (by omega) (Nat.le_of_ble_eq_true rfl) d_Top_init_20 rfl rfl rfl ?_
  refine N_fin2 (fs' := [.ref (G.2.2 + 1), .ref (G.2.2 + 3), .null, .null, .null, .null, .null, .null, .null, .null, .null, .null, .null, .null, .null, .int 0, .int 0]) X hin ff_Top_19 (by omega) (Nat.le_of_ble_eq_true rfl) rfl rfl rfl d_Top_init_23 rfl ?_
  refine N_aload_n (j := 0) X d_Top_init_26 rfl rfl rfl ?_
  refine N_new (cs' := (6, 166)) (fs := [.null, .null, .null, .null, .int 0, .int 0, .int 0]) X (by dsimp only; omega) h0 ⟨by rw [hrc]; decide, by rw [hrs]; decide⟩ cl_Top_23 (c := 2) rfl iw_Crowd t_Crowd t_Crowd_ok (by decide) d_Top_init_27 rfl rfl ?_
  refine N_dup X d_Top_init_30 rfl rfl ?_
  refine N_init (k := 6) (M' := (mG M)) (n' := 11) (cs' := (10, 263)) X (by dsimp only; omega) h0 ⟨by rw [hrc]; decide, by rw [hrs]; decide⟩ ha ml_Top_25 yi_Crowd.1 yi_Crowd.2 (n_Crowd_init E.2.1 G (mG M) _ (show Zr (mG M) 6 from (zr_G (fun i hi => hM i (by omega)) (by omega))) (fun i hi => o_ne (by omega) (ho i (by omega))) 1 (Nat.le_refl _)) (by omega) (Nat.le_of_ble_eq_true rfl) d_Top_init_31 rfl rfl rfl ?_
  refine N_fin2 (fs' := [.ref (G.2.2 + 1), .ref (G.2.2 + 3), .ref (G.2.2 + 6), .null, .null, .null, .null, .null, .null, .null, .null, .null, .null, .null, .null, .int 0, .int 0]) X hin ff_Top_26 (by omega) (Nat.le_of_ble_eq_true rfl) rfl rfl rfl d_Top_init_34 rfl ?_
  refine N_aload_n (j := 0) X d_Top_init_37 rfl rfl rfl ?_
  refine N_new (cs' := (11, 273)) (fs := [.null, .null, .null, .null, .null, .null, .int 0, .int 0, .int 0, .int 0]) X (by dsimp only; omega) h0 ⟨by rw [hrc]; decide, by rw [hrs]; decide⟩ cl_Top_30 (c := 7) rfl iw_Scene t_Scene t_Scene_ok (by decide) d_Top_init_38 rfl rfl ?_
  refine N_dup X d_Top_init_41 rfl rfl ?_
  refine N_init (k := 11) (M' := (mG M)) (n' := 18) (cs' := (17, 373)) X (by dsimp only; omega) h0 ⟨by rw [hrc]; decide, by rw [hrs]; decide⟩ ha ml_Top_32 yi_Scene.1 yi_Scene.2 (n_Scene_init E.2.1 G 11 kd_11 (mG M) _ (show Zr (mG M) 11 from (zr_G (fun i hi => hM i (by omega)) (by omega))) (fun i hi => o_ne (by omega) (ho i (by omega))) 1 (Nat.le_refl _)) (by omega) (Nat.le_of_ble_eq_true rfl) d_Top_init_42 rfl rfl rfl ?_
  refine N_fin2 (fs' := [.ref (G.2.2 + 1), .ref (G.2.2 + 3), .ref (G.2.2 + 6), .ref (G.2.2 + 11), .null, .null, .null, .null, .null, .null, .null, .null, .null, .null, .null, .int 0, .int 0]) X hin ff_Top_33 (by omega) (Nat.le_of_ble_eq_true rfl) rfl rfl rfl d_Top_init_45 rfl ?_
  refine N_aload_n (j := 0) X d_Top_init_48 rfl rfl rfl ?_
  refine N_new (cs' := (18, 383)) (fs := [.null, .null, .null, .null, .null, .null, .int 0, .int 0, .int 0, .int 0]) X (by dsimp only; omega) h0 ⟨by rw [hrc]; decide, by rw [hrs]; decide⟩ cl_Top_30 (c := 7) rfl iw_Scene t_Scene t_Scene_ok (by decide) d_Top_init_49 rfl rfl ?_
  refine N_dup X d_Top_init_52 rfl rfl ?_
  refine N_init (k := 18) (M' := (mG M)) (n' := 25) (cs' := (24, 483)) X (by dsimp only; omega) h0 ⟨by rw [hrc]; decide, by rw [hrs]; decide⟩ ha ml_Top_32 yi_Scene.1 yi_Scene.2 (n_Scene_init E.2.1 G 18 kd_18 (mG M) _ (show Zr (mG M) 18 from (zr_G (fun i hi => hM i (by omega)) (by omega))) (fun i hi => o_ne (by omega) (ho i (by omega))) 1 (Nat.le_refl _)) (by omega) (Nat.le_of_ble_eq_true rfl) d_Top_init_53 rfl rfl rfl ?_
  refine N_fin2 (fs' := [.ref (G.2.2 + 1), .ref (G.2.2 + 3), .ref (G.2.2 + 6), .ref (G.2.2 + 11), .ref (G.2.2 + 18), .null, .null, .null, .null, .null, .null, .null, .null, .null, .null, .int 0, .int 0]) X hin ff_Top_37 (by omega) (Nat.le_of_ble_eq_true rfl) rfl rfl rfl d_Top_init_56 rfl ?_
  refine N_aload_n (j := 0) X d_Top_init_59 rfl rfl rfl ?_
  refine N_new (cs' := (25, 493)) (fs := [.null, .null, .null, .null, .null, .null, .int 0, .int 0, .int 0, .int 0]) X (by dsimp only; omega) h0 ⟨by rw [hrc]; decide, by rw [hrs]; decide⟩ cl_Top_30 (c := 7) rfl iw_Scene t_Scene t_Scene_ok (by decide) d_Top_init_60 rfl rfl ?_
  refine N_dup X d_Top_init_63 rfl rfl ?_
  refine N_init (k := 25) (M' := (mG M)) (n' := 32) (cs' := (31, 593)) X (by dsimp only; omega) h0 ⟨by rw [hrc]; decide, by rw [hrs]; decide⟩ ha ml_Top_32 yi_Scene.1 yi_Scene.2 (n_Scene_init E.2.1 G 25 kd_25 (mG M) _ (show Zr (mG M) 25 from (zr_G (fun i hi => hM i (by omega)) (by omega))) (fun i hi => o_ne (by omega) (ho i (by omega))) 1 (Nat.le_refl _)) (by omega) (Nat.le_of_ble_eq_true rfl) d_Top_init_64 rfl rfl rfl ?_
  refine N_fin2 (fs' := [.ref (G.2.2 + 1), .ref (G.2.2 + 3), .ref (G.2.2 + 6), .ref (G.2.2 + 11), .ref (G.2.2 + 18), .ref (G.2.2 + 25), .null, .null, .null, .null, .null, .null, .null, .null, .null, .int 0, .int 0]) X hin ff_Top_40 (by omega) (Nat.le_of_ble_eq_true rfl) rfl rfl rfl d_Top_init_67 rfl ?_
  refine N_aload_n (j := 0) X d_Top_init_70 rfl rfl rfl ?_
  refine N_new (cs' := (32, 596)) (fs := [.null, .null, .null]) X (by dsimp only; omega) h0 ⟨by rw [hrc]; decide, by rw [hrs]; decide⟩ cl_Top_43 (c := 6) rfl iw_Nets t_Nets t_Nets_ok (by decide) d_Top_init_71 rfl rfl ?_
  refine N_dup X d_Top_init_74 rfl rfl ?_
  refine N_init (k := 32) (M' := (mN 32 (mG M))) (n' := 36) (cs' := (35, 958)) X (by dsimp only; omega) h0 ⟨by rw [hrc]; decide, by rw [hrs]; decide⟩ ha ml_Top_45 yi_Nets.1 yi_Nets.2 (n_Nets_init E.2.1 G 32 kd_32 (mG M) _ (show Zr (mG M) 32 from (zr_G (fun i hi => hM i (by omega)) (by omega))) (fun i hi => o_ne (by omega) (ho i (by omega))) 1 (Nat.le_refl _)) (by omega) (Nat.le_of_ble_eq_true rfl) d_Top_init_75 rfl rfl rfl ?_
  refine N_fin2 (fs' := [.ref (G.2.2 + 1), .ref (G.2.2 + 3), .ref (G.2.2 + 6), .ref (G.2.2 + 11), .ref (G.2.2 + 18), .ref (G.2.2 + 25), .ref (G.2.2 + 32), .null, .null, .null, .null, .null, .null, .null, .null, .int 0, .int 0]) X hin ff_Top_46 (by omega) (Nat.le_of_ble_eq_true rfl) rfl rfl rfl d_Top_init_78 rfl ?_
  refine N_aload_n (j := 0) X d_Top_init_81 rfl rfl rfl ?_
  refine N_new (cs' := (36, 961)) (fs := [.null, .null, .null]) X (by dsimp only; omega) h0 ⟨by rw [hrc]; decide, by rw [hrs]; decide⟩ cl_Top_43 (c := 6) rfl iw_Nets t_Nets t_Nets_ok (by decide) d_Top_init_82 rfl rfl ?_
  refine N_dup X d_Top_init_85 rfl rfl ?_
  refine N_init (k := 36) (M' := (mN 36 (mN 32 (mG M)))) (n' := 40) (cs' := (39, 1323)) X (by dsimp only; omega) h0 ⟨by rw [hrc]; decide, by rw [hrs]; decide⟩ ha ml_Top_45 yi_Nets.1 yi_Nets.2 (n_Nets_init E.2.1 G 36 kd_36 (mN 32 (mG M)) _ (show Zr (mN 32 (mG M)) 36 from (zr_N (zr_G (fun i hi => hM i (by omega)) (by omega)) (by omega))) (fun i hi => o_ne (by omega) (ho i (by omega))) 1 (Nat.le_refl _)) (by omega) (Nat.le_of_ble_eq_true rfl) d_Top_init_86 rfl rfl rfl ?_
  refine N_fin2 (fs' := [.ref (G.2.2 + 1), .ref (G.2.2 + 3), .ref (G.2.2 + 6), .ref (G.2.2 + 11), .ref (G.2.2 + 18), .ref (G.2.2 + 25), .ref (G.2.2 + 32), .ref (G.2.2 + 36), .null, .null, .null, .null, .null, .null, .null, .int 0, .int 0]) X hin ff_Top_50 (by omega) (Nat.le_of_ble_eq_true rfl) rfl rfl rfl d_Top_init_89 rfl ?_
  refine N_aload_n (j := 0) X d_Top_init_92 rfl rfl rfl ?_
  refine N_new (cs' := (40, 1334)) (fs := [.null, .null, .null, .null, .int 0, .int 0, .int 0, .int 0, .int 0, .int 0, .int 0]) X (by dsimp only; omega) h0 ⟨by rw [hrc]; decide, by rw [hrs]; decide⟩ cl_Top_53 (c := 5) rfl iw_Law t_Law t_Law_ok (by decide) d_Top_init_93 rfl rfl ?_
  refine N_dup X d_Top_init_96 rfl rfl ?_
  refine N_init (k := 40) (M' := (mN 36 (mN 32 (mG M)))) (n' := 45) (cs' := (44, 1494)) X (by dsimp only; omega) h0 ⟨by rw [hrc]; decide, by rw [hrs]; decide⟩ ha ml_Top_55 yi_Law.1 yi_Law.2 (n_Law_init E.2.1 G (mN 36 (mN 32 (mG M))) _ (show Zr (mN 36 (mN 32 (mG M))) 40 from (zr_N (zr_N (zr_G (fun i hi => hM i (by omega)) (by omega)) (by omega)) (by omega))) (fun i hi => o_ne (by omega) (ho i (by omega))) 1 (Nat.le_refl _)) (by omega) (Nat.le_of_ble_eq_true rfl) d_Top_init_97 rfl rfl rfl ?_
  refine N_fin2 (fs' := [.ref (G.2.2 + 1), .ref (G.2.2 + 3), .ref (G.2.2 + 6), .ref (G.2.2 + 11), .ref (G.2.2 + 18), .ref (G.2.2 + 25), .ref (G.2.2 + 32), .ref (G.2.2 + 36), .ref (G.2.2 + 40), .null, .null, .null, .null, .null, .null, .int 0, .int 0]) X hin ff_Top_56 (by omega) (Nat.le_of_ble_eq_true rfl) rfl rfl rfl d_Top_init_100 rfl ?_
  refine N_aload_n (j := 0) X d_Top_init_103 rfl rfl rfl ?_
  refine N_new (cs' := (45, 1499)) (fs := [.int 0, .int 0, .int 0, .int 0, .int 0]) X (by dsimp only; omega) h0 ⟨by rw [hrc]; decide, by rw [hrs]; decide⟩ cl_Top_60 (c := 1) rfl iw_Clock t_Clock t_Clock_ok (by decide) d_Top_init_104 rfl rfl ?_
  refine N_dup X d_Top_init_107 rfl rfl ?_
  refine N_initN (k := 45) (M' := (mN 36 (mN 32 (mG M)))) (n' := 46) (cs' := (45, 1499)) X (by dsimp only; omega) h0 ⟨by rw [hrc]; decide, by rw [hrs]; decide⟩ ha ha.2 yi_Clock.1 yi_Clock.2 (n_Clock_init E.2.1 G (mN 36 (mN 32 (mG M))) _ (show Zr (mN 36 (mN 32 (mG M))) 45 from (zr_N (zr_N (zr_G (fun i hi => hM i (by omega)) (by omega)) (by omega)) (by omega))) (fun i hi => o_ne (by omega) (ho i (by omega))) 1 (Nat.le_refl _)) (by omega) (Nat.le_of_ble_eq_true rfl) d_Top_init_108 rfl rfl rfl ?_
  refine N_fin2 (fs' := [.ref (G.2.2 + 1), .ref (G.2.2 + 3), .ref (G.2.2 + 6), .ref (G.2.2 + 11), .ref (G.2.2 + 18), .ref (G.2.2 + 25), .ref (G.2.2 + 32), .ref (G.2.2 + 36), .ref (G.2.2 + 40), .ref (G.2.2 + 45), .null, .null, .null, .null, .null, .int 0, .int 0]) X hin ff_Top_63 (by omega) (Nat.le_of_ble_eq_true rfl) rfl rfl rfl d_Top_init_111 rfl ?_
  refine N_aload_n (j := 0) X d_Top_init_114 rfl rfl rfl ?_
  refine N_new (cs' := (46, 1503)) (fs := [.null, .null, .int 0, .int 0]) X (by dsimp only; omega) h0 ⟨by rw [hrc]; decide, by rw [hrs]; decide⟩ cl_Top_67 (c := 4) rfl iw_History t_History t_History_ok (by decide) d_Top_init_115 rfl rfl ?_
  refine N_dup X d_Top_init_118 rfl rfl ?_
  refine N_init (k := 46) (M' := (mH (mN 36 (mN 32 (mG M))))) (n' := 147) (cs' := (146, 3057)) X (by dsimp only; omega) h0 ⟨by rw [hrc]; decide, by rw [hrs]; decide⟩ ha ml_Top_69 yi_History.1 yi_History.2 (n_History_init E.2.1 G (mN 36 (mN 32 (mG M))) _ (show Zr (mN 36 (mN 32 (mG M))) 46 from (zr_N (zr_N (zr_G (fun i hi => hM i (by omega)) (by omega)) (by omega)) (by omega))) (fun i hi => o_ne (by omega) (ho i (by omega))) 2 (Nat.le_refl _)) (by omega) (Nat.le_of_ble_eq_true rfl) d_Top_init_119 rfl rfl rfl ?_
  refine N_fin2 (fs' := [.ref (G.2.2 + 1), .ref (G.2.2 + 3), .ref (G.2.2 + 6), .ref (G.2.2 + 11), .ref (G.2.2 + 18), .ref (G.2.2 + 25), .ref (G.2.2 + 32), .ref (G.2.2 + 36), .ref (G.2.2 + 40), .ref (G.2.2 + 45), .ref (G.2.2 + 46), .null, .null, .null, .null, .int 0, .int 0]) X hin ff_Top_70 (by omega) (Nat.le_of_ble_eq_true rfl) rfl rfl rfl d_Top_init_122 rfl ?_
  refine N_aload_n (j := 0) X d_Top_init_125 rfl rfl rfl ?_
  refine N_new (cs' := (147, 3061)) (fs := [.null, .null, .null, .int 0]) X (by dsimp only; omega) h0 ⟨by rw [hrc]; decide, by rw [hrs]; decide⟩ cl_Top_74 (c := 0) rfl iw_Acts t_Acts t_Acts_ok (by decide) d_Top_init_126 rfl rfl ?_
  refine N_dup X d_Top_init_129 rfl rfl ?_
  refine N_init (k := 147) (M' := (mH (mN 36 (mN 32 (mG M))))) (n' := 151) (cs' := (150, 3157)) X (by dsimp only; omega) h0 ⟨by rw [hrc]; decide, by rw [hrs]; decide⟩ ha ml_Top_76 yi_Acts.1 yi_Acts.2 (n_Acts_init E.2.1 G (mH (mN 36 (mN 32 (mG M)))) _ (show Zr (mH (mN 36 (mN 32 (mG M)))) 147 from (zr_H (zr_N (zr_N (zr_G (fun i hi => hM i (by omega)) (by omega)) (by omega)) (by omega)) (by omega))) (fun i hi => o_ne (by omega) (ho i (by omega))) 1 (Nat.le_refl _)) (by omega) (Nat.le_of_ble_eq_true rfl) d_Top_init_130 rfl rfl rfl ?_
  refine N_fin2 (fs' := [.ref (G.2.2 + 1), .ref (G.2.2 + 3), .ref (G.2.2 + 6), .ref (G.2.2 + 11), .ref (G.2.2 + 18), .ref (G.2.2 + 25), .ref (G.2.2 + 32), .ref (G.2.2 + 36), .ref (G.2.2 + 40), .ref (G.2.2 + 45), .ref (G.2.2 + 46), .ref (G.2.2 + 147), .null, .null, .null, .int 0, .int 0]) X hin ff_Top_77 (by omega) (Nat.le_of_ble_eq_true rfl) rfl rfl rfl d_Top_init_133 rfl ?_
  refine N_aload_n (j := 0) X d_Top_init_136 rfl rfl rfl ?_
  refine N_new (cs' := (151, 3161)) (fs := [.null, .null, .long 0, .long 0]) X (by dsimp only; omega) h0 ⟨by rw [hrc]; decide, by rw [hrs]; decide⟩ cl_Top_81 (c := 9) rfl iw_Thief t_Thief t_Thief_ok (by decide) d_Top_init_137 rfl rfl ?_
  refine N_dup X d_Top_init_140 rfl rfl ?_
  refine N_init (k := 151) (M' := (mH (mN 36 (mN 32 (mG M))))) (n' := 154) (cs' := (153, 3221)) X (by dsimp only; omega) h0 ⟨by rw [hrc]; decide, by rw [hrs]; decide⟩ ha ml_Top_83 yi_Thief.1 yi_Thief.2 (n_Thief_init E.2.1 G (mH (mN 36 (mN 32 (mG M)))) _ (show Zr (mH (mN 36 (mN 32 (mG M)))) 151 from (zr_H (zr_N (zr_N (zr_G (fun i hi => hM i (by omega)) (by omega)) (by omega)) (by omega)) (by omega))) (fun i hi => o_ne (by omega) (ho i (by omega))) 1 (Nat.le_refl _)) (by omega) (Nat.le_of_ble_eq_true rfl) d_Top_init_141 rfl rfl rfl ?_
  refine N_fin2 (fs' := [.ref (G.2.2 + 1), .ref (G.2.2 + 3), .ref (G.2.2 + 6), .ref (G.2.2 + 11), .ref (G.2.2 + 18), .ref (G.2.2 + 25), .ref (G.2.2 + 32), .ref (G.2.2 + 36), .ref (G.2.2 + 40), .ref (G.2.2 + 45), .ref (G.2.2 + 46), .ref (G.2.2 + 147), .ref (G.2.2 + 151), .null, .null, .int 0, .int 0]) X hin ff_Top_84 (by omega) (Nat.le_of_ble_eq_true rfl) rfl rfl rfl d_Top_init_144 rfl ?_
  refine N_aload_n (j := 0) X d_Top_init_147 rfl rfl rfl ?_
  refine N_new (cs' := (154, 3227)) (fs := [.null, .null, .null, .null, .null, .null]) X (by dsimp only; omega) h0 ⟨by rw [hrc]; decide, by rw [hrs]; decide⟩ cl_Top_88 (c := 10) rfl iw_Ways t_Ways t_Ways_ok (by decide) d_Top_init_148 rfl rfl ?_
  refine N_dup X d_Top_init_151 rfl rfl ?_
  refine N_init (k := 154) (M' := (mH (mN 36 (mN 32 (mG M))))) (n' := 161) (cs' := (160, 3767)) X (by dsimp only; omega) h0 ⟨by rw [hrc]; decide, by rw [hrs]; decide⟩ ha ml_Top_90 yi_Ways.1 yi_Ways.2 (n_Ways_init E.2.1 G (mH (mN 36 (mN 32 (mG M)))) _ (show Zr (mH (mN 36 (mN 32 (mG M)))) 154 from (zr_H (zr_N (zr_N (zr_G (fun i hi => hM i (by omega)) (by omega)) (by omega)) (by omega)) (by omega))) (fun i hi => o_ne (by omega) (ho i (by omega))) 1 (Nat.le_refl _)) (by omega) (Nat.le_of_ble_eq_true rfl) d_Top_init_152 rfl rfl rfl ?_
  refine N_fin2 (fs' := [.ref (G.2.2 + 1), .ref (G.2.2 + 3), .ref (G.2.2 + 6), .ref (G.2.2 + 11), .ref (G.2.2 + 18), .ref (G.2.2 + 25), .ref (G.2.2 + 32), .ref (G.2.2 + 36), .ref (G.2.2 + 40), .ref (G.2.2 + 45), .ref (G.2.2 + 46), .ref (G.2.2 + 147), .ref (G.2.2 + 151), .ref (G.2.2 + 154), .null, .int 0, .int 0]) X hin ff_Top_91 (by omega) (Nat.le_of_ble_eq_true rfl) rfl rfl rfl d_Top_init_155 rfl ?_
  refine N_aload_n (j := 0) X d_Top_init_158 rfl rfl rfl ?_
  refine N_bipush (v := 10) X d_Top_init_159 (by decide) rfl ?_
  refine N_newa (n := 161) (cs' := (161, 3777)) (t := 1) (N := 10) (ty := .int) (a0 := (10, .inl (fun _ => 0))) X (by dsimp only; omega) h0 ⟨by rw [hrc]; decide, by rw [hrs]; decide⟩ aw_int rfl rfl (fun _ => nofun) (fun _ => rfl) (by decide) (by decide) (by decide) (o_ne (by omega) (ho _ (by omega))) (new_i (show Zr (mH (mN 36 (mN 32 (mG M)))) 161 from (zr_H (zr_N (zr_N (zr_G (fun i hi => hM i (by omega)) (by omega)) (by omega)) (by omega)) (by omega))) (by omega) kd_161 (by decide) ln_161) d_Top_init_161 rfl rfl ?_
  refine N_fin2 (fs' := [.ref (G.2.2 + 1), .ref (G.2.2 + 3), .ref (G.2.2 + 6), .ref (G.2.2 + 11), .ref (G.2.2 + 18), .ref (G.2.2 + 25), .ref (G.2.2 + 32), .ref (G.2.2 + 36), .ref (G.2.2 + 40), .ref (G.2.2 + 45), .ref (G.2.2 + 46), .ref (G.2.2 + 147), .ref (G.2.2 + 151), .ref (G.2.2 + 154), .ref (G.2.2 + 161), .int 0, .int 0]) X hin ff_Top_95 (by omega) (Nat.le_of_ble_eq_true rfl) rfl rfl rfl d_Top_init_163 rfl ?_
  refine N_aload_n (j := 0) X d_Top_init_166 rfl rfl rfl ?_
  refine N_iconst (v := 0) X d_Top_init_167 (by decide) rfl ?_
  refine N_putu2 (fs' := [.ref (G.2.2 + 1), .ref (G.2.2 + 3), .ref (G.2.2 + 6), .ref (G.2.2 + 11), .ref (G.2.2 + 18), .ref (G.2.2 + 25), .ref (G.2.2 + 32), .ref (G.2.2 + 36), .ref (G.2.2 + 40), .ref (G.2.2 + 45), .ref (G.2.2 + 46), .ref (G.2.2 + 147), .ref (G.2.2 + 151), .ref (G.2.2 + 154), .ref (G.2.2 + 161), .int 0, .int 0]) X fp_Top_99 (by omega) (Nat.le_of_ble_eq_true rfl) rfl rfl rfl d_Top_init_168 rfl ?_
  refine N_aload_n (j := 0) X d_Top_init_171 rfl rfl rfl ?_
  refine N_iconst (v := -1) X d_Top_init_172 (by decide) rfl ?_
  refine N_putu2 (fs' := [.ref (G.2.2 + 1), .ref (G.2.2 + 3), .ref (G.2.2 + 6), .ref (G.2.2 + 11), .ref (G.2.2 + 18), .ref (G.2.2 + 25), .ref (G.2.2 + 32), .ref (G.2.2 + 36), .ref (G.2.2 + 40), .ref (G.2.2 + 45), .ref (G.2.2 + 46), .ref (G.2.2 + 147), .ref (G.2.2 + 151), .ref (G.2.2 + 154), .ref (G.2.2 + 161), .int 0, .int (-1)]) X fp_Top_103 (by omega) (Nat.le_of_ble_eq_true rfl) rfl rfl rfl d_Top_init_173 rfl ?_
  refine N_done2 (M' := (s_i (s_i (mH (mN 36 (mN 32 (mG M)))) 0 15 0) 0 16 (-1))) (ho 0 (Nat.le_refl _)) (by rw [dsc_o kd_0]; show Sum.inr (11, [fv G (s_i (s_i (mH (mN 36 (mN 32 (mG M)))) 0 15 0) 0 16 (-1)) 0 11 0, fv G (s_i (s_i (mH (mN 36 (mN 32 (mG M)))) 0 15 0) 0 16 (-1)) 0 11 1, fv G (s_i (s_i (mH (mN 36 (mN 32 (mG M)))) 0 15 0) 0 16 (-1)) 0 11 2, fv G (s_i (s_i (mH (mN 36 (mN 32 (mG M)))) 0 15 0) 0 16 (-1)) 0 11 3, fv G (s_i (s_i (mH (mN 36 (mN 32 (mG M)))) 0 15 0) 0 16 (-1)) 0 11 4, fv G (s_i (s_i (mH (mN 36 (mN 32 (mG M)))) 0 15 0) 0 16 (-1)) 0 11 5, fv G (s_i (s_i (mH (mN 36 (mN 32 (mG M)))) 0 15 0) 0 16 (-1)) 0 11 6, fv G (s_i (s_i (mH (mN 36 (mN 32 (mG M)))) 0 15 0) 0 16 (-1)) 0 11 7, fv G (s_i (s_i (mH (mN 36 (mN 32 (mG M)))) 0 15 0) 0 16 (-1)) 0 11 8, fv G (s_i (s_i (mH (mN 36 (mN 32 (mG M)))) 0 15 0) 0 16 (-1)) 0 11 9, fv G (s_i (s_i (mH (mN 36 (mN 32 (mG M)))) 0 15 0) 0 16 (-1)) 0 11 10, fv G (s_i (s_i (mH (mN 36 (mN 32 (mG M)))) 0 15 0) 0 16 (-1)) 0 11 11, fv G (s_i (s_i (mH (mN 36 (mN 32 (mG M)))) 0 15 0) 0 16 (-1)) 0 11 12, fv G (s_i (s_i (mH (mN 36 (mN 32 (mG M)))) 0 15 0) 0 16 (-1)) 0 11 13, fv G (s_i (s_i (mH (mN 36 (mN 32 (mG M)))) 0 15 0) 0 16 (-1)) 0 11 14, fv G (s_i (s_i (mH (mN 36 (mN 32 (mG M)))) 0 15 0) 0 16 (-1)) 0 11 15, fv G (s_i (s_i (mH (mN 36 (mN 32 (mG M)))) 0 15 0) 0 16 (-1)) 0 11 16]) = _; rw [fv_r (j := 0) rfl rf_0_0, fv_r (j := 1) rfl rf_0_1, fv_r (j := 2) rfl rf_0_2, fv_r (j := 3) rfl rf_0_3, fv_r (j := 4) rfl rf_0_4, fv_r (j := 5) rfl rf_0_5, fv_r (j := 6) rfl rf_0_6, fv_r (j := 7) rfl rf_0_7, fv_r (j := 8) rfl rf_0_8, fv_r (j := 9) rfl rf_0_9, fv_r (j := 10) rfl rf_0_10, fv_r (j := 11) rfl rf_0_11, fv_r (j := 12) rfl rf_0_12, fv_r (j := 13) rfl rf_0_13, fv_r (j := 14) rfl rf_0_14, fv_i (j := 15) (v := 0) rfl (by simp [s_i, s_l, fil, qfl, mG, mN, mH, hM0]), fv_i (j := 16) (v := (-1)) rfl (by simp [s_i, s_l, fil, qfl, mG, mN, mH, hM0])]) (fun a h => by rw [dsc_si h, dsc_si h]) ?_
  exact N_ret X ⟨by decide, by decide⟩ d_Top_init_176
set_option maxHeartbeats 1000000 in
theorem n_Mod_init (l : Launch) (G : Gw) (M : Mem) (o : Nat → Option va_E) (hM : Zr M 162) (ho : ∀ i, 162 ≤ i → o i = none) (d : Nat) (hD : 1 ≤ d) : Cn l G y_Mod_init b_Mod_init 1 d 162 M (o_s o 162 (some (.inr (12, [.null, .null, .int 0, .int 0, .int 0, .int 0, .null, .null, .int 0, .null, .int 0, .null, .int 0, .int 0, .null, .int 0, .int 0, .int 0, .int 0, .null, .null, .null, .null, .int 0, .null, .int 0, .null, .int 0, .null, .int 0, .int 0, .int 0, .null, .int 0, .null, .null, .null, .null, .null, .null, .null, .null, .int 0, .null, .null, .null, .null, .null, .int 0, .null, .null, .null])))) 163 (s_i (s_i (s_i (s_i M 162 2 1) 162 3 1) 162 8 (-1)) 164 0 3) o 29 4182 := by
  refine Cn_of (by decide) rfl (by decide) (fun E hE X hz hin ha hR => ?_)
  subst hE
  have h0 : G.2.2 ≤ E.2.2.2.2.1.heap.size := by omega
  have hrc : E.2.2.2.1.cells = 29 := by rw [hR]; rfl
  have hrs : E.2.2.2.1.slots = 4182 := by rw [hR]; rfl
  have hM0 : M.1 162 = fun _ => 0 := (hM 162 (Nat.le_refl _)).1
  have hM1 : M.2.1 162 = fun _ => 0 := (hM 162 (Nat.le_refl _)).2.1
  have hM2 : M.2.2 162 = fun _ => none := (hM 162 (Nat.le_refl _)).2.2
  refine N_aload_n (j := 0) X d_Mod_init_0 rfl rfl rfl ?_
  refine N_obj X ml_Mod_3 ob_w (by omega) (Nat.le_of_ble_eq_true rfl) d_Mod_init_1 rfl ?_
  refine N_aload_n (j := 0) X d_Mod_init_4 rfl rfl rfl ?_
  refine N_bipush (v := 96) X d_Mod_init_5 (by decide) rfl ?_
  refine N_newa (n := 163) (cs' := (1, 96)) (t := 1) (N := 96) (ty := .int) (a0 := (96, .inl (fun _ => 0))) X (by dsimp only; omega) h0 ⟨by rw [hrc]; decide, by rw [hrs]; decide⟩ aw_int rfl rfl (fun _ => nofun) (fun _ => rfl) (by decide) (by decide) (by decide) (o_ne (by omega) (ho _ (by omega))) (new_i (show Zr M 163 from (fun i hi => hM i (by omega))) (by omega) kd_163 (by decide) ln_163) d_Mod_init_7 rfl rfl ?_
  refine N_fin2 (fs' := [.ref (G.2.2 + 163), .null, .int 0, .int 0, .int 0, .int 0, .null, .null, .int 0, .null, .int 0, .null, .int 0, .int 0, .null, .int 0, .int 0, .int 0, .int 0, .null, .null, .null, .null, .int 0, .null, .int 0, .null, .int 0, .null, .int 0, .int 0, .int 0, .null, .int 0, .null, .null, .null, .null, .null, .null, .null, .null, .int 0, .null, .null, .null, .null, .null, .int 0, .null, .null, .null]) X hin ff_Mod_9 (by omega) (Nat.le_of_ble_eq_true rfl) rfl rfl rfl d_Mod_init_9 rfl ?_
  refine N_aload_n (j := 0) X d_Mod_init_12 rfl rfl rfl ?_
  refine N_bipush (v := 36) X d_Mod_init_13 (by decide) rfl ?_
  refine N_newa (n := 164) (cs' := (2, 132)) (t := 1) (N := 36) (ty := .int) (a0 := (36, .inl (fun _ => 0))) X (by dsimp only; omega) h0 ⟨by rw [hrc]; decide, by rw [hrs]; decide⟩ aw_int rfl rfl (fun _ => nofun) (fun _ => rfl) (by decide) (by decide) (by decide) (o_ne (by omega) (ho _ (by omega))) (new_i (show Zr M 164 from (fun i hi => hM i (by omega))) (by omega) kd_164 (by decide) ln_164) d_Mod_init_15 rfl rfl ?_
  refine N_fin2 (fs' := [.ref (G.2.2 + 163), .ref (G.2.2 + 164), .int 0, .int 0, .int 0, .int 0, .null, .null, .int 0, .null, .int 0, .null, .int 0, .int 0, .null, .int 0, .int 0, .int 0, .int 0, .null, .null, .null, .null, .int 0, .null, .int 0, .null, .int 0, .null, .int 0, .int 0, .int 0, .null, .int 0, .null, .null, .null, .null, .null, .null, .null, .null, .int 0, .null, .null, .null, .null, .null, .int 0, .null, .null, .null]) X hin ff_Mod_13 (by omega) (Nat.le_of_ble_eq_true rfl) rfl rfl rfl d_Mod_init_17 rfl ?_
  refine N_aload_n (j := 0) X d_Mod_init_20 rfl rfl rfl ?_
  refine N_iconst (v := 1) X d_Mod_init_21 (by decide) rfl ?_
  refine N_putu2 (fs' := [.ref (G.2.2 + 163), .ref (G.2.2 + 164), .int 1, .int 0, .int 0, .int 0, .null, .null, .int 0, .null, .int 0, .null, .int 0, .int 0, .null, .int 0, .int 0, .int 0, .int 0, .null, .null, .null, .null, .int 0, .null, .int 0, .null, .int 0, .null, .int 0, .int 0, .int 0, .null, .int 0, .null, .null, .null, .null, .null, .null, .null, .null, .int 0, .null, .null, .null, .null, .null, .int 0, .null, .null, .null]) X fp_Mod_16 (by omega) (Nat.le_of_ble_eq_true rfl) rfl rfl rfl d_Mod_init_22 rfl ?_
  refine N_aload_n (j := 0) X d_Mod_init_25 rfl rfl rfl ?_
  refine N_iconst (v := 1) X d_Mod_init_26 (by decide) rfl ?_
  refine N_putu2 (fs' := [.ref (G.2.2 + 163), .ref (G.2.2 + 164), .int 1, .int 1, .int 0, .int 0, .null, .null, .int 0, .null, .int 0, .null, .int 0, .int 0, .null, .int 0, .int 0, .int 0, .int 0, .null, .null, .null, .null, .int 0, .null, .int 0, .null, .int 0, .null, .int 0, .int 0, .int 0, .null, .int 0, .null, .null, .null, .null, .null, .null, .null, .null, .int 0, .null, .null, .null, .null, .null, .int 0, .null, .null, .null]) X fp_Mod_20 (by omega) (Nat.le_of_ble_eq_true rfl) rfl rfl rfl d_Mod_init_27 rfl ?_
  refine N_aload_n (j := 0) X d_Mod_init_30 rfl rfl rfl ?_
  refine N_bipush (v := 72) X d_Mod_init_31 (by decide) rfl ?_
  refine N_newa (n := 165) (cs' := (3, 204)) (t := 1) (N := 72) (ty := .int) (a0 := (72, .inl (fun _ => 0))) X (by dsimp only; omega) h0 ⟨by rw [hrc]; decide, by rw [hrs]; decide⟩ aw_int rfl rfl (fun _ => nofun) (fun _ => rfl) (by decide) (by decide) (by decide) (o_ne (by omega) (ho _ (by omega))) (new_i (show Zr M 165 from (fun i hi => hM i (by omega))) (by omega) kd_165 (by decide) ln_165) d_Mod_init_33 rfl rfl ?_
  refine N_fin2 (fs' := [.ref (G.2.2 + 163), .ref (G.2.2 + 164), .int 1, .int 1, .int 0, .int 0, .ref (G.2.2 + 165), .null, .int 0, .null, .int 0, .null, .int 0, .int 0, .null, .int 0, .int 0, .int 0, .int 0, .null, .null, .null, .null, .int 0, .null, .int 0, .null, .int 0, .null, .int 0, .int 0, .int 0, .null, .int 0, .null, .null, .null, .null, .null, .null, .null, .null, .int 0, .null, .null, .null, .null, .null, .int 0, .null, .null, .null]) X hin ff_Mod_23 (by omega) (Nat.le_of_ble_eq_true rfl) rfl rfl rfl d_Mod_init_35 rfl ?_
  refine N_aload_n (j := 0) X d_Mod_init_38 rfl rfl rfl ?_
  refine N_bipush (v := 8) X d_Mod_init_39 (by decide) rfl ?_
  refine N_newa (n := 166) (cs' := (4, 212)) (t := 1) (N := 8) (ty := .int) (a0 := (8, .inl (fun _ => 0))) X (by dsimp only; omega) h0 ⟨by rw [hrc]; decide, by rw [hrs]; decide⟩ aw_int rfl rfl (fun _ => nofun) (fun _ => rfl) (by decide) (by decide) (by decide) (o_ne (by omega) (ho _ (by omega))) (new_i (show Zr M 166 from (fun i hi => hM i (by omega))) (by omega) kd_166 (by decide) ln_166) d_Mod_init_41 rfl rfl ?_
  refine N_fin2 (fs' := [.ref (G.2.2 + 163), .ref (G.2.2 + 164), .int 1, .int 1, .int 0, .int 0, .ref (G.2.2 + 165), .ref (G.2.2 + 166), .int 0, .null, .int 0, .null, .int 0, .int 0, .null, .int 0, .int 0, .int 0, .int 0, .null, .null, .null, .null, .int 0, .null, .int 0, .null, .int 0, .null, .int 0, .int 0, .int 0, .null, .int 0, .null, .null, .null, .null, .null, .null, .null, .null, .int 0, .null, .null, .null, .null, .null, .int 0, .null, .null, .null]) X hin ff_Mod_26 (by omega) (Nat.le_of_ble_eq_true rfl) rfl rfl rfl d_Mod_init_43 rfl ?_
  refine N_aload_n (j := 0) X d_Mod_init_46 rfl rfl rfl ?_
  refine N_iconst (v := -1) X d_Mod_init_47 (by decide) rfl ?_
  refine N_putu2 (fs' := [.ref (G.2.2 + 163), .ref (G.2.2 + 164), .int 1, .int 1, .int 0, .int 0, .ref (G.2.2 + 165), .ref (G.2.2 + 166), .int (-1), .null, .int 0, .null, .int 0, .int 0, .null, .int 0, .int 0, .int 0, .int 0, .null, .null, .null, .null, .int 0, .null, .int 0, .null, .int 0, .null, .int 0, .int 0, .int 0, .null, .int 0, .null, .null, .null, .null, .null, .null, .null, .null, .int 0, .null, .null, .null, .null, .null, .int 0, .null, .null, .null]) X fp_Mod_29 (by omega) (Nat.le_of_ble_eq_true rfl) rfl rfl rfl d_Mod_init_48 rfl ?_
  refine N_aload_n (j := 0) X d_Mod_init_51 rfl rfl rfl ?_
  refine N_bipush (v := 80) X d_Mod_init_52 (by decide) rfl ?_
  refine N_newa (n := 167) (cs' := (5, 292)) (t := 2) (N := 80) (ty := .byte) (a0 := (80, .inl (fun _ => 0))) X (by dsimp only; omega) h0 ⟨by rw [hrc]; decide, by rw [hrs]; decide⟩ aw_byte rfl rfl (fun _ => nofun) (fun _ => rfl) (by decide) (by decide) (by decide) (o_ne (by omega) (ho _ (by omega))) (new_i (show Zr M 167 from (fun i hi => hM i (by omega))) (by omega) kd_167 (by decide) ln_167) d_Mod_init_54 rfl rfl ?_
  refine N_fin2 (fs' := [.ref (G.2.2 + 163), .ref (G.2.2 + 164), .int 1, .int 1, .int 0, .int 0, .ref (G.2.2 + 165), .ref (G.2.2 + 166), .int (-1), .ref (G.2.2 + 167), .int 0, .null, .int 0, .int 0, .null, .int 0, .int 0, .int 0, .int 0, .null, .null, .null, .null, .int 0, .null, .int 0, .null, .int 0, .null, .int 0, .int 0, .int 0, .null, .int 0, .null, .null, .null, .null, .null, .null, .null, .null, .int 0, .null, .null, .null, .null, .null, .int 0, .null, .null, .null]) X hin ff_Mod_32 (by omega) (Nat.le_of_ble_eq_true rfl) rfl rfl rfl d_Mod_init_56 rfl ?_
  refine N_aload_n (j := 0) X d_Mod_init_59 rfl rfl rfl ?_
  refine N_bipush (v := 16) X d_Mod_init_60 (by decide) rfl ?_
  refine N_newa (n := 168) (cs' := (6, 308)) (t := 1) (N := 16) (ty := .int) (a0 := (16, .inl (fun _ => 0))) X (by dsimp only; omega) h0 ⟨by rw [hrc]; decide, by rw [hrs]; decide⟩ aw_int rfl rfl (fun _ => nofun) (fun _ => rfl) (by decide) (by decide) (by decide) (o_ne (by omega) (ho _ (by omega))) (new_i (show Zr M 168 from (fun i hi => hM i (by omega))) (by omega) kd_168 (by decide) ln_168) d_Mod_init_62 rfl rfl ?_
  refine N_fin2 (fs' := [.ref (G.2.2 + 163), .ref (G.2.2 + 164), .int 1, .int 1, .int 0, .int 0, .ref (G.2.2 + 165), .ref (G.2.2 + 166), .int (-1), .ref (G.2.2 + 167), .int 0, .ref (G.2.2 + 168), .int 0, .int 0, .null, .int 0, .int 0, .int 0, .int 0, .null, .null, .null, .null, .int 0, .null, .int 0, .null, .int 0, .null, .int 0, .int 0, .int 0, .null, .int 0, .null, .null, .null, .null, .null, .null, .null, .null, .int 0, .null, .null, .null, .null, .null, .int 0, .null, .null, .null]) X hin ff_Mod_36 (by omega) (Nat.le_of_ble_eq_true rfl) rfl rfl rfl d_Mod_init_64 rfl ?_
  refine N_aload_n (j := 0) X d_Mod_init_67 rfl rfl rfl ?_
  refine N_bipush (v := 36) X d_Mod_init_68 (by decide) rfl ?_
  refine N_newa (n := 169) (cs' := (7, 344)) (t := 1) (N := 36) (ty := .int) (a0 := (36, .inl (fun _ => 0))) X (by dsimp only; omega) h0 ⟨by rw [hrc]; decide, by rw [hrs]; decide⟩ aw_int rfl rfl (fun _ => nofun) (fun _ => rfl) (by decide) (by decide) (by decide) (o_ne (by omega) (ho _ (by omega))) (new_i (show Zr M 169 from (fun i hi => hM i (by omega))) (by omega) kd_169 (by decide) ln_169) d_Mod_init_70 rfl rfl ?_
  refine N_fin2 (fs' := [.ref (G.2.2 + 163), .ref (G.2.2 + 164), .int 1, .int 1, .int 0, .int 0, .ref (G.2.2 + 165), .ref (G.2.2 + 166), .int (-1), .ref (G.2.2 + 167), .int 0, .ref (G.2.2 + 168), .int 0, .int 0, .null, .int 0, .int 0, .int 0, .int 0, .ref (G.2.2 + 169), .null, .null, .null, .int 0, .null, .int 0, .null, .int 0, .null, .int 0, .int 0, .int 0, .null, .int 0, .null, .null, .null, .null, .null, .null, .null, .null, .int 0, .null, .null, .null, .null, .null, .int 0, .null, .null, .null]) X hin ff_Mod_39 (by omega) (Nat.le_of_ble_eq_true rfl) rfl rfl rfl d_Mod_init_72 rfl ?_
  refine N_aload_n (j := 0) X d_Mod_init_75 rfl rfl rfl ?_
  refine N_bipush (v := 96) X d_Mod_init_76 (by decide) rfl ?_
  refine N_newa (n := 170) (cs' := (8, 440)) (t := 1) (N := 96) (ty := .int) (a0 := (96, .inl (fun _ => 0))) X (by dsimp only; omega) h0 ⟨by rw [hrc]; decide, by rw [hrs]; decide⟩ aw_int rfl rfl (fun _ => nofun) (fun _ => rfl) (by decide) (by decide) (by decide) (o_ne (by omega) (ho _ (by omega))) (new_i (show Zr M 170 from (fun i hi => hM i (by omega))) (by omega) kd_170 (by decide) ln_170) d_Mod_init_78 rfl rfl ?_
  refine N_fin2 (fs' := [.ref (G.2.2 + 163), .ref (G.2.2 + 164), .int 1, .int 1, .int 0, .int 0, .ref (G.2.2 + 165), .ref (G.2.2 + 166), .int (-1), .ref (G.2.2 + 167), .int 0, .ref (G.2.2 + 168), .int 0, .int 0, .null, .int 0, .int 0, .int 0, .int 0, .ref (G.2.2 + 169), .ref (G.2.2 + 170), .null, .null, .int 0, .null, .int 0, .null, .int 0, .null, .int 0, .int 0, .int 0, .null, .int 0, .null, .null, .null, .null, .null, .null, .null, .null, .int 0, .null, .null, .null, .null, .null, .int 0, .null, .null, .null]) X hin ff_Mod_42 (by omega) (Nat.le_of_ble_eq_true rfl) rfl rfl rfl d_Mod_init_80 rfl ?_
  refine N_aload_n (j := 0) X d_Mod_init_83 rfl rfl rfl ?_
  refine N_bipush (v := 9) X d_Mod_init_84 (by decide) rfl ?_
  refine N_newa (n := 171) (cs' := (9, 449)) (t := 1) (N := 9) (ty := .int) (a0 := (9, .inl (fun _ => 0))) X (by dsimp only; omega) h0 ⟨by rw [hrc]; decide, by rw [hrs]; decide⟩ aw_int rfl rfl (fun _ => nofun) (fun _ => rfl) (by decide) (by decide) (by decide) (o_ne (by omega) (ho _ (by omega))) (new_i (show Zr M 171 from (fun i hi => hM i (by omega))) (by omega) kd_171 (by decide) ln_171) d_Mod_init_86 rfl rfl ?_
  refine N_fin2 (fs' := [.ref (G.2.2 + 163), .ref (G.2.2 + 164), .int 1, .int 1, .int 0, .int 0, .ref (G.2.2 + 165), .ref (G.2.2 + 166), .int (-1), .ref (G.2.2 + 167), .int 0, .ref (G.2.2 + 168), .int 0, .int 0, .null, .int 0, .int 0, .int 0, .int 0, .ref (G.2.2 + 169), .ref (G.2.2 + 170), .ref (G.2.2 + 171), .null, .int 0, .null, .int 0, .null, .int 0, .null, .int 0, .int 0, .int 0, .null, .int 0, .null, .null, .null, .null, .null, .null, .null, .null, .int 0, .null, .null, .null, .null, .null, .int 0, .null, .null, .null]) X hin ff_Mod_45 (by omega) (Nat.le_of_ble_eq_true rfl) rfl rfl rfl d_Mod_init_88 rfl ?_
  refine N_aload_n (j := 0) X d_Mod_init_91 rfl rfl rfl ?_
  refine N_bipush (v := 40) X d_Mod_init_92 (by decide) rfl ?_
  refine N_newa (n := 172) (cs' := (10, 489)) (t := 2) (N := 40) (ty := .byte) (a0 := (40, .inl (fun _ => 0))) X (by dsimp only; omega) h0 ⟨by rw [hrc]; decide, by rw [hrs]; decide⟩ aw_byte rfl rfl (fun _ => nofun) (fun _ => rfl) (by decide) (by decide) (by decide) (o_ne (by omega) (ho _ (by omega))) (new_i (show Zr M 172 from (fun i hi => hM i (by omega))) (by omega) kd_172 (by decide) ln_172) d_Mod_init_94 rfl rfl ?_
  refine N_fin2 (fs' := [.ref (G.2.2 + 163), .ref (G.2.2 + 164), .int 1, .int 1, .int 0, .int 0, .ref (G.2.2 + 165), .ref (G.2.2 + 166), .int (-1), .ref (G.2.2 + 167), .int 0, .ref (G.2.2 + 168), .int 0, .int 0, .null, .int 0, .int 0, .int 0, .int 0, .ref (G.2.2 + 169), .ref (G.2.2 + 170), .ref (G.2.2 + 171), .ref (G.2.2 + 172), .int 0, .null, .int 0, .null, .int 0, .null, .int 0, .int 0, .int 0, .null, .int 0, .null, .null, .null, .null, .null, .null, .null, .null, .int 0, .null, .null, .null, .null, .null, .int 0, .null, .null, .null]) X hin ff_Mod_48 (by omega) (Nat.le_of_ble_eq_true rfl) rfl rfl rfl d_Mod_init_96 rfl ?_
  refine N_aload_n (j := 0) X d_Mod_init_99 rfl rfl rfl ?_
  refine N_sipush (v := 1152) X d_Mod_init_100 (by decide) rfl ?_
  refine N_newa (n := 173) (cs' := (11, 1641)) (t := 1) (N := 1152) (ty := .int) (a0 := (1152, .inl (fun _ => 0))) X (by dsimp only; omega) h0 ⟨by rw [hrc]; decide, by rw [hrs]; decide⟩ aw_int rfl rfl (fun _ => nofun) (fun _ => rfl) (by decide) (by decide) (by decide) (o_ne (by omega) (ho _ (by omega))) (new_i (show Zr M 173 from (fun i hi => hM i (by omega))) (by omega) kd_173 (by decide) ln_173) d_Mod_init_103 rfl rfl ?_
  refine N_fin2 (fs' := [.ref (G.2.2 + 163), .ref (G.2.2 + 164), .int 1, .int 1, .int 0, .int 0, .ref (G.2.2 + 165), .ref (G.2.2 + 166), .int (-1), .ref (G.2.2 + 167), .int 0, .ref (G.2.2 + 168), .int 0, .int 0, .null, .int 0, .int 0, .int 0, .int 0, .ref (G.2.2 + 169), .ref (G.2.2 + 170), .ref (G.2.2 + 171), .ref (G.2.2 + 172), .int 0, .null, .int 0, .ref (G.2.2 + 173), .int 0, .null, .int 0, .int 0, .int 0, .null, .int 0, .null, .null, .null, .null, .null, .null, .null, .null, .int 0, .null, .null, .null, .null, .null, .int 0, .null, .null, .null]) X hin ff_Mod_51 (by omega) (Nat.le_of_ble_eq_true rfl) rfl rfl rfl d_Mod_init_105 rfl ?_
  refine N_aload_n (j := 0) X d_Mod_init_108 rfl rfl rfl ?_
  refine N_bipush (v := 96) X d_Mod_init_109 (by decide) rfl ?_
  refine N_newa (n := 174) (cs' := (12, 1737)) (t := 1) (N := 96) (ty := .int) (a0 := (96, .inl (fun _ => 0))) X (by dsimp only; omega) h0 ⟨by rw [hrc]; decide, by rw [hrs]; decide⟩ aw_int rfl rfl (fun _ => nofun) (fun _ => rfl) (by decide) (by decide) (by decide) (o_ne (by omega) (ho _ (by omega))) (new_i (show Zr M 174 from (fun i hi => hM i (by omega))) (by omega) kd_174 (by decide) ln_174) d_Mod_init_111 rfl rfl ?_
  refine N_fin2 (fs' := [.ref (G.2.2 + 163), .ref (G.2.2 + 164), .int 1, .int 1, .int 0, .int 0, .ref (G.2.2 + 165), .ref (G.2.2 + 166), .int (-1), .ref (G.2.2 + 167), .int 0, .ref (G.2.2 + 168), .int 0, .int 0, .null, .int 0, .int 0, .int 0, .int 0, .ref (G.2.2 + 169), .ref (G.2.2 + 170), .ref (G.2.2 + 171), .ref (G.2.2 + 172), .int 0, .null, .int 0, .ref (G.2.2 + 173), .int 0, .ref (G.2.2 + 174), .int 0, .int 0, .int 0, .null, .int 0, .null, .null, .null, .null, .null, .null, .null, .null, .int 0, .null, .null, .null, .null, .null, .int 0, .null, .null, .null]) X hin ff_Mod_54 (by omega) (Nat.le_of_ble_eq_true rfl) rfl rfl rfl d_Mod_init_113 rfl ?_
  refine N_aload_n (j := 0) X d_Mod_init_116 rfl rfl rfl ?_
  refine N_sipush (v := 240) X d_Mod_init_117 (by decide) rfl ?_
  refine N_newa (n := 175) (cs' := (13, 1977)) (t := 1) (N := 240) (ty := .int) (a0 := (240, .inl (fun _ => 0))) X (by dsimp only; omega) h0 ⟨by rw [hrc]; decide, by rw [hrs]; decide⟩ aw_int rfl rfl (fun _ => nofun) (fun _ => rfl) (by decide) (by decide) (by decide) (o_ne (by omega) (ho _ (by omega))) (new_i (show Zr M 175 from (fun i hi => hM i (by omega))) (by omega) kd_175 (by decide) ln_175) d_Mod_init_120 rfl rfl ?_
  refine N_fin2 (fs' := [.ref (G.2.2 + 163), .ref (G.2.2 + 164), .int 1, .int 1, .int 0, .int 0, .ref (G.2.2 + 165), .ref (G.2.2 + 166), .int (-1), .ref (G.2.2 + 167), .int 0, .ref (G.2.2 + 168), .int 0, .int 0, .null, .int 0, .int 0, .int 0, .int 0, .ref (G.2.2 + 169), .ref (G.2.2 + 170), .ref (G.2.2 + 171), .ref (G.2.2 + 172), .int 0, .null, .int 0, .ref (G.2.2 + 173), .int 0, .ref (G.2.2 + 174), .int 0, .int 0, .int 0, .ref (G.2.2 + 175), .int 0, .null, .null, .null, .null, .null, .null, .null, .null, .int 0, .null, .null, .null, .null, .null, .int 0, .null, .null, .null]) X hin ff_Mod_57 (by omega) (Nat.le_of_ble_eq_true rfl) rfl rfl rfl d_Mod_init_122 rfl ?_
  refine N_aload_n (j := 0) X d_Mod_init_125 rfl rfl rfl ?_
  refine N_bipush (v := 96) X d_Mod_init_126 (by decide) rfl ?_
  refine N_newa (n := 176) (cs' := (14, 2073)) (t := 1) (N := 96) (ty := .int) (a0 := (96, .inl (fun _ => 0))) X (by dsimp only; omega) h0 ⟨by rw [hrc]; decide, by rw [hrs]; decide⟩ aw_int rfl rfl (fun _ => nofun) (fun _ => rfl) (by decide) (by decide) (by decide) (o_ne (by omega) (ho _ (by omega))) (new_i (show Zr M 176 from (fun i hi => hM i (by omega))) (by omega) kd_176 (by decide) ln_176) d_Mod_init_128 rfl rfl ?_
  refine N_fin2 (fs' := [.ref (G.2.2 + 163), .ref (G.2.2 + 164), .int 1, .int 1, .int 0, .int 0, .ref (G.2.2 + 165), .ref (G.2.2 + 166), .int (-1), .ref (G.2.2 + 167), .int 0, .ref (G.2.2 + 168), .int 0, .int 0, .null, .int 0, .int 0, .int 0, .int 0, .ref (G.2.2 + 169), .ref (G.2.2 + 170), .ref (G.2.2 + 171), .ref (G.2.2 + 172), .int 0, .null, .int 0, .ref (G.2.2 + 173), .int 0, .ref (G.2.2 + 174), .int 0, .int 0, .int 0, .ref (G.2.2 + 175), .int 0, .ref (G.2.2 + 176), .null, .null, .null, .null, .null, .null, .null, .int 0, .null, .null, .null, .null, .null, .int 0, .null, .null, .null]) X hin ff_Mod_60 (by omega) (Nat.le_of_ble_eq_true rfl) rfl rfl rfl d_Mod_init_130 rfl ?_
  refine N_aload_n (j := 0) X d_Mod_init_133 rfl rfl rfl ?_
  refine N_bipush (v := 72) X d_Mod_init_134 (by decide) rfl ?_
  refine N_newa (n := 177) (cs' := (15, 2145)) (t := 1) (N := 72) (ty := .int) (a0 := (72, .inl (fun _ => 0))) X (by dsimp only; omega) h0 ⟨by rw [hrc]; decide, by rw [hrs]; decide⟩ aw_int rfl rfl (fun _ => nofun) (fun _ => rfl) (by decide) (by decide) (by decide) (o_ne (by omega) (ho _ (by omega))) (new_i (show Zr M 177 from (fun i hi => hM i (by omega))) (by omega) kd_177 (by decide) ln_177) d_Mod_init_136 rfl rfl ?_
  refine N_fin2 (fs' := [.ref (G.2.2 + 163), .ref (G.2.2 + 164), .int 1, .int 1, .int 0, .int 0, .ref (G.2.2 + 165), .ref (G.2.2 + 166), .int (-1), .ref (G.2.2 + 167), .int 0, .ref (G.2.2 + 168), .int 0, .int 0, .null, .int 0, .int 0, .int 0, .int 0, .ref (G.2.2 + 169), .ref (G.2.2 + 170), .ref (G.2.2 + 171), .ref (G.2.2 + 172), .int 0, .null, .int 0, .ref (G.2.2 + 173), .int 0, .ref (G.2.2 + 174), .int 0, .int 0, .int 0, .ref (G.2.2 + 175), .int 0, .ref (G.2.2 + 176), .ref (G.2.2 + 177), .null, .null, .null, .null, .null, .null, .int 0, .null, .null, .null, .null, .null, .int 0, .null, .null, .null]) X hin ff_Mod_63 (by omega) (Nat.le_of_ble_eq_true rfl) rfl rfl rfl d_Mod_init_138 rfl ?_
  refine N_aload_n (j := 0) X d_Mod_init_141 rfl rfl rfl ?_
  refine N_iconst (v := 2) X d_Mod_init_142 (by decide) rfl ?_
  refine N_newa (n := 178) (cs' := (16, 2147)) (t := 1) (N := 2) (ty := .int) (a0 := (2, .inl (fun _ => 0))) X (by dsimp only; omega) h0 ⟨by rw [hrc]; decide, by rw [hrs]; decide⟩ aw_int rfl rfl (fun _ => nofun) (fun _ => rfl) (by decide) (by decide) (by decide) (o_ne (by omega) (ho _ (by omega))) (new_i (show Zr M 178 from (fun i hi => hM i (by omega))) (by omega) kd_178 (by decide) ln_178) d_Mod_init_143 rfl rfl ?_
  refine N_fin2 (fs' := [.ref (G.2.2 + 163), .ref (G.2.2 + 164), .int 1, .int 1, .int 0, .int 0, .ref (G.2.2 + 165), .ref (G.2.2 + 166), .int (-1), .ref (G.2.2 + 167), .int 0, .ref (G.2.2 + 168), .int 0, .int 0, .null, .int 0, .int 0, .int 0, .int 0, .ref (G.2.2 + 169), .ref (G.2.2 + 170), .ref (G.2.2 + 171), .ref (G.2.2 + 172), .int 0, .null, .int 0, .ref (G.2.2 + 173), .int 0, .ref (G.2.2 + 174), .int 0, .int 0, .int 0, .ref (G.2.2 + 175), .int 0, .ref (G.2.2 + 176), .ref (G.2.2 + 177), .ref (G.2.2 + 178), .null, .null, .null, .null, .null, .int 0, .null, .null, .null, .null, .null, .int 0, .null, .null, .null]) X hin ff_Mod_66 (by omega) (Nat.le_of_ble_eq_true rfl) rfl rfl rfl d_Mod_init_145 rfl ?_
  refine N_aload_n (j := 0) X d_Mod_init_148 rfl rfl rfl ?_
  refine N_bipush (v := 36) X d_Mod_init_149 (by decide) rfl ?_
  refine N_newa (n := 179) (cs' := (17, 2183)) (t := 3) (N := 36) (ty := .boolean) (a0 := (36, .inl (fun _ => 0))) X (by dsimp only; omega) h0 ⟨by rw [hrc]; decide, by rw [hrs]; decide⟩ aw_boolean rfl rfl (fun _ => nofun) (fun _ => rfl) (by decide) (by decide) (by decide) (o_ne (by omega) (ho _ (by omega))) (new_i (show Zr M 179 from (fun i hi => hM i (by omega))) (by omega) kd_179 (by decide) ln_179) d_Mod_init_151 rfl rfl ?_
  refine N_fin2 (fs' := [.ref (G.2.2 + 163), .ref (G.2.2 + 164), .int 1, .int 1, .int 0, .int 0, .ref (G.2.2 + 165), .ref (G.2.2 + 166), .int (-1), .ref (G.2.2 + 167), .int 0, .ref (G.2.2 + 168), .int 0, .int 0, .null, .int 0, .int 0, .int 0, .int 0, .ref (G.2.2 + 169), .ref (G.2.2 + 170), .ref (G.2.2 + 171), .ref (G.2.2 + 172), .int 0, .null, .int 0, .ref (G.2.2 + 173), .int 0, .ref (G.2.2 + 174), .int 0, .int 0, .int 0, .ref (G.2.2 + 175), .int 0, .ref (G.2.2 + 176), .ref (G.2.2 + 177), .ref (G.2.2 + 178), .ref (G.2.2 + 179), .null, .null, .null, .null, .int 0, .null, .null, .null, .null, .null, .int 0, .null, .null, .null]) X hin ff_Mod_69 (by omega) (Nat.le_of_ble_eq_true rfl) rfl rfl rfl d_Mod_init_153 rfl ?_
  refine N_aload_n (j := 0) X d_Mod_init_156 rfl rfl rfl ?_
  refine N_bipush (v := 72) X d_Mod_init_157 (by decide) rfl ?_
  refine N_newa (n := 180) (cs' := (18, 2255)) (t := 1) (N := 72) (ty := .int) (a0 := (72, .inl (fun _ => 0))) X (by dsimp only; omega) h0 ⟨by rw [hrc]; decide, by rw [hrs]; decide⟩ aw_int rfl rfl (fun _ => nofun) (fun _ => rfl) (by decide) (by decide) (by decide) (o_ne (by omega) (ho _ (by omega))) (new_i (show Zr M 180 from (fun i hi => hM i (by omega))) (by omega) kd_180 (by decide) ln_180) d_Mod_init_159 rfl rfl ?_
  refine N_fin2 (fs' := [.ref (G.2.2 + 163), .ref (G.2.2 + 164), .int 1, .int 1, .int 0, .int 0, .ref (G.2.2 + 165), .ref (G.2.2 + 166), .int (-1), .ref (G.2.2 + 167), .int 0, .ref (G.2.2 + 168), .int 0, .int 0, .null, .int 0, .int 0, .int 0, .int 0, .ref (G.2.2 + 169), .ref (G.2.2 + 170), .ref (G.2.2 + 171), .ref (G.2.2 + 172), .int 0, .null, .int 0, .ref (G.2.2 + 173), .int 0, .ref (G.2.2 + 174), .int 0, .int 0, .int 0, .ref (G.2.2 + 175), .int 0, .ref (G.2.2 + 176), .ref (G.2.2 + 177), .ref (G.2.2 + 178), .ref (G.2.2 + 179), .ref (G.2.2 + 180), .null, .null, .null, .int 0, .null, .null, .null, .null, .null, .int 0, .null, .null, .null]) X hin ff_Mod_73 (by omega) (Nat.le_of_ble_eq_true rfl) rfl rfl rfl d_Mod_init_161 rfl ?_
  refine N_aload_n (j := 0) X d_Mod_init_164 rfl rfl rfl ?_
  refine N_bipush (v := 72) X d_Mod_init_165 (by decide) rfl ?_
  refine N_newa (n := 181) (cs' := (19, 2327)) (t := 1) (N := 72) (ty := .int) (a0 := (72, .inl (fun _ => 0))) X (by dsimp only; omega) h0 ⟨by rw [hrc]; decide, by rw [hrs]; decide⟩ aw_int rfl rfl (fun _ => nofun) (fun _ => rfl) (by decide) (by decide) (by decide) (o_ne (by omega) (ho _ (by omega))) (new_i (show Zr M 181 from (fun i hi => hM i (by omega))) (by omega) kd_181 (by decide) ln_181) d_Mod_init_167 rfl rfl ?_
  refine N_fin2 (fs' := [.ref (G.2.2 + 163), .ref (G.2.2 + 164), .int 1, .int 1, .int 0, .int 0, .ref (G.2.2 + 165), .ref (G.2.2 + 166), .int (-1), .ref (G.2.2 + 167), .int 0, .ref (G.2.2 + 168), .int 0, .int 0, .null, .int 0, .int 0, .int 0, .int 0, .ref (G.2.2 + 169), .ref (G.2.2 + 170), .ref (G.2.2 + 171), .ref (G.2.2 + 172), .int 0, .null, .int 0, .ref (G.2.2 + 173), .int 0, .ref (G.2.2 + 174), .int 0, .int 0, .int 0, .ref (G.2.2 + 175), .int 0, .ref (G.2.2 + 176), .ref (G.2.2 + 177), .ref (G.2.2 + 178), .ref (G.2.2 + 179), .ref (G.2.2 + 180), .ref (G.2.2 + 181), .null, .null, .int 0, .null, .null, .null, .null, .null, .int 0, .null, .null, .null]) X hin ff_Mod_76 (by omega) (Nat.le_of_ble_eq_true rfl) rfl rfl rfl d_Mod_init_169 rfl ?_
  refine N_aload_n (j := 0) X d_Mod_init_172 rfl rfl rfl ?_
  refine N_bipush (v := 72) X d_Mod_init_173 (by decide) rfl ?_
  refine N_newa (n := 182) (cs' := (20, 2399)) (t := 1) (N := 72) (ty := .int) (a0 := (72, .inl (fun _ => 0))) X (by dsimp only; omega) h0 ⟨by rw [hrc]; decide, by rw [hrs]; decide⟩ aw_int rfl rfl (fun _ => nofun) (fun _ => rfl) (by decide) (by decide) (by decide) (o_ne (by omega) (ho _ (by omega))) (new_i (show Zr M 182 from (fun i hi => hM i (by omega))) (by omega) kd_182 (by decide) ln_182) d_Mod_init_175 rfl rfl ?_
  refine N_fin2 (fs' := [.ref (G.2.2 + 163), .ref (G.2.2 + 164), .int 1, .int 1, .int 0, .int 0, .ref (G.2.2 + 165), .ref (G.2.2 + 166), .int (-1), .ref (G.2.2 + 167), .int 0, .ref (G.2.2 + 168), .int 0, .int 0, .null, .int 0, .int 0, .int 0, .int 0, .ref (G.2.2 + 169), .ref (G.2.2 + 170), .ref (G.2.2 + 171), .ref (G.2.2 + 172), .int 0, .null, .int 0, .ref (G.2.2 + 173), .int 0, .ref (G.2.2 + 174), .int 0, .int 0, .int 0, .ref (G.2.2 + 175), .int 0, .ref (G.2.2 + 176), .ref (G.2.2 + 177), .ref (G.2.2 + 178), .ref (G.2.2 + 179), .ref (G.2.2 + 180), .ref (G.2.2 + 181), .ref (G.2.2 + 182), .null, .int 0, .null, .null, .null, .null, .null, .int 0, .null, .null, .null]) X hin ff_Mod_79 (by omega) (Nat.le_of_ble_eq_true rfl) rfl rfl rfl d_Mod_init_177 rfl ?_
  refine N_aload_n (j := 0) X d_Mod_init_180 rfl rfl rfl ?_
  refine N_bipush (v := 72) X d_Mod_init_181 (by decide) rfl ?_
  refine N_newa (n := 183) (cs' := (21, 2471)) (t := 1) (N := 72) (ty := .int) (a0 := (72, .inl (fun _ => 0))) X (by dsimp only; omega) h0 ⟨by rw [hrc]; decide, by rw [hrs]; decide⟩ aw_int rfl rfl (fun _ => nofun) (fun _ => rfl) (by decide) (by decide) (by decide) (o_ne (by omega) (ho _ (by omega))) (new_i (show Zr M 183 from (fun i hi => hM i (by omega))) (by omega) kd_183 (by decide) ln_183) d_Mod_init_183 rfl rfl ?_
  refine N_fin2 (fs' := [.ref (G.2.2 + 163), .ref (G.2.2 + 164), .int 1, .int 1, .int 0, .int 0, .ref (G.2.2 + 165), .ref (G.2.2 + 166), .int (-1), .ref (G.2.2 + 167), .int 0, .ref (G.2.2 + 168), .int 0, .int 0, .null, .int 0, .int 0, .int 0, .int 0, .ref (G.2.2 + 169), .ref (G.2.2 + 170), .ref (G.2.2 + 171), .ref (G.2.2 + 172), .int 0, .null, .int 0, .ref (G.2.2 + 173), .int 0, .ref (G.2.2 + 174), .int 0, .int 0, .int 0, .ref (G.2.2 + 175), .int 0, .ref (G.2.2 + 176), .ref (G.2.2 + 177), .ref (G.2.2 + 178), .ref (G.2.2 + 179), .ref (G.2.2 + 180), .ref (G.2.2 + 181), .ref (G.2.2 + 182), .ref (G.2.2 + 183), .int 0, .null, .null, .null, .null, .null, .int 0, .null, .null, .null]) X hin ff_Mod_82 (by omega) (Nat.le_of_ble_eq_true rfl) rfl rfl rfl d_Mod_init_185 rfl ?_
  refine N_aload_n (j := 0) X d_Mod_init_188 rfl rfl rfl ?_
  refine N_iconst (v := 3) X d_Mod_init_189 (by decide) rfl ?_
  refine N_newa (n := 184) (cs' := (22, 2474)) (t := 1) (N := 3) (ty := .int) (a0 := (3, .inl (fun _ => 0))) X (by dsimp only; omega) h0 ⟨by rw [hrc]; decide, by rw [hrs]; decide⟩ aw_int rfl rfl (fun _ => nofun) (fun _ => rfl) (by decide) (by decide) (by decide) (o_ne (by omega) (ho _ (by omega))) (new_i (show Zr M 184 from (fun i hi => hM i (by omega))) (by omega) kd_184 (by decide) ln_184) d_Mod_init_190 rfl rfl ?_
  refine N_fin2 (fs' := [.ref (G.2.2 + 163), .ref (G.2.2 + 164), .int 1, .int 1, .int 0, .int 0, .ref (G.2.2 + 165), .ref (G.2.2 + 166), .int (-1), .ref (G.2.2 + 167), .int 0, .ref (G.2.2 + 168), .int 0, .int 0, .null, .int 0, .int 0, .int 0, .int 0, .ref (G.2.2 + 169), .ref (G.2.2 + 170), .ref (G.2.2 + 171), .ref (G.2.2 + 172), .int 0, .null, .int 0, .ref (G.2.2 + 173), .int 0, .ref (G.2.2 + 174), .int 0, .int 0, .int 0, .ref (G.2.2 + 175), .int 0, .ref (G.2.2 + 176), .ref (G.2.2 + 177), .ref (G.2.2 + 178), .ref (G.2.2 + 179), .ref (G.2.2 + 180), .ref (G.2.2 + 181), .ref (G.2.2 + 182), .ref (G.2.2 + 183), .int 0, .ref (G.2.2 + 184), .null, .null, .null, .null, .int 0, .null, .null, .null]) X hin ff_Mod_85 (by omega) (Nat.le_of_ble_eq_true rfl) rfl rfl rfl d_Mod_init_192 rfl ?_
  refine N_aload_n (j := 0) X d_Mod_init_195 rfl rfl rfl ?_
  refine N_sipush (v := 1296) X d_Mod_init_196 (by decide) rfl ?_
  refine N_newa (n := 185) (cs' := (23, 3770)) (t := 1) (N := 1296) (ty := .int) (a0 := (1296, .inl (fun _ => 0))) X (by dsimp only; omega) h0 ⟨by rw [hrc]; decide, by rw [hrs]; decide⟩ aw_int rfl rfl (fun _ => nofun) (fun _ => rfl) (by decide) (by decide) (by decide) (o_ne (by omega) (ho _ (by omega))) (new_i (show Zr M 185 from (fun i hi => hM i (by omega))) (by omega) kd_185 (by decide) ln_185) d_Mod_init_199 rfl rfl ?_
  refine N_fin2 (fs' := [.ref (G.2.2 + 163), .ref (G.2.2 + 164), .int 1, .int 1, .int 0, .int 0, .ref (G.2.2 + 165), .ref (G.2.2 + 166), .int (-1), .ref (G.2.2 + 167), .int 0, .ref (G.2.2 + 168), .int 0, .int 0, .null, .int 0, .int 0, .int 0, .int 0, .ref (G.2.2 + 169), .ref (G.2.2 + 170), .ref (G.2.2 + 171), .ref (G.2.2 + 172), .int 0, .null, .int 0, .ref (G.2.2 + 173), .int 0, .ref (G.2.2 + 174), .int 0, .int 0, .int 0, .ref (G.2.2 + 175), .int 0, .ref (G.2.2 + 176), .ref (G.2.2 + 177), .ref (G.2.2 + 178), .ref (G.2.2 + 179), .ref (G.2.2 + 180), .ref (G.2.2 + 181), .ref (G.2.2 + 182), .ref (G.2.2 + 183), .int 0, .ref (G.2.2 + 184), .ref (G.2.2 + 185), .null, .null, .null, .int 0, .null, .null, .null]) X hin ff_Mod_88 (by omega) (Nat.le_of_ble_eq_true rfl) rfl rfl rfl d_Mod_init_201 rfl ?_
  refine N_aload_n (j := 0) X d_Mod_init_204 rfl rfl rfl ?_
  refine N_bipush (v := 72) X d_Mod_init_205 (by decide) rfl ?_
  refine N_newa (n := 186) (cs' := (24, 3842)) (t := 3) (N := 72) (ty := .boolean) (a0 := (72, .inl (fun _ => 0))) X (by dsimp only; omega) h0 ⟨by rw [hrc]; decide, by rw [hrs]; decide⟩ aw_boolean rfl rfl (fun _ => nofun) (fun _ => rfl) (by decide) (by decide) (by decide) (o_ne (by omega) (ho _ (by omega))) (new_i (show Zr M 186 from (fun i hi => hM i (by omega))) (by omega) kd_186 (by decide) ln_186) d_Mod_init_207 rfl rfl ?_
  refine N_fin2 (fs' := [.ref (G.2.2 + 163), .ref (G.2.2 + 164), .int 1, .int 1, .int 0, .int 0, .ref (G.2.2 + 165), .ref (G.2.2 + 166), .int (-1), .ref (G.2.2 + 167), .int 0, .ref (G.2.2 + 168), .int 0, .int 0, .null, .int 0, .int 0, .int 0, .int 0, .ref (G.2.2 + 169), .ref (G.2.2 + 170), .ref (G.2.2 + 171), .ref (G.2.2 + 172), .int 0, .null, .int 0, .ref (G.2.2 + 173), .int 0, .ref (G.2.2 + 174), .int 0, .int 0, .int 0, .ref (G.2.2 + 175), .int 0, .ref (G.2.2 + 176), .ref (G.2.2 + 177), .ref (G.2.2 + 178), .ref (G.2.2 + 179), .ref (G.2.2 + 180), .ref (G.2.2 + 181), .ref (G.2.2 + 182), .ref (G.2.2 + 183), .int 0, .ref (G.2.2 + 184), .ref (G.2.2 + 185), .ref (G.2.2 + 186), .null, .null, .int 0, .null, .null, .null]) X hin ff_Mod_91 (by omega) (Nat.le_of_ble_eq_true rfl) rfl rfl rfl d_Mod_init_209 rfl ?_
  refine N_aload_n (j := 0) X d_Mod_init_212 rfl rfl rfl ?_
  refine N_bipush (v := 72) X d_Mod_init_213 (by decide) rfl ?_
  refine N_newa (n := 187) (cs' := (25, 3914)) (t := 3) (N := 72) (ty := .boolean) (a0 := (72, .inl (fun _ => 0))) X (by dsimp only; omega) h0 ⟨by rw [hrc]; decide, by rw [hrs]; decide⟩ aw_boolean rfl rfl (fun _ => nofun) (fun _ => rfl) (by decide) (by decide) (by decide) (o_ne (by omega) (ho _ (by omega))) (new_i (show Zr M 187 from (fun i hi => hM i (by omega))) (by omega) kd_187 (by decide) ln_187) d_Mod_init_215 rfl rfl ?_
  refine N_fin2 (fs' := [.ref (G.2.2 + 163), .ref (G.2.2 + 164), .int 1, .int 1, .int 0, .int 0, .ref (G.2.2 + 165), .ref (G.2.2 + 166), .int (-1), .ref (G.2.2 + 167), .int 0, .ref (G.2.2 + 168), .int 0, .int 0, .null, .int 0, .int 0, .int 0, .int 0, .ref (G.2.2 + 169), .ref (G.2.2 + 170), .ref (G.2.2 + 171), .ref (G.2.2 + 172), .int 0, .null, .int 0, .ref (G.2.2 + 173), .int 0, .ref (G.2.2 + 174), .int 0, .int 0, .int 0, .ref (G.2.2 + 175), .int 0, .ref (G.2.2 + 176), .ref (G.2.2 + 177), .ref (G.2.2 + 178), .ref (G.2.2 + 179), .ref (G.2.2 + 180), .ref (G.2.2 + 181), .ref (G.2.2 + 182), .ref (G.2.2 + 183), .int 0, .ref (G.2.2 + 184), .ref (G.2.2 + 185), .ref (G.2.2 + 186), .ref (G.2.2 + 187), .null, .int 0, .null, .null, .null]) X hin ff_Mod_94 (by omega) (Nat.le_of_ble_eq_true rfl) rfl rfl rfl d_Mod_init_217 rfl ?_
  refine N_aload_n (j := 0) X d_Mod_init_220 rfl rfl rfl ?_
  refine N_bipush (v := 72) X d_Mod_init_221 (by decide) rfl ?_
  refine N_newa (n := 188) (cs' := (26, 3986)) (t := 3) (N := 72) (ty := .boolean) (a0 := (72, .inl (fun _ => 0))) X (by dsimp only; omega) h0 ⟨by rw [hrc]; decide, by rw [hrs]; decide⟩ aw_boolean rfl rfl (fun _ => nofun) (fun _ => rfl) (by decide) (by decide) (by decide) (o_ne (by omega) (ho _ (by omega))) (new_i (show Zr M 188 from (fun i hi => hM i (by omega))) (by omega) kd_188 (by decide) ln_188) d_Mod_init_223 rfl rfl ?_
  refine N_fin2 (fs' := [.ref (G.2.2 + 163), .ref (G.2.2 + 164), .int 1, .int 1, .int 0, .int 0, .ref (G.2.2 + 165), .ref (G.2.2 + 166), .int (-1), .ref (G.2.2 + 167), .int 0, .ref (G.2.2 + 168), .int 0, .int 0, .null, .int 0, .int 0, .int 0, .int 0, .ref (G.2.2 + 169), .ref (G.2.2 + 170), .ref (G.2.2 + 171), .ref (G.2.2 + 172), .int 0, .null, .int 0, .ref (G.2.2 + 173), .int 0, .ref (G.2.2 + 174), .int 0, .int 0, .int 0, .ref (G.2.2 + 175), .int 0, .ref (G.2.2 + 176), .ref (G.2.2 + 177), .ref (G.2.2 + 178), .ref (G.2.2 + 179), .ref (G.2.2 + 180), .ref (G.2.2 + 181), .ref (G.2.2 + 182), .ref (G.2.2 + 183), .int 0, .ref (G.2.2 + 184), .ref (G.2.2 + 185), .ref (G.2.2 + 186), .ref (G.2.2 + 187), .ref (G.2.2 + 188), .int 0, .null, .null, .null]) X hin ff_Mod_97 (by omega) (Nat.le_of_ble_eq_true rfl) rfl rfl rfl d_Mod_init_225 rfl ?_
  refine N_aload_n (j := 0) X d_Mod_init_228 rfl rfl rfl ?_
  refine N_sipush (v := 192) X d_Mod_init_229 (by decide) rfl ?_
  refine N_newa (n := 189) (cs' := (27, 4178)) (t := 1) (N := 192) (ty := .int) (a0 := (192, .inl (fun _ => 0))) X (by dsimp only; omega) h0 ⟨by rw [hrc]; decide, by rw [hrs]; decide⟩ aw_int rfl rfl (fun _ => nofun) (fun _ => rfl) (by decide) (by decide) (by decide) (o_ne (by omega) (ho _ (by omega))) (new_i (show Zr M 189 from (fun i hi => hM i (by omega))) (by omega) kd_189 (by decide) ln_189) d_Mod_init_232 rfl rfl ?_
  refine N_fin2 (fs' := [.ref (G.2.2 + 163), .ref (G.2.2 + 164), .int 1, .int 1, .int 0, .int 0, .ref (G.2.2 + 165), .ref (G.2.2 + 166), .int (-1), .ref (G.2.2 + 167), .int 0, .ref (G.2.2 + 168), .int 0, .int 0, .null, .int 0, .int 0, .int 0, .int 0, .ref (G.2.2 + 169), .ref (G.2.2 + 170), .ref (G.2.2 + 171), .ref (G.2.2 + 172), .int 0, .null, .int 0, .ref (G.2.2 + 173), .int 0, .ref (G.2.2 + 174), .int 0, .int 0, .int 0, .ref (G.2.2 + 175), .int 0, .ref (G.2.2 + 176), .ref (G.2.2 + 177), .ref (G.2.2 + 178), .ref (G.2.2 + 179), .ref (G.2.2 + 180), .ref (G.2.2 + 181), .ref (G.2.2 + 182), .ref (G.2.2 + 183), .int 0, .ref (G.2.2 + 184), .ref (G.2.2 + 185), .ref (G.2.2 + 186), .ref (G.2.2 + 187), .ref (G.2.2 + 188), .int 0, .ref (G.2.2 + 189), .null, .null]) X hin ff_Mod_100 (by omega) (Nat.le_of_ble_eq_true rfl) rfl rfl rfl d_Mod_init_234 rfl ?_
  refine N_aload_n (j := 0) X d_Mod_init_237 rfl rfl rfl ?_
  refine N_iconst (v := 2) X d_Mod_init_238 (by decide) rfl ?_
  refine N_newa (n := 190) (cs' := (28, 4180)) (t := 3) (N := 2) (ty := .boolean) (a0 := (2, .inl (fun _ => 0))) X (by dsimp only; omega) h0 ⟨by rw [hrc]; decide, by rw [hrs]; decide⟩ aw_boolean rfl rfl (fun _ => nofun) (fun _ => rfl) (by decide) (by decide) (by decide) (o_ne (by omega) (ho _ (by omega))) (new_i (show Zr M 190 from (fun i hi => hM i (by omega))) (by omega) kd_190 (by decide) ln_190) d_Mod_init_239 rfl rfl ?_
  refine N_fin2 (fs' := [.ref (G.2.2 + 163), .ref (G.2.2 + 164), .int 1, .int 1, .int 0, .int 0, .ref (G.2.2 + 165), .ref (G.2.2 + 166), .int (-1), .ref (G.2.2 + 167), .int 0, .ref (G.2.2 + 168), .int 0, .int 0, .null, .int 0, .int 0, .int 0, .int 0, .ref (G.2.2 + 169), .ref (G.2.2 + 170), .ref (G.2.2 + 171), .ref (G.2.2 + 172), .int 0, .null, .int 0, .ref (G.2.2 + 173), .int 0, .ref (G.2.2 + 174), .int 0, .int 0, .int 0, .ref (G.2.2 + 175), .int 0, .ref (G.2.2 + 176), .ref (G.2.2 + 177), .ref (G.2.2 + 178), .ref (G.2.2 + 179), .ref (G.2.2 + 180), .ref (G.2.2 + 181), .ref (G.2.2 + 182), .ref (G.2.2 + 183), .int 0, .ref (G.2.2 + 184), .ref (G.2.2 + 185), .ref (G.2.2 + 186), .ref (G.2.2 + 187), .ref (G.2.2 + 188), .int 0, .ref (G.2.2 + 189), .ref (G.2.2 + 190), .null]) X hin ff_Mod_103 (by omega) (Nat.le_of_ble_eq_true rfl) rfl rfl rfl d_Mod_init_241 rfl ?_
  refine N_aload_n (j := 0) X d_Mod_init_244 rfl rfl rfl ?_
  refine N_iconst (v := 2) X d_Mod_init_245 (by decide) rfl ?_
  refine N_newa (n := 191) (cs' := (29, 4182)) (t := 1) (N := 2) (ty := .int) (a0 := (2, .inl (fun _ => 0))) X (by dsimp only; omega) h0 ⟨by rw [hrc]; decide, by rw [hrs]; decide⟩ aw_int rfl rfl (fun _ => nofun) (fun _ => rfl) (by decide) (by decide) (by decide) (o_ne (by omega) (ho _ (by omega))) (new_i (show Zr M 191 from (fun i hi => hM i (by omega))) (by omega) kd_191 (by decide) ln_191) d_Mod_init_246 rfl rfl ?_
  refine N_fin2 (fs' := [.ref (G.2.2 + 163), .ref (G.2.2 + 164), .int 1, .int 1, .int 0, .int 0, .ref (G.2.2 + 165), .ref (G.2.2 + 166), .int (-1), .ref (G.2.2 + 167), .int 0, .ref (G.2.2 + 168), .int 0, .int 0, .null, .int 0, .int 0, .int 0, .int 0, .ref (G.2.2 + 169), .ref (G.2.2 + 170), .ref (G.2.2 + 171), .ref (G.2.2 + 172), .int 0, .null, .int 0, .ref (G.2.2 + 173), .int 0, .ref (G.2.2 + 174), .int 0, .int 0, .int 0, .ref (G.2.2 + 175), .int 0, .ref (G.2.2 + 176), .ref (G.2.2 + 177), .ref (G.2.2 + 178), .ref (G.2.2 + 179), .ref (G.2.2 + 180), .ref (G.2.2 + 181), .ref (G.2.2 + 182), .ref (G.2.2 + 183), .int 0, .ref (G.2.2 + 184), .ref (G.2.2 + 185), .ref (G.2.2 + 186), .ref (G.2.2 + 187), .ref (G.2.2 + 188), .int 0, .ref (G.2.2 + 189), .ref (G.2.2 + 190), .ref (G.2.2 + 191)]) X hin ff_Mod_106 (by omega) (Nat.le_of_ble_eq_true rfl) rfl rfl rfl d_Mod_init_248 rfl ?_
  refine N_aload_n (j := 0) X d_Mod_init_251 rfl rfl rfl ?_
  refine N_done2 (M' := (s_i (s_i (s_i M 162 2 1) 162 3 1) 162 8 (-1))) (ho 162 (Nat.le_refl _)) (by rw [dsc_o kd_162]; show Sum.inr (12, [fv G (s_i (s_i (s_i M 162 2 1) 162 3 1) 162 8 (-1)) 162 12 0, fv G (s_i (s_i (s_i M 162 2 1) 162 3 1) 162 8 (-1)) 162 12 1, fv G (s_i (s_i (s_i M 162 2 1) 162 3 1) 162 8 (-1)) 162 12 2, fv G (s_i (s_i (s_i M 162 2 1) 162 3 1) 162 8 (-1)) 162 12 3, fv G (s_i (s_i (s_i M 162 2 1) 162 3 1) 162 8 (-1)) 162 12 4, fv G (s_i (s_i (s_i M 162 2 1) 162 3 1) 162 8 (-1)) 162 12 5, fv G (s_i (s_i (s_i M 162 2 1) 162 3 1) 162 8 (-1)) 162 12 6, fv G (s_i (s_i (s_i M 162 2 1) 162 3 1) 162 8 (-1)) 162 12 7, fv G (s_i (s_i (s_i M 162 2 1) 162 3 1) 162 8 (-1)) 162 12 8, fv G (s_i (s_i (s_i M 162 2 1) 162 3 1) 162 8 (-1)) 162 12 9, fv G (s_i (s_i (s_i M 162 2 1) 162 3 1) 162 8 (-1)) 162 12 10, fv G (s_i (s_i (s_i M 162 2 1) 162 3 1) 162 8 (-1)) 162 12 11, fv G (s_i (s_i (s_i M 162 2 1) 162 3 1) 162 8 (-1)) 162 12 12, fv G (s_i (s_i (s_i M 162 2 1) 162 3 1) 162 8 (-1)) 162 12 13, fv G (s_i (s_i (s_i M 162 2 1) 162 3 1) 162 8 (-1)) 162 12 14, fv G (s_i (s_i (s_i M 162 2 1) 162 3 1) 162 8 (-1)) 162 12 15, fv G (s_i (s_i (s_i M 162 2 1) 162 3 1) 162 8 (-1)) 162 12 16, fv G (s_i (s_i (s_i M 162 2 1) 162 3 1) 162 8 (-1)) 162 12 17, fv G (s_i (s_i (s_i M 162 2 1) 162 3 1) 162 8 (-1)) 162 12 18, fv G (s_i (s_i (s_i M 162 2 1) 162 3 1) 162 8 (-1)) 162 12 19, fv G (s_i (s_i (s_i M 162 2 1) 162 3 1) 162 8 (-1)) 162 12 20, fv G (s_i (s_i (s_i M 162 2 1) 162 3 1) 162 8 (-1)) 162 12 21, fv G (s_i (s_i (s_i M 162 2 1) 162 3 1) 162 8 (-1)) 162 12 22, fv G (s_i (s_i (s_i M 162 2 1) 162 3 1) 162 8 (-1)) 162 12 23, fv G (s_i (s_i (s_i M 162 2 1) 162 3 1) 162 8 (-1)) 162 12 24, fv G (s_i (s_i (s_i M 162 2 1) 162 3 1) 162 8 (-1)) 162 12 25, fv G (s_i (s_i (s_i M 162 2 1) 162 3 1) 162 8 (-1)) 162 12 26, fv G (s_i (s_i (s_i M 162 2 1) 162 3 1) 162 8 (-1)) 162 12 27, fv G (s_i (s_i (s_i M 162 2 1) 162 3 1) 162 8 (-1)) 162 12 28, fv G (s_i (s_i (s_i M 162 2 1) 162 3 1) 162 8 (-1)) 162 12 29, fv G (s_i (s_i (s_i M 162 2 1) 162 3 1) 162 8 (-1)) 162 12 30, fv G (s_i (s_i (s_i M 162 2 1) 162 3 1) 162 8 (-1)) 162 12 31, fv G (s_i (s_i (s_i M 162 2 1) 162 3 1) 162 8 (-1)) 162 12 32, fv G (s_i (s_i (s_i M 162 2 1) 162 3 1) 162 8 (-1)) 162 12 33, fv G (s_i (s_i (s_i M 162 2 1) 162 3 1) 162 8 (-1)) 162 12 34, fv G (s_i (s_i (s_i M 162 2 1) 162 3 1) 162 8 (-1)) 162 12 35, fv G (s_i (s_i (s_i M 162 2 1) 162 3 1) 162 8 (-1)) 162 12 36, fv G (s_i (s_i (s_i M 162 2 1) 162 3 1) 162 8 (-1)) 162 12 37, fv G (s_i (s_i (s_i M 162 2 1) 162 3 1) 162 8 (-1)) 162 12 38, fv G (s_i (s_i (s_i M 162 2 1) 162 3 1) 162 8 (-1)) 162 12 39, fv G (s_i (s_i (s_i M 162 2 1) 162 3 1) 162 8 (-1)) 162 12 40, fv G (s_i (s_i (s_i M 162 2 1) 162 3 1) 162 8 (-1)) 162 12 41, fv G (s_i (s_i (s_i M 162 2 1) 162 3 1) 162 8 (-1)) 162 12 42, fv G (s_i (s_i (s_i M 162 2 1) 162 3 1) 162 8 (-1)) 162 12 43, fv G (s_i (s_i (s_i M 162 2 1) 162 3 1) 162 8 (-1)) 162 12 44, fv G (s_i (s_i (s_i M 162 2 1) 162 3 1) 162 8 (-1)) 162 12 45, fv G (s_i (s_i (s_i M 162 2 1) 162 3 1) 162 8 (-1)) 162 12 46, fv G (s_i (s_i (s_i M 162 2 1) 162 3 1) 162 8 (-1)) 162 12 47, fv G (s_i (s_i (s_i M 162 2 1) 162 3 1) 162 8 (-1)) 162 12 48, fv G (s_i (s_i (s_i M 162 2 1) 162 3 1) 162 8 (-1)) 162 12 49, fv G (s_i (s_i (s_i M 162 2 1) 162 3 1) 162 8 (-1)) 162 12 50, fv G (s_i (s_i (s_i M 162 2 1) 162 3 1) 162 8 (-1)) 162 12 51]) = _; rw [fv_r (j := 0) rfl rf_162_0, fv_r (j := 1) rfl rf_162_1, fv_i (j := 2) (v := 1) rfl (by simp [s_i, s_l, fil, qfl, mG, mN, mH, hM0]), fv_i (j := 3) (v := 1) rfl (by simp [s_i, s_l, fil, qfl, mG, mN, mH, hM0]), fv_i (j := 4) (v := 0) rfl (by simp [s_i, s_l, fil, qfl, mG, mN, mH, hM0]), fv_i (j := 5) (v := 0) rfl (by simp [s_i, s_l, fil, qfl, mG, mN, mH, hM0]), fv_r (j := 6) rfl rf_162_6, fv_r (j := 7) rfl rf_162_7, fv_i (j := 8) (v := (-1)) rfl (by simp [s_i, s_l, fil, qfl, mG, mN, mH, hM0]), fv_r (j := 9) rfl rf_162_9, fv_i (j := 10) (v := 0) rfl (by simp [s_i, s_l, fil, qfl, mG, mN, mH, hM0]), fv_r (j := 11) rfl rf_162_11, fv_i (j := 12) (v := 0) rfl (by simp [s_i, s_l, fil, qfl, mG, mN, mH, hM0]), fv_i (j := 13) (v := 0) rfl (by simp [s_i, s_l, fil, qfl, mG, mN, mH, hM0]), fv_q (j := 14) rfl (by simp [s_i, s_l, fil, qfl, mG, mN, mH, hM2]), fv_i (j := 15) (v := 0) rfl (by simp [s_i, s_l, fil, qfl, mG, mN, mH, hM0]), fv_i (j := 16) (v := 0) rfl (by simp [s_i, s_l, fil, qfl, mG, mN, mH, hM0]), fv_i (j := 17) (v := 0) rfl (by simp [s_i, s_l, fil, qfl, mG, mN, mH, hM0]), fv_i (j := 18) (v := 0) rfl (by simp [s_i, s_l, fil, qfl, mG, mN, mH, hM0]), fv_r (j := 19) rfl rf_162_19, fv_r (j := 20) rfl rf_162_20, fv_r (j := 21) rfl rf_162_21, fv_r (j := 22) rfl rf_162_22, fv_i (j := 23) (v := 0) rfl (by simp [s_i, s_l, fil, qfl, mG, mN, mH, hM0]), fv_q (j := 24) rfl (by simp [s_i, s_l, fil, qfl, mG, mN, mH, hM2]), fv_i (j := 25) (v := 0) rfl (by simp [s_i, s_l, fil, qfl, mG, mN, mH, hM0]), fv_r (j := 26) rfl rf_162_26, fv_i (j := 27) (v := 0) rfl (by simp [s_i, s_l, fil, qfl, mG, mN, mH, hM0]), fv_r (j := 28) rfl rf_162_28, fv_i (j := 29) (v := 0) rfl (by simp [s_i, s_l, fil, qfl, mG, mN, mH, hM0]), fv_i (j := 30) (v := 0) rfl (by simp [s_i, s_l, fil, qfl, mG, mN, mH, hM0]), fv_i (j := 31) (v := 0) rfl (by simp [s_i, s_l, fil, qfl, mG, mN, mH, hM0]), fv_r (j := 32) rfl rf_162_32, fv_i (j := 33) (v := 0) rfl (by simp [s_i, s_l, fil, qfl, mG, mN, mH, hM0]), fv_r (j := 34) rfl rf_162_34, fv_r (j := 35) rfl rf_162_35, fv_r (j := 36) rfl rf_162_36, fv_r (j := 37) rfl rf_162_37, fv_r (j := 38) rfl rf_162_38, fv_r (j := 39) rfl rf_162_39, fv_r (j := 40) rfl rf_162_40, fv_r (j := 41) rfl rf_162_41, fv_i (j := 42) (v := 0) rfl (by simp [s_i, s_l, fil, qfl, mG, mN, mH, hM0]), fv_r (j := 43) rfl rf_162_43, fv_r (j := 44) rfl rf_162_44, fv_r (j := 45) rfl rf_162_45, fv_r (j := 46) rfl rf_162_46, fv_r (j := 47) rfl rf_162_47, fv_i (j := 48) (v := 0) rfl (by simp [s_i, s_l, fil, qfl, mG, mN, mH, hM0]), fv_r (j := 49) rfl rf_162_49, fv_r (j := 50) rfl rf_162_50, fv_r (j := 51) rfl rf_162_51]) (fun a h => by rw [dsc_si h, dsc_si h, dsc_si h]) ?_
  refine N_getr (k2 := 164) X fo_Mod_13 (by omega) (ho _ (by omega)) kd_162 rfl rf_162_1 d_Mod_init_252 rfl ?_
  refine N_iconst (v := 0) X d_Mod_init_255 (by decide) rfl ?_
  refine N_iconst (v := 3) X d_Mod_init_256 (by decide) rfl ?_
  refine N_iast X (by omega) (ho _ (by omega)) kd_164 (inb_in ln_164 (by decide)) d_Mod_init_257 rfl ?_
  show Nj _ _ _ _ _ (s_i (s_i (s_i (s_i M 162 2 1) 162 3 1) 162 8 (-1)) 164 0 3) _ _ _ _ _
  exact N_ret X ⟨by decide, by decide⟩ d_Mod_init_258
