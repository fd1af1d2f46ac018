theorem nse_w : Cond.classLink "WomenByTheRoofs" 164 nse ∈ gw ∧ Cond.initialized nse ∈ gw := ⟨gt_5 192 rfl rfl, gt_1 18 rfl rfl⟩
theorem d_Top_cell_0 : decode b_Top_cell 0 = .ok (.aload_n 0, 1) := kq_42 byq_r (by decide +kernel)
theorem d_Top_cell_1 : decode b_Top_cell 1 = .ok (.getfield 19, 3) := kq_180 byq_r (a := 0) (b := 19) (by decide +kernel)
theorem d_Top_cell_4 : decode b_Top_cell 4 = .ok (.iload_n 1, 1) := kq_27 byq_r (by decide +kernel)
theorem d_Top_cell_5 : decode b_Top_cell 5 = .ok (.invokevirtual 163, 3) := kq_182 byq_r (a := 0) (b := 163) (by decide +kernel)
theorem d_Top_cell_8 : decode b_Top_cell 8 = .ok (.ifCond .ne 11, 3) := kq_154 byq_r (a := 0) (b := 11) (by decide +kernel)
theorem d_Top_cell_11 : decode b_Top_cell 11 = .ok (.new 164, 3) := kq_187 byq_r (a := 0) (b := 164) (by decide +kernel)
theorem d_Top_cell_14 : decode b_Top_cell 14 = .ok (.dup, 1) := kq_89 byq_r (by decide +kernel)
theorem d_Top_cell_15 : decode b_Top_cell 15 = .ok (.invokespecial 166, 3) := kq_183 byq_r (a := 0) (b := 166) (by decide +kernel)
theorem d_Top_cell_18 : decode b_Top_cell 18 = .ok (.athrow, 1) := kq_191 byq_r (by decide +kernel)
theorem d_Top_cell_19 : decode b_Top_cell 19 = .ok (.iload_n 2, 1) := kq_28 byq_r (by decide +kernel)
theorem d_Top_cell_20 : decode b_Top_cell 20 = .ok (.tableswitch 122 0 5 #[40, 50, 67, 84, 93, 106], 40) := by decide +kernel
theorem d_Top_cell_60 : decode b_Top_cell 60 = .ok (.aload_n 0, 1) := kq_42 byq_r (by decide +kernel)
theorem d_Top_cell_61 : decode b_Top_cell 61 = .ok (.getfield 19, 3) := kq_180 byq_r (a := 0) (b := 19) (by decide +kernel)
theorem d_Top_cell_64 : decode b_Top_cell 64 = .ok (.getfield 167, 3) := kq_180 byq_r (a := 0) (b := 167) (by decide +kernel)
theorem d_Top_cell_67 : decode b_Top_cell 67 = .ok (.iload_n 1, 1) := kq_27 byq_r (by decide +kernel)
theorem d_Top_cell_68 : decode b_Top_cell 68 = .ok (.iaload, 1) := kq_46 byq_r (by decide +kernel)
theorem d_Top_cell_69 : decode b_Top_cell 69 = .ok (.ireturn, 1) := kq_172 byq_r (by decide +kernel)
theorem d_Top_cell_70 : decode b_Top_cell 70 = .ok (.aload_n 0, 1) := kq_42 byq_r (by decide +kernel)
theorem d_Top_cell_71 : decode b_Top_cell 71 = .ok (.getfield 33, 3) := kq_180 byq_r (a := 0) (b := 33) (by decide +kernel)
theorem d_Top_cell_74 : decode b_Top_cell 74 = .ok (.iconst 0, 1) := kq_3 byq_r (by decide +kernel)
theorem d_Top_cell_75 : decode b_Top_cell 75 = .ok (.iload_n 1, 1) := kq_27 byq_r (by decide +kernel)
theorem d_Top_cell_76 : decode b_Top_cell 76 = .ok (.aload_n 0, 1) := kq_42 byq_r (by decide +kernel)
theorem d_Top_cell_77 : decode b_Top_cell 77 = .ok (.getfield 26, 3) := kq_180 byq_r (a := 0) (b := 26) (by decide +kernel)
theorem d_Top_cell_80 : decode b_Top_cell 80 = .ok (.getfield 129, 3) := kq_180 byq_r (a := 0) (b := 129) (by decide +kernel)
theorem d_Top_cell_83 : decode b_Top_cell 83 = .ok (.invokevirtual 170, 3) := kq_182 byq_r (a := 0) (b := 170) (by decide +kernel)
theorem d_Top_cell_86 : decode b_Top_cell 86 = .ok (.ireturn, 1) := kq_172 byq_r (by decide +kernel)
theorem d_Top_cell_87 : decode b_Top_cell 87 = .ok (.aload_n 0, 1) := kq_42 byq_r (by decide +kernel)
theorem d_Top_cell_88 : decode b_Top_cell 88 = .ok (.getfield 33, 3) := kq_180 byq_r (a := 0) (b := 33) (by decide +kernel)
theorem d_Top_cell_91 : decode b_Top_cell 91 = .ok (.iconst 1, 1) := kq_4 byq_r (by decide +kernel)
theorem d_Top_cell_92 : decode b_Top_cell 92 = .ok (.iload_n 1, 1) := kq_27 byq_r (by decide +kernel)
theorem d_Top_cell_93 : decode b_Top_cell 93 = .ok (.aload_n 0, 1) := kq_42 byq_r (by decide +kernel)
theorem d_Top_cell_94 : decode b_Top_cell 94 = .ok (.getfield 26, 3) := kq_180 byq_r (a := 0) (b := 26) (by decide +kernel)
theorem d_Top_cell_97 : decode b_Top_cell 97 = .ok (.getfield 129, 3) := kq_180 byq_r (a := 0) (b := 129) (by decide +kernel)
theorem d_Top_cell_100 : decode b_Top_cell 100 = .ok (.invokevirtual 170, 3) := kq_182 byq_r (a := 0) (b := 170) (by decide +kernel)
theorem d_Top_cell_103 : decode b_Top_cell 103 = .ok (.ireturn, 1) := kq_172 byq_r (by decide +kernel)
theorem d_Top_cell_104 : decode b_Top_cell 104 = .ok (.aload_n 0, 1) := kq_42 byq_r (by decide +kernel)
theorem d_Top_cell_105 : decode b_Top_cell 105 = .ok (.getfield 33, 3) := kq_180 byq_r (a := 0) (b := 33) (by decide +kernel)
theorem d_Top_cell_108 : decode b_Top_cell 108 = .ok (.iload_n 1, 1) := kq_27 byq_r (by decide +kernel)
theorem d_Top_cell_109 : decode b_Top_cell 109 = .ok (.invokevirtual 174, 3) := kq_182 byq_r (a := 0) (b := 174) (by decide +kernel)
theorem d_Top_cell_112 : decode b_Top_cell 112 = .ok (.ireturn, 1) := kq_172 byq_r (by decide +kernel)
theorem d_Top_cell_113 : decode b_Top_cell 113 = .ok (.aload_n 0, 1) := kq_42 byq_r (by decide +kernel)
theorem d_Top_cell_114 : decode b_Top_cell 114 = .ok (.getfield 46, 3) := kq_180 byq_r (a := 0) (b := 46) (by decide +kernel)
theorem d_Top_cell_117 : decode b_Top_cell 117 = .ok (.getfield 178, 3) := kq_180 byq_r (a := 0) (b := 178) (by decide +kernel)
theorem d_Top_cell_120 : decode b_Top_cell 120 = .ok (.iload_n 1, 1) := kq_27 byq_r (by decide +kernel)
theorem d_Top_cell_121 : decode b_Top_cell 121 = .ok (.laload, 1) := kq_47 byq_r (by decide +kernel)
theorem d_Top_cell_122 : decode b_Top_cell 122 = .ok (.invokestatic 182, 3) := kq_184 byq_r (a := 0) (b := 182) (by decide +kernel)
theorem d_Top_cell_125 : decode b_Top_cell 125 = .ok (.ireturn, 1) := kq_172 byq_r (by decide +kernel)
theorem d_Top_cell_126 : decode b_Top_cell 126 = .ok (.aload_n 0, 1) := kq_42 byq_r (by decide +kernel)
theorem d_Top_cell_127 : decode b_Top_cell 127 = .ok (.getfield 46, 3) := kq_180 byq_r (a := 0) (b := 46) (by decide +kernel)
theorem d_Top_cell_130 : decode b_Top_cell 130 = .ok (.getfield 178, 3) := kq_180 byq_r (a := 0) (b := 178) (by decide +kernel)
theorem d_Top_cell_133 : decode b_Top_cell 133 = .ok (.bipush 36, 2) := kq_16 byq_r (b := 36) (by decide +kernel)
theorem d_Top_cell_135 : decode b_Top_cell 135 = .ok (.iload_n 1, 1) := kq_27 byq_r (by decide +kernel)
theorem d_Top_cell_136 : decode b_Top_cell 136 = .ok (.iadd, 1) := kq_96 byq_r (by decide +kernel)
theorem d_Top_cell_137 : decode b_Top_cell 137 = .ok (.laload, 1) := kq_47 byq_r (by decide +kernel)
theorem d_Top_cell_138 : decode b_Top_cell 138 = .ok (.invokestatic 182, 3) := kq_184 byq_r (a := 0) (b := 182) (by decide +kernel)
theorem d_Top_cell_141 : decode b_Top_cell 141 = .ok (.ireturn, 1) := kq_172 byq_r (by decide +kernel)
theorem d_Top_cell_142 : decode b_Top_cell 142 = .ok (.new 164, 3) := kq_187 byq_r (a := 0) (b := 164) (by decide +kernel)
theorem d_Top_cell_145 : decode b_Top_cell 145 = .ok (.dup, 1) := kq_89 byq_r (by decide +kernel)
theorem d_Top_cell_146 : decode b_Top_cell 146 = .ok (.invokespecial 166, 3) := kq_183 byq_r (a := 0) (b := 166) (by decide +kernel)
theorem d_Top_cell_149 : decode b_Top_cell 149 = .ok (.athrow, 1) := kq_191 byq_r (by decide +kernel)
def f_Top_cell (v1 : Int32) (v2 : Int32) (M : Mem) : Option (Option Int32) :=
  Option.bind (f_Ground_has v1 M) fun x1 =>
  if x1 = 0 then
  some none
  else
  if v2 = (0 : Int32) then
  if inb v1 36 = true then
  some (some (M.1 4 v1.toNatClampNeg))
  else none
  else if v2 = (1 : Int32) then
  Option.bind (f_Scene_standing 11 (0 : Int32) v1 (M.1 6 4) M) fun x3 =>
  some (some x3)
  else if v2 = (2 : Int32) then
  Option.bind (f_Scene_standing 11 (1 : Int32) v1 (M.1 6 4) M) fun x5 =>
  some (some x5)
  else if v2 = (3 : Int32) then
  Option.bind (f_Scene_planksAt 11 v1 M) fun x7 =>
  some (some x7)
  else if v2 = (4 : Int32) then
  if inb v1 72 = true then
  Option.bind (f_JLong_bitCount (M.2.1 34 v1.toNatClampNeg)) fun x9 =>
  some (some x9)
  else none
  else if v2 = (5 : Int32) then
  if inb ((36 : Int32) + v1) 72 = true then
  Option.bind (f_JLong_bitCount (M.2.1 34 ((36 : Int32) + v1).toNatClampNeg)) fun x11 =>
  some (some x11)
  else none
  else some none
theorem c_Top_cell (l : Launch) (hl9 : l.stackTraces = false) (G : Gw)  (v1 : Int32) (v2 : Int32) (M : Mem) (x : Option Int32) (h : f_Top_cell v1 v2 M = some x) (d : Nat) (hD : 10 ≤ d) : Cj l G y_Top_cell b_Top_cell 3 (some .int) d [.ref (G.2.2 + 0), .int v1, .int v2] M (fun (r9 : Option Int32) (M9 : Mem) => r9 = x ∧ M9 = M) := by
  refine Cj_of (by decide) (Nat.le_of_ble_eq_true rfl) (fun E hE X hT hx9 hR => ?_)
  subst hE
  have hs9 := hl9
  have kr : ∀ x9 : Option Int32, x = x9 → (fun (r9 : Option Int32) (M9 : Mem) => r9 = x ∧ M9 = M) x9 M := fun x9 e9 => by subst e9; exact ⟨rfl, rfl⟩
  unfold f_Top_cell at h
  refine V_aload_n (n := 0) X d_Top_cell_0 rfl rfl rfl ?_
  refine V_getr (k2 := 3) X fo_Top_19 kd_0 rfl rf_0_1 d_Top_cell_1 rfl ?_
  refine V_iload_n (n := 1) X d_Top_cell_4 rfl rfl rfl ?_
  obtain ⟨x1, hx1, h⟩ := ob_s h
  refine V_ci (As := [.int v1]) X (Z0 E) ml_Top_163 yq_Ground_has (c_Ground_has E.2.1 G v1 M x1 hx1 _ (Nat.le_refl _)) kd_3 rfl rfl (by omega) rfl (Nat.le_of_ble_eq_true rfl) d_Top_cell_5 rfl (fun r9 M9 hq => ?_)
  rw [hq.1, hq.2]
  refine V_if_ne (tgt := 19) X d_Top_cell_8 (by decide) rfl (fun c13 => ?_) (fun c13 => ?_)
  · rw [if_neg c13] at h
    refine V_iload_n (n := 2) X d_Top_cell_19 rfl rfl rfl ?_
    by_cases c2 : v2 = (0 : Int32)
    · rw [if_pos c2] at h
      refine V_tbl (v := 0) (pc' := 60) (off := 40) X d_Top_cell_20 c2 (by decide) (by decide) (by decide +kernel) (by decide) ?_
      refine V_aload_n (n := 0) X d_Top_cell_60 rfl rfl rfl ?_
      refine V_getr (k2 := 3) X fo_Top_19 kd_0 rfl rf_0_1 d_Top_cell_61 rfl ?_
      refine V_getr (k2 := 4) X fo_Top_167 kd_3 rfl rf_3_0 d_Top_cell_64 rfl ?_
      refine V_iload_n (n := 1) X d_Top_cell_67 rfl rfl rfl ?_
      obtain ⟨hb, h⟩ := ifn h
      refine V_iald X kd_4 (inb_in ln_4 hb) d_Top_cell_68 rfl ?_
      exact V_iretX X (kr (some (M.1 4 v1.toNatClampNeg)) (Option.some.inj h).symm) d_Top_cell_69
    · rw [if_neg c2] at h
      by_cases c4 : v2 = (1 : Int32)
      · rw [if_pos c4] at h
        refine V_tbl (v := 1) (pc' := 70) (off := 50) X d_Top_cell_20 c4 (by decide) (by decide) (by decide +kernel) (by decide) ?_
        refine V_aload_n (n := 0) X d_Top_cell_70 rfl rfl rfl ?_
        refine V_getr (k2 := 11) X fo_Top_33 kd_0 rfl rf_0_3 d_Top_cell_71 rfl ?_
        refine V_iconst (v := 0) X d_Top_cell_74 (by decide) rfl ?_
        refine V_iload_n (n := 1) X d_Top_cell_75 rfl rfl rfl ?_
        refine V_aload_n (n := 0) X d_Top_cell_76 rfl rfl rfl ?_
        refine V_getr (k2 := 6) X fo_Top_26 kd_0 rfl rf_0_2 d_Top_cell_77 rfl ?_
        refine V_geti X fo_Top_129 kd_6 rfl d_Top_cell_80 rfl ?_
        obtain ⟨x3, hx3, h⟩ := ob_s h
        refine V_ci (As := [.int (0 : Int32), .int v1, .int (M.1 6 4)]) X (Z0 E) ml_Top_170 yq_Scene_standing (c_Scene_standing E.2.1 G 11 (0 : Int32) v1 (M.1 6 4) M x3 hx3 _ (Nat.le_refl _)) kd_11 rfl rfl (by omega) rfl (Nat.le_of_ble_eq_true rfl) d_Top_cell_83 rfl (fun r9 M9 hq => ?_)
        rw [hq.1, hq.2]
        exact V_iretX X (kr (some x3) (Option.some.inj h).symm) d_Top_cell_86
      · rw [if_neg c4] at h
        by_cases c6 : v2 = (2 : Int32)
        · rw [if_pos c6] at h
          refine V_tbl (v := 2) (pc' := 87) (off := 67) X d_Top_cell_20 c6 (by decide) (by decide) (by decide +kernel) (by decide) ?_
          refine V_aload_n (n := 0) X d_Top_cell_87 rfl rfl rfl ?_
          refine V_getr (k2 := 11) X fo_Top_33 kd_0 rfl rf_0_3 d_Top_cell_88 rfl ?_
          refine V_iconst (v := 1) X d_Top_cell_91 (by decide) rfl ?_
          refine V_iload_n (n := 1) X d_Top_cell_92 rfl rfl rfl ?_
          refine V_aload_n (n := 0) X d_Top_cell_93 rfl rfl rfl ?_
          refine V_getr (k2 := 6) X fo_Top_26 kd_0 rfl rf_0_2 d_Top_cell_94 rfl ?_
          refine V_geti X fo_Top_129 kd_6 rfl d_Top_cell_97 rfl ?_
          obtain ⟨x5, hx5, h⟩ := ob_s h
          refine V_ci (As := [.int (1 : Int32), .int v1, .int (M.1 6 4)]) X (Z0 E) ml_Top_170 yq_Scene_standing (c_Scene_standing E.2.1 G 11 (1 : Int32) v1 (M.1 6 4) M x5 hx5 _ (Nat.le_refl _)) kd_11 rfl rfl (by omega) rfl (Nat.le_of_ble_eq_true rfl) d_Top_cell_100 rfl (fun r9 M9 hq => ?_)
          rw [hq.1, hq.2]
          exact V_iretX X (kr (some x5) (Option.some.inj h).symm) d_Top_cell_103
        · rw [if_neg c6] at h
          by_cases c8 : v2 = (3 : Int32)
          · rw [if_pos c8] at h
            refine V_tbl (v := 3) (pc' := 104) (off := 84) X d_Top_cell_20 c8 (by decide) (by decide) (by decide +kernel) (by decide) ?_
            refine V_aload_n (n := 0) X d_Top_cell_104 rfl rfl rfl ?_
            refine V_getr (k2 := 11) X fo_Top_33 kd_0 rfl rf_0_3 d_Top_cell_105 rfl ?_
            refine V_iload_n (n := 1) X d_Top_cell_108 rfl rfl rfl ?_
            obtain ⟨x7, hx7, h⟩ := ob_s h
            refine V_ci (As := [.int v1]) X (Z0 E) ml_Top_174 yq_Scene_planksAt (c_Scene_planksAt E.2.1 G 11 v1 M x7 hx7 _ (Nat.le_refl _)) kd_11 rfl rfl (by omega) rfl (Nat.le_of_ble_eq_true rfl) d_Top_cell_109 rfl (fun r9 M9 hq => ?_)
            rw [hq.1, hq.2]
            exact V_iretX X (kr (some x7) (Option.some.inj h).symm) d_Top_cell_112
          · rw [if_neg c8] at h
            by_cases c10 : v2 = (4 : Int32)
            · rw [if_pos c10] at h
              refine V_tbl (v := 4) (pc' := 113) (off := 93) X d_Top_cell_20 c10 (by decide) (by decide) (by decide +kernel) (by decide) ?_
              refine V_aload_n (n := 0) X d_Top_cell_113 rfl rfl rfl ?_
              refine V_getr (k2 := 32) X fo_Top_46 kd_0 rfl rf_0_6 d_Top_cell_114 rfl ?_
              refine V_getr (k2 := 34) X fo_Top_178 kd_32 rfl rf_32_1 d_Top_cell_117 rfl ?_
              refine V_iload_n (n := 1) X d_Top_cell_120 rfl rfl rfl ?_
              obtain ⟨hb, h⟩ := ifn h
              refine V_lald X kd_34 (inb_in ln_34 hb) d_Top_cell_121 rfl ?_
              obtain ⟨x9, hx9, h⟩ := ob_s h
              refine V_si (As := [.long (M.2.1 34 v1.toNatClampNeg)]) X (Z0 E) ml_Top_182 yq_JLong_bitCount (c_JLong_bitCount E.2.1 G (M.2.1 34 v1.toNatClampNeg) M x9 hx9 _ (Nat.le_refl _)) rfl (by omega) rfl (Nat.le_of_ble_eq_true rfl) d_Top_cell_122 rfl (fun r9 M9 hq => ?_)
              rw [hq.1, hq.2]
              exact V_iretX X (kr (some x9) (Option.some.inj h).symm) d_Top_cell_125
            · rw [if_neg c10] at h
              by_cases c12 : v2 = (5 : Int32)
              · rw [if_pos c12] at h
                refine V_tbl (v := 5) (pc' := 126) (off := 106) X d_Top_cell_20 c12 (by decide) (by decide) (by decide +kernel) (by decide) ?_
                refine V_aload_n (n := 0) X d_Top_cell_126 rfl rfl rfl ?_
                refine V_getr (k2 := 32) X fo_Top_46 kd_0 rfl rf_0_6 d_Top_cell_127 rfl ?_
                refine V_getr (k2 := 34) X fo_Top_178 kd_32 rfl rf_32_1 d_Top_cell_130 rfl ?_
                refine V_bipush (v := 36) X d_Top_cell_133 (by decide) rfl ?_
                refine V_iload_n (n := 1) X d_Top_cell_135 rfl rfl rfl ?_
                refine V_iadd X d_Top_cell_136 rfl ?_
                obtain ⟨hb, h⟩ := ifn h
                refine V_lald X kd_34 (inb_in ln_34 hb) d_Top_cell_137 rfl ?_
                obtain ⟨x11, hx11, h⟩ := ob_s h
                refine V_si (As := [.long (M.2.1 34 ((36 : Int32) + v1).toNatClampNeg)]) X (Z0 E) ml_Top_182 yq_JLong_bitCount (c_JLong_bitCount E.2.1 G (M.2.1 34 ((36 : Int32) + v1).toNatClampNeg) M x11 hx11 _ (Nat.le_refl _)) rfl (by omega) rfl (Nat.le_of_ble_eq_true rfl) d_Top_cell_138 rfl (fun r9 M9 hq => ?_)
                rw [hq.1, hq.2]
                exact V_iretX X (kr (some x11) (Option.some.inj h).symm) d_Top_cell_141
              · rw [if_neg c12] at h
                refine V_tableOut (pc' := 142) X d_Top_cell_20 (by have g0 := neT c2 (z := 0) (by decide); have g1 := neT c4 (z := 1) (by decide); have g2 := neT c6 (z := 2) (by decide); have g3 := neT c8 (z := 3) (by decide); have g4 := neT c10 (z := 4) (by decide); have g5 := neT c12 (z := 5) (by decide); omega) (by decide) ?_
                exact V_throw X hT hx9 hR hs9 (by omega) nse_w (kr none (Option.some.inj h).symm) (Nat.le_of_ble_eq_true rfl) d_Top_cell_142 d_Top_cell_145 d_Top_cell_146 d_Top_cell_149
  · rw [if_pos c13] at h
    exact V_throw X hT hx9 hR hs9 (by omega) nse_w (kr none (Option.some.inj h).symm) (Nat.le_of_ble_eq_true rfl) d_Top_cell_11 d_Top_cell_14 d_Top_cell_15 d_Top_cell_18
theorem d_Top_person_0 : decode b_Top_person 0 = .ok (.aload_n 0, 1) := kq_42 byq_r (by decide +kernel)
theorem d_Top_person_1 : decode b_Top_person 1 = .ok (.getfield 26, 3) := kq_180 byq_r (a := 0) (b := 26) (by decide +kernel)
theorem d_Top_person_4 : decode b_Top_person 4 = .ok (.iload_n 1, 1) := kq_27 byq_r (by decide +kernel)
theorem d_Top_person_5 : decode b_Top_person 5 = .ok (.invokevirtual 153, 3) := kq_182 byq_r (a := 0) (b := 153) (by decide +kernel)
theorem d_Top_person_8 : decode b_Top_person 8 = .ok (.ifCond .ne 11, 3) := kq_154 byq_r (a := 0) (b := 11) (by decide +kernel)
theorem d_Top_person_11 : decode b_Top_person 11 = .ok (.new 164, 3) := kq_187 byq_r (a := 0) (b := 164) (by decide +kernel)
theorem d_Top_person_14 : decode b_Top_person 14 = .ok (.dup, 1) := kq_89 byq_r (by decide +kernel)
theorem d_Top_person_15 : decode b_Top_person 15 = .ok (.invokespecial 166, 3) := kq_183 byq_r (a := 0) (b := 166) (by decide +kernel)
theorem d_Top_person_18 : decode b_Top_person 18 = .ok (.athrow, 1) := kq_191 byq_r (by decide +kernel)
theorem d_Top_person_19 : decode b_Top_person 19 = .ok (.iload_n 2, 1) := kq_28 byq_r (by decide +kernel)
theorem d_Top_person_20 : decode b_Top_person 20 = .ok (.tableswitch 155 0 7 #[48, 65, 75, 85, 95, 105, 117, 126], 48) := by decide +kernel
theorem d_Top_person_68 : decode b_Top_person 68 = .ok (.aload_n 0, 1) := kq_42 byq_r (by decide +kernel)
theorem d_Top_person_69 : decode b_Top_person 69 = .ok (.getfield 26, 3) := kq_180 byq_r (a := 0) (b := 26) (by decide +kernel)
theorem d_Top_person_72 : decode b_Top_person 72 = .ok (.iload_n 1, 1) := kq_27 byq_r (by decide +kernel)
theorem d_Top_person_73 : decode b_Top_person 73 = .ok (.invokevirtual 139, 3) := kq_182 byq_r (a := 0) (b := 139) (by decide +kernel)
theorem d_Top_person_76 : decode b_Top_person 76 = .ok (.ifCond .eq 7, 3) := kq_153 byq_r (a := 0) (b := 7) (by decide +kernel)
theorem d_Top_person_79 : decode b_Top_person 79 = .ok (.iconst 1, 1) := kq_4 byq_r (by decide +kernel)
theorem d_Top_person_80 : decode b_Top_person 80 = .ok (.goto 4, 3) := kq_167 byq_r (a := 0) (b := 4) (by decide +kernel)
theorem d_Top_person_83 : decode b_Top_person 83 = .ok (.iconst 0, 1) := kq_3 byq_r (by decide +kernel)
theorem d_Top_person_84 : decode b_Top_person 84 = .ok (.ireturn, 1) := kq_172 byq_r (by decide +kernel)
theorem d_Top_person_85 : decode b_Top_person 85 = .ok (.aload_n 0, 1) := kq_42 byq_r (by decide +kernel)
theorem d_Top_person_86 : decode b_Top_person 86 = .ok (.getfield 33, 3) := kq_180 byq_r (a := 0) (b := 33) (by decide +kernel)
theorem d_Top_person_89 : decode b_Top_person 89 = .ok (.getfield 188, 3) := kq_180 byq_r (a := 0) (b := 188) (by decide +kernel)
theorem d_Top_person_92 : decode b_Top_person 92 = .ok (.iload_n 1, 1) := kq_27 byq_r (by decide +kernel)
theorem d_Top_person_93 : decode b_Top_person 93 = .ok (.iaload, 1) := kq_46 byq_r (by decide +kernel)
theorem d_Top_person_94 : decode b_Top_person 94 = .ok (.ireturn, 1) := kq_172 byq_r (by decide +kernel)
theorem d_Top_person_95 : decode b_Top_person 95 = .ok (.aload_n 0, 1) := kq_42 byq_r (by decide +kernel)
theorem d_Top_person_96 : decode b_Top_person 96 = .ok (.getfield 33, 3) := kq_180 byq_r (a := 0) (b := 33) (by decide +kernel)
theorem d_Top_person_99 : decode b_Top_person 99 = .ok (.getfield 191, 3) := kq_180 byq_r (a := 0) (b := 191) (by decide +kernel)
theorem d_Top_person_102 : decode b_Top_person 102 = .ok (.iload_n 1, 1) := kq_27 byq_r (by decide +kernel)
theorem d_Top_person_103 : decode b_Top_person 103 = .ok (.iaload, 1) := kq_46 byq_r (by decide +kernel)
theorem d_Top_person_104 : decode b_Top_person 104 = .ok (.ireturn, 1) := kq_172 byq_r (by decide +kernel)
theorem d_Top_person_105 : decode b_Top_person 105 = .ok (.aload_n 0, 1) := kq_42 byq_r (by decide +kernel)
theorem d_Top_person_106 : decode b_Top_person 106 = .ok (.getfield 33, 3) := kq_180 byq_r (a := 0) (b := 33) (by decide +kernel)
theorem d_Top_person_109 : decode b_Top_person 109 = .ok (.getfield 160, 3) := kq_180 byq_r (a := 0) (b := 160) (by decide +kernel)
theorem d_Top_person_112 : decode b_Top_person 112 = .ok (.iload_n 1, 1) := kq_27 byq_r (by decide +kernel)
theorem d_Top_person_113 : decode b_Top_person 113 = .ok (.iaload, 1) := kq_46 byq_r (by decide +kernel)
theorem d_Top_person_114 : decode b_Top_person 114 = .ok (.ireturn, 1) := kq_172 byq_r (by decide +kernel)
theorem d_Top_person_115 : decode b_Top_person 115 = .ok (.aload_n 0, 1) := kq_42 byq_r (by decide +kernel)
theorem d_Top_person_116 : decode b_Top_person 116 = .ok (.getfield 26, 3) := kq_180 byq_r (a := 0) (b := 26) (by decide +kernel)
theorem d_Top_person_119 : decode b_Top_person 119 = .ok (.getfield 194, 3) := kq_180 byq_r (a := 0) (b := 194) (by decide +kernel)
theorem d_Top_person_122 : decode b_Top_person 122 = .ok (.iload_n 1, 1) := kq_27 byq_r (by decide +kernel)
theorem d_Top_person_123 : decode b_Top_person 123 = .ok (.iaload, 1) := kq_46 byq_r (by decide +kernel)
theorem d_Top_person_124 : decode b_Top_person 124 = .ok (.ireturn, 1) := kq_172 byq_r (by decide +kernel)
theorem d_Top_person_125 : decode b_Top_person 125 = .ok (.aload_n 0, 1) := kq_42 byq_r (by decide +kernel)
theorem d_Top_person_126 : decode b_Top_person 126 = .ok (.getfield 33, 3) := kq_180 byq_r (a := 0) (b := 33) (by decide +kernel)
theorem d_Top_person_129 : decode b_Top_person 129 = .ok (.getfield 197, 3) := kq_180 byq_r (a := 0) (b := 197) (by decide +kernel)
theorem d_Top_person_132 : decode b_Top_person 132 = .ok (.iload_n 1, 1) := kq_27 byq_r (by decide +kernel)
theorem d_Top_person_133 : decode b_Top_person 133 = .ok (.ishr, 1) := kq_122 byq_r (by decide +kernel)
theorem d_Top_person_134 : decode b_Top_person 134 = .ok (.iconst 1, 1) := kq_4 byq_r (by decide +kernel)
theorem d_Top_person_135 : decode b_Top_person 135 = .ok (.iand, 1) := kq_126 byq_r (by decide +kernel)
theorem d_Top_person_136 : decode b_Top_person 136 = .ok (.ireturn, 1) := kq_172 byq_r (by decide +kernel)
theorem d_Top_person_137 : decode b_Top_person 137 = .ok (.aload_n 0, 1) := kq_42 byq_r (by decide +kernel)
theorem d_Top_person_138 : decode b_Top_person 138 = .ok (.getfield 33, 3) := kq_180 byq_r (a := 0) (b := 33) (by decide +kernel)
theorem d_Top_person_141 : decode b_Top_person 141 = .ok (.iload_n 1, 1) := kq_27 byq_r (by decide +kernel)
theorem d_Top_person_142 : decode b_Top_person 142 = .ok (.invokevirtual 200, 3) := kq_182 byq_r (a := 0) (b := 200) (by decide +kernel)
theorem d_Top_person_145 : decode b_Top_person 145 = .ok (.ireturn, 1) := kq_172 byq_r (by decide +kernel)
theorem d_Top_person_146 : decode b_Top_person 146 = .ok (.aload_n 0, 1) := kq_42 byq_r (by decide +kernel)
theorem d_Top_person_147 : decode b_Top_person 147 = .ok (.getfield 56, 3) := kq_180 byq_r (a := 0) (b := 56) (by decide +kernel)
theorem d_Top_person_150 : decode b_Top_person 150 = .ok (.iload_n 1, 1) := kq_27 byq_r (by decide +kernel)
theorem d_Top_person_151 : decode b_Top_person 151 = .ok (.aload_n 0, 1) := kq_42 byq_r (by decide +kernel)
theorem d_Top_person_152 : decode b_Top_person 152 = .ok (.getfield 33, 3) := kq_180 byq_r (a := 0) (b := 33) (by decide +kernel)
theorem d_Top_person_155 : decode b_Top_person 155 = .ok (.aload_n 0, 1) := kq_42 byq_r (by decide +kernel)
theorem d_Top_person_156 : decode b_Top_person 156 = .ok (.getfield 26, 3) := kq_180 byq_r (a := 0) (b := 26) (by decide +kernel)
theorem d_Top_person_159 : decode b_Top_person 159 = .ok (.aload_n 0, 1) := kq_42 byq_r (by decide +kernel)
theorem d_Top_person_160 : decode b_Top_person 160 = .ok (.getfield 19, 3) := kq_180 byq_r (a := 0) (b := 19) (by decide +kernel)
theorem d_Top_person_163 : decode b_Top_person 163 = .ok (.invokevirtual 203, 3) := kq_182 byq_r (a := 0) (b := 203) (by decide +kernel)
theorem d_Top_person_166 : decode b_Top_person 166 = .ok (.ifCond .eq 7, 3) := kq_153 byq_r (a := 0) (b := 7) (by decide +kernel)
theorem d_Top_person_169 : decode b_Top_person 169 = .ok (.iconst 1, 1) := kq_4 byq_r (by decide +kernel)
theorem d_Top_person_170 : decode b_Top_person 170 = .ok (.goto 4, 3) := kq_167 byq_r (a := 0) (b := 4) (by decide +kernel)
theorem d_Top_person_173 : decode b_Top_person 173 = .ok (.iconst 0, 1) := kq_3 byq_r (by decide +kernel)
theorem d_Top_person_174 : decode b_Top_person 174 = .ok (.ireturn, 1) := kq_172 byq_r (by decide +kernel)
theorem d_Top_person_175 : decode b_Top_person 175 = .ok (.new 164, 3) := kq_187 byq_r (a := 0) (b := 164) (by decide +kernel)
theorem d_Top_person_178 : decode b_Top_person 178 = .ok (.dup, 1) := kq_89 byq_r (by decide +kernel)
theorem d_Top_person_179 : decode b_Top_person 179 = .ok (.invokespecial 166, 3) := kq_183 byq_r (a := 0) (b := 166) (by decide +kernel)
theorem d_Top_person_182 : decode b_Top_person 182 = .ok (.athrow, 1) := kq_191 byq_r (by decide +kernel)
def f_Top_person (v1 : Int32) (v2 : Int32) (M : Mem) : Option (Option Int32 × Mem) :=
  Option.bind (f_Crowd_has v1 M) fun x1 =>
  if x1 = 0 then
  some (none, M)
  else
  if v2 = (0 : Int32) then
  Option.bind (f_Crowd_woman v1 M) fun x2 =>
  if x2 = 0 then
  some (some (0 : Int32), M)
  else
  some (some (1 : Int32), M)
  else if v2 = (1 : Int32) then
  if inb v1 8 = true then
  some (some (M.1 12 v1.toNatClampNeg), M)
  else none
  else if v2 = (2 : Int32) then
  if inb v1 8 = true then
  some (some (M.1 13 v1.toNatClampNeg), M)
  else none
  else if v2 = (3 : Int32) then
  if inb v1 8 = true then
  some (some (M.1 14 v1.toNatClampNeg), M)
  else none
  else if v2 = (4 : Int32) then
  if inb v1 8 = true then
  some (some (M.1 8 v1.toNatClampNeg), M)
  else none
  else if v2 = (5 : Int32) then
  some (some (((M.1 11 8) >>> (v1 &&& 31)) &&& (1 : Int32)), M)
  else if v2 = (6 : Int32) then
  Option.bind (f_Scene_meetingsOf 11 v1 M) fun x10 =>
  some (some x10, M)
  else if v2 = (7 : Int32) then
  Option.bind (f_Law_goes v1 11 M) fun x12 =>
  if x12.1 = 0 then
  some (some (0 : Int32), x12.2)
  else
  some (some (1 : Int32), x12.2)
  else some (none, M)
theorem c_Top_person (l : Launch) (hl9 : l.stackTraces = false) (G : Gw)  (v1 : Int32) (v2 : Int32) (M : Mem) (x : Option Int32 × Mem) (h : f_Top_person v1 v2 M = some x) (d : Nat) (hD : 10 ≤ d) : Cj l G y_Top_person b_Top_person 3 (some .int) d [.ref (G.2.2 + 0), .int v1, .int v2] M (fun (r9 : Option Int32) (M9 : Mem) => r9 = x.1 ∧ M9 = x.2) := by
  refine Cj_of (by decide) (Nat.le_of_ble_eq_true rfl) (fun E hE X hT hx9 hR => ?_)
  subst hE
  have hs9 := hl9
  have kr : ∀ x9 : Option Int32 × Mem, x = x9 → (fun (r9 : Option Int32) (M9 : Mem) => r9 = x.1 ∧ M9 = x.2) x9.1 x9.2 := fun x9 e9 => by subst e9; exact ⟨rfl, rfl⟩
  unfold f_Top_person at h
  refine V_aload_n (n := 0) X d_Top_person_0 rfl rfl rfl ?_
  refine V_getr (k2 := 6) X fo_Top_26 kd_0 rfl rf_0_2 d_Top_person_1 rfl ?_
  refine V_iload_n (n := 1) X d_Top_person_4 rfl rfl rfl ?_
  obtain ⟨x1, hx1, h⟩ := ob_s h
  refine V_ci (As := [.int v1]) X (Z0 E) ml_Top_153 yq_Crowd_has (c_Crowd_has E.2.1 G v1 M x1 hx1 _ (Nat.le_refl _)) kd_6 rfl rfl (by omega) rfl (Nat.le_of_ble_eq_true rfl) d_Top_person_5 rfl (fun r9 M9 hq => ?_)
  rw [hq.1, hq.2]
  refine V_if_ne (tgt := 19) X d_Top_person_8 (by decide) rfl (fun c15 => ?_) (fun c15 => ?_)
  · rw [if_neg c15] at h
    refine V_iload_n (n := 2) X d_Top_person_19 rfl rfl rfl ?_
    by_cases c4 : v2 = (0 : Int32)
    · rw [if_pos c4] at h
      refine V_tbl (v := 0) (pc' := 68) (off := 48) X d_Top_person_20 c4 (by decide) (by decide) (by decide +kernel) (by decide) ?_
      refine V_aload_n (n := 0) X d_Top_person_68 rfl rfl rfl ?_
      refine V_getr (k2 := 6) X fo_Top_26 kd_0 rfl rf_0_2 d_Top_person_69 rfl ?_
      refine V_iload_n (n := 1) X d_Top_person_72 rfl rfl rfl ?_
      obtain ⟨x2, hx2, h⟩ := ob_s h
      refine V_ci (As := [.int v1]) X (Z0 E) ml_Top_139 yq_Crowd_woman (c_Crowd_woman E.2.1 G v1 M x2 hx2 _ (Nat.le_refl _)) kd_6 rfl rfl (by omega) rfl (Nat.le_of_ble_eq_true rfl) d_Top_person_73 rfl (fun r9 M9 hq => ?_)
      rw [hq.1, hq.2]
      refine V_if_eq (tgt := 83) X d_Top_person_76 (by decide) rfl (fun c3 => ?_) (fun c3 => ?_)
      · rw [if_pos c3] at h
        refine V_iconst (v := 0) X d_Top_person_83 (by decide) rfl ?_
        exact V_iretX X (kr (some (0 : Int32), M) (Option.some.inj h).symm) d_Top_person_84
      · rw [if_neg c3] at h
        refine V_iconst (v := 1) X d_Top_person_79 (by decide) rfl ?_
        refine V_goto (pc' := 84) X d_Top_person_80 (by decide) ?_
        exact V_iretX X (kr (some (1 : Int32), M) (Option.some.inj h).symm) d_Top_person_84
    · rw [if_neg c4] at h
      by_cases c5 : v2 = (1 : Int32)
      · rw [if_pos c5] at h
        refine V_tbl (v := 1) (pc' := 85) (off := 65) X d_Top_person_20 c5 (by decide) (by decide) (by decide +kernel) (by decide) ?_
        refine V_aload_n (n := 0) X d_Top_person_85 rfl rfl rfl ?_
        refine V_getr (k2 := 11) X fo_Top_33 kd_0 rfl rf_0_3 d_Top_person_86 rfl ?_
        refine V_getr (k2 := 12) X fo_Top_188 kd_11 rfl rf_11_0 d_Top_person_89 rfl ?_
        refine V_iload_n (n := 1) X d_Top_person_92 rfl rfl rfl ?_
        obtain ⟨hb, h⟩ := ifn h
        refine V_iald X kd_12 (inb_in ln_12 hb) d_Top_person_93 rfl ?_
        exact V_iretX X (kr (some (M.1 12 v1.toNatClampNeg), M) (Option.some.inj h).symm) d_Top_person_94
      · rw [if_neg c5] at h
        by_cases c6 : v2 = (2 : Int32)
        · rw [if_pos c6] at h
          refine V_tbl (v := 2) (pc' := 95) (off := 75) X d_Top_person_20 c6 (by decide) (by decide) (by decide +kernel) (by decide) ?_
          refine V_aload_n (n := 0) X d_Top_person_95 rfl rfl rfl ?_
          refine V_getr (k2 := 11) X fo_Top_33 kd_0 rfl rf_0_3 d_Top_person_96 rfl ?_
          refine V_getr (k2 := 13) X fo_Top_191 kd_11 rfl rf_11_1 d_Top_person_99 rfl ?_
          refine V_iload_n (n := 1) X d_Top_person_102 rfl rfl rfl ?_
          obtain ⟨hb, h⟩ := ifn h
          refine V_iald X kd_13 (inb_in ln_13 hb) d_Top_person_103 rfl ?_
          exact V_iretX X (kr (some (M.1 13 v1.toNatClampNeg), M) (Option.some.inj h).symm) d_Top_person_104
        · rw [if_neg c6] at h
          by_cases c7 : v2 = (3 : Int32)
          · rw [if_pos c7] at h
            refine V_tbl (v := 3) (pc' := 105) (off := 85) X d_Top_person_20 c7 (by decide) (by decide) (by decide +kernel) (by decide) ?_
            refine V_aload_n (n := 0) X d_Top_person_105 rfl rfl rfl ?_
            refine V_getr (k2 := 11) X fo_Top_33 kd_0 rfl rf_0_3 d_Top_person_106 rfl ?_
            refine V_getr (k2 := 14) X fo_Top_160 kd_11 rfl rf_11_2 d_Top_person_109 rfl ?_
            refine V_iload_n (n := 1) X d_Top_person_112 rfl rfl rfl ?_
            obtain ⟨hb, h⟩ := ifn h
            refine V_iald X kd_14 (inb_in ln_14 hb) d_Top_person_113 rfl ?_
            exact V_iretX X (kr (some (M.1 14 v1.toNatClampNeg), M) (Option.some.inj h).symm) d_Top_person_114
          · rw [if_neg c7] at h
            by_cases c8 : v2 = (4 : Int32)
            · rw [if_pos c8] at h
              refine V_tbl (v := 4) (pc' := 115) (off := 95) X d_Top_person_20 c8 (by decide) (by decide) (by decide +kernel) (by decide) ?_
              refine V_aload_n (n := 0) X d_Top_person_115 rfl rfl rfl ?_
              refine V_getr (k2 := 6) X fo_Top_26 kd_0 rfl rf_0_2 d_Top_person_116 rfl ?_
              refine V_getr (k2 := 8) X fo_Top_194 kd_6 rfl rf_6_1 d_Top_person_119 rfl ?_
              refine V_iload_n (n := 1) X d_Top_person_122 rfl rfl rfl ?_
              obtain ⟨hb, h⟩ := ifn h
              refine V_iald X kd_8 (inb_in ln_8 hb) d_Top_person_123 rfl ?_
              exact V_iretX X (kr (some (M.1 8 v1.toNatClampNeg), M) (Option.some.inj h).symm) d_Top_person_124
            · rw [if_neg c8] at h
              by_cases c9 : v2 = (5 : Int32)
              · rw [if_pos c9] at h
                refine V_tbl (v := 5) (pc' := 125) (off := 105) X d_Top_person_20 c9 (by decide) (by decide) (by decide +kernel) (by decide) ?_
                refine V_aload_n (n := 0) X d_Top_person_125 rfl rfl rfl ?_
                refine V_getr (k2 := 11) X fo_Top_33 kd_0 rfl rf_0_3 d_Top_person_126 rfl ?_
                refine V_geti X fo_Top_197 kd_11 rfl d_Top_person_129 rfl ?_
                refine V_iload_n (n := 1) X d_Top_person_132 rfl rfl rfl ?_
                refine V_ishr X d_Top_person_133 rfl ?_
                refine V_iconst (v := 1) X d_Top_person_134 (by decide) rfl ?_
                refine V_iand X d_Top_person_135 rfl ?_
                exact V_iretX X (kr (some (((M.1 11 8) >>> (v1 &&& 31)) &&& (1 : Int32)), M) (Option.some.inj h).symm) d_Top_person_136
              · rw [if_neg c9] at h
                by_cases c11 : v2 = (6 : Int32)
                · rw [if_pos c11] at h
                  refine V_tbl (v := 6) (pc' := 137) (off := 117) X d_Top_person_20 c11 (by decide) (by decide) (by decide +kernel) (by decide) ?_
                  refine V_aload_n (n := 0) X d_Top_person_137 rfl rfl rfl ?_
                  refine V_getr (k2 := 11) X fo_Top_33 kd_0 rfl rf_0_3 d_Top_person_138 rfl ?_
                  refine V_iload_n (n := 1) X d_Top_person_141 rfl rfl rfl ?_
                  obtain ⟨x10, hx10, h⟩ := ob_s h
                  refine V_ci (As := [.int v1]) X (Z0 E) ml_Top_200 yq_Scene_meetingsOf (c_Scene_meetingsOf E.2.1 G 11 v1 M x10 hx10 _ (Nat.le_refl _)) kd_11 rfl rfl (by omega) rfl (Nat.le_of_ble_eq_true rfl) d_Top_person_142 rfl (fun r9 M9 hq => ?_)
                  rw [hq.1, hq.2]
                  exact V_iretX X (kr (some x10, M) (Option.some.inj h).symm) d_Top_person_145
                · rw [if_neg c11] at h
                  by_cases c14 : v2 = (7 : Int32)
                  · rw [if_pos c14] at h
                    refine V_tbl (v := 7) (pc' := 146) (off := 126) X d_Top_person_20 c14 (by decide) (by decide) (by decide +kernel) (by decide) ?_
                    refine V_aload_n (n := 0) X d_Top_person_146 rfl rfl rfl ?_
                    refine V_getr (k2 := 40) X fo_Top_56 kd_0 rfl rf_0_8 d_Top_person_147 rfl ?_
                    refine V_iload_n (n := 1) X d_Top_person_150 rfl rfl rfl ?_
                    refine V_aload_n (n := 0) X d_Top_person_151 rfl rfl rfl ?_
                    refine V_getr (k2 := 11) X fo_Top_33 kd_0 rfl rf_0_3 d_Top_person_152 rfl ?_
                    refine V_aload_n (n := 0) X d_Top_person_155 rfl rfl rfl ?_
                    refine V_getr (k2 := 6) X fo_Top_26 kd_0 rfl rf_0_2 d_Top_person_156 rfl ?_
                    refine V_aload_n (n := 0) X d_Top_person_159 rfl rfl rfl ?_
                    refine V_getr (k2 := 3) X fo_Top_19 kd_0 rfl rf_0_1 d_Top_person_160 rfl ?_
                    obtain ⟨x12, hx12, h⟩ := ob_s h
                    refine V_ci (As := [.int v1, .ref (G.2.2 + 11), .ref (G.2.2 + 6), .ref (G.2.2 + 3)]) X (Z0 E) ml_Top_203 yq_Law_goes (c_Law_goes E.2.1 G v1 11 M x12 hx12 _ (Nat.le_refl _)) kd_40 rfl rfl (by omega) rfl (Nat.le_of_ble_eq_true rfl) d_Top_person_163 rfl (fun r9 M9 hq => ?_)
                    rw [hq.1, hq.2]
                    refine V_if_eq (tgt := 173) X d_Top_person_166 (by decide) rfl (fun c13 => ?_) (fun c13 => ?_)
                    · rw [if_pos c13] at h
                      refine V_iconst (v := 0) X d_Top_person_173 (by decide) rfl ?_
                      exact V_iretX X (kr (some (0 : Int32), x12.2) (Option.some.inj h).symm) d_Top_person_174
                    · rw [if_neg c13] at h
                      refine V_iconst (v := 1) X d_Top_person_169 (by decide) rfl ?_
                      refine V_goto (pc' := 174) X d_Top_person_170 (by decide) ?_
                      exact V_iretX X (kr (some (1 : Int32), x12.2) (Option.some.inj h).symm) d_Top_person_174
                  · rw [if_neg c14] at h
                    refine V_tableOut (pc' := 175) X d_Top_person_20 (by have g0 := neT c4 (z := 0) (by decide); have g1 := neT c5 (z := 1) (by decide); have g2 := neT c6 (z := 2) (by decide); have g3 := neT c7 (z := 3) (by decide); have g4 := neT c8 (z := 4) (by decide); have g5 := neT c9 (z := 5) (by decide); have g6 := neT c11 (z := 6) (by decide); have g7 := neT c14 (z := 7) (by decide); omega) (by decide) ?_
                    exact V_throw X hT hx9 hR hs9 (by omega) nse_w (kr (none, M) (Option.some.inj h).symm) (Nat.le_of_ble_eq_true rfl) d_Top_person_175 d_Top_person_178 d_Top_person_179 d_Top_person_182
  · rw [if_pos c15] at h
    exact V_throw X hT hx9 hR hs9 (by omega) nse_w (kr (none, M) (Option.some.inj h).symm) (Nat.le_of_ble_eq_true rfl) d_Top_person_11 d_Top_person_14 d_Top_person_15 d_Top_person_18
theorem d_Top_row_0 : decode b_Top_row 0 = .ok (.iload_n 1, 1) := kq_27 byq_r (by decide +kernel)
theorem d_Top_row_1 : decode b_Top_row 1 = .ok (.ifCond .lt 17, 3) := kq_155 byq_r (a := 0) (b := 17) (by decide +kernel)
theorem d_Top_row_4 : decode b_Top_row 4 = .ok (.iload_n 1, 1) := kq_27 byq_r (by decide +kernel)
theorem d_Top_row_5 : decode b_Top_row 5 = .ok (.aload_n 0, 1) := kq_42 byq_r (by decide +kernel)
theorem d_Top_row_6 : decode b_Top_row 6 = .ok (.getfield 99, 3) := kq_180 byq_r (a := 0) (b := 99) (by decide +kernel)
theorem d_Top_row_9 : decode b_Top_row 9 = .ok (.if_icmp .ge 9, 3) := kq_162 byq_r (a := 0) (b := 9) (by decide +kernel)
theorem d_Top_row_12 : decode b_Top_row 12 = .ok (.iload_n 1, 1) := kq_27 byq_r (by decide +kernel)
theorem d_Top_row_13 : decode b_Top_row 13 = .ok (.bipush 10, 2) := kq_16 byq_r (b := 10) (by decide +kernel)
theorem d_Top_row_15 : decode b_Top_row 15 = .ok (.if_icmp .lt 11, 3) := kq_161 byq_r (a := 0) (b := 11) (by decide +kernel)
theorem d_Top_row_18 : decode b_Top_row 18 = .ok (.new 164, 3) := kq_187 byq_r (a := 0) (b := 164) (by decide +kernel)
theorem d_Top_row_21 : decode b_Top_row 21 = .ok (.dup, 1) := kq_89 byq_r (by decide +kernel)
theorem d_Top_row_22 : decode b_Top_row 22 = .ok (.invokespecial 166, 3) := kq_183 byq_r (a := 0) (b := 166) (by decide +kernel)
theorem d_Top_row_25 : decode b_Top_row 25 = .ok (.athrow, 1) := kq_191 byq_r (by decide +kernel)
theorem d_Top_row_26 : decode b_Top_row 26 = .ok (.aload_n 0, 1) := kq_42 byq_r (by decide +kernel)
theorem d_Top_row_27 : decode b_Top_row 27 = .ok (.getfield 95, 3) := kq_180 byq_r (a := 0) (b := 95) (by decide +kernel)
theorem d_Top_row_30 : decode b_Top_row 30 = .ok (.iload_n 1, 1) := kq_27 byq_r (by decide +kernel)
theorem d_Top_row_31 : decode b_Top_row 31 = .ok (.iaload, 1) := kq_46 byq_r (by decide +kernel)
theorem d_Top_row_32 : decode b_Top_row 32 = .ok (.ireturn, 1) := kq_172 byq_r (by decide +kernel)
def f_Top_row (v1 : Int32) (M : Mem) : Option (Option Int32) :=
  if v1 < 0 then
  some none
  else
  if (M.1 0 15) ≤ v1 then
  some none
  else
  if v1 < (10 : Int32) then
  if inb v1 10 = true then
  some (some (M.1 161 v1.toNatClampNeg))
  else none
  else
  some none
theorem c_Top_row (l : Launch) (hl9 : l.stackTraces = false) (G : Gw)  (v1 : Int32) (M : Mem) (x : Option Int32) (h : f_Top_row v1 M = some x) (d : Nat) (hD : 10 ≤ d) : Cj l G y_Top_row b_Top_row 2 (some .int) d [.ref (G.2.2 + 0), .int v1] M (fun (r9 : Option Int32) (M9 : Mem) => r9 = x ∧ M9 = M) := by
  refine Cj_of (by decide) (Nat.le_of_ble_eq_true rfl) (fun E hE X hT hx9 hR => ?_)
  subst hE
  have hs9 := hl9
  have kr : ∀ x9 : Option Int32, x = x9 → (fun (r9 : Option Int32) (M9 : Mem) => r9 = x ∧ M9 = M) x9 M := fun x9 e9 => by subst e9; exact ⟨rfl, rfl⟩
  unfold f_Top_row at h
  refine V_iload_n (n := 1) X d_Top_row_0 rfl rfl rfl ?_
  refine V_if_lt (tgt := 18) X d_Top_row_1 (by decide) rfl (fun c3 => ?_) (fun c3 => ?_)
  · rw [if_pos c3] at h
    exact V_throw X hT hx9 hR hs9 (by omega) nse_w (kr none (Option.some.inj h).symm) (Nat.le_of_ble_eq_true rfl) d_Top_row_18 d_Top_row_21 d_Top_row_22 d_Top_row_25
  · rw [if_neg c3] at h
    refine V_iload_n (n := 1) X d_Top_row_4 rfl rfl rfl ?_
    refine V_aload_n (n := 0) X d_Top_row_5 rfl rfl rfl ?_
    refine V_geti X fo_Top_99 kd_0 rfl d_Top_row_6 rfl ?_
    refine V_icmp_ge (tgt := 18) X d_Top_row_9 (by decide) rfl (fun c2 => ?_) (fun c2 => ?_)
    · rw [if_pos c2] at h
      exact V_throw X hT hx9 hR hs9 (by omega) nse_w (kr none (Option.some.inj h).symm) (Nat.le_of_ble_eq_true rfl) d_Top_row_18 d_Top_row_21 d_Top_row_22 d_Top_row_25
    · rw [if_neg c2] at h
      refine V_iload_n (n := 1) X d_Top_row_12 rfl rfl rfl ?_
      refine V_bipush (v := 10) X d_Top_row_13 (by decide) rfl ?_
      refine V_icmp_lt (tgt := 26) X d_Top_row_15 (by decide) rfl (fun c1 => ?_) (fun c1 => ?_)
      · rw [if_pos c1] at h
        refine V_aload_n (n := 0) X d_Top_row_26 rfl rfl rfl ?_
        refine V_getr (k2 := 161) X fo_Top_95 kd_0 rfl rf_0_14 d_Top_row_27 rfl ?_
        refine V_iload_n (n := 1) X d_Top_row_30 rfl rfl rfl ?_
        obtain ⟨hb, h⟩ := ifn h
        refine V_iald X kd_161 (inb_in ln_161 hb) d_Top_row_31 rfl ?_
        exact V_iretX X (kr (some (M.1 161 v1.toNatClampNeg)) (Option.some.inj h).symm) d_Top_row_32
      · rw [if_neg c1] at h
        exact V_throw X hT hx9 hR hs9 (by omega) nse_w (kr none (Option.some.inj h).symm) (Nat.le_of_ble_eq_true rfl) d_Top_row_18 d_Top_row_21 d_Top_row_22 d_Top_row_25
