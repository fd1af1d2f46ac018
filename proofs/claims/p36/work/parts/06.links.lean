/-! links of fields and of methods; the kinds of the cells -/
theorem gt_1 {w : Cond} (i : Nat) (h : tables_1_1[i]? = some w) (hg : goodWord w = true) : w ∈ gw := List.mem_filter.mpr ⟨List.mem_append_right _ (List.mem_append_left _ (List.mem_of_getElem? h)), hg⟩
theorem gt_2 {w : Cond} (i : Nat) (h : tables_1_2[i]? = some w) (hg : goodWord w = true) : w ∈ gw := List.mem_filter.mpr ⟨List.mem_append_right _ (List.mem_append_right _ (List.mem_append_left _ (List.mem_of_getElem? h))), hg⟩
theorem gt_3 {w : Cond} (i : Nat) (h : tables_1_3[i]? = some w) (hg : goodWord w = true) : w ∈ gw := List.mem_filter.mpr ⟨List.mem_append_right _ (List.mem_append_right _ (List.mem_append_right _ (List.mem_append_left _ (List.mem_of_getElem? h)))), hg⟩
theorem gt_4 {w : Cond} (i : Nat) (h : tables_1_4[i]? = some w) (hg : goodWord w = true) : w ∈ gw := List.mem_filter.mpr ⟨List.mem_append_right _ (List.mem_append_right _ (List.mem_append_right _ (List.mem_append_right _ (List.mem_append_left _ (List.mem_of_getElem? h))))), hg⟩
theorem gt_5 {w : Cond} (i : Nat) (h : tables_1_5[i]? = some w) (hg : goodWord w = true) : w ∈ gw := List.mem_filter.mpr ⟨List.mem_append_right _ (List.mem_append_right _ (List.mem_append_right _ (List.mem_append_right _ (List.mem_append_right _ (List.mem_append_left _ (List.mem_of_getElem? h)))))), hg⟩
theorem gt_6 {w : Cond} (i : Nat) (h : tables_1_6[i]? = some w) (hg : goodWord w = true) : w ∈ gw := List.mem_filter.mpr ⟨List.mem_append_right _ (List.mem_append_right _ (List.mem_append_right _ (List.mem_append_right _ (List.mem_append_right _ (List.mem_append_right _ (List.mem_append_left _ (List.mem_of_getElem? h))))))), hg⟩
theorem gt_7 {w : Cond} (i : Nat) (h : tables_1_7[i]? = some w) (hg : goodWord w = true) : w ∈ gw := List.mem_filter.mpr ⟨List.mem_append_right _ (List.mem_append_right _ (List.mem_append_right _ (List.mem_append_right _ (List.mem_append_right _ (List.mem_append_right _ (List.mem_append_right _ (List.mem_append_left _ (List.mem_of_getElem? h)))))))), hg⟩
theorem gt_8 {w : Cond} (i : Nat) (h : tables_1_8[i]? = some w) (hg : goodWord w = true) : w ∈ gw := List.mem_filter.mpr ⟨List.mem_append_right _ (List.mem_append_right _ (List.mem_append_right _ (List.mem_append_right _ (List.mem_append_right _ (List.mem_append_right _ (List.mem_append_right _ (List.mem_append_right _ (List.mem_of_getElem? h)))))))), hg⟩
theorem gp_1 {w : Cond} (i : Nat) (h : (k2_sels lw_privs_1)[i]? = some w) (hg : goodWord w = true) : w ∈ gw := by
  refine List.mem_filter.mpr ⟨List.mem_append_left _ ?_, hg⟩
  obtain ⟨q, h9, e⟩ := List.mem_map.mp (List.mem_of_getElem? h)
  exact List.mem_map.mpr ⟨q, List.mem_append_left _ (h9), e⟩
theorem gp_2 {w : Cond} (i : Nat) (h : (k2_sels lw_privs_2)[i]? = some w) (hg : goodWord w = true) : w ∈ gw := by
  refine List.mem_filter.mpr ⟨List.mem_append_left _ ?_, hg⟩
  obtain ⟨q, h9, e⟩ := List.mem_map.mp (List.mem_of_getElem? h)
  exact List.mem_map.mpr ⟨q, List.mem_append_right _ (List.mem_append_left _ (h9)), e⟩
theorem gp_3 {w : Cond} (i : Nat) (h : (k2_sels lw_privs_3)[i]? = some w) (hg : goodWord w = true) : w ∈ gw := by
  refine List.mem_filter.mpr ⟨List.mem_append_left _ ?_, hg⟩
  obtain ⟨q, h9, e⟩ := List.mem_map.mp (List.mem_of_getElem? h)
  exact List.mem_map.mpr ⟨q, List.mem_append_right _ (List.mem_append_right _ (List.mem_append_left _ (h9))), e⟩
theorem gp_4 {w : Cond} (i : Nat) (h : (k2_sels lw_privs_4)[i]? = some w) (hg : goodWord w = true) : w ∈ gw := by
  refine List.mem_filter.mpr ⟨List.mem_append_left _ ?_, hg⟩
  obtain ⟨q, h9, e⟩ := List.mem_map.mp (List.mem_of_getElem? h)
  exact List.mem_map.mpr ⟨q, List.mem_append_right _ (List.mem_append_right _ (List.mem_append_right _ (List.mem_append_left _ (h9)))), e⟩
theorem gp_5 {w : Cond} (i : Nat) (h : (k2_sels lw_privs_5)[i]? = some w) (hg : goodWord w = true) : w ∈ gw := by
  refine List.mem_filter.mpr ⟨List.mem_append_left _ ?_, hg⟩
  obtain ⟨q, h9, e⟩ := List.mem_map.mp (List.mem_of_getElem? h)
  exact List.mem_map.mpr ⟨q, List.mem_append_right _ (List.mem_append_right _ (List.mem_append_right _ (List.mem_append_right _ (List.mem_append_left _ (h9))))), e⟩
theorem gp_6 {w : Cond} (i : Nat) (h : (k2_sels lw_privs_6)[i]? = some w) (hg : goodWord w = true) : w ∈ gw := by
  refine List.mem_filter.mpr ⟨List.mem_append_left _ ?_, hg⟩
  obtain ⟨q, h9, e⟩ := List.mem_map.mp (List.mem_of_getElem? h)
  exact List.mem_map.mpr ⟨q, List.mem_append_right _ (List.mem_append_right _ (List.mem_append_right _ (List.mem_append_right _ (List.mem_append_right _ (List.mem_append_left _ (h9)))))), e⟩
theorem gp_7 {w : Cond} (i : Nat) (h : (k2_sels lw_privs_7)[i]? = some w) (hg : goodWord w = true) : w ∈ gw := by
  refine List.mem_filter.mpr ⟨List.mem_append_left _ ?_, hg⟩
  obtain ⟨q, h9, e⟩ := List.mem_map.mp (List.mem_of_getElem? h)
  exact List.mem_map.mpr ⟨q, List.mem_append_right _ (List.mem_append_right _ (List.mem_append_right _ (List.mem_append_right _ (List.mem_append_right _ (List.mem_append_right _ (List.mem_append_left _ (h9))))))), e⟩
theorem gp_8 {w : Cond} (i : Nat) (h : (k2_sels lw_privs_8)[i]? = some w) (hg : goodWord w = true) : w ∈ gw := by
  refine List.mem_filter.mpr ⟨List.mem_append_left _ ?_, hg⟩
  obtain ⟨q, h9, e⟩ := List.mem_map.mp (List.mem_of_getElem? h)
  exact List.mem_map.mpr ⟨q, List.mem_append_right _ (List.mem_append_right _ (List.mem_append_right _ (List.mem_append_right _ (List.mem_append_right _ (List.mem_append_right _ (List.mem_append_right _ (h9))))))), e⟩
theorem fo_Signs_9 : fOk "WomenByTheRoofs$Signs" 9 8 0 := ⟨R_Signs, F_Signs, 3, rfl, iw_Signs, by decide, by decide +kernel, gt_1 37 rfl rfl⟩
theorem fo_Signs_15 : fOk "WomenByTheRoofs$Signs" 15 8 1 := ⟨R_Signs, F_Signs, 3, rfl, iw_Signs, by decide, by decide +kernel, gt_1 38 rfl rfl⟩
theorem fp_Signs_15 : fPut "WomenByTheRoofs$Signs" 15 8 1 (.int) := ⟨R_Signs, F_Signs, 3, t_Signs, rfl, iw_Signs, by decide, by decide +kernel, gt_1 38 rfl rfl, rfl, t_Signs_ok, n_Signs, by decide +kernel⟩
theorem fo_Acts_25 : fOk "WomenByTheRoofs$Acts" 25 8 1 := ⟨R_Signs, F_Signs, 3, rfl, iw_Signs, by decide, by decide +kernel, gt_1 39 rfl rfl⟩
theorem fp_Acts_25 : fPut "WomenByTheRoofs$Acts" 25 8 1 (.int) := ⟨R_Signs, F_Signs, 3, t_Signs, rfl, iw_Signs, by decide, by decide +kernel, gt_1 39 rfl rfl, rfl, t_Signs_ok, n_Signs, by decide +kernel⟩
theorem fo_Top_110 : fOk "WomenByTheRoofs" 110 8 1 := ⟨R_Signs, F_Signs, 3, rfl, iw_Signs, by decide, by decide +kernel, gt_1 40 rfl rfl⟩
theorem fp_Top_110 : fPut "WomenByTheRoofs" 110 8 1 (.int) := ⟨R_Signs, F_Signs, 3, t_Signs, rfl, iw_Signs, by decide, by decide +kernel, gt_1 40 rfl rfl, rfl, t_Signs_ok, n_Signs, by decide +kernel⟩
theorem fo_Law_41 : fOk "WomenByTheRoofs$Law" 41 8 1 := ⟨R_Signs, F_Signs, 3, rfl, iw_Signs, by decide, by decide +kernel, gt_1 41 rfl rfl⟩
theorem fp_Law_41 : fPut "WomenByTheRoofs$Law" 41 8 1 (.int) := ⟨R_Signs, F_Signs, 3, t_Signs, rfl, iw_Signs, by decide, by decide +kernel, gt_1 41 rfl rfl, rfl, t_Signs_ok, n_Signs, by decide +kernel⟩
theorem fo_Crowd_44 : fOk "WomenByTheRoofs$Crowd" 44 8 1 := ⟨R_Signs, F_Signs, 3, rfl, iw_Signs, by decide, by decide +kernel, gt_1 42 rfl rfl⟩
theorem fp_Crowd_44 : fPut "WomenByTheRoofs$Crowd" 44 8 1 (.int) := ⟨R_Signs, F_Signs, 3, t_Signs, rfl, iw_Signs, by decide, by decide +kernel, gt_1 42 rfl rfl, rfl, t_Signs_ok, n_Signs, by decide +kernel⟩
theorem fo_Law_78 : fOk "WomenByTheRoofs$Law" 78 8 2 := ⟨R_Signs, F_Signs, 3, rfl, iw_Signs, by decide, by decide +kernel, gt_1 43 rfl rfl⟩
theorem fp_Law_78 : fPut "WomenByTheRoofs$Law" 78 8 2 (.int) := ⟨R_Signs, F_Signs, 3, t_Signs, rfl, iw_Signs, by decide, by decide +kernel, gt_1 43 rfl rfl, rfl, t_Signs_ok, n_Signs, by decide +kernel⟩
theorem fo_Signs_19 : fOk "WomenByTheRoofs$Signs" 19 8 2 := ⟨R_Signs, F_Signs, 3, rfl, iw_Signs, by decide, by decide +kernel, gt_1 44 rfl rfl⟩
theorem fp_Signs_19 : fPut "WomenByTheRoofs$Signs" 19 8 2 (.int) := ⟨R_Signs, F_Signs, 3, t_Signs, rfl, iw_Signs, by decide, by decide +kernel, gt_1 44 rfl rfl, rfl, t_Signs_ok, n_Signs, by decide +kernel⟩
theorem fo_Acts_55 : fOk "WomenByTheRoofs$Acts" 55 8 2 := ⟨R_Signs, F_Signs, 3, rfl, iw_Signs, by decide, by decide +kernel, gt_1 45 rfl rfl⟩
theorem fp_Acts_55 : fPut "WomenByTheRoofs$Acts" 55 8 2 (.int) := ⟨R_Signs, F_Signs, 3, t_Signs, rfl, iw_Signs, by decide, by decide +kernel, gt_1 45 rfl rfl, rfl, t_Signs_ok, n_Signs, by decide +kernel⟩
theorem fo_Crowd_63 : fOk "WomenByTheRoofs$Crowd" 63 8 2 := ⟨R_Signs, F_Signs, 3, rfl, iw_Signs, by decide, by decide +kernel, gt_1 46 rfl rfl⟩
theorem fp_Crowd_63 : fPut "WomenByTheRoofs$Crowd" 63 8 2 (.int) := ⟨R_Signs, F_Signs, 3, t_Signs, rfl, iw_Signs, by decide, by decide +kernel, gt_1 46 rfl rfl, rfl, t_Signs_ok, n_Signs, by decide +kernel⟩
theorem fo_Ground_9 : fOk "WomenByTheRoofs$Ground" 9 3 0 := ⟨R_Ground, F_Ground, 4, rfl, iw_Ground, by decide, by decide +kernel, gt_1 61 rfl rfl⟩
theorem fo_Top_167 : fOk "WomenByTheRoofs" 167 3 0 := ⟨R_Ground, F_Ground, 4, rfl, iw_Ground, by decide, by decide +kernel, gt_1 62 rfl rfl⟩
theorem fo_Ground_15 : fOk "WomenByTheRoofs$Ground" 15 3 1 := ⟨R_Ground, F_Ground, 4, rfl, iw_Ground, by decide, by decide +kernel, gt_1 63 rfl rfl⟩
theorem fo_Ground_18 : fOk "WomenByTheRoofs$Ground" 18 3 2 := ⟨R_Ground, F_Ground, 4, rfl, iw_Ground, by decide, by decide +kernel, gt_1 64 rfl rfl⟩
theorem fp_Ground_18 : fPut "WomenByTheRoofs$Ground" 18 3 2 (.int) := ⟨R_Ground, F_Ground, 4, t_Ground, rfl, iw_Ground, by decide, by decide +kernel, gt_1 64 rfl rfl, rfl, t_Ground_ok, n_Ground, by decide +kernel⟩
theorem fo_Top_444 : fOk "WomenByTheRoofs" 444 3 2 := ⟨R_Ground, F_Ground, 4, rfl, iw_Ground, by decide, by decide +kernel, gt_1 65 rfl rfl⟩
theorem fp_Top_444 : fPut "WomenByTheRoofs" 444 3 2 (.int) := ⟨R_Ground, F_Ground, 4, t_Ground, rfl, iw_Ground, by decide, by decide +kernel, gt_1 65 rfl rfl, rfl, t_Ground_ok, n_Ground, by decide +kernel⟩
theorem fo_Ground_22 : fOk "WomenByTheRoofs$Ground" 22 3 3 := ⟨R_Ground, F_Ground, 4, rfl, iw_Ground, by decide, by decide +kernel, gt_1 66 rfl rfl⟩
theorem fp_Ground_22 : fPut "WomenByTheRoofs$Ground" 22 3 3 (.int) := ⟨R_Ground, F_Ground, 4, t_Ground, rfl, iw_Ground, by decide, by decide +kernel, gt_1 66 rfl rfl, rfl, t_Ground_ok, n_Ground, by decide +kernel⟩
theorem fo_Top_346 : fOk "WomenByTheRoofs" 346 3 3 := ⟨R_Ground, F_Ground, 4, rfl, iw_Ground, by decide, by decide +kernel, gt_1 67 rfl rfl⟩
theorem fp_Top_346 : fPut "WomenByTheRoofs" 346 3 3 (.int) := ⟨R_Ground, F_Ground, 4, t_Ground, rfl, iw_Ground, by decide, by decide +kernel, gt_1 67 rfl rfl, rfl, t_Ground_ok, n_Ground, by decide +kernel⟩
theorem fo_Crowd_9 : fOk "WomenByTheRoofs$Crowd" 9 2 0 := ⟨R_Crowd, F_Crowd, 7, rfl, iw_Crowd, by decide, by decide +kernel, gt_1 83 rfl rfl⟩
theorem fo_Crowd_15 : fOk "WomenByTheRoofs$Crowd" 15 2 1 := ⟨R_Crowd, F_Crowd, 7, rfl, iw_Crowd, by decide, by decide +kernel, gt_1 84 rfl rfl⟩
theorem fo_Top_194 : fOk "WomenByTheRoofs" 194 2 1 := ⟨R_Crowd, F_Crowd, 7, rfl, iw_Crowd, by decide, by decide +kernel, gt_1 85 rfl rfl⟩
theorem fo_Crowd_18 : fOk "WomenByTheRoofs$Crowd" 18 2 2 := ⟨R_Crowd, F_Crowd, 7, rfl, iw_Crowd, by decide, by decide +kernel, gt_1 86 rfl rfl⟩
theorem fo_Top_136 : fOk "WomenByTheRoofs" 136 2 2 := ⟨R_Crowd, F_Crowd, 7, rfl, iw_Crowd, by decide, by decide +kernel, gt_1 87 rfl rfl⟩
theorem fo_Crowd_21 : fOk "WomenByTheRoofs$Crowd" 21 2 3 := ⟨R_Crowd, F_Crowd, 7, rfl, iw_Crowd, by decide, by decide +kernel, gt_1 88 rfl rfl⟩
theorem fo_Crowd_24 : fOk "WomenByTheRoofs$Crowd" 24 2 4 := ⟨R_Crowd, F_Crowd, 7, rfl, iw_Crowd, by decide, by decide +kernel, gt_1 89 rfl rfl⟩
theorem fp_Crowd_24 : fPut "WomenByTheRoofs$Crowd" 24 2 4 (.int) := ⟨R_Crowd, F_Crowd, 7, t_Crowd, rfl, iw_Crowd, by decide, by decide +kernel, gt_1 89 rfl rfl, rfl, t_Crowd_ok, n_Crowd, by decide +kernel⟩
theorem fo_Clock_21 : fOk "WomenByTheRoofs$Clock" 21 2 4 := ⟨R_Crowd, F_Crowd, 7, rfl, iw_Crowd, by decide, by decide +kernel, gt_1 90 rfl rfl⟩
theorem fp_Clock_21 : fPut "WomenByTheRoofs$Clock" 21 2 4 (.int) := ⟨R_Crowd, F_Crowd, 7, t_Crowd, rfl, iw_Crowd, by decide, by decide +kernel, gt_1 90 rfl rfl, rfl, t_Crowd_ok, n_Crowd, by decide +kernel⟩
theorem fo_Top_129 : fOk "WomenByTheRoofs" 129 2 4 := ⟨R_Crowd, F_Crowd, 7, rfl, iw_Crowd, by decide, by decide +kernel, gt_1 91 rfl rfl⟩
theorem fp_Top_129 : fPut "WomenByTheRoofs" 129 2 4 (.int) := ⟨R_Crowd, F_Crowd, 7, t_Crowd, rfl, iw_Crowd, by decide, by decide +kernel, gt_1 91 rfl rfl, rfl, t_Crowd_ok, n_Crowd, by decide +kernel⟩
theorem fo_Law_137 : fOk "WomenByTheRoofs$Law" 137 2 4 := ⟨R_Crowd, F_Crowd, 7, rfl, iw_Crowd, by decide, by decide +kernel, gt_1 92 rfl rfl⟩
theorem fp_Law_137 : fPut "WomenByTheRoofs$Law" 137 2 4 (.int) := ⟨R_Crowd, F_Crowd, 7, t_Crowd, rfl, iw_Crowd, by decide, by decide +kernel, gt_1 92 rfl rfl, rfl, t_Crowd_ok, n_Crowd, by decide +kernel⟩
theorem fo_Crowd_28 : fOk "WomenByTheRoofs$Crowd" 28 2 5 := ⟨R_Crowd, F_Crowd, 7, rfl, iw_Crowd, by decide, by decide +kernel, gt_1 93 rfl rfl⟩
theorem fp_Crowd_28 : fPut "WomenByTheRoofs$Crowd" 28 2 5 (.int) := ⟨R_Crowd, F_Crowd, 7, t_Crowd, rfl, iw_Crowd, by decide, by decide +kernel, gt_1 93 rfl rfl, rfl, t_Crowd_ok, n_Crowd, by decide +kernel⟩
theorem fo_Top_374 : fOk "WomenByTheRoofs" 374 2 5 := ⟨R_Crowd, F_Crowd, 7, rfl, iw_Crowd, by decide, by decide +kernel, gt_1 94 rfl rfl⟩
theorem fp_Top_374 : fPut "WomenByTheRoofs" 374 2 5 (.int) := ⟨R_Crowd, F_Crowd, 7, t_Crowd, rfl, iw_Crowd, by decide, by decide +kernel, gt_1 94 rfl rfl, rfl, t_Crowd_ok, n_Crowd, by decide +kernel⟩
theorem fo_Crowd_49 : fOk "WomenByTheRoofs$Crowd" 49 2 6 := ⟨R_Crowd, F_Crowd, 7, rfl, iw_Crowd, by decide, by decide +kernel, gt_1 95 rfl rfl⟩
theorem fp_Crowd_49 : fPut "WomenByTheRoofs$Crowd" 49 2 6 (.int) := ⟨R_Crowd, F_Crowd, 7, t_Crowd, rfl, iw_Crowd, by decide, by decide +kernel, gt_1 95 rfl rfl, rfl, t_Crowd_ok, n_Crowd, by decide +kernel⟩
theorem fo_Scene_9 : fOk "WomenByTheRoofs$Scene" 9 7 0 := ⟨R_Scene, F_Scene, 10, rfl, iw_Scene, by decide, by decide +kernel, gt_1 117 rfl rfl⟩
theorem fo_Clock_75 : fOk "WomenByTheRoofs$Clock" 75 7 0 := ⟨R_Scene, F_Scene, 10, rfl, iw_Scene, by decide, by decide +kernel, gt_1 118 rfl rfl⟩
theorem fo_Top_188 : fOk "WomenByTheRoofs" 188 7 0 := ⟨R_Scene, F_Scene, 10, rfl, iw_Scene, by decide, by decide +kernel, gt_1 119 rfl rfl⟩
theorem fo_Law_119 : fOk "WomenByTheRoofs$Law" 119 7 0 := ⟨R_Scene, F_Scene, 10, rfl, iw_Scene, by decide, by decide +kernel, gt_1 120 rfl rfl⟩
theorem fo_Scene_15 : fOk "WomenByTheRoofs$Scene" 15 7 1 := ⟨R_Scene, F_Scene, 10, rfl, iw_Scene, by decide, by decide +kernel, gt_1 121 rfl rfl⟩
theorem fo_Clock_72 : fOk "WomenByTheRoofs$Clock" 72 7 1 := ⟨R_Scene, F_Scene, 10, rfl, iw_Scene, by decide, by decide +kernel, gt_1 122 rfl rfl⟩
theorem fo_Top_191 : fOk "WomenByTheRoofs" 191 7 1 := ⟨R_Scene, F_Scene, 10, rfl, iw_Scene, by decide, by decide +kernel, gt_1 123 rfl rfl⟩
theorem fo_Law_96 : fOk "WomenByTheRoofs$Law" 96 7 1 := ⟨R_Scene, F_Scene, 10, rfl, iw_Scene, by decide, by decide +kernel, gt_1 124 rfl rfl⟩
theorem fo_Scene_18 : fOk "WomenByTheRoofs$Scene" 18 7 2 := ⟨R_Scene, F_Scene, 10, rfl, iw_Scene, by decide, by decide +kernel, gt_1 125 rfl rfl⟩
theorem fo_Clock_64 : fOk "WomenByTheRoofs$Clock" 64 7 2 := ⟨R_Scene, F_Scene, 10, rfl, iw_Scene, by decide, by decide +kernel, gt_1 126 rfl rfl⟩
theorem fo_Top_160 : fOk "WomenByTheRoofs" 160 7 2 := ⟨R_Scene, F_Scene, 10, rfl, iw_Scene, by decide, by decide +kernel, gt_1 127 rfl rfl⟩
theorem fo_Scene_21 : fOk "WomenByTheRoofs$Scene" 21 7 3 := ⟨R_Scene, F_Scene, 10, rfl, iw_Scene, by decide, by decide +kernel, gt_1 128 rfl rfl⟩
theorem fo_Scene_24 : fOk "WomenByTheRoofs$Scene" 24 7 4 := ⟨R_Scene, F_Scene, 10, rfl, iw_Scene, by decide, by decide +kernel, gt_1 129 rfl rfl⟩
theorem fo_Nets_38 : fOk "WomenByTheRoofs$Nets" 38 7 4 := ⟨R_Scene, F_Scene, 10, rfl, iw_Scene, by decide, by decide +kernel, gt_1 130 rfl rfl⟩
theorem fo_Scene_27 : fOk "WomenByTheRoofs$Scene" 27 7 5 := ⟨R_Scene, F_Scene, 10, rfl, iw_Scene, by decide, by decide +kernel, gt_1 131 rfl rfl⟩
theorem fo_Nets_41 : fOk "WomenByTheRoofs$Nets" 41 7 5 := ⟨R_Scene, F_Scene, 10, rfl, iw_Scene, by decide, by decide +kernel, gt_1 132 rfl rfl⟩
theorem fo_Scene_34 : fOk "WomenByTheRoofs$Scene" 34 7 6 := ⟨R_Scene, F_Scene, 10, rfl, iw_Scene, by decide, by decide +kernel, gt_1 133 rfl rfl⟩
theorem fp_Scene_34 : fPut "WomenByTheRoofs$Scene" 34 7 6 (.int) := ⟨R_Scene, F_Scene, 10, t_Scene, rfl, iw_Scene, by decide, by decide +kernel, gt_1 133 rfl rfl, rfl, t_Scene_ok, n_Scene, by decide +kernel⟩
theorem fo_Nets_32 : fOk "WomenByTheRoofs$Nets" 32 7 6 := ⟨R_Scene, F_Scene, 10, rfl, iw_Scene, by decide, by decide +kernel, gt_1 134 rfl rfl⟩
theorem fp_Nets_32 : fPut "WomenByTheRoofs$Nets" 32 7 6 (.int) := ⟨R_Scene, F_Scene, 10, t_Scene, rfl, iw_Scene, by decide, by decide +kernel, gt_1 134 rfl rfl, rfl, t_Scene_ok, n_Scene, by decide +kernel⟩
theorem fo_Top_224 : fOk "WomenByTheRoofs" 224 7 6 := ⟨R_Scene, F_Scene, 10, rfl, iw_Scene, by decide, by decide +kernel, gt_1 135 rfl rfl⟩
theorem fp_Top_224 : fPut "WomenByTheRoofs" 224 7 6 (.int) := ⟨R_Scene, F_Scene, 10, t_Scene, rfl, iw_Scene, by decide, by decide +kernel, gt_1 135 rfl rfl, rfl, t_Scene_ok, n_Scene, by decide +kernel⟩
theorem fo_Scene_38 : fOk "WomenByTheRoofs$Scene" 38 7 7 := ⟨R_Scene, F_Scene, 10, rfl, iw_Scene, by decide, by decide +kernel, gt_1 136 rfl rfl⟩
theorem fp_Scene_38 : fPut "WomenByTheRoofs$Scene" 38 7 7 (.int) := ⟨R_Scene, F_Scene, 10, t_Scene, rfl, iw_Scene, by decide, by decide +kernel, gt_1 136 rfl rfl, rfl, t_Scene_ok, n_Scene, by decide +kernel⟩
theorem fo_Clock_55 : fOk "WomenByTheRoofs$Clock" 55 7 7 := ⟨R_Scene, F_Scene, 10, rfl, iw_Scene, by decide, by decide +kernel, gt_1 137 rfl rfl⟩
theorem fp_Clock_55 : fPut "WomenByTheRoofs$Clock" 55 7 7 (.int) := ⟨R_Scene, F_Scene, 10, t_Scene, rfl, iw_Scene, by decide, by decide +kernel, gt_1 137 rfl rfl, rfl, t_Scene_ok, n_Scene, by decide +kernel⟩
theorem fo_Law_121 : fOk "WomenByTheRoofs$Law" 121 7 7 := ⟨R_Scene, F_Scene, 10, rfl, iw_Scene, by decide, by decide +kernel, gt_1 138 rfl rfl⟩
theorem fp_Law_121 : fPut "WomenByTheRoofs$Law" 121 7 7 (.int) := ⟨R_Scene, F_Scene, 10, t_Scene, rfl, iw_Scene, by decide, by decide +kernel, gt_1 138 rfl rfl, rfl, t_Scene_ok, n_Scene, by decide +kernel⟩
theorem fo_Top_447 : fOk "WomenByTheRoofs" 447 7 7 := ⟨R_Scene, F_Scene, 10, rfl, iw_Scene, by decide, by decide +kernel, gt_1 139 rfl rfl⟩
theorem fp_Top_447 : fPut "WomenByTheRoofs" 447 7 7 (.int) := ⟨R_Scene, F_Scene, 10, t_Scene, rfl, iw_Scene, by decide, by decide +kernel, gt_1 139 rfl rfl, rfl, t_Scene_ok, n_Scene, by decide +kernel⟩
theorem fo_Scene_41 : fOk "WomenByTheRoofs$Scene" 41 7 8 := ⟨R_Scene, F_Scene, 10, rfl, iw_Scene, by decide, by decide +kernel, gt_1 140 rfl rfl⟩
theorem fp_Scene_41 : fPut "WomenByTheRoofs$Scene" 41 7 8 (.int) := ⟨R_Scene, F_Scene, 10, t_Scene, rfl, iw_Scene, by decide, by decide +kernel, gt_1 140 rfl rfl, rfl, t_Scene_ok, n_Scene, by decide +kernel⟩
theorem fo_Clock_43 : fOk "WomenByTheRoofs$Clock" 43 7 8 := ⟨R_Scene, F_Scene, 10, rfl, iw_Scene, by decide, by decide +kernel, gt_1 141 rfl rfl⟩
theorem fp_Clock_43 : fPut "WomenByTheRoofs$Clock" 43 7 8 (.int) := ⟨R_Scene, F_Scene, 10, t_Scene, rfl, iw_Scene, by decide, by decide +kernel, gt_1 141 rfl rfl, rfl, t_Scene_ok, n_Scene, by decide +kernel⟩
theorem fo_Top_197 : fOk "WomenByTheRoofs" 197 7 8 := ⟨R_Scene, F_Scene, 10, rfl, iw_Scene, by decide, by decide +kernel, gt_1 142 rfl rfl⟩
theorem fp_Top_197 : fPut "WomenByTheRoofs" 197 7 8 (.int) := ⟨R_Scene, F_Scene, 10, t_Scene, rfl, iw_Scene, by decide, by decide +kernel, gt_1 142 rfl rfl, rfl, t_Scene_ok, n_Scene, by decide +kernel⟩
theorem fo_Law_151 : fOk "WomenByTheRoofs$Law" 151 7 8 := ⟨R_Scene, F_Scene, 10, rfl, iw_Scene, by decide, by decide +kernel, gt_1 143 rfl rfl⟩
theorem fp_Law_151 : fPut "WomenByTheRoofs$Law" 151 7 8 (.int) := ⟨R_Scene, F_Scene, 10, t_Scene, rfl, iw_Scene, by decide, by decide +kernel, gt_1 143 rfl rfl, rfl, t_Scene_ok, n_Scene, by decide +kernel⟩
theorem fo_Scene_44 : fOk "WomenByTheRoofs$Scene" 44 7 9 := ⟨R_Scene, F_Scene, 10, rfl, iw_Scene, by decide, by decide +kernel, gt_1 144 rfl rfl⟩
theorem fp_Scene_44 : fPut "WomenByTheRoofs$Scene" 44 7 9 (.int) := ⟨R_Scene, F_Scene, 10, t_Scene, rfl, iw_Scene, by decide, by decide +kernel, gt_1 144 rfl rfl, rfl, t_Scene_ok, n_Scene, by decide +kernel⟩
theorem fo_Law_91 : fOk "WomenByTheRoofs$Law" 91 7 9 := ⟨R_Scene, F_Scene, 10, rfl, iw_Scene, by decide, by decide +kernel, gt_1 145 rfl rfl⟩
theorem fp_Law_91 : fPut "WomenByTheRoofs$Law" 91 7 9 (.int) := ⟨R_Scene, F_Scene, 10, t_Scene, rfl, iw_Scene, by decide, by decide +kernel, gt_1 145 rfl rfl, rfl, t_Scene_ok, n_Scene, by decide +kernel⟩
theorem fo_Top_450 : fOk "WomenByTheRoofs" 450 7 9 := ⟨R_Scene, F_Scene, 10, rfl, iw_Scene, by decide, by decide +kernel, gt_1 146 rfl rfl⟩
theorem fp_Top_450 : fPut "WomenByTheRoofs" 450 7 9 (.int) := ⟨R_Scene, F_Scene, 10, t_Scene, rfl, iw_Scene, by decide, by decide +kernel, gt_1 146 rfl rfl, rfl, t_Scene_ok, n_Scene, by decide +kernel⟩
theorem fo_Nets_9 : fOk "WomenByTheRoofs$Nets" 9 6 0 := ⟨R_Nets, F_Nets, 3, rfl, iw_Nets, by decide, by decide +kernel, gt_1 174 rfl rfl⟩
theorem fo_Top_296 : fOk "WomenByTheRoofs" 296 6 0 := ⟨R_Nets, F_Nets, 3, rfl, iw_Nets, by decide, by decide +kernel, gt_1 175 rfl rfl⟩
theorem fo_Nets_15 : fOk "WomenByTheRoofs$Nets" 15 6 1 := ⟨R_Nets, F_Nets, 3, rfl, iw_Nets, by decide, by decide +kernel, gt_1 176 rfl rfl⟩
theorem fo_Top_178 : fOk "WomenByTheRoofs" 178 6 1 := ⟨R_Nets, F_Nets, 3, rfl, iw_Nets, by decide, by decide +kernel, gt_1 177 rfl rfl⟩
theorem fo_Nets_18 : fOk "WomenByTheRoofs$Nets" 18 6 2 := ⟨R_Nets, F_Nets, 3, rfl, iw_Nets, by decide, by decide +kernel, gt_1 178 rfl rfl⟩
theorem fo_Law_9 : fOk "WomenByTheRoofs$Law" 9 5 0 := ⟨R_Law, F_Law, 11, rfl, iw_Law, by decide, by decide +kernel, gt_1 193 rfl rfl⟩
theorem fo_Law_15 : fOk "WomenByTheRoofs$Law" 15 5 1 := ⟨R_Law, F_Law, 11, rfl, iw_Law, by decide, by decide +kernel, gt_1 194 rfl rfl⟩
theorem fo_Law_18 : fOk "WomenByTheRoofs$Law" 18 5 2 := ⟨R_Law, F_Law, 11, rfl, iw_Law, by decide, by decide +kernel, gt_1 195 rfl rfl⟩
theorem fo_Law_21 : fOk "WomenByTheRoofs$Law" 21 5 3 := ⟨R_Law, F_Law, 11, rfl, iw_Law, by decide, by decide +kernel, gt_1 196 rfl rfl⟩
theorem fo_Law_68 : fOk "WomenByTheRoofs$Law" 68 5 4 := ⟨R_Law, F_Law, 11, rfl, iw_Law, by decide, by decide +kernel, gt_1 197 rfl rfl⟩
theorem fp_Law_68 : fPut "WomenByTheRoofs$Law" 68 5 4 (.int) := ⟨R_Law, F_Law, 11, t_Law, rfl, iw_Law, by decide, by decide +kernel, gt_1 197 rfl rfl, rfl, t_Law_ok, n_Law, by decide +kernel⟩
theorem fo_Law_24 : fOk "WomenByTheRoofs$Law" 24 5 5 := ⟨R_Law, F_Law, 11, rfl, iw_Law, by decide, by decide +kernel, gt_1 198 rfl rfl⟩
theorem fp_Law_24 : fPut "WomenByTheRoofs$Law" 24 5 5 (.int) := ⟨R_Law, F_Law, 11, t_Law, rfl, iw_Law, by decide, by decide +kernel, gt_1 198 rfl rfl, rfl, t_Law_ok, n_Law, by decide +kernel⟩
theorem fo_Law_28 : fOk "WomenByTheRoofs$Law" 28 5 6 := ⟨R_Law, F_Law, 11, rfl, iw_Law, by decide, by decide +kernel, gt_1 199 rfl rfl⟩
theorem fp_Law_28 : fPut "WomenByTheRoofs$Law" 28 5 6 (.int) := ⟨R_Law, F_Law, 11, t_Law, rfl, iw_Law, by decide, by decide +kernel, gt_1 199 rfl rfl, rfl, t_Law_ok, n_Law, by decide +kernel⟩
theorem fo_Law_99 : fOk "WomenByTheRoofs$Law" 99 5 7 := ⟨R_Law, F_Law, 11, rfl, iw_Law, by decide, by decide +kernel, gt_1 200 rfl rfl⟩
theorem fp_Law_99 : fPut "WomenByTheRoofs$Law" 99 5 7 (.int) := ⟨R_Law, F_Law, 11, t_Law, rfl, iw_Law, by decide, by decide +kernel, gt_1 200 rfl rfl, rfl, t_Law_ok, n_Law, by decide +kernel⟩
theorem fo_Law_31 : fOk "WomenByTheRoofs$Law" 31 5 8 := ⟨R_Law, F_Law, 11, rfl, iw_Law, by decide, by decide +kernel, gt_1 201 rfl rfl⟩
theorem fp_Law_31 : fPut "WomenByTheRoofs$Law" 31 5 8 (.int) := ⟨R_Law, F_Law, 11, t_Law, rfl, iw_Law, by decide, by decide +kernel, gt_1 201 rfl rfl, rfl, t_Law_ok, n_Law, by decide +kernel⟩
theorem fo_Law_34 : fOk "WomenByTheRoofs$Law" 34 5 9 := ⟨R_Law, F_Law, 11, rfl, iw_Law, by decide, by decide +kernel, gt_1 202 rfl rfl⟩
theorem fp_Law_34 : fPut "WomenByTheRoofs$Law" 34 5 9 (.int) := ⟨R_Law, F_Law, 11, t_Law, rfl, iw_Law, by decide, by decide +kernel, gt_1 202 rfl rfl, rfl, t_Law_ok, n_Law, by decide +kernel⟩
theorem fo_Law_37 : fOk "WomenByTheRoofs$Law" 37 5 10 := ⟨R_Law, F_Law, 11, rfl, iw_Law, by decide, by decide +kernel, gt_1 203 rfl rfl⟩
theorem fp_Law_37 : fPut "WomenByTheRoofs$Law" 37 5 10 (.boolean) := ⟨R_Law, F_Law, 11, t_Law, rfl, iw_Law, by decide, by decide +kernel, gt_1 203 rfl rfl, rfl, t_Law_ok, n_Law, by decide +kernel⟩
theorem fo_Clock_18 : fOk "WomenByTheRoofs$Clock" 18 1 0 := ⟨R_Clock, F_Clock, 5, rfl, iw_Clock, by decide, by decide +kernel, gt_1 233 rfl rfl⟩
theorem fp_Clock_18 : fPut "WomenByTheRoofs$Clock" 18 1 0 (.int) := ⟨R_Clock, F_Clock, 5, t_Clock, rfl, iw_Clock, by decide, by decide +kernel, gt_1 233 rfl rfl, rfl, t_Clock_ok, n_Clock, by decide +kernel⟩
theorem fo_Top_254 : fOk "WomenByTheRoofs" 254 1 0 := ⟨R_Clock, F_Clock, 5, rfl, iw_Clock, by decide, by decide +kernel, gt_1 234 rfl rfl⟩
theorem fp_Top_254 : fPut "WomenByTheRoofs" 254 1 0 (.int) := ⟨R_Clock, F_Clock, 5, t_Clock, rfl, iw_Clock, by decide, by decide +kernel, gt_1 234 rfl rfl, rfl, t_Clock_ok, n_Clock, by decide +kernel⟩
theorem fo_Clock_52 : fOk "WomenByTheRoofs$Clock" 52 1 1 := ⟨R_Clock, F_Clock, 5, rfl, iw_Clock, by decide, by decide +kernel, gt_1 235 rfl rfl⟩
theorem fp_Clock_52 : fPut "WomenByTheRoofs$Clock" 52 1 1 (.int) := ⟨R_Clock, F_Clock, 5, t_Clock, rfl, iw_Clock, by decide, by decide +kernel, gt_1 235 rfl rfl, rfl, t_Clock_ok, n_Clock, by decide +kernel⟩
theorem fo_Top_260 : fOk "WomenByTheRoofs" 260 1 1 := ⟨R_Clock, F_Clock, 5, rfl, iw_Clock, by decide, by decide +kernel, gt_1 236 rfl rfl⟩
theorem fp_Top_260 : fPut "WomenByTheRoofs" 260 1 1 (.int) := ⟨R_Clock, F_Clock, 5, t_Clock, rfl, iw_Clock, by decide, by decide +kernel, gt_1 236 rfl rfl, rfl, t_Clock_ok, n_Clock, by decide +kernel⟩
theorem fo_Clock_36 : fOk "WomenByTheRoofs$Clock" 36 1 2 := ⟨R_Clock, F_Clock, 5, rfl, iw_Clock, by decide, by decide +kernel, gt_1 237 rfl rfl⟩
theorem fp_Clock_36 : fPut "WomenByTheRoofs$Clock" 36 1 2 (.int) := ⟨R_Clock, F_Clock, 5, t_Clock, rfl, iw_Clock, by decide, by decide +kernel, gt_1 237 rfl rfl, rfl, t_Clock_ok, n_Clock, by decide +kernel⟩
theorem fo_Top_263 : fOk "WomenByTheRoofs" 263 1 2 := ⟨R_Clock, F_Clock, 5, rfl, iw_Clock, by decide, by decide +kernel, gt_1 238 rfl rfl⟩
theorem fp_Top_263 : fPut "WomenByTheRoofs" 263 1 2 (.int) := ⟨R_Clock, F_Clock, 5, t_Clock, rfl, iw_Clock, by decide, by decide +kernel, gt_1 238 rfl rfl, rfl, t_Clock_ok, n_Clock, by decide +kernel⟩
theorem fo_Clock_9 : fOk "WomenByTheRoofs$Clock" 9 1 3 := ⟨R_Clock, F_Clock, 5, rfl, iw_Clock, by decide, by decide +kernel, gt_1 239 rfl rfl⟩
theorem fp_Clock_9 : fPut "WomenByTheRoofs$Clock" 9 1 3 (.int) := ⟨R_Clock, F_Clock, 5, t_Clock, rfl, iw_Clock, by decide, by decide +kernel, gt_1 239 rfl rfl, rfl, t_Clock_ok, n_Clock, by decide +kernel⟩
theorem fo_Top_269 : fOk "WomenByTheRoofs" 269 1 3 := ⟨R_Clock, F_Clock, 5, rfl, iw_Clock, by decide, by decide +kernel, gt_2 0 rfl rfl⟩
theorem fp_Top_269 : fPut "WomenByTheRoofs" 269 1 3 (.int) := ⟨R_Clock, F_Clock, 5, t_Clock, rfl, iw_Clock, by decide, by decide +kernel, gt_2 0 rfl rfl, rfl, t_Clock_ok, n_Clock, by decide +kernel⟩
theorem fo_Clock_15 : fOk "WomenByTheRoofs$Clock" 15 1 4 := ⟨R_Clock, F_Clock, 5, rfl, iw_Clock, by decide, by decide +kernel, gt_2 1 rfl rfl⟩
theorem fp_Clock_15 : fPut "WomenByTheRoofs$Clock" 15 1 4 (.int) := ⟨R_Clock, F_Clock, 5, t_Clock, rfl, iw_Clock, by decide, by decide +kernel, gt_2 1 rfl rfl, rfl, t_Clock_ok, n_Clock, by decide +kernel⟩
theorem fo_Top_272 : fOk "WomenByTheRoofs" 272 1 4 := ⟨R_Clock, F_Clock, 5, rfl, iw_Clock, by decide, by decide +kernel, gt_2 2 rfl rfl⟩
theorem fp_Top_272 : fPut "WomenByTheRoofs" 272 1 4 (.int) := ⟨R_Clock, F_Clock, 5, t_Clock, rfl, iw_Clock, by decide, by decide +kernel, gt_2 2 rfl rfl, rfl, t_Clock_ok, n_Clock, by decide +kernel⟩
theorem fo_History_11 : fOk "WomenByTheRoofs$History" 11 4 0 := ⟨R_History, F_History, 4, rfl, iw_History, by decide, by decide +kernel, gt_2 23 rfl rfl⟩
theorem fo_History_15 : fOk "WomenByTheRoofs$History" 15 4 1 := ⟨R_History, F_History, 4, rfl, iw_History, by decide, by decide +kernel, gt_2 24 rfl rfl⟩
theorem fo_History_25 : fOk "WomenByTheRoofs$History" 25 4 2 := ⟨R_History, F_History, 4, rfl, iw_History, by decide, by decide +kernel, gt_2 25 rfl rfl⟩
theorem fp_History_25 : fPut "WomenByTheRoofs$History" 25 4 2 (.int) := ⟨R_History, F_History, 4, t_History, rfl, iw_History, by decide, by decide +kernel, gt_2 25 rfl rfl, rfl, t_History_ok, n_History, by decide +kernel⟩
theorem fo_Top_283 : fOk "WomenByTheRoofs" 283 4 2 := ⟨R_History, F_History, 4, rfl, iw_History, by decide, by decide +kernel, gt_2 26 rfl rfl⟩
theorem fp_Top_283 : fPut "WomenByTheRoofs" 283 4 2 (.int) := ⟨R_History, F_History, 4, t_History, rfl, iw_History, by decide, by decide +kernel, gt_2 26 rfl rfl, rfl, t_History_ok, n_History, by decide +kernel⟩
theorem fo_History_29 : fOk "WomenByTheRoofs$History" 29 4 3 := ⟨R_History, F_History, 4, rfl, iw_History, by decide, by decide +kernel, gt_2 27 rfl rfl⟩
theorem fp_History_29 : fPut "WomenByTheRoofs$History" 29 4 3 (.int) := ⟨R_History, F_History, 4, t_History, rfl, iw_History, by decide, by decide +kernel, gt_2 27 rfl rfl, rfl, t_History_ok, n_History, by decide +kernel⟩
theorem fo_Acts_11 : fOk "WomenByTheRoofs$Acts" 11 0 0 := ⟨R_Acts, F_Acts, 4, rfl, iw_Acts, by decide, by decide +kernel, gt_2 43 rfl rfl⟩
theorem fo_Top_473 : fOk "WomenByTheRoofs" 473 0 0 := ⟨R_Acts, F_Acts, 4, rfl, iw_Acts, by decide, by decide +kernel, gt_2 44 rfl rfl⟩
theorem fo_Acts_15 : fOk "WomenByTheRoofs$Acts" 15 0 1 := ⟨R_Acts, F_Acts, 4, rfl, iw_Acts, by decide, by decide +kernel, gt_2 45 rfl rfl⟩
theorem fo_Top_476 : fOk "WomenByTheRoofs" 476 0 1 := ⟨R_Acts, F_Acts, 4, rfl, iw_Acts, by decide, by decide +kernel, gt_2 46 rfl rfl⟩
theorem fo_Acts_18 : fOk "WomenByTheRoofs$Acts" 18 0 2 := ⟨R_Acts, F_Acts, 4, rfl, iw_Acts, by decide, by decide +kernel, gt_2 47 rfl rfl⟩
theorem fo_Top_482 : fOk "WomenByTheRoofs" 482 0 2 := ⟨R_Acts, F_Acts, 4, rfl, iw_Acts, by decide, by decide +kernel, gt_2 48 rfl rfl⟩
theorem fo_Acts_21 : fOk "WomenByTheRoofs$Acts" 21 0 3 := ⟨R_Acts, F_Acts, 4, rfl, iw_Acts, by decide, by decide +kernel, gt_2 49 rfl rfl⟩
theorem fp_Acts_21 : fPut "WomenByTheRoofs$Acts" 21 0 3 (.int) := ⟨R_Acts, F_Acts, 4, t_Acts, rfl, iw_Acts, by decide, by decide +kernel, gt_2 49 rfl rfl, rfl, t_Acts_ok, n_Acts, by decide +kernel⟩
theorem fo_Thief_9 : fOk "WomenByTheRoofs$Thief" 9 9 0 := ⟨R_Thief, F_Thief, 4, rfl, iw_Thief, by decide, by decide +kernel, gt_2 65 rfl rfl⟩
theorem fo_Thief_15 : fOk "WomenByTheRoofs$Thief" 15 9 1 := ⟨R_Thief, F_Thief, 4, rfl, iw_Thief, by decide, by decide +kernel, gt_2 66 rfl rfl⟩
theorem fo_Thief_18 : fOk "WomenByTheRoofs$Thief" 18 9 2 := ⟨R_Thief, F_Thief, 4, rfl, iw_Thief, by decide, by decide +kernel, gt_2 67 rfl rfl⟩
theorem fp_Thief_18 : fPut "WomenByTheRoofs$Thief" 18 9 2 (.long) := ⟨R_Thief, F_Thief, 4, t_Thief, rfl, iw_Thief, by decide, by decide +kernel, gt_2 67 rfl rfl, rfl, t_Thief_ok, n_Thief, by decide +kernel⟩
theorem fo_Top_408 : fOk "WomenByTheRoofs" 408 9 2 := ⟨R_Thief, F_Thief, 4, rfl, iw_Thief, by decide, by decide +kernel, gt_2 68 rfl rfl⟩
theorem fp_Top_408 : fPut "WomenByTheRoofs" 408 9 2 (.long) := ⟨R_Thief, F_Thief, 4, t_Thief, rfl, iw_Thief, by decide, by decide +kernel, gt_2 68 rfl rfl, rfl, t_Thief_ok, n_Thief, by decide +kernel⟩
theorem fo_Thief_22 : fOk "WomenByTheRoofs$Thief" 22 9 3 := ⟨R_Thief, F_Thief, 4, rfl, iw_Thief, by decide, by decide +kernel, gt_2 69 rfl rfl⟩
theorem fp_Thief_22 : fPut "WomenByTheRoofs$Thief" 22 9 3 (.long) := ⟨R_Thief, F_Thief, 4, t_Thief, rfl, iw_Thief, by decide, by decide +kernel, gt_2 69 rfl rfl, rfl, t_Thief_ok, n_Thief, by decide +kernel⟩
theorem fo_Top_412 : fOk "WomenByTheRoofs" 412 9 3 := ⟨R_Thief, F_Thief, 4, rfl, iw_Thief, by decide, by decide +kernel, gt_2 70 rfl rfl⟩
theorem fp_Top_412 : fPut "WomenByTheRoofs" 412 9 3 (.long) := ⟨R_Thief, F_Thief, 4, t_Thief, rfl, iw_Thief, by decide, by decide +kernel, gt_2 70 rfl rfl, rfl, t_Thief_ok, n_Thief, by decide +kernel⟩
theorem fo_Ways_9 : fOk "WomenByTheRoofs$Ways" 9 10 0 := ⟨R_Ways, F_Ways, 6, rfl, iw_Ways, by decide, by decide +kernel, gt_2 86 rfl rfl⟩
theorem fo_Top_312 : fOk "WomenByTheRoofs" 312 10 0 := ⟨R_Ways, F_Ways, 6, rfl, iw_Ways, by decide, by decide +kernel, gt_2 87 rfl rfl⟩
theorem fo_Ways_15 : fOk "WomenByTheRoofs$Ways" 15 10 1 := ⟨R_Ways, F_Ways, 6, rfl, iw_Ways, by decide, by decide +kernel, gt_2 88 rfl rfl⟩
theorem fo_Top_331 : fOk "WomenByTheRoofs" 331 10 1 := ⟨R_Ways, F_Ways, 6, rfl, iw_Ways, by decide, by decide +kernel, gt_2 89 rfl rfl⟩
theorem fo_Ways_18 : fOk "WomenByTheRoofs$Ways" 18 10 2 := ⟨R_Ways, F_Ways, 6, rfl, iw_Ways, by decide, by decide +kernel, gt_2 90 rfl rfl⟩
theorem fo_Top_485 : fOk "WomenByTheRoofs" 485 10 2 := ⟨R_Ways, F_Ways, 6, rfl, iw_Ways, by decide, by decide +kernel, gt_2 91 rfl rfl⟩
theorem fo_Ways_21 : fOk "WomenByTheRoofs$Ways" 21 10 3 := ⟨R_Ways, F_Ways, 6, rfl, iw_Ways, by decide, by decide +kernel, gt_2 92 rfl rfl⟩
theorem fo_Ways_24 : fOk "WomenByTheRoofs$Ways" 24 10 4 := ⟨R_Ways, F_Ways, 6, rfl, iw_Ways, by decide, by decide +kernel, gt_2 93 rfl rfl⟩
theorem fo_Top_390 : fOk "WomenByTheRoofs" 390 10 4 := ⟨R_Ways, F_Ways, 6, rfl, iw_Ways, by decide, by decide +kernel, gt_2 94 rfl rfl⟩
theorem fo_Ways_27 : fOk "WomenByTheRoofs$Ways" 27 10 5 := ⟨R_Ways, F_Ways, 6, rfl, iw_Ways, by decide, by decide +kernel, gt_2 95 rfl rfl⟩
theorem fo_Top_10 : fOk "WomenByTheRoofs" 10 11 0 := ⟨R_Top, F_Top, 17, rfl, iw_Top, by decide, by decide +kernel, gt_2 109 rfl rfl⟩
theorem fo_Top_19 : fOk "WomenByTheRoofs" 19 11 1 := ⟨R_Top, F_Top, 17, rfl, iw_Top, by decide, by decide +kernel, gt_2 110 rfl rfl⟩
theorem fo_Top_26 : fOk "WomenByTheRoofs" 26 11 2 := ⟨R_Top, F_Top, 17, rfl, iw_Top, by decide, by decide +kernel, gt_2 111 rfl rfl⟩
theorem fo_Top_33 : fOk "WomenByTheRoofs" 33 11 3 := ⟨R_Top, F_Top, 17, rfl, iw_Top, by decide, by decide +kernel, gt_2 112 rfl rfl⟩
theorem fo_Top_37 : fOk "WomenByTheRoofs" 37 11 4 := ⟨R_Top, F_Top, 17, rfl, iw_Top, by decide, by decide +kernel, gt_2 113 rfl rfl⟩
theorem fo_Top_40 : fOk "WomenByTheRoofs" 40 11 5 := ⟨R_Top, F_Top, 17, rfl, iw_Top, by decide, by decide +kernel, gt_2 114 rfl rfl⟩
theorem fo_Top_46 : fOk "WomenByTheRoofs" 46 11 6 := ⟨R_Top, F_Top, 17, rfl, iw_Top, by decide, by decide +kernel, gt_2 115 rfl rfl⟩
theorem fo_Top_50 : fOk "WomenByTheRoofs" 50 11 7 := ⟨R_Top, F_Top, 17, rfl, iw_Top, by decide, by decide +kernel, gt_2 116 rfl rfl⟩
theorem fo_Top_56 : fOk "WomenByTheRoofs" 56 11 8 := ⟨R_Top, F_Top, 17, rfl, iw_Top, by decide, by decide +kernel, gt_2 117 rfl rfl⟩
theorem fo_Top_63 : fOk "WomenByTheRoofs" 63 11 9 := ⟨R_Top, F_Top, 17, rfl, iw_Top, by decide, by decide +kernel, gt_2 118 rfl rfl⟩
theorem fo_Top_70 : fOk "WomenByTheRoofs" 70 11 10 := ⟨R_Top, F_Top, 17, rfl, iw_Top, by decide, by decide +kernel, gt_2 119 rfl rfl⟩
theorem fo_Top_77 : fOk "WomenByTheRoofs" 77 11 11 := ⟨R_Top, F_Top, 17, rfl, iw_Top, by decide, by decide +kernel, gt_2 120 rfl rfl⟩
theorem fo_Top_84 : fOk "WomenByTheRoofs" 84 11 12 := ⟨R_Top, F_Top, 17, rfl, iw_Top, by decide, by decide +kernel, gt_2 121 rfl rfl⟩
theorem fo_Top_91 : fOk "WomenByTheRoofs" 91 11 13 := ⟨R_Top, F_Top, 17, rfl, iw_Top, by decide, by decide +kernel, gt_2 122 rfl rfl⟩
theorem fo_Top_95 : fOk "WomenByTheRoofs" 95 11 14 := ⟨R_Top, F_Top, 17, rfl, iw_Top, by decide, by decide +kernel, gt_2 123 rfl rfl⟩
theorem fo_Top_99 : fOk "WomenByTheRoofs" 99 11 15 := ⟨R_Top, F_Top, 17, rfl, iw_Top, by decide, by decide +kernel, gt_2 124 rfl rfl⟩
theorem fp_Top_99 : fPut "WomenByTheRoofs" 99 11 15 (.int) := ⟨R_Top, F_Top, 17, t_Top, rfl, iw_Top, by decide, by decide +kernel, gt_2 124 rfl rfl, rfl, t_Top_ok, n_Top, by decide +kernel⟩
theorem fo_Top_103 : fOk "WomenByTheRoofs" 103 11 16 := ⟨R_Top, F_Top, 17, rfl, iw_Top, by decide, by decide +kernel, gt_2 125 rfl rfl⟩
theorem fp_Top_103 : fPut "WomenByTheRoofs" 103 11 16 (.int) := ⟨R_Top, F_Top, 17, t_Top, rfl, iw_Top, by decide, by decide +kernel, gt_2 125 rfl rfl, rfl, t_Top_ok, n_Top, by decide +kernel⟩
theorem fo_Mod_9 : fOk "WomenByTheRoofsModel" 9 12 0 := ⟨R_Mod, F_Mod, 52, rfl, iw_Mod, by decide, by decide +kernel, gt_6 39 rfl rfl⟩
theorem fo_Mod_13 : fOk "WomenByTheRoofsModel" 13 12 1 := ⟨R_Mod, F_Mod, 52, rfl, iw_Mod, by decide, by decide +kernel, gt_6 40 rfl rfl⟩
theorem fo_Mod_16 : fOk "WomenByTheRoofsModel" 16 12 2 := ⟨R_Mod, F_Mod, 52, rfl, iw_Mod, by decide, by decide +kernel, gt_6 41 rfl rfl⟩
theorem fp_Mod_16 : fPut "WomenByTheRoofsModel" 16 12 2 (.int) := ⟨R_Mod, F_Mod, 52, t_Mod, rfl, iw_Mod, by decide, by decide +kernel, gt_6 41 rfl rfl, rfl, t_Mod_ok, n_Mod, by decide +kernel⟩
theorem fo_Mod_20 : fOk "WomenByTheRoofsModel" 20 12 3 := ⟨R_Mod, F_Mod, 52, rfl, iw_Mod, by decide, by decide +kernel, gt_6 42 rfl rfl⟩
theorem fp_Mod_20 : fPut "WomenByTheRoofsModel" 20 12 3 (.int) := ⟨R_Mod, F_Mod, 52, t_Mod, rfl, iw_Mod, by decide, by decide +kernel, gt_6 42 rfl rfl, rfl, t_Mod_ok, n_Mod, by decide +kernel⟩
theorem fo_Mod_123 : fOk "WomenByTheRoofsModel" 123 12 4 := ⟨R_Mod, F_Mod, 52, rfl, iw_Mod, by decide, by decide +kernel, gt_6 43 rfl rfl⟩
theorem fp_Mod_123 : fPut "WomenByTheRoofsModel" 123 12 4 (.int) := ⟨R_Mod, F_Mod, 52, t_Mod, rfl, iw_Mod, by decide, by decide +kernel, gt_6 43 rfl rfl, rfl, t_Mod_ok, n_Mod, by decide +kernel⟩
theorem fo_Mod_130 : fOk "WomenByTheRoofsModel" 130 12 5 := ⟨R_Mod, F_Mod, 52, rfl, iw_Mod, by decide, by decide +kernel, gt_6 44 rfl rfl⟩
theorem fp_Mod_130 : fPut "WomenByTheRoofsModel" 130 12 5 (.int) := ⟨R_Mod, F_Mod, 52, t_Mod, rfl, iw_Mod, by decide, by decide +kernel, gt_6 44 rfl rfl, rfl, t_Mod_ok, n_Mod, by decide +kernel⟩
theorem fo_Mod_23 : fOk "WomenByTheRoofsModel" 23 12 6 := ⟨R_Mod, F_Mod, 52, rfl, iw_Mod, by decide, by decide +kernel, gt_6 45 rfl rfl⟩
theorem fo_Mod_26 : fOk "WomenByTheRoofsModel" 26 12 7 := ⟨R_Mod, F_Mod, 52, rfl, iw_Mod, by decide, by decide +kernel, gt_6 46 rfl rfl⟩
theorem fo_Mod_29 : fOk "WomenByTheRoofsModel" 29 12 8 := ⟨R_Mod, F_Mod, 52, rfl, iw_Mod, by decide, by decide +kernel, gt_6 47 rfl rfl⟩
theorem fp_Mod_29 : fPut "WomenByTheRoofsModel" 29 12 8 (.int) := ⟨R_Mod, F_Mod, 52, t_Mod, rfl, iw_Mod, by decide, by decide +kernel, gt_6 47 rfl rfl, rfl, t_Mod_ok, n_Mod, by decide +kernel⟩
theorem fo_Mod_32 : fOk "WomenByTheRoofsModel" 32 12 9 := ⟨R_Mod, F_Mod, 52, rfl, iw_Mod, by decide, by decide +kernel, gt_6 48 rfl rfl⟩
theorem fo_Mod_161 : fOk "WomenByTheRoofsModel" 161 12 10 := ⟨R_Mod, F_Mod, 52, rfl, iw_Mod, by decide, by decide +kernel, gt_6 49 rfl rfl⟩
theorem fp_Mod_161 : fPut "WomenByTheRoofsModel" 161 12 10 (.int) := ⟨R_Mod, F_Mod, 52, t_Mod, rfl, iw_Mod, by decide, by decide +kernel, gt_6 49 rfl rfl, rfl, t_Mod_ok, n_Mod, by decide +kernel⟩
theorem fo_Mod_36 : fOk "WomenByTheRoofsModel" 36 12 11 := ⟨R_Mod, F_Mod, 52, rfl, iw_Mod, by decide, by decide +kernel, gt_6 50 rfl rfl⟩
theorem fo_Mod_112 : fOk "WomenByTheRoofsModel" 112 12 12 := ⟨R_Mod, F_Mod, 52, rfl, iw_Mod, by decide, by decide +kernel, gt_6 51 rfl rfl⟩
theorem fp_Mod_112 : fPut "WomenByTheRoofsModel" 112 12 12 (.int) := ⟨R_Mod, F_Mod, 52, t_Mod, rfl, iw_Mod, by decide, by decide +kernel, gt_6 51 rfl rfl, rfl, t_Mod_ok, n_Mod, by decide +kernel⟩
theorem fo_Mod_109 : fOk "WomenByTheRoofsModel" 109 12 13 := ⟨R_Mod, F_Mod, 52, rfl, iw_Mod, by decide, by decide +kernel, gt_6 52 rfl rfl⟩
theorem fp_Mod_109 : fPut "WomenByTheRoofsModel" 109 12 13 (.int) := ⟨R_Mod, F_Mod, 52, t_Mod, rfl, iw_Mod, by decide, by decide +kernel, gt_6 52 rfl rfl, rfl, t_Mod_ok, n_Mod, by decide +kernel⟩
theorem fo_Mod_164 : fOk "WomenByTheRoofsModel" 164 12 14 := ⟨R_Mod, F_Mod, 52, rfl, iw_Mod, by decide, by decide +kernel, gt_6 53 rfl rfl⟩
theorem fp_Mod_164 : fPut "WomenByTheRoofsModel" 164 12 14 (.array .byte) := ⟨R_Mod, F_Mod, 52, t_Mod, rfl, iw_Mod, by decide, by decide +kernel, gt_6 53 rfl rfl, rfl, t_Mod_ok, n_Mod, by decide +kernel⟩
theorem fo_Mod_167 : fOk "WomenByTheRoofsModel" 167 12 15 := ⟨R_Mod, F_Mod, 52, rfl, iw_Mod, by decide, by decide +kernel, gt_6 54 rfl rfl⟩
theorem fp_Mod_167 : fPut "WomenByTheRoofsModel" 167 12 15 (.int) := ⟨R_Mod, F_Mod, 52, t_Mod, rfl, iw_Mod, by decide, by decide +kernel, gt_6 54 rfl rfl, rfl, t_Mod_ok, n_Mod, by decide +kernel⟩
theorem fo_Mod_170 : fOk "WomenByTheRoofsModel" 170 12 16 := ⟨R_Mod, F_Mod, 52, rfl, iw_Mod, by decide, by decide +kernel, gt_6 55 rfl rfl⟩
theorem fp_Mod_170 : fPut "WomenByTheRoofsModel" 170 12 16 (.int) := ⟨R_Mod, F_Mod, 52, t_Mod, rfl, iw_Mod, by decide, by decide +kernel, gt_6 55 rfl rfl, rfl, t_Mod_ok, n_Mod, by decide +kernel⟩
theorem fo_Mod_173 : fOk "WomenByTheRoofsModel" 173 12 17 := ⟨R_Mod, F_Mod, 52, rfl, iw_Mod, by decide, by decide +kernel, gt_6 56 rfl rfl⟩
theorem fp_Mod_173 : fPut "WomenByTheRoofsModel" 173 12 17 (.int) := ⟨R_Mod, F_Mod, 52, t_Mod, rfl, iw_Mod, by decide, by decide +kernel, gt_6 56 rfl rfl, rfl, t_Mod_ok, n_Mod, by decide +kernel⟩
theorem fo_Mod_176 : fOk "WomenByTheRoofsModel" 176 12 18 := ⟨R_Mod, F_Mod, 52, rfl, iw_Mod, by decide, by decide +kernel, gt_6 57 rfl rfl⟩
theorem fp_Mod_176 : fPut "WomenByTheRoofsModel" 176 12 18 (.int) := ⟨R_Mod, F_Mod, 52, t_Mod, rfl, iw_Mod, by decide, by decide +kernel, gt_6 57 rfl rfl, rfl, t_Mod_ok, n_Mod, by decide +kernel⟩
theorem fo_Mod_39 : fOk "WomenByTheRoofsModel" 39 12 19 := ⟨R_Mod, F_Mod, 52, rfl, iw_Mod, by decide, by decide +kernel, gt_6 58 rfl rfl⟩
theorem fo_Mod_42 : fOk "WomenByTheRoofsModel" 42 12 20 := ⟨R_Mod, F_Mod, 52, rfl, iw_Mod, by decide, by decide +kernel, gt_6 59 rfl rfl⟩
theorem fo_Mod_45 : fOk "WomenByTheRoofsModel" 45 12 21 := ⟨R_Mod, F_Mod, 52, rfl, iw_Mod, by decide, by decide +kernel, gt_6 60 rfl rfl⟩
theorem fo_Mod_48 : fOk "WomenByTheRoofsModel" 48 12 22 := ⟨R_Mod, F_Mod, 52, rfl, iw_Mod, by decide, by decide +kernel, gt_6 61 rfl rfl⟩
theorem fo_Mod_249 : fOk "WomenByTheRoofsModel" 249 12 23 := ⟨R_Mod, F_Mod, 52, rfl, iw_Mod, by decide, by decide +kernel, gt_6 62 rfl rfl⟩
theorem fp_Mod_249 : fPut "WomenByTheRoofsModel" 249 12 23 (.int) := ⟨R_Mod, F_Mod, 52, t_Mod, rfl, iw_Mod, by decide, by decide +kernel, gt_6 62 rfl rfl, rfl, t_Mod_ok, n_Mod, by decide +kernel⟩
theorem fo_Mod_239 : fOk "WomenByTheRoofsModel" 239 12 24 := ⟨R_Mod, F_Mod, 52, rfl, iw_Mod, by decide, by decide +kernel, gt_6 63 rfl rfl⟩
theorem fp_Mod_239 : fPut "WomenByTheRoofsModel" 239 12 24 (.array .int) := ⟨R_Mod, F_Mod, 52, t_Mod, rfl, iw_Mod, by decide, by decide +kernel, gt_6 63 rfl rfl, rfl, t_Mod_ok, n_Mod, by decide +kernel⟩
theorem fo_Mod_242 : fOk "WomenByTheRoofsModel" 242 12 25 := ⟨R_Mod, F_Mod, 52, rfl, iw_Mod, by decide, by decide +kernel, gt_6 64 rfl rfl⟩
theorem fp_Mod_242 : fPut "WomenByTheRoofsModel" 242 12 25 (.int) := ⟨R_Mod, F_Mod, 52, t_Mod, rfl, iw_Mod, by decide, by decide +kernel, gt_6 64 rfl rfl, rfl, t_Mod_ok, n_Mod, by decide +kernel⟩
theorem fo_Mod_51 : fOk "WomenByTheRoofsModel" 51 12 26 := ⟨R_Mod, F_Mod, 52, rfl, iw_Mod, by decide, by decide +kernel, gt_6 65 rfl rfl⟩
theorem fo_Mod_201 : fOk "WomenByTheRoofsModel" 201 12 27 := ⟨R_Mod, F_Mod, 52, rfl, iw_Mod, by decide, by decide +kernel, gt_6 66 rfl rfl⟩
theorem fp_Mod_201 : fPut "WomenByTheRoofsModel" 201 12 27 (.int) := ⟨R_Mod, F_Mod, 52, t_Mod, rfl, iw_Mod, by decide, by decide +kernel, gt_6 66 rfl rfl, rfl, t_Mod_ok, n_Mod, by decide +kernel⟩
theorem fo_Mod_54 : fOk "WomenByTheRoofsModel" 54 12 28 := ⟨R_Mod, F_Mod, 52, rfl, iw_Mod, by decide, by decide +kernel, gt_6 67 rfl rfl⟩
theorem fo_Mod_324 : fOk "WomenByTheRoofsModel" 324 12 29 := ⟨R_Mod, F_Mod, 52, rfl, iw_Mod, by decide, by decide +kernel, gt_6 68 rfl rfl⟩
theorem fp_Mod_324 : fPut "WomenByTheRoofsModel" 324 12 29 (.int) := ⟨R_Mod, F_Mod, 52, t_Mod, rfl, iw_Mod, by decide, by decide +kernel, gt_6 68 rfl rfl, rfl, t_Mod_ok, n_Mod, by decide +kernel⟩
theorem fo_Mod_336 : fOk "WomenByTheRoofsModel" 336 12 30 := ⟨R_Mod, F_Mod, 52, rfl, iw_Mod, by decide, by decide +kernel, gt_6 69 rfl rfl⟩
theorem fp_Mod_336 : fPut "WomenByTheRoofsModel" 336 12 30 (.int) := ⟨R_Mod, F_Mod, 52, t_Mod, rfl, iw_Mod, by decide, by decide +kernel, gt_6 69 rfl rfl, rfl, t_Mod_ok, n_Mod, by decide +kernel⟩
theorem fo_Mod_327 : fOk "WomenByTheRoofsModel" 327 12 31 := ⟨R_Mod, F_Mod, 52, rfl, iw_Mod, by decide, by decide +kernel, gt_6 70 rfl rfl⟩
theorem fp_Mod_327 : fPut "WomenByTheRoofsModel" 327 12 31 (.int) := ⟨R_Mod, F_Mod, 52, t_Mod, rfl, iw_Mod, by decide, by decide +kernel, gt_6 70 rfl rfl, rfl, t_Mod_ok, n_Mod, by decide +kernel⟩
theorem fo_Mod_57 : fOk "WomenByTheRoofsModel" 57 12 32 := ⟨R_Mod, F_Mod, 52, rfl, iw_Mod, by decide, by decide +kernel, gt_6 71 rfl rfl⟩
theorem fo_Mod_348 : fOk "WomenByTheRoofsModel" 348 12 33 := ⟨R_Mod, F_Mod, 52, rfl, iw_Mod, by decide, by decide +kernel, gt_6 72 rfl rfl⟩
theorem fp_Mod_348 : fPut "WomenByTheRoofsModel" 348 12 33 (.int) := ⟨R_Mod, F_Mod, 52, t_Mod, rfl, iw_Mod, by decide, by decide +kernel, gt_6 72 rfl rfl, rfl, t_Mod_ok, n_Mod, by decide +kernel⟩
theorem fo_Mod_60 : fOk "WomenByTheRoofsModel" 60 12 34 := ⟨R_Mod, F_Mod, 52, rfl, iw_Mod, by decide, by decide +kernel, gt_6 73 rfl rfl⟩
theorem fo_Mod_63 : fOk "WomenByTheRoofsModel" 63 12 35 := ⟨R_Mod, F_Mod, 52, rfl, iw_Mod, by decide, by decide +kernel, gt_6 74 rfl rfl⟩
theorem fo_Mod_66 : fOk "WomenByTheRoofsModel" 66 12 36 := ⟨R_Mod, F_Mod, 52, rfl, iw_Mod, by decide, by decide +kernel, gt_6 75 rfl rfl⟩
theorem fo_Mod_69 : fOk "WomenByTheRoofsModel" 69 12 37 := ⟨R_Mod, F_Mod, 52, rfl, iw_Mod, by decide, by decide +kernel, gt_6 76 rfl rfl⟩
theorem fo_Mod_73 : fOk "WomenByTheRoofsModel" 73 12 38 := ⟨R_Mod, F_Mod, 52, rfl, iw_Mod, by decide, by decide +kernel, gt_6 77 rfl rfl⟩
theorem fo_Mod_76 : fOk "WomenByTheRoofsModel" 76 12 39 := ⟨R_Mod, F_Mod, 52, rfl, iw_Mod, by decide, by decide +kernel, gt_6 78 rfl rfl⟩
theorem fo_Mod_79 : fOk "WomenByTheRoofsModel" 79 12 40 := ⟨R_Mod, F_Mod, 52, rfl, iw_Mod, by decide, by decide +kernel, gt_6 79 rfl rfl⟩
theorem fo_Mod_82 : fOk "WomenByTheRoofsModel" 82 12 41 := ⟨R_Mod, F_Mod, 52, rfl, iw_Mod, by decide, by decide +kernel, gt_6 80 rfl rfl⟩
theorem fo_Mod_384 : fOk "WomenByTheRoofsModel" 384 12 42 := ⟨R_Mod, F_Mod, 52, rfl, iw_Mod, by decide, by decide +kernel, gt_6 81 rfl rfl⟩
theorem fp_Mod_384 : fPut "WomenByTheRoofsModel" 384 12 42 (.int) := ⟨R_Mod, F_Mod, 52, t_Mod, rfl, iw_Mod, by decide, by decide +kernel, gt_6 81 rfl rfl, rfl, t_Mod_ok, n_Mod, by decide +kernel⟩
theorem fo_Mod_85 : fOk "WomenByTheRoofsModel" 85 12 43 := ⟨R_Mod, F_Mod, 52, rfl, iw_Mod, by decide, by decide +kernel, gt_6 82 rfl rfl⟩
theorem fo_Mod_88 : fOk "WomenByTheRoofsModel" 88 12 44 := ⟨R_Mod, F_Mod, 52, rfl, iw_Mod, by decide, by decide +kernel, gt_6 83 rfl rfl⟩
theorem fo_Mod_91 : fOk "WomenByTheRoofsModel" 91 12 45 := ⟨R_Mod, F_Mod, 52, rfl, iw_Mod, by decide, by decide +kernel, gt_6 84 rfl rfl⟩
theorem fo_Mod_94 : fOk "WomenByTheRoofsModel" 94 12 46 := ⟨R_Mod, F_Mod, 52, rfl, iw_Mod, by decide, by decide +kernel, gt_6 85 rfl rfl⟩
theorem fo_Mod_97 : fOk "WomenByTheRoofsModel" 97 12 47 := ⟨R_Mod, F_Mod, 52, rfl, iw_Mod, by decide, by decide +kernel, gt_6 86 rfl rfl⟩
theorem fo_Mod_210 : fOk "WomenByTheRoofsModel" 210 12 48 := ⟨R_Mod, F_Mod, 52, rfl, iw_Mod, by decide, by decide +kernel, gt_6 87 rfl rfl⟩
theorem fp_Mod_210 : fPut "WomenByTheRoofsModel" 210 12 48 (.int) := ⟨R_Mod, F_Mod, 52, t_Mod, rfl, iw_Mod, by decide, by decide +kernel, gt_6 87 rfl rfl, rfl, t_Mod_ok, n_Mod, by decide +kernel⟩
theorem fo_Mod_100 : fOk "WomenByTheRoofsModel" 100 12 49 := ⟨R_Mod, F_Mod, 52, rfl, iw_Mod, by decide, by decide +kernel, gt_6 88 rfl rfl⟩
theorem fo_Mod_103 : fOk "WomenByTheRoofsModel" 103 12 50 := ⟨R_Mod, F_Mod, 52, rfl, iw_Mod, by decide, by decide +kernel, gt_6 89 rfl rfl⟩
theorem fo_Mod_106 : fOk "WomenByTheRoofsModel" 106 12 51 := ⟨R_Mod, F_Mod, 52, rfl, iw_Mod, by decide, by decide +kernel, gt_6 90 rfl rfl⟩
theorem ml_Lw_22 : Cond.methodLink "WomenByTheRoofsLaw" 22 y_Top_init ∈ gw := gt_1 25 rfl rfl
theorem ml_Top_1 : Cond.methodLink "WomenByTheRoofs" 1 y_JObject_init ∈ gw := gt_1 28 rfl rfl
theorem ml_Top_9 : Cond.methodLink "WomenByTheRoofs" 9 y_Signs_init ∈ gw := gt_1 33 rfl rfl
theorem ml_Signs_3 : Cond.methodLink "WomenByTheRoofs$Signs" 3 y_JObject_init ∈ gw := gt_1 36 rfl rfl
theorem ml_Top_18 : Cond.methodLink "WomenByTheRoofs" 18 y_Ground_init ∈ gw := gt_1 57 rfl rfl
theorem ml_Ground_3 : Cond.methodLink "WomenByTheRoofs$Ground" 3 y_JObject_init ∈ gw := gt_1 60 rfl rfl
theorem ml_Top_25 : Cond.methodLink "WomenByTheRoofs" 25 y_Crowd_init ∈ gw := gt_1 79 rfl rfl
theorem ml_Crowd_3 : Cond.methodLink "WomenByTheRoofs$Crowd" 3 y_JObject_init ∈ gw := gt_1 82 rfl rfl
theorem ml_Top_32 : Cond.methodLink "WomenByTheRoofs" 32 y_Scene_init ∈ gw := gt_1 113 rfl rfl
theorem ml_Scene_3 : Cond.methodLink "WomenByTheRoofs$Scene" 3 y_JObject_init ∈ gw := gt_1 116 rfl rfl
theorem ml_Top_45 : Cond.methodLink "WomenByTheRoofs" 45 y_Nets_init ∈ gw := gt_1 170 rfl rfl
theorem ml_Nets_3 : Cond.methodLink "WomenByTheRoofs$Nets" 3 y_JObject_init ∈ gw := gt_1 173 rfl rfl
theorem ml_Top_55 : Cond.methodLink "WomenByTheRoofs" 55 y_Law_init ∈ gw := gt_1 189 rfl rfl
theorem ml_Law_3 : Cond.methodLink "WomenByTheRoofs$Law" 3 y_JObject_init ∈ gw := gt_1 192 rfl rfl
theorem ml_Clock_3 : Cond.methodLink "WomenByTheRoofs$Clock" 3 y_JObject_init ∈ gw := gt_1 232 rfl rfl
theorem ml_Top_69 : Cond.methodLink "WomenByTheRoofs" 69 y_History_init ∈ gw := gt_2 16 rfl rfl
theorem ml_History_1 : Cond.methodLink "WomenByTheRoofs$History" 1 y_JObject_init ∈ gw := gt_2 19 rfl rfl
theorem ml_History_18 : Cond.methodLink "WomenByTheRoofs$History" 18 y_Scene_init ∈ gw := gt_2 22 rfl rfl
theorem ml_Top_76 : Cond.methodLink "WomenByTheRoofs" 76 y_Acts_init ∈ gw := gt_2 39 rfl rfl
theorem ml_Acts_3 : Cond.methodLink "WomenByTheRoofs$Acts" 3 y_JObject_init ∈ gw := gt_2 42 rfl rfl
theorem ml_Top_83 : Cond.methodLink "WomenByTheRoofs" 83 y_Thief_init ∈ gw := gt_2 61 rfl rfl
theorem ml_Thief_3 : Cond.methodLink "WomenByTheRoofs$Thief" 3 y_JObject_init ∈ gw := gt_2 64 rfl rfl
theorem ml_Top_90 : Cond.methodLink "WomenByTheRoofs" 90 y_Ways_init ∈ gw := gt_2 82 rfl rfl
theorem ml_Ways_3 : Cond.methodLink "WomenByTheRoofs$Ways" 3 y_JObject_init ∈ gw := gt_2 85 rfl rfl
theorem ml_Lw_26 : Cond.methodLink "WomenByTheRoofsLaw" 26 y_Top_sign ∈ gw := gt_2 161 rfl rfl
theorem ml_Top_106 : Cond.methodLink "WomenByTheRoofs" 106 y_Signs_add ∈ gw := gt_2 165 rfl rfl
theorem ml_Lw_30 : Cond.methodLink "WomenByTheRoofsLaw" 30 y_Top_end ∈ gw := gt_2 169 rfl rfl
theorem ml_Lw_35 : Cond.methodLink "WomenByTheRoofsLaw" 35 y_Top_town ∈ gw := gt_2 173 rfl rfl
theorem ml_Top_113 : Cond.methodLink "WomenByTheRoofs" 113 y_Ground_read ∈ gw := gt_2 177 rfl rfl
theorem ml_Ground_32 : Cond.methodLink "WomenByTheRoofs$Ground" 32 y_Signs_at ∈ gw := gt_2 181 rfl rfl
theorem ml_Ground_37 : Cond.methodLink "WomenByTheRoofs$Ground" 37 y_Ground_fits ∈ gw := gt_2 185 rfl rfl
theorem ml_Ground_41 : Cond.methodLink "WomenByTheRoofs$Ground" 41 y_Ground_kindOf ∈ gw := gt_2 188 rfl rfl
theorem ml_Ground_45 : Cond.methodLink "WomenByTheRoofs$Ground" 45 y_Ground_become ∈ gw := gt_2 191 rfl rfl
theorem ml_Top_117 : Cond.methodLink "WomenByTheRoofs" 117 y_Crowd_clear ∈ gw := gt_2 195 rfl rfl
theorem ml_Top_120 : Cond.methodLink "WomenByTheRoofs" 120 y_Scene_clear ∈ gw := gt_2 199 rfl rfl
theorem ml_Scene_30 : Cond.methodLink "WomenByTheRoofs$Scene" 30 y_Scene_put ∈ gw := gt_2 203 rfl rfl
theorem ml_Top_121 : Cond.methodLink "WomenByTheRoofs" 121 y_History_clear ∈ gw := gt_2 207 rfl rfl
theorem ml_History_19 : Cond.methodLink "WomenByTheRoofs$History" 19 y_History_forget ∈ gw := gt_2 211 rfl rfl
theorem ml_History_22 : Cond.methodLink "WomenByTheRoofs$History" 22 y_History_spoil ∈ gw := gt_2 215 rfl rfl
theorem ml_Top_122 : Cond.methodLink "WomenByTheRoofs" 122 y_Nets_lay ∈ gw := gt_2 219 rfl rfl
theorem ml_Nets_22 : Cond.methodLink "WomenByTheRoofs$Nets" 22 y_Ground_holds ∈ gw := gt_2 223 rfl rfl
theorem ml_Nets_28 : Cond.methodLink "WomenByTheRoofs$Nets" 28 y_Nets_link ∈ gw := gt_2 227 rfl rfl
theorem ml_Nets_47 : Cond.methodLink "WomenByTheRoofs$Nets" 47 y_Ground_beside ∈ gw := gt_2 231 rfl rfl
theorem ml_Nets_51 : Cond.methodLink "WomenByTheRoofs$Nets" 51 y_Nets_isOf ∈ gw := gt_2 235 rfl rfl
theorem ml_Nets_44 : Cond.methodLink "WomenByTheRoofs$Nets" 44 y_Nets_bridge ∈ gw := gt_2 239 rfl rfl
theorem ml_Nets_54 : Cond.methodLink "WomenByTheRoofs$Nets" 54 y_Ground_across ∈ gw := gt_3 3 rfl rfl
theorem ml_Ground_25 : Cond.methodLink "WomenByTheRoofs$Ground" 25 y_Ground_beside ∈ gw := gt_3 7 rfl rfl
theorem ml_Lw_40 : Cond.methodLink "WomenByTheRoofsLaw" 40 y_Top_folk ∈ gw := gt_3 8 rfl rfl
theorem ml_Top_126 : Cond.methodLink "WomenByTheRoofs" 126 y_Crowd_read ∈ gw := gt_3 12 rfl rfl
theorem ml_Crowd_52 : Cond.methodLink "WomenByTheRoofs$Crowd" 52 y_Crowd_readLine ∈ gw := gt_3 16 rfl rfl
theorem ml_Crowd_56 : Cond.methodLink "WomenByTheRoofs$Crowd" 56 y_Signs_at ∈ gw := gt_3 20 rfl rfl
theorem ml_Crowd_59 : Cond.methodLink "WomenByTheRoofs$Crowd" 59 y_Signs_digits ∈ gw := gt_3 21 rfl rfl
theorem ml_Signs_22 : Cond.methodLink "WomenByTheRoofs$Signs" 22 y_Signs_at ∈ gw := gt_3 25 rfl rfl
theorem ml_Crowd_66 : Cond.methodLink "WomenByTheRoofs$Crowd" 66 y_Ground_holds ∈ gw := gt_3 26 rfl rfl
theorem ml_Crowd_72 : Cond.methodLink "WomenByTheRoofs$Crowd" 72 y_Crowd_isCutOff ∈ gw := gt_3 27 rfl rfl
theorem ml_Crowd_76 : Cond.methodLink "WomenByTheRoofs$Crowd" 76 y_Signs_steps ∈ gw := gt_3 30 rfl rfl
theorem ml_Signs_26 : Cond.methodLink "WomenByTheRoofs$Signs" 26 y_Signs_stepOf ∈ gw := gt_3 34 rfl rfl
theorem ml_Top_132 : Cond.methodLink "WomenByTheRoofs" 132 y_Crowd_letIn ∈ gw := gt_3 37 rfl rfl
theorem ml_Top_139 : Cond.methodLink "WomenByTheRoofs" 139 y_Crowd_woman ∈ gw := gt_3 41 rfl rfl
theorem ml_Top_142 : Cond.methodLink "WomenByTheRoofs" 142 y_Scene_put ∈ gw := gt_3 45 rfl rfl
theorem ml_Top_146 : Cond.methodLink "WomenByTheRoofs" 146 y_History_forget ∈ gw := gt_3 46 rfl rfl
theorem ml_Top_149 : Cond.methodLink "WomenByTheRoofs" 149 y_History_spoil ∈ gw := gt_3 47 rfl rfl
theorem ml_Lw_44 : Cond.methodLink "WomenByTheRoofsLaw" 44 y_Top_rule ∈ gw := gt_3 48 rfl rfl
theorem ml_Top_152 : Cond.methodLink "WomenByTheRoofs" 152 y_Law_read ∈ gw := gt_3 52 rfl rfl
theorem ml_Law_46 : Cond.methodLink "WomenByTheRoofs$Law" 46 y_Signs_at ∈ gw := gt_3 56 rfl rfl
theorem ml_Law_50 : Cond.methodLink "WomenByTheRoofs$Law" 50 y_Law_readBehind ∈ gw := gt_3 57 rfl rfl
theorem ml_Law_58 : Cond.methodLink "WomenByTheRoofs$Law" 58 y_Law_settle ∈ gw := gt_3 61 rfl rfl
theorem ml_Law_88 : Cond.methodLink "WomenByTheRoofs$Law" 88 y_Law_rankOf ∈ gw := gt_3 65 rfl rfl
theorem ml_Law_81 : Cond.methodLink "WomenByTheRoofs$Law" 81 y_Law_emit ∈ gw := gt_3 68 rfl rfl
theorem ml_Law_71 : Cond.methodLink "WomenByTheRoofs$Law" 71 y_Law_hold ∈ gw := gt_3 72 rfl rfl
theorem ml_Law_54 : Cond.methodLink "WomenByTheRoofs$Law" 54 y_Law_readThing ∈ gw := gt_3 76 rfl rfl
theorem ml_Law_74 : Cond.methodLink "WomenByTheRoofs$Law" 74 y_Signs_digits ∈ gw := gt_3 80 rfl rfl
theorem ml_Law_84 : Cond.methodLink "WomenByTheRoofs$Law" 84 y_Law_isQuality ∈ gw := gt_3 81 rfl rfl
theorem ml_Lw_48 : Cond.methodLink "WomenByTheRoofsLaw" 48 y_Top_route ∈ gw := gt_3 87 rfl rfl
theorem ml_Top_153 : Cond.methodLink "WomenByTheRoofs" 153 y_Crowd_has ∈ gw := gt_3 91 rfl rfl
theorem ml_Top_156 : Cond.methodLink "WomenByTheRoofs" 156 y_Crowd_tellWay ∈ gw := gt_3 95 rfl rfl
theorem ml_Crowd_31 : Cond.methodLink "WomenByTheRoofs$Crowd" 31 y_Crowd_has ∈ gw := gt_3 99 rfl rfl
theorem ml_Lw_61 : Cond.methodLink "WomenByTheRoofsLaw" 61 y_Top_build ∈ gw := gt_3 100 rfl rfl
theorem ml_Top_163 : Cond.methodLink "WomenByTheRoofs" 163 y_Ground_has ∈ gw := gt_3 104 rfl rfl
theorem ml_Top_207 : Cond.methodLink "WomenByTheRoofs" 207 y_Top_canBecome ∈ gw := gt_3 108 rfl rfl
theorem ml_Top_170 : Cond.methodLink "WomenByTheRoofs" 170 y_Scene_standing ∈ gw := gt_3 112 rfl rfl
theorem ml_Top_457 : Cond.methodLink "WomenByTheRoofs" 457 y_Scene_isUnderPlank ∈ gw := gt_3 116 rfl rfl
theorem ml_Scene_65 : Cond.methodLink "WomenByTheRoofs$Scene" 65 y_Ground_between ∈ gw := gt_3 120 rfl rfl
theorem ml_Ground_29 : Cond.methodLink "WomenByTheRoofs$Ground" 29 y_Ground_across ∈ gw := gt_3 124 rfl rfl
theorem ml_Top_174 : Cond.methodLink "WomenByTheRoofs" 174 y_Scene_planksAt ∈ gw := gt_3 125 rfl rfl
theorem ml_Lw_65 : Cond.methodLink "WomenByTheRoofsLaw" 65 y_Top_plank ∈ gw := gt_3 129 rfl rfl
theorem ml_Top_211 : Cond.methodLink "WomenByTheRoofs" 211 y_Scene_copy ∈ gw := gt_3 133 rfl rfl
theorem ml_Top_215 : Cond.methodLink "WomenByTheRoofs" 215 y_Top_lay ∈ gw := gt_3 138 rfl rfl
theorem ml_Top_461 : Cond.methodLink "WomenByTheRoofs" 461 y_Ground_between ∈ gw := gt_3 142 rfl rfl
theorem ml_Top_305 : Cond.methodLink "WomenByTheRoofs" 305 y_Ground_holds ∈ gw := gt_3 143 rfl rfl
theorem ml_Top_464 : Cond.methodLink "WomenByTheRoofs" 464 y_Scene_hasPlank ∈ gw := gt_3 144 rfl rfl
theorem ml_Scene_61 : Cond.methodLink "WomenByTheRoofs$Scene" 61 y_Scene_planksAt ∈ gw := gt_3 148 rfl rfl
theorem ml_Top_467 : Cond.methodLink "WomenByTheRoofs" 467 y_Scene_addPlank ∈ gw := gt_3 149 rfl rfl
theorem ml_Top_218 : Cond.methodLink "WomenByTheRoofs" 218 y_History_add ∈ gw := gt_3 153 rfl rfl
theorem ml_History_32 : Cond.methodLink "WomenByTheRoofs$History" 32 y_Scene_copy ∈ gw := gt_3 157 rfl rfl
theorem ml_Lw_69 : Cond.methodLink "WomenByTheRoofsLaw" 69 y_Top_take ∈ gw := gt_3 158 rfl rfl
theorem ml_Top_220 : Cond.methodLink "WomenByTheRoofs" 220 y_Top_lift ∈ gw := gt_3 162 rfl rfl
theorem ml_Lw_73 : Cond.methodLink "WomenByTheRoofsLaw" 73 y_Top_sheet ∈ gw := gt_3 166 rfl rfl
theorem ml_Top_227 : Cond.methodLink "WomenByTheRoofs" 227 y_Top_narrow ∈ gw := gt_3 170 rfl rfl
theorem ml_Top_230 : Cond.methodLink "WomenByTheRoofs" 230 y_Crowd_within ∈ gw := gt_3 173 rfl rfl
theorem ml_Crowd_35 : Cond.methodLink "WomenByTheRoofs$Crowd" 35 y_JMath_min ∈ gw := gt_3 177 rfl rfl
theorem ml_Crowd_41 : Cond.methodLink "WomenByTheRoofs$Crowd" 41 y_JMath_max ∈ gw := gt_3 180 rfl rfl
theorem ml_Lw_78 : Cond.methodLink "WomenByTheRoofsLaw" 78 y_Top_tell ∈ gw := gt_3 183 rfl rfl
theorem ml_Top_233 : Cond.methodLink "WomenByTheRoofs" 233 y_Top_give ∈ gw := gt_3 187 rfl rfl
theorem ml_Top_236 : Cond.methodLink "WomenByTheRoofs" 236 y_JInteger_bitCount ∈ gw := gt_3 191 rfl rfl
theorem ml_Lw_82 : Cond.methodLink "WomenByTheRoofsLaw" 82 y_Top_feast ∈ gw := gt_3 197 rfl rfl
theorem ml_Top_240 : Cond.methodLink "WomenByTheRoofs" 240 y_Top_celebrate ∈ gw := gt_3 201 rfl rfl
theorem ml_Top_470 : Cond.methodLink "WomenByTheRoofs" 470 y_Top_womenAreAstray ∈ gw := gt_3 205 rfl rfl
theorem ml_Top_290 : Cond.methodLink "WomenByTheRoofs" 290 y_Ground_isStair ∈ gw := gt_3 209 rfl rfl
theorem ml_Top_243 : Cond.methodLink "WomenByTheRoofs" 243 y_Top_womenBelow ∈ gw := gt_3 213 rfl rfl
theorem ml_Lw_86 : Cond.methodLink "WomenByTheRoofsLaw" 86 y_Top_minute ∈ gw := gt_3 217 rfl rfl
theorem ml_Top_247 : Cond.methodLink "WomenByTheRoofs" 247 y_Clock_pass ∈ gw := gt_3 221 rfl rfl
theorem ml_Clock_26 : Cond.methodLink "WomenByTheRoofs$Clock" 26 y_Law_goes ∈ gw := gt_3 225 rfl rfl
theorem ml_Law_102 : Cond.methodLink "WomenByTheRoofs$Law" 102 y_Law_push ∈ gw := gt_3 229 rfl rfl
theorem ml_Law_105 : Cond.methodLink "WomenByTheRoofs$Law" 105 y_Law_quality ∈ gw := gt_3 233 rfl rfl
theorem ml_Law_124 : Cond.methodLink "WomenByTheRoofs$Law" 124 y_Crowd_woman ∈ gw := gt_3 236 rfl rfl
theorem ml_Law_129 : Cond.methodLink "WomenByTheRoofs$Law" 129 y_Ground_column ∈ gw := gt_3 237 rfl rfl
theorem ml_Law_134 : Cond.methodLink "WomenByTheRoofs$Law" 134 y_Ground_line ∈ gw := gt_4 1 rfl rfl
theorem ml_Law_140 : Cond.methodLink "WomenByTheRoofs$Law" 140 y_Scene_standing ∈ gw := gt_4 5 rfl rfl
theorem ml_Law_143 : Cond.methodLink "WomenByTheRoofs$Law" 143 y_JInteger_bitCount ∈ gw := gt_4 6 rfl rfl
theorem ml_Law_148 : Cond.methodLink "WomenByTheRoofs$Law" 148 y_Ground_isStair ∈ gw := gt_4 7 rfl rfl
theorem ml_Law_109 : Cond.methodLink "WomenByTheRoofs$Law" 109 y_Law_work ∈ gw := gt_4 8 rfl rfl
theorem ml_Law_112 : Cond.methodLink "WomenByTheRoofs$Law" 112 y_Law_pop ∈ gw := gt_4 12 rfl rfl
theorem ml_Law_116 : Cond.methodLink "WomenByTheRoofs$Law" 116 y_Law_joined ∈ gw := gt_4 16 rfl rfl
theorem ml_Clock_32 : Cond.methodLink "WomenByTheRoofs$Clock" 32 y_Clock_move ∈ gw := gt_4 19 rfl rfl
theorem ml_Clock_68 : Cond.methodLink "WomenByTheRoofs$Clock" 68 y_Crowd_stepAt ∈ gw := gt_4 23 rfl rfl
theorem ml_Clock_78 : Cond.methodLink "WomenByTheRoofs$Clock" 78 y_Nets_toward ∈ gw := gt_4 27 rfl rfl
theorem ml_Clock_84 : Cond.methodLink "WomenByTheRoofs$Clock" 84 y_Crowd_placeBehind ∈ gw := gt_4 31 rfl rfl
theorem ml_Clock_39 : Cond.methodLink "WomenByTheRoofs$Clock" 39 y_Clock_greet ∈ gw := gt_4 35 rfl rfl
theorem ml_Clock_87 : Cond.methodLink "WomenByTheRoofs$Clock" 87 y_Crowd_woman ∈ gw := gt_4 39 rfl rfl
theorem ml_Clock_91 : Cond.methodLink "WomenByTheRoofs$Clock" 91 y_Ground_isStair ∈ gw := gt_4 40 rfl rfl
theorem ml_Clock_96 : Cond.methodLink "WomenByTheRoofs$Clock" 96 y_Scene_addMeeting ∈ gw := gt_4 41 rfl rfl
theorem ml_Clock_48 : Cond.methodLink "WomenByTheRoofs$Clock" 48 y_Clock_hearers ∈ gw := gt_4 45 rfl rfl
theorem ml_Clock_100 : Cond.methodLink "WomenByTheRoofs$Clock" 100 y_Scene_standing ∈ gw := gt_4 49 rfl rfl
theorem ml_Clock_103 : Cond.methodLink "WomenByTheRoofs$Clock" 103 y_Ground_beside ∈ gw := gt_4 50 rfl rfl
theorem ml_Clock_58 : Cond.methodLink "WomenByTheRoofs$Clock" 58 y_JInteger_bitCount ∈ gw := gt_4 51 rfl rfl
theorem ml_Top_251 : Cond.methodLink "WomenByTheRoofs" 251 y_Top_emptyRow ∈ gw := gt_4 52 rfl rfl
theorem ml_Top_257 : Cond.methodLink "WomenByTheRoofs" 257 y_Top_note ∈ gw := gt_4 56 rfl rfl
theorem ml_Lw_90 : Cond.methodLink "WomenByTheRoofsLaw" 90 y_Top_minutes ∈ gw := gt_4 60 rfl rfl
theorem ml_Top_266 : Cond.methodLink "WomenByTheRoofs" 266 y_Clock_reset ∈ gw := gt_4 64 rfl rfl
theorem ml_Lw_94 : Cond.methodLink "WomenByTheRoofsLaw" 94 y_Top_evening ∈ gw := gt_4 68 rfl rfl
theorem ml_Top_275 : Cond.methodLink "WomenByTheRoofs" 275 y_Acts_read ∈ gw := gt_4 72 rfl rfl
theorem ml_Acts_30 : Cond.methodLink "WomenByTheRoofs$Acts" 30 y_Acts_readAct ∈ gw := gt_4 76 rfl rfl
theorem ml_Acts_34 : Cond.methodLink "WomenByTheRoofs$Acts" 34 y_Signs_at ∈ gw := gt_4 80 rfl rfl
theorem ml_Acts_38 : Cond.methodLink "WomenByTheRoofs$Acts" 38 y_Acts_add ∈ gw := gt_4 81 rfl rfl
theorem ml_Acts_42 : Cond.methodLink "WomenByTheRoofs$Acts" 42 y_Acts_readLetter ∈ gw := gt_4 85 rfl rfl
theorem ml_Acts_45 : Cond.methodLink "WomenByTheRoofs$Acts" 45 y_Acts_readNumber ∈ gw := gt_4 89 rfl rfl
theorem ml_Acts_51 : Cond.methodLink "WomenByTheRoofs$Acts" 51 y_Signs_digits ∈ gw := gt_4 93 rfl rfl
theorem ml_Acts_48 : Cond.methodLink "WomenByTheRoofs$Acts" 48 y_Acts_readPlank ∈ gw := gt_4 94 rfl rfl
theorem ml_Top_276 : Cond.methodLink "WomenByTheRoofs" 276 y_Top_does ∈ gw := gt_4 98 rfl rfl
theorem ml_Top_479 : Cond.methodLink "WomenByTheRoofs" 479 y_Top_lasts ∈ gw := gt_4 102 rfl rfl
theorem ml_Lw_98 : Cond.methodLink "WomenByTheRoofsLaw" 98 y_Top_undo ∈ gw := gt_4 106 rfl rfl
theorem ml_Top_279 : Cond.methodLink "WomenByTheRoofs" 279 y_History_back ∈ gw := gt_4 110 rfl rfl
theorem ml_Lw_102 : Cond.methodLink "WomenByTheRoofsLaw" 102 y_Top_met ∈ gw := gt_4 114 rfl rfl
theorem ml_Top_284 : Cond.methodLink "WomenByTheRoofs" 284 y_Top_areTwo ∈ gw := gt_4 118 rfl rfl
theorem ml_Top_287 : Cond.methodLink "WomenByTheRoofs" 287 y_Scene_meetingsOfTwo ∈ gw := gt_4 122 rfl rfl
theorem ml_Lw_106 : Cond.methodLink "WomenByTheRoofsLaw" 106 y_Top_ahead ∈ gw := gt_4 126 rfl rfl
theorem ml_Lw_110 : Cond.methodLink "WomenByTheRoofsLaw" 110 y_Top_meet ∈ gw := gt_4 130 rfl rfl
theorem ml_Lw_114 : Cond.methodLink "WomenByTheRoofsLaw" 114 y_Top_known ∈ gw := gt_4 134 rfl rfl
theorem ml_Lw_118 : Cond.methodLink "WomenByTheRoofsLaw" 118 y_Top_gossip ∈ gw := gt_4 138 rfl rfl
theorem ml_Top_293 : Cond.methodLink "WomenByTheRoofs" 293 y_Top_hearers ∈ gw := gt_4 142 rfl rfl
theorem ml_Lw_122 : Cond.methodLink "WomenByTheRoofsLaw" 122 y_Top_pieces ∈ gw := gt_4 146 rfl rfl
theorem ml_Top_299 : Cond.methodLink "WomenByTheRoofs" 299 y_Nets_flood ∈ gw := gt_4 150 rfl rfl
theorem ml_Nets_57 : Cond.methodLink "WomenByTheRoofs$Nets" 57 y_JLong_numberOfTrailingZeros ∈ gw := gt_4 154 rfl rfl
theorem ml_JLong_311 : Cond.methodLink "java/lang/Long" 311 y_JInteger_numberOfTrailingZeros ∈ gw := gt_4 157 rfl rfl
theorem ml_Top_182 : Cond.methodLink "WomenByTheRoofs" 182 y_JLong_bitCount ∈ gw := gt_4 163 rfl rfl
theorem ml_Lw_126 : Cond.methodLink "WomenByTheRoofsLaw" 126 y_Top_reach ∈ gw := gt_4 169 rfl rfl
theorem ml_Top_308 : Cond.methodLink "WomenByTheRoofs" 308 y_Top_noteSet ∈ gw := gt_4 173 rfl rfl
theorem ml_Lw_130 : Cond.methodLink "WomenByTheRoofsLaw" 130 y_Top_path ∈ gw := gt_4 178 rfl rfl
theorem ml_Top_315 : Cond.methodLink "WomenByTheRoofs" 315 y_Nets_measure ∈ gw := gt_4 182 rfl rfl
theorem ml_Nets_66 : Cond.methodLink "WomenByTheRoofs$Nets" 66 y_Nets_around ∈ gw := gt_4 187 rfl rfl
theorem ml_Top_320 : Cond.methodLink "WomenByTheRoofs" 320 y_Nets_stepNearer ∈ gw := gt_4 192 rfl rfl
theorem ml_Nets_70 : Cond.methodLink "WomenByTheRoofs$Nets" 70 y_Nets_toward ∈ gw := gt_4 196 rfl rfl
theorem ml_Top_324 : Cond.methodLink "WomenByTheRoofs" 324 y_Nets_toward ∈ gw := gt_4 197 rfl rfl
theorem ml_Lw_135 : Cond.methodLink "WomenByTheRoofsLaw" 135 y_Top_both ∈ gw := gt_4 198 rfl rfl
theorem ml_Top_327 : Cond.methodLink "WomenByTheRoofs" 327 y_Ways_acrossLevels ∈ gw := gt_4 202 rfl rfl
theorem ml_Ways_37 : Cond.methodLink "WomenByTheRoofs$Ways" 37 y_Ways_begin ∈ gw := gt_4 206 rfl rfl
theorem ml_Ways_41 : Cond.methodLink "WomenByTheRoofs$Ways" 41 y_Ways_leave ∈ gw := gt_4 211 rfl rfl
theorem ml_Ways_45 : Cond.methodLink "WomenByTheRoofs$Ways" 45 y_Nets_toward ∈ gw := gt_4 215 rfl rfl
theorem ml_Ways_51 : Cond.methodLink "WomenByTheRoofs$Ways" 51 y_Ways_lower ∈ gw := gt_4 216 rfl rfl
theorem ml_Ways_55 : Cond.methodLink "WomenByTheRoofs$Ways" 55 y_Nets_stairs ∈ gw := gt_4 220 rfl rfl
theorem ml_Lw_139 : Cond.methodLink "WomenByTheRoofsLaw" 139 y_Top_errand ∈ gw := gt_4 224 rfl rfl
theorem ml_Top_334 : Cond.methodLink "WomenByTheRoofs" 334 y_Top_handOver ∈ gw := gt_4 228 rfl rfl
theorem ml_Top_381 : Cond.methodLink "WomenByTheRoofs" 381 y_JMath_max ∈ gw := gt_4 232 rfl rfl
theorem ml_Lw_143 : Cond.methodLink "WomenByTheRoofsLaw" 143 y_Top_tryst ∈ gw := gt_4 233 rfl rfl
theorem ml_Top_337 : Cond.methodLink "WomenByTheRoofs" 337 y_Top_areManAndWoman ∈ gw := gt_4 237 rfl rfl
theorem ml_Top_340 : Cond.methodLink "WomenByTheRoofs" 340 y_Top_soonestStair ∈ gw := gt_5 1 rfl rfl
theorem ml_Top_355 : Cond.methodLink "WomenByTheRoofs" 355 y_Nets_stairs ∈ gw := gt_5 5 rfl rfl
theorem ml_Top_343 : Cond.methodLink "WomenByTheRoofs" 343 y_Ways_later ∈ gw := gt_5 6 rfl rfl
theorem ml_Ways_30 : Cond.methodLink "WomenByTheRoofs$Ways" 30 y_JMath_max ∈ gw := gt_5 10 rfl rfl
theorem ml_Lw_147 : Cond.methodLink "WomenByTheRoofsLaw" 147 y_Top_open ∈ gw := gt_5 11 rfl rfl
theorem ml_Top_349 : Cond.methodLink "WomenByTheRoofs" 349 y_Top_canOpen ∈ gw := gt_5 15 rfl rfl
theorem ml_Top_352 : Cond.methodLink "WomenByTheRoofs" 352 y_Top_trystWith ∈ gw := gt_5 19 rfl rfl
theorem ml_Lw_151 : Cond.methodLink "WomenByTheRoofsLaw" 151 y_Top_part ∈ gw := gt_5 23 rfl rfl
theorem ml_Top_359 : Cond.methodLink "WomenByTheRoofs" 359 y_Top_canTryst ∈ gw := gt_5 27 rfl rfl
theorem ml_Top_488 : Cond.methodLink "WomenByTheRoofs" 488 y_Top_roaming ∈ gw := gt_5 31 rfl rfl
theorem ml_Top_363 : Cond.methodLink "WomenByTheRoofs" 363 y_Top_partedBy ∈ gw := gt_5 35 rfl rfl
theorem ml_Lw_155 : Cond.methodLink "WomenByTheRoofsLaw" 155 y_Top_planks ∈ gw := gt_5 39 rfl rfl
theorem ml_Top_367 : Cond.methodLink "WomenByTheRoofs" 367 y_Ways_bridged ∈ gw := gt_5 43 rfl rfl
theorem ml_Ways_59 : Cond.methodLink "WomenByTheRoofs$Ways" 59 y_Ways_cross ∈ gw := gt_5 47 rfl rfl
theorem ml_Ways_63 : Cond.methodLink "WomenByTheRoofs$Ways" 63 y_Ground_beside ∈ gw := gt_5 51 rfl rfl
theorem ml_Ways_68 : Cond.methodLink "WomenByTheRoofs$Ways" 68 y_Ground_holds ∈ gw := gt_5 52 rfl rfl
theorem ml_Lw_159 : Cond.methodLink "WomenByTheRoofsLaw" 159 y_Top_fire ∈ gw := gt_5 53 rfl rfl
theorem ml_Lw_163 : Cond.methodLink "WomenByTheRoofsLaw" 163 y_Top_fights ∈ gw := gt_5 57 rfl rfl
theorem ml_Top_371 : Cond.methodLink "WomenByTheRoofs" 371 y_Top_stepsToFire ∈ gw := gt_5 61 rfl rfl
theorem ml_Top_492 : Cond.methodLink "WomenByTheRoofs" 492 y_Ground_beside ∈ gw := gt_5 65 rfl rfl
theorem ml_Top_495 : Cond.methodLink "WomenByTheRoofs" 495 y_JMath_min ∈ gw := gt_5 66 rfl rfl
theorem ml_Lw_167 : Cond.methodLink "WomenByTheRoofsLaw" 167 y_Top_saved ∈ gw := gt_5 67 rfl rfl
theorem ml_Top_377 : Cond.methodLink "WomenByTheRoofs" 377 y_Top_soonestAtFire ∈ gw := gt_5 71 rfl rfl
theorem ml_Lw_171 : Cond.methodLink "WomenByTheRoofsLaw" 171 y_Top_wardrobe ∈ gw := gt_5 75 rfl rfl
theorem ml_Top_386 : Cond.methodLink "WomenByTheRoofs" 386 y_Ways_measurePairs ∈ gw := gt_5 79 rfl rfl
theorem ml_Ways_71 : Cond.methodLink "WomenByTheRoofs$Ways" 71 y_Ways_pairAfter ∈ gw := gt_5 83 rfl rfl
theorem ml_Ways_75 : Cond.methodLink "WomenByTheRoofs$Ways" 75 y_Ways_toSide ∈ gw := gt_5 87 rfl rfl
theorem ml_Top_393 : Cond.methodLink "WomenByTheRoofs" 393 y_Ways_pairNearer ∈ gw := gt_5 90 rfl rfl
theorem ml_Top_397 : Cond.methodLink "WomenByTheRoofs" 397 y_Ways_pairAfter ∈ gw := gt_5 94 rfl rfl
theorem ml_Lw_175 : Cond.methodLink "WomenByTheRoofsLaw" 175 y_Top_flees ∈ gw := gt_5 95 rfl rfl
theorem ml_Top_401 : Cond.methodLink "WomenByTheRoofs" 401 y_Thief_start ∈ gw := gt_5 99 rfl rfl
theorem ml_Top_405 : Cond.methodLink "WomenByTheRoofs" 405 y_Top_hunt ∈ gw := gt_5 103 rfl rfl
theorem ml_Top_429 : Cond.methodLink "WomenByTheRoofs" 429 y_Thief_stir ∈ gw := gt_5 107 rfl rfl
theorem ml_Thief_27 : Cond.methodLink "WomenByTheRoofs$Thief" 27 y_Nets_around ∈ gw := gt_5 111 rfl rfl
theorem ml_Thief_33 : Cond.methodLink "WomenByTheRoofs$Thief" 33 y_Nets_stairs ∈ gw := gt_5 112 rfl rfl
theorem ml_Top_418 : Cond.methodLink "WomenByTheRoofs" 418 y_Scene_occupied ∈ gw := gt_5 113 rfl rfl
theorem ml_Scene_53 : Cond.methodLink "WomenByTheRoofs$Scene" 53 y_Scene_guarded ∈ gw := gt_5 117 rfl rfl
theorem ml_Top_422 : Cond.methodLink "WomenByTheRoofs" 422 y_Thief_record ∈ gw := gt_5 121 rfl rfl
theorem ml_Top_426 : Cond.methodLink "WomenByTheRoofs" 426 y_Thief_strike ∈ gw := gt_5 125 rfl rfl
theorem ml_Top_415 : Cond.methodLink "WomenByTheRoofs" 415 y_Thief_gone ∈ gw := gt_5 130 rfl rfl
theorem ml_Lw_179 : Cond.methodLink "WomenByTheRoofsLaw" 179 y_Top_lairs ∈ gw := gt_5 134 rfl rfl
theorem ml_Lw_183 : Cond.methodLink "WomenByTheRoofsLaw" 183 y_Top_caught ∈ gw := gt_5 138 rfl rfl
theorem ml_Lw_187 : Cond.methodLink "WomenByTheRoofsLaw" 187 y_Top_watch ∈ gw := gt_5 142 rfl rfl
theorem ml_Top_433 : Cond.methodLink "WomenByTheRoofs" 433 y_Top_slipsBy ∈ gw := gt_5 146 rfl rfl
theorem ml_Top_498 : Cond.methodLink "WomenByTheRoofs" 498 y_Scene_guarded ∈ gw := gt_5 150 rfl rfl
theorem ml_Top_501 : Cond.methodLink "WomenByTheRoofs" 501 y_Thief_roam ∈ gw := gt_5 151 rfl rfl
theorem ml_Thief_37 : Cond.methodLink "WomenByTheRoofs$Thief" 37 y_Thief_stir ∈ gw := gt_5 155 rfl rfl
theorem ml_Top_504 : Cond.methodLink "WomenByTheRoofs" 504 y_Thief_isIn ∈ gw := gt_5 156 rfl rfl
theorem ml_Lw_191 : Cond.methodLink "WomenByTheRoofsLaw" 191 y_Top_keep ∈ gw := gt_5 160 rfl rfl
theorem ml_Top_437 : Cond.methodLink "WomenByTheRoofs" 437 y_History_store ∈ gw := gt_5 164 rfl rfl
theorem ml_Lw_195 : Cond.methodLink "WomenByTheRoofsLaw" 195 y_Top_again ∈ gw := gt_5 168 rfl rfl
theorem ml_Top_441 : Cond.methodLink "WomenByTheRoofs" 441 y_History_restore ∈ gw := gt_5 172 rfl rfl
theorem ml_Lw_199 : Cond.methodLink "WomenByTheRoofsLaw" 199 y_Top_count ∈ gw := gt_5 176 rfl rfl
theorem ml_Top_453 : Cond.methodLink "WomenByTheRoofs" 453 y_Scene_allMeetings ∈ gw := gt_5 180 rfl rfl
theorem ml_Lw_7 : Cond.methodLink "WomenByTheRoofsLaw" 7 y_Top_cell ∈ gw := gt_5 188 rfl rfl
theorem ml_Top_166 : Cond.methodLink "WomenByTheRoofs" 166 y_JNoSuchElementException_init ∈ gw := gt_5 231 rfl rfl
theorem ml_Lw_15 : Cond.methodLink "WomenByTheRoofsLaw" 15 y_Top_person ∈ gw := gt_6 16 rfl rfl
theorem ml_Top_200 : Cond.methodLink "WomenByTheRoofs" 200 y_Scene_meetingsOf ∈ gw := gt_6 20 rfl rfl
theorem ml_Scene_57 : Cond.methodLink "WomenByTheRoofs$Scene" 57 y_Scene_meetingsOfTwo ∈ gw := gt_6 24 rfl rfl
theorem ml_Top_203 : Cond.methodLink "WomenByTheRoofs" 203 y_Law_goes ∈ gw := gt_6 25 rfl rfl
theorem ml_Lw_18 : Cond.methodLink "WomenByTheRoofsLaw" 18 y_Top_row ∈ gw := gt_6 29 rfl rfl
theorem ml_Lw_25 : Cond.methodLink "WomenByTheRoofsLaw" 25 y_Mod_init ∈ gw := gt_6 35 rfl rfl
theorem ml_Mod_3 : Cond.methodLink "WomenByTheRoofsModel" 3 y_JObject_init ∈ gw := gt_6 38 rfl rfl
theorem ml_Lw_29 : Cond.methodLink "WomenByTheRoofsLaw" 29 y_Mod_sign ∈ gw := gt_6 198 rfl rfl
theorem ml_Lw_34 : Cond.methodLink "WomenByTheRoofsLaw" 34 y_Mod_end ∈ gw := gt_6 202 rfl rfl
theorem ml_Mod_119 : Cond.methodLink "WomenByTheRoofsModel" 119 y_Mod_in ∈ gw := gt_6 206 rfl rfl
theorem ml_Lw_39 : Cond.methodLink "WomenByTheRoofsLaw" 39 y_Mod_town ∈ gw := gt_6 209 rfl rfl
theorem ml_Mod_194 : Cond.methodLink "WomenByTheRoofsModel" 194 y_Mod_begin ∈ gw := gt_6 213 rfl rfl
theorem ml_Mod_179 : Cond.methodLink "WomenByTheRoofsModel" 179 y_Mod_fine ∈ gw := gt_6 217 rfl rfl
theorem ml_Mod_190 : Cond.methodLink "WomenByTheRoofsModel" 190 y_Mod_fault ∈ gw := gt_6 221 rfl rfl
theorem ml_Mod_183 : Cond.methodLink "WomenByTheRoofsModel" 183 y_Mod_here ∈ gw := gt_6 225 rfl rfl
theorem ml_Mod_198 : Cond.methodLink "WomenByTheRoofsModel" 198 y_Mod_kindOf ∈ gw := gt_6 229 rfl rfl
theorem ml_Mod_186 : Cond.methodLink "WomenByTheRoofsModel" 186 y_Mod_passes ∈ gw := gt_6 232 rfl rfl
theorem ml_Lw_43 : Cond.methodLink "WomenByTheRoofsLaw" 43 y_Mod_folk ∈ gw := gt_6 236 rfl rfl
theorem ml_Mod_204 : Cond.methodLink "WomenByTheRoofsModel" 204 y_Mod_readOne ∈ gw := gt_7 0 rfl rfl
theorem ml_Mod_213 : Cond.methodLink "WomenByTheRoofsModel" 213 y_Mod_number ∈ gw := gt_7 4 rfl rfl
theorem ml_Mod_140 : Cond.methodLink "WomenByTheRoofsModel" 140 y_Mod_isOf ∈ gw := gt_7 8 rfl rfl
theorem ml_Mod_137 : Cond.methodLink "WomenByTheRoofsModel" 137 y_Mod_isCell ∈ gw := gt_7 12 rfl rfl
theorem ml_Mod_115 : Cond.methodLink "WomenByTheRoofsModel" 115 y_Mod_cells ∈ gw := gt_7 16 rfl rfl
theorem ml_Mod_216 : Cond.methodLink "WomenByTheRoofsModel" 216 y_Mod_need ∈ gw := gt_7 20 rfl rfl
theorem ml_Mod_220 : Cond.methodLink "WomenByTheRoofsModel" 220 y_Mod_readRoute ∈ gw := gt_7 24 rfl rfl
theorem ml_Mod_224 : Cond.methodLink "WomenByTheRoofsModel" 224 y_Mod_stepOf ∈ gw := gt_7 28 rfl rfl
theorem ml_Mod_207 : Cond.methodLink "WomenByTheRoofsModel" 207 y_Mod_come ∈ gw := gt_7 31 rfl rfl
theorem ml_Mod_154 : Cond.methodLink "WomenByTheRoofsModel" 154 y_Mod_placeOf ∈ gw := gt_7 35 rfl rfl
theorem ml_Lw_51 : Cond.methodLink "WomenByTheRoofsLaw" 51 y_Mod_route ∈ gw := gt_7 38 rfl rfl
theorem ml_Mod_126 : Cond.methodLink "WomenByTheRoofsModel" 126 y_Mod_isOne ∈ gw := gt_7 42 rfl rfl
theorem ml_Lw_47 : Cond.methodLink "WomenByTheRoofsLaw" 47 y_Mod_rule ∈ gw := gt_7 46 rfl rfl
theorem ml_Mod_236 : Cond.methodLink "WomenByTheRoofsModel" 236 y_Mod_held ∈ gw := gt_7 50 rfl rfl
theorem ml_Mod_227 : Cond.methodLink "WomenByTheRoofsModel" 227 y_Mod_sum ∈ gw := gt_7 54 rfl rfl
theorem ml_Mod_230 : Cond.methodLink "WomenByTheRoofsModel" 230 y_Mod_product ∈ gw := gt_7 58 rfl rfl
theorem ml_Mod_233 : Cond.methodLink "WomenByTheRoofsModel" 233 y_Mod_thing ∈ gw := gt_7 62 rfl rfl
theorem ml_Mod_245 : Cond.methodLink "WomenByTheRoofsModel" 245 y_Mod_letter ∈ gw := gt_7 66 rfl rfl
theorem ml_Mod_147 : Cond.methodLink "WomenByTheRoofsModel" 147 y_Mod_cellOf ∈ gw := gt_7 70 rfl rfl
theorem ml_Lw_57 : Cond.methodLink "WomenByTheRoofsLaw" 57 y_Mod_cell ∈ gw := gt_7 73 rfl rfl
theorem ml_Mod_256 : Cond.methodLink "WomenByTheRoofsModel" 256 y_Mod_lost ∈ gw := gt_7 77 rfl rfl
theorem ml_Mod_259 : Cond.methodLink "WomenByTheRoofsModel" 259 y_Mod_onPlace ∈ gw := gt_7 81 rfl rfl
theorem ml_Mod_262 : Cond.methodLink "WomenByTheRoofsModel" 262 y_Mod_ways ∈ gw := gt_7 85 rfl rfl
theorem ml_Mod_252 : Cond.methodLink "WomenByTheRoofsModel" 252 y_Mod_go ∈ gw := gt_7 89 rfl rfl
theorem ml_Mod_143 : Cond.methodLink "WomenByTheRoofsModel" 143 y_Mod_levelOf ∈ gw := gt_7 93 rfl rfl
theorem ml_Mod_150 : Cond.methodLink "WomenByTheRoofsModel" 150 y_Mod_beside ∈ gw := gt_7 96 rfl rfl
theorem ml_Mod_157 : Cond.methodLink "WomenByTheRoofsModel" 157 y_Mod_isPlank ∈ gw := gt_7 100 rfl rfl
theorem ml_Lw_60 : Cond.methodLink "WomenByTheRoofsLaw" 60 y_Mod_person ∈ gw := gt_7 103 rfl rfl
theorem ml_Mod_265 : Cond.methodLink "WomenByTheRoofsModel" 265 y_Mod_meetingsOf ∈ gw := gt_7 107 rfl rfl
theorem ml_Mod_268 : Cond.methodLink "WomenByTheRoofsModel" 268 y_Mod_goes ∈ gw := gt_7 111 rfl rfl
theorem ml_Mod_133 : Cond.methodLink "WomenByTheRoofsModel" 133 y_Mod_has ∈ gw := gt_7 115 rfl rfl
theorem ml_Lw_64 : Cond.methodLink "WomenByTheRoofsLaw" 64 y_Mod_build ∈ gw := gt_7 118 rfl rfl
theorem ml_Mod_272 : Cond.methodLink "WomenByTheRoofsModel" 272 y_Mod_isUnder ∈ gw := gt_7 122 rfl rfl
theorem ml_Lw_68 : Cond.methodLink "WomenByTheRoofsLaw" 68 y_Mod_plank ∈ gw := gt_7 126 rfl rfl
theorem ml_Mod_290 : Cond.methodLink "WomenByTheRoofsModel" 290 y_Mod_plankRefusal ∈ gw := gt_7 130 rfl rfl
theorem ml_Mod_283 : Cond.methodLink "WomenByTheRoofsModel" 283 y_Mod_canBridge ∈ gw := gt_7 134 rfl rfl
theorem ml_Mod_280 : Cond.methodLink "WomenByTheRoofsModel" 280 y_Mod_between ∈ gw := gt_7 138 rfl rfl
theorem ml_Mod_275 : Cond.methodLink "WomenByTheRoofsModel" 275 y_JMath_abs ∈ gw := gt_7 142 rfl rfl
theorem ml_Mod_293 : Cond.methodLink "WomenByTheRoofsModel" 293 y_Mod_remember ∈ gw := gt_7 145 rfl rfl
theorem ml_Mod_286 : Cond.methodLink "WomenByTheRoofsModel" 286 y_Mod_lay ∈ gw := gt_7 149 rfl rfl
theorem ml_Mod_297 : Cond.methodLink "WomenByTheRoofsModel" 297 y_Mod_layPlank ∈ gw := gt_7 152 rfl rfl
theorem ml_Lw_72 : Cond.methodLink "WomenByTheRoofsLaw" 72 y_Mod_take ∈ gw := gt_7 156 rfl rfl
theorem ml_Lw_77 : Cond.methodLink "WomenByTheRoofsLaw" 77 y_Mod_sheet ∈ gw := gt_7 160 rfl rfl
theorem ml_Mod_301 : Cond.methodLink "WomenByTheRoofsModel" 301 y_JMath_min ∈ gw := gt_7 164 rfl rfl
theorem ml_Mod_304 : Cond.methodLink "WomenByTheRoofsModel" 304 y_JMath_max ∈ gw := gt_7 165 rfl rfl
theorem ml_Lw_81 : Cond.methodLink "WomenByTheRoofsLaw" 81 y_Mod_tell ∈ gw := gt_7 166 rfl rfl
theorem ml_Mod_307 : Cond.methodLink "WomenByTheRoofsModel" 307 y_Mod_canTell ∈ gw := gt_7 170 rfl rfl
theorem ml_Mod_310 : Cond.methodLink "WomenByTheRoofsModel" 310 y_JInteger_bitCount ∈ gw := gt_7 174 rfl rfl
theorem ml_Lw_85 : Cond.methodLink "WomenByTheRoofsLaw" 85 y_Mod_feast ∈ gw := gt_7 175 rfl rfl
theorem ml_Mod_315 : Cond.methodLink "WomenByTheRoofsModel" 315 y_Mod_canFeast ∈ gw := gt_7 179 rfl rfl
theorem ml_Mod_318 : Cond.methodLink "WomenByTheRoofsModel" 318 y_Mod_goFeast ∈ gw := gt_7 183 rfl rfl
theorem ml_Mod_321 : Cond.methodLink "WomenByTheRoofsModel" 321 y_Mod_womenBelow ∈ gw := gt_7 187 rfl rfl
theorem ml_Lw_89 : Cond.methodLink "WomenByTheRoofsLaw" 89 y_Mod_minute ∈ gw := gt_7 191 rfl rfl
theorem ml_Mod_339 : Cond.methodLink "WomenByTheRoofsModel" 339 y_Mod_goMinute ∈ gw := gt_7 195 rfl rfl
theorem ml_Mod_330 : Cond.methodLink "WomenByTheRoofsModel" 330 y_Mod_areMeeting ∈ gw := gt_7 199 rfl rfl
theorem ml_Mod_333 : Cond.methodLink "WomenByTheRoofsModel" 333 y_Mod_hears ∈ gw := gt_7 203 rfl rfl
theorem ml_Mod_342 : Cond.methodLink "WomenByTheRoofsModel" 342 y_Mod_put ∈ gw := gt_7 207 rfl rfl
theorem ml_Lw_93 : Cond.methodLink "WomenByTheRoofsLaw" 93 y_Mod_minutes ∈ gw := gt_7 211 rfl rfl
theorem ml_Lw_97 : Cond.methodLink "WomenByTheRoofsLaw" 97 y_Mod_evening ∈ gw := gt_7 215 rfl rfl
theorem ml_Mod_345 : Cond.methodLink "WomenByTheRoofsModel" 345 y_Mod_readAct ∈ gw := gt_7 219 rfl rfl
theorem ml_Mod_351 : Cond.methodLink "WomenByTheRoofsModel" 351 y_Mod_act ∈ gw := gt_7 223 rfl rfl
theorem ml_Lw_101 : Cond.methodLink "WomenByTheRoofsLaw" 101 y_Mod_undo ∈ gw := gt_7 227 rfl rfl
theorem ml_Lw_105 : Cond.methodLink "WomenByTheRoofsLaw" 105 y_Mod_met ∈ gw := gt_7 231 rfl rfl
theorem ml_Mod_354 : Cond.methodLink "WomenByTheRoofsModel" 354 y_Mod_areTwo ∈ gw := gt_7 235 rfl rfl
theorem ml_Lw_109 : Cond.methodLink "WomenByTheRoofsLaw" 109 y_Mod_ahead ∈ gw := gt_7 239 rfl rfl
theorem ml_Lw_113 : Cond.methodLink "WomenByTheRoofsLaw" 113 y_Mod_meet ∈ gw := gt_8 3 rfl rfl
theorem ml_Lw_117 : Cond.methodLink "WomenByTheRoofsLaw" 117 y_Mod_known ∈ gw := gt_8 7 rfl rfl
theorem ml_Lw_121 : Cond.methodLink "WomenByTheRoofsLaw" 121 y_Mod_gossip ∈ gw := gt_8 11 rfl rfl
theorem ml_Lw_125 : Cond.methodLink "WomenByTheRoofsLaw" 125 y_Mod_pieces ∈ gw := gt_8 15 rfl rfl
theorem ml_Mod_365 : Cond.methodLink "WomenByTheRoofsModel" 365 y_Mod_findFar ∈ gw := gt_8 19 rfl rfl
theorem ml_Mod_361 : Cond.methodLink "WomenByTheRoofsModel" 361 y_Mod_spread ∈ gw := gt_8 24 rfl rfl
theorem ml_Mod_358 : Cond.methodLink "WomenByTheRoofsModel" 358 y_Mod_lower ∈ gw := gt_8 28 rfl rfl
theorem ml_Mod_368 : Cond.methodLink "WomenByTheRoofsModel" 368 y_Mod_reached ∈ gw := gt_8 32 rfl rfl
theorem ml_Lw_129 : Cond.methodLink "WomenByTheRoofsLaw" 129 y_Mod_reach ∈ gw := gt_8 36 rfl rfl
theorem ml_Mod_371 : Cond.methodLink "WomenByTheRoofsModel" 371 y_Mod_putCells ∈ gw := gt_8 40 rfl rfl
theorem ml_Lw_134 : Cond.methodLink "WomenByTheRoofsLaw" 134 y_Mod_path ∈ gw := gt_8 44 rfl rfl
theorem ml_Mod_374 : Cond.methodLink "WomenByTheRoofsModel" 374 y_Mod_isPlaceOf ∈ gw := gt_8 48 rfl rfl
theorem ml_Lw_138 : Cond.methodLink "WomenByTheRoofsLaw" 138 y_Mod_both ∈ gw := gt_8 52 rfl rfl
theorem ml_Mod_377 : Cond.methodLink "WomenByTheRoofsModel" 377 y_Mod_lowerBoth ∈ gw := gt_8 56 rfl rfl
theorem ml_Lw_142 : Cond.methodLink "WomenByTheRoofsLaw" 142 y_Mod_errand ∈ gw := gt_8 60 rfl rfl
theorem ml_Mod_380 : Cond.methodLink "WomenByTheRoofsModel" 380 y_Mod_copy ∈ gw := gt_8 64 rfl rfl
theorem ml_Lw_146 : Cond.methodLink "WomenByTheRoofsLaw" 146 y_Mod_tryst ∈ gw := gt_8 67 rfl rfl
theorem ml_Mod_387 : Cond.methodLink "WomenByTheRoofsModel" 387 y_Mod_areManWoman ∈ gw := gt_8 71 rfl rfl
theorem ml_Mod_390 : Cond.methodLink "WomenByTheRoofsModel" 390 y_Mod_findTryst ∈ gw := gt_8 75 rfl rfl
theorem ml_Lw_150 : Cond.methodLink "WomenByTheRoofsLaw" 150 y_Mod_open ∈ gw := gt_8 79 rfl rfl
theorem ml_Lw_154 : Cond.methodLink "WomenByTheRoofsLaw" 154 y_Mod_part ∈ gw := gt_8 83 rfl rfl
theorem ml_Mod_393 : Cond.methodLink "WomenByTheRoofsModel" 393 y_Mod_parts ∈ gw := gt_8 87 rfl rfl
theorem ml_Lw_158 : Cond.methodLink "WomenByTheRoofsLaw" 158 y_Mod_planks ∈ gw := gt_8 91 rfl rfl
theorem ml_Lw_162 : Cond.methodLink "WomenByTheRoofsLaw" 162 y_Mod_fire ∈ gw := gt_8 95 rfl rfl
theorem ml_Lw_166 : Cond.methodLink "WomenByTheRoofsLaw" 166 y_Mod_fights ∈ gw := gt_8 99 rfl rfl
theorem ml_Mod_397 : Cond.methodLink "WomenByTheRoofsModel" 397 y_Mod_fights1 ∈ gw := gt_8 103 rfl rfl
theorem ml_Lw_170 : Cond.methodLink "WomenByTheRoofsLaw" 170 y_Mod_saved ∈ gw := gt_8 107 rfl rfl
theorem ml_Lw_174 : Cond.methodLink "WomenByTheRoofsLaw" 174 y_Mod_wardrobe ∈ gw := gt_8 111 rfl rfl
theorem ml_Mod_407 : Cond.methodLink "WomenByTheRoofsModel" 407 y_Mod_carryTo ∈ gw := gt_8 115 rfl rfl
theorem ml_Mod_400 : Cond.methodLink "WomenByTheRoofsModel" 400 y_Mod_plain ∈ gw := gt_8 119 rfl rfl
theorem ml_Mod_404 : Cond.methodLink "WomenByTheRoofsModel" 404 y_Mod_areNear ∈ gw := gt_8 123 rfl rfl
theorem ml_Lw_178 : Cond.methodLink "WomenByTheRoofsLaw" 178 y_Mod_flees ∈ gw := gt_8 127 rfl rfl
theorem ml_Mod_413 : Cond.methodLink "WomenByTheRoofsModel" 413 y_Mod_thiefIn ∈ gw := gt_8 131 rfl rfl
theorem ml_Mod_410 : Cond.methodLink "WomenByTheRoofsModel" 410 y_Mod_goThief ∈ gw := gt_8 135 rfl rfl
theorem ml_Mod_416 : Cond.methodLink "WomenByTheRoofsModel" 416 y_Mod_putMay ∈ gw := gt_8 139 rfl rfl
theorem ml_Lw_182 : Cond.methodLink "WomenByTheRoofsLaw" 182 y_Mod_lairs ∈ gw := gt_8 143 rfl rfl
theorem ml_Lw_186 : Cond.methodLink "WomenByTheRoofsLaw" 186 y_Mod_caught ∈ gw := gt_8 147 rfl rfl
theorem ml_Lw_190 : Cond.methodLink "WomenByTheRoofsLaw" 190 y_Mod_watch ∈ gw := gt_8 151 rfl rfl
theorem ml_Mod_423 : Cond.methodLink "WomenByTheRoofsModel" 423 y_Mod_gets ∈ gw := gt_8 155 rfl rfl
theorem ml_Mod_420 : Cond.methodLink "WomenByTheRoofsModel" 420 y_Mod_enter ∈ gw := gt_8 159 rfl rfl
theorem ml_Lw_194 : Cond.methodLink "WomenByTheRoofsLaw" 194 y_Mod_keep ∈ gw := gt_8 163 rfl rfl
theorem ml_Lw_198 : Cond.methodLink "WomenByTheRoofsLaw" 198 y_Mod_again ∈ gw := gt_8 167 rfl rfl
theorem ml_Lw_202 : Cond.methodLink "WomenByTheRoofsLaw" 202 y_Mod_count ∈ gw := gt_8 171 rfl rfl
theorem ml_Lw_206 : Cond.methodLink "WomenByTheRoofsLaw" 206 y_Mod_row ∈ gw := gt_8 175 rfl rfl
theorem yq_Top_sign : yV "WomenByTheRoofs" y_Top_sign b_Top_sign 2 (some .int) 1 := ⟨gt_2 162 rfl rfl, gt_2 163 rfl rfl, gt_1 1 rfl rfl, gt_2 164 rfl rfl, by decide +kernel, by decide⟩
theorem yq_Signs_add : yV "WomenByTheRoofs$Signs" y_Signs_add b_Signs_add 3 (some .boolean) 1 := ⟨gt_2 166 rfl rfl, gt_2 167 rfl rfl, gt_1 2 rfl rfl, gt_2 168 rfl rfl, by decide +kernel, by decide⟩
theorem yq_Top_end : yV "WomenByTheRoofs" y_Top_end b_Top_end 2 (some .boolean) 1 := ⟨gt_2 170 rfl rfl, gt_2 171 rfl rfl, gt_1 1 rfl rfl, gt_2 172 rfl rfl, by decide +kernel, by decide⟩
theorem yq_Top_town : yV "WomenByTheRoofs" y_Top_town b_Top_town 2 (some .int) 0 := ⟨gt_2 174 rfl rfl, gt_2 175 rfl rfl, gt_1 1 rfl rfl, gt_2 176 rfl rfl, by decide +kernel, by decide⟩
theorem yq_Ground_read : yV "WomenByTheRoofs$Ground" y_Ground_read b_Ground_read 9 (some .int) 1 := ⟨gt_2 178 rfl rfl, gt_2 179 rfl rfl, gt_1 3 rfl rfl, gt_2 180 rfl rfl, by decide +kernel, by decide⟩
theorem yq_Signs_at : yV "WomenByTheRoofs$Signs" y_Signs_at b_Signs_at 3 (some .int) 2 := ⟨gt_2 182 rfl rfl, gt_2 183 rfl rfl, gt_1 2 rfl rfl, gt_2 184 rfl rfl, by decide +kernel, by decide⟩
theorem yq_Ground_fits : yS y_Ground_fits b_Ground_fits 5 (some .boolean) 5 := ⟨gt_2 186 rfl rfl, gt_1 3 rfl rfl, gt_2 187 rfl rfl, by decide +kernel, by decide⟩
theorem yq_Ground_kindOf : yS y_Ground_kindOf b_Ground_kindOf 1 (some .int) 1 := ⟨gt_2 189 rfl rfl, gt_1 3 rfl rfl, gt_2 190 rfl rfl, by decide +kernel, by decide⟩
theorem yq_Ground_become : yV "WomenByTheRoofs$Ground" y_Ground_become b_Ground_become 4 (some .int) 2 := ⟨gt_2 193 rfl rfl, gp_1 0 rfl rfl, gt_1 3 rfl rfl, gt_2 194 rfl rfl, by decide +kernel, by decide⟩
theorem yq_Crowd_clear : yV "WomenByTheRoofs$Crowd" y_Crowd_clear b_Crowd_clear 1 none 0 := ⟨gt_2 196 rfl rfl, gt_2 197 rfl rfl, gt_1 4 rfl rfl, gt_2 198 rfl rfl, by decide +kernel, by decide⟩
theorem yq_Scene_clear : yV "WomenByTheRoofs$Scene" y_Scene_clear b_Scene_clear 2 none 0 := ⟨gt_2 200 rfl rfl, gt_2 201 rfl rfl, gt_1 5 rfl rfl, gt_2 202 rfl rfl, by decide +kernel, by decide⟩
theorem yq_Scene_put : yV "WomenByTheRoofs$Scene" y_Scene_put b_Scene_put 4 none 3 := ⟨gt_2 204 rfl rfl, gt_2 205 rfl rfl, gt_1 5 rfl rfl, gt_2 206 rfl rfl, by decide +kernel, by decide⟩
theorem yq_History_clear : yV "WomenByTheRoofs$History" y_History_clear b_History_clear 1 none 0 := ⟨gt_2 208 rfl rfl, gt_2 209 rfl rfl, gt_1 9 rfl rfl, gt_2 210 rfl rfl, by decide +kernel, by decide⟩
theorem yq_History_forget : yV "WomenByTheRoofs$History" y_History_forget b_History_forget 1 none 0 := ⟨gt_2 212 rfl rfl, gt_2 213 rfl rfl, gt_1 9 rfl rfl, gt_2 214 rfl rfl, by decide +kernel, by decide⟩
theorem yq_History_spoil : yV "WomenByTheRoofs$History" y_History_spoil b_History_spoil 1 none 0 := ⟨gt_2 216 rfl rfl, gt_2 217 rfl rfl, gt_1 9 rfl rfl, gt_2 218 rfl rfl, by decide +kernel, by decide⟩
theorem yq_Nets_lay : yV "WomenByTheRoofs$Nets" y_Nets_lay b_Nets_lay 6 none 3 := ⟨gt_2 220 rfl rfl, gt_2 221 rfl rfl, gt_1 6 rfl rfl, gt_2 222 rfl rfl, by decide +kernel, by decide⟩
theorem yq_Ground_holds : yV "WomenByTheRoofs$Ground" y_Ground_holds b_Ground_holds 3 (some .boolean) 2 := ⟨gt_2 224 rfl rfl, gt_2 225 rfl rfl, gt_1 3 rfl rfl, gt_2 226 rfl rfl, by decide +kernel, by decide⟩
theorem yq_Nets_link : yV "WomenByTheRoofs$Nets" y_Nets_link b_Nets_link 8 none 3 := ⟨gt_2 229 rfl rfl, gp_1 1 rfl rfl, gt_1 6 rfl rfl, gt_2 230 rfl rfl, by decide +kernel, by decide⟩
theorem yq_Ground_beside : yV "WomenByTheRoofs$Ground" y_Ground_beside b_Ground_beside 4 (some .int) 2 := ⟨gt_2 232 rfl rfl, gt_2 233 rfl rfl, gt_1 3 rfl rfl, gt_2 234 rfl rfl, by decide +kernel, by decide⟩
theorem yq_Nets_isOf : yV "WomenByTheRoofs$Nets" y_Nets_isOf b_Nets_isOf 3 (some .boolean) 2 := ⟨gt_2 236 rfl rfl, gt_2 237 rfl rfl, gt_1 6 rfl rfl, gt_2 238 rfl rfl, by decide +kernel, by decide⟩
theorem yq_Nets_bridge : yV "WomenByTheRoofs$Nets" y_Nets_bridge b_Nets_bridge 5 none 3 := ⟨gt_3 1 rfl rfl, gp_1 2 rfl rfl, gt_1 6 rfl rfl, gt_3 2 rfl rfl, by decide +kernel, by decide⟩
theorem yq_Ground_across : yV "WomenByTheRoofs$Ground" y_Ground_across b_Ground_across 4 (some .int) 2 := ⟨gt_3 4 rfl rfl, gt_3 5 rfl rfl, gt_1 3 rfl rfl, gt_3 6 rfl rfl, by decide +kernel, by decide⟩
theorem yq_Top_folk : yV "WomenByTheRoofs" y_Top_folk b_Top_folk 4 (some .int) 0 := ⟨gt_3 9 rfl rfl, gt_3 10 rfl rfl, gt_1 1 rfl rfl, gt_3 11 rfl rfl, by decide +kernel, by decide⟩
theorem yq_Crowd_read : yV "WomenByTheRoofs$Crowd" y_Crowd_read b_Crowd_read 6 (some .int) 2 := ⟨gt_3 13 rfl rfl, gt_3 14 rfl rfl, gt_1 4 rfl rfl, gt_3 15 rfl rfl, by decide +kernel, by decide⟩
theorem yq_Crowd_readLine : yV "WomenByTheRoofs$Crowd" y_Crowd_readLine b_Crowd_readLine 10 (some .int) 4 := ⟨gt_3 18 rfl rfl, gp_1 3 rfl rfl, gt_1 4 rfl rfl, gt_3 19 rfl rfl, by decide +kernel, by decide⟩
theorem yq_Signs_digits : yV "WomenByTheRoofs$Signs" y_Signs_digits b_Signs_digits 7 (some .int) 3 := ⟨gt_3 22 rfl rfl, gt_3 23 rfl rfl, gt_1 2 rfl rfl, gt_3 24 rfl rfl, by decide +kernel, by decide⟩
theorem yq_Crowd_isCutOff : yS y_Crowd_isCutOff b_Crowd_isCutOff 6 (some .boolean) 5 := ⟨gt_3 28 rfl rfl, gt_1 4 rfl rfl, gt_3 29 rfl rfl, by decide +kernel, by decide⟩
theorem yq_Signs_steps : yV "WomenByTheRoofs$Signs" y_Signs_steps b_Signs_steps 8 (some .int) 4 := ⟨gt_3 31 rfl rfl, gt_3 32 rfl rfl, gt_1 2 rfl rfl, gt_3 33 rfl rfl, by decide +kernel, by decide⟩
theorem yq_Signs_stepOf : yS y_Signs_stepOf b_Signs_stepOf 1 (some .int) 1 := ⟨gt_3 35 rfl rfl, gt_1 2 rfl rfl, gt_3 36 rfl rfl, by decide +kernel, by decide⟩
theorem yq_Crowd_letIn : yV "WomenByTheRoofs$Crowd" y_Crowd_letIn b_Crowd_letIn 2 none 1 := ⟨gt_3 38 rfl rfl, gt_3 39 rfl rfl, gt_1 4 rfl rfl, gt_3 40 rfl rfl, by decide +kernel, by decide⟩
theorem yq_Crowd_woman : yV "WomenByTheRoofs$Crowd" y_Crowd_woman b_Crowd_woman 2 (some .boolean) 1 := ⟨gt_3 42 rfl rfl, gt_3 43 rfl rfl, gt_1 4 rfl rfl, gt_3 44 rfl rfl, by decide +kernel, by decide⟩
theorem yq_Top_rule : yV "WomenByTheRoofs" y_Top_rule b_Top_rule 2 (some .int) 0 := ⟨gt_3 49 rfl rfl, gt_3 50 rfl rfl, gt_1 1 rfl rfl, gt_3 51 rfl rfl, by decide +kernel, by decide⟩
theorem yq_Law_read : yV "WomenByTheRoofs$Law" y_Law_read b_Law_read 6 (some .int) 1 := ⟨gt_3 53 rfl rfl, gt_3 54 rfl rfl, gt_1 7 rfl rfl, gt_3 55 rfl rfl, by decide +kernel, by decide⟩
theorem yq_Law_readBehind : yV "WomenByTheRoofs$Law" y_Law_readBehind b_Law_readBehind 3 (some .int) 1 := ⟨gt_3 59 rfl rfl, gp_1 4 rfl rfl, gt_1 7 rfl rfl, gt_3 60 rfl rfl, by decide +kernel, by decide⟩
theorem yq_Law_settle : yV "WomenByTheRoofs$Law" y_Law_settle b_Law_settle 3 none 1 := ⟨gt_3 63 rfl rfl, gp_1 5 rfl rfl, gt_1 7 rfl rfl, gt_3 64 rfl rfl, by decide +kernel, by decide⟩
theorem yq_Law_rankOf : yS y_Law_rankOf b_Law_rankOf 1 (some .int) 1 := ⟨gt_3 66 rfl rfl, gt_1 7 rfl rfl, gt_3 67 rfl rfl, by decide +kernel, by decide⟩
theorem yq_Law_emit : yV "WomenByTheRoofs$Law" y_Law_emit b_Law_emit 2 none 1 := ⟨gt_3 70 rfl rfl, gp_1 6 rfl rfl, gt_1 7 rfl rfl, gt_3 71 rfl rfl, by decide +kernel, by decide⟩
theorem yq_Law_hold : yV "WomenByTheRoofs$Law" y_Law_hold b_Law_hold 2 none 1 := ⟨gt_3 74 rfl rfl, gp_1 7 rfl rfl, gt_1 7 rfl rfl, gt_3 75 rfl rfl, by decide +kernel, by decide⟩
theorem yq_Law_readThing : yV "WomenByTheRoofs$Law" y_Law_readThing b_Law_readThing 5 (some .int) 3 := ⟨gt_3 78 rfl rfl, gp_1 8 rfl rfl, gt_1 7 rfl rfl, gt_3 79 rfl rfl, by decide +kernel, by decide⟩
theorem yq_Law_isQuality : yS y_Law_isQuality b_Law_isQuality 1 (some .boolean) 1 := ⟨gt_3 82 rfl rfl, gt_1 7 rfl rfl, gt_3 83 rfl rfl, by decide +kernel, by decide⟩
theorem yq_Top_route : yV "WomenByTheRoofs" y_Top_route b_Top_route 3 (some .int) 1 := ⟨gt_3 88 rfl rfl, gt_3 89 rfl rfl, gt_1 1 rfl rfl, gt_3 90 rfl rfl, by decide +kernel, by decide⟩
theorem yq_Crowd_has : yV "WomenByTheRoofs$Crowd" y_Crowd_has b_Crowd_has 2 (some .boolean) 1 := ⟨gt_3 92 rfl rfl, gt_3 93 rfl rfl, gt_1 4 rfl rfl, gt_3 94 rfl rfl, by decide +kernel, by decide⟩
theorem yq_Crowd_tellWay : yV "WomenByTheRoofs$Crowd" y_Crowd_tellWay b_Crowd_tellWay 5 (some .int) 2 := ⟨gt_3 96 rfl rfl, gt_3 97 rfl rfl, gt_1 4 rfl rfl, gt_3 98 rfl rfl, by decide +kernel, by decide⟩
theorem yq_Top_build : yV "WomenByTheRoofs" y_Top_build b_Top_build 4 (some .int) 2 := ⟨gt_3 101 rfl rfl, gt_3 102 rfl rfl, gt_1 1 rfl rfl, gt_3 103 rfl rfl, by decide +kernel, by decide⟩
theorem yq_Ground_has : yV "WomenByTheRoofs$Ground" y_Ground_has b_Ground_has 2 (some .boolean) 1 := ⟨gt_3 105 rfl rfl, gt_3 106 rfl rfl, gt_1 3 rfl rfl, gt_3 107 rfl rfl, by decide +kernel, by decide⟩
theorem yq_Top_canBecome : yV "WomenByTheRoofs" y_Top_canBecome b_Top_canBecome 5 (some .boolean) 2 := ⟨gt_3 110 rfl rfl, gp_1 9 rfl rfl, gt_1 1 rfl rfl, gt_3 111 rfl rfl, by decide +kernel, by decide⟩
theorem yq_Scene_standing : yV "WomenByTheRoofs$Scene" y_Scene_standing b_Scene_standing 6 (some .int) 3 := ⟨gt_3 113 rfl rfl, gt_3 114 rfl rfl, gt_1 5 rfl rfl, gt_3 115 rfl rfl, by decide +kernel, by decide⟩
theorem yq_Scene_isUnderPlank : yV "WomenByTheRoofs$Scene" y_Scene_isUnderPlank b_Scene_isUnderPlank 4 (some .boolean) 2 := ⟨gt_3 117 rfl rfl, gt_3 118 rfl rfl, gt_1 5 rfl rfl, gt_3 119 rfl rfl, by decide +kernel, by decide⟩
theorem yq_Ground_between : yV "WomenByTheRoofs$Ground" y_Ground_between b_Ground_between 3 (some .int) 2 := ⟨gt_3 121 rfl rfl, gt_3 122 rfl rfl, gt_1 3 rfl rfl, gt_3 123 rfl rfl, by decide +kernel, by decide⟩
theorem yq_Scene_planksAt : yV "WomenByTheRoofs$Scene" y_Scene_planksAt b_Scene_planksAt 4 (some .int) 1 := ⟨gt_3 126 rfl rfl, gt_3 127 rfl rfl, gt_1 5 rfl rfl, gt_3 128 rfl rfl, by decide +kernel, by decide⟩
theorem yq_Top_plank : yV "WomenByTheRoofs" y_Top_plank b_Top_plank 4 (some .int) 2 := ⟨gt_3 130 rfl rfl, gt_3 131 rfl rfl, gt_1 1 rfl rfl, gt_3 132 rfl rfl, by decide +kernel, by decide⟩
theorem yq_Scene_copy : yV "WomenByTheRoofs$Scene" y_Scene_copy b_Scene_copy 2 none 1 := ⟨gt_3 134 rfl rfl, gt_3 135 rfl rfl, gt_1 5 rfl rfl, gt_3 136 rfl rfl, by decide +kernel, by decide⟩
theorem yq_Top_lay : yV "WomenByTheRoofs" y_Top_lay b_Top_lay 4 (some .int) 2 := ⟨gt_3 140 rfl rfl, gp_1 10 rfl rfl, gt_1 1 rfl rfl, gt_3 141 rfl rfl, by decide +kernel, by decide⟩
theorem yq_Scene_hasPlank : yV "WomenByTheRoofs$Scene" y_Scene_hasPlank b_Scene_hasPlank 3 (some .boolean) 2 := ⟨gt_3 145 rfl rfl, gt_3 146 rfl rfl, gt_1 5 rfl rfl, gt_3 147 rfl rfl, by decide +kernel, by decide⟩
theorem yq_Scene_addPlank : yV "WomenByTheRoofs$Scene" y_Scene_addPlank b_Scene_addPlank 3 (some .boolean) 2 := ⟨gt_3 150 rfl rfl, gt_3 151 rfl rfl, gt_1 5 rfl rfl, gt_3 152 rfl rfl, by decide +kernel, by decide⟩
theorem yq_History_add : yV "WomenByTheRoofs$History" y_History_add b_History_add 4 none 1 := ⟨gt_3 154 rfl rfl, gt_3 155 rfl rfl, gt_1 9 rfl rfl, gt_3 156 rfl rfl, by decide +kernel, by decide⟩
theorem yq_Top_take : yV "WomenByTheRoofs" y_Top_take b_Top_take 1 (some .int) 0 := ⟨gt_3 159 rfl rfl, gt_3 160 rfl rfl, gt_1 1 rfl rfl, gt_3 161 rfl rfl, by decide +kernel, by decide⟩
theorem yq_Top_lift : yV "WomenByTheRoofs" y_Top_lift b_Top_lift 1 (some .boolean) 0 := ⟨gt_3 164 rfl rfl, gp_1 11 rfl rfl, gt_1 1 rfl rfl, gt_3 165 rfl rfl, by decide +kernel, by decide⟩
theorem yq_Top_sheet : yV "WomenByTheRoofs" y_Top_sheet b_Top_sheet 8 (some .int) 4 := ⟨gt_3 167 rfl rfl, gt_3 168 rfl rfl, gt_1 1 rfl rfl, gt_3 169 rfl rfl, by decide +kernel, by decide⟩
theorem yq_Top_narrow : yS y_Top_narrow b_Top_narrow 2 (some .int) 2 := ⟨gt_3 171 rfl rfl, gt_1 1 rfl rfl, gt_3 172 rfl rfl, by decide +kernel, by decide⟩
theorem yq_Crowd_within : yV "WomenByTheRoofs$Crowd" y_Crowd_within b_Crowd_within 3 (some .int) 2 := ⟨gt_3 174 rfl rfl, gt_3 175 rfl rfl, gt_1 4 rfl rfl, gt_3 176 rfl rfl, by decide +kernel, by decide⟩
theorem yq_JMath_min : yS y_JMath_min b_JMath_min 2 (some .int) 2 := ⟨gt_3 178 rfl rfl, gt_1 22 rfl rfl, gt_3 179 rfl rfl, by decide +kernel, by decide⟩
theorem yq_JMath_max : yS y_JMath_max b_JMath_max 2 (some .int) 2 := ⟨gt_3 181 rfl rfl, gt_1 22 rfl rfl, gt_3 182 rfl rfl, by decide +kernel, by decide⟩
theorem yq_Top_tell : yV "WomenByTheRoofs" y_Top_tell b_Top_tell 2 (some .int) 1 := ⟨gt_3 184 rfl rfl, gt_3 185 rfl rfl, gt_1 1 rfl rfl, gt_3 186 rfl rfl, by decide +kernel, by decide⟩
theorem yq_Top_give : yV "WomenByTheRoofs" y_Top_give b_Top_give 2 (some .boolean) 1 := ⟨gt_3 189 rfl rfl, gp_1 12 rfl rfl, gt_1 1 rfl rfl, gt_3 190 rfl rfl, by decide +kernel, by decide⟩
theorem yq_JInteger_bitCount : yS y_JInteger_bitCount b_JInteger_bitCount 1 (some .int) 1 := ⟨gt_3 192 rfl rfl, gt_1 21 rfl rfl, gt_3 193 rfl rfl, by decide +kernel, by decide⟩
theorem yq_Top_feast : yV "WomenByTheRoofs" y_Top_feast b_Top_feast 2 (some .int) 1 := ⟨gt_3 198 rfl rfl, gt_3 199 rfl rfl, gt_1 1 rfl rfl, gt_3 200 rfl rfl, by decide +kernel, by decide⟩
theorem yq_Top_celebrate : yV "WomenByTheRoofs" y_Top_celebrate b_Top_celebrate 3 (some .boolean) 1 := ⟨gt_3 203 rfl rfl, gp_1 13 rfl rfl, gt_1 1 rfl rfl, gt_3 204 rfl rfl, by decide +kernel, by decide⟩
theorem yq_Top_womenAreAstray : yV "WomenByTheRoofs" y_Top_womenAreAstray b_Top_womenAreAstray 2 (some .boolean) 0 := ⟨gt_3 207 rfl rfl, gp_1 14 rfl rfl, gt_1 1 rfl rfl, gt_3 208 rfl rfl, by decide +kernel, by decide⟩
theorem yq_Ground_isStair : yV "WomenByTheRoofs$Ground" y_Ground_isStair b_Ground_isStair 2 (some .boolean) 1 := ⟨gt_3 210 rfl rfl, gt_3 211 rfl rfl, gt_1 3 rfl rfl, gt_3 212 rfl rfl, by decide +kernel, by decide⟩
theorem yq_Top_womenBelow : yV "WomenByTheRoofs" y_Top_womenBelow b_Top_womenBelow 3 (some .int) 0 := ⟨gt_3 215 rfl rfl, gp_1 15 rfl rfl, gt_1 1 rfl rfl, gt_3 216 rfl rfl, by decide +kernel, by decide⟩
theorem yq_Top_minute : yV "WomenByTheRoofs" y_Top_minute b_Top_minute 1 (some .int) 0 := ⟨gt_3 218 rfl rfl, gt_3 219 rfl rfl, gt_1 1 rfl rfl, gt_3 220 rfl rfl, by decide +kernel, by decide⟩
theorem yq_Clock_pass : yV "WomenByTheRoofs$Clock" y_Clock_pass b_Clock_pass 8 none 5 := ⟨gt_3 222 rfl rfl, gt_3 223 rfl rfl, gt_1 8 rfl rfl, gt_3 224 rfl rfl, by decide +kernel, by decide⟩
theorem yq_Law_goes : yV "WomenByTheRoofs$Law" y_Law_goes b_Law_goes 7 (some .boolean) 4 := ⟨gt_3 226 rfl rfl, gt_3 227 rfl rfl, gt_1 7 rfl rfl, gt_3 228 rfl rfl, by decide +kernel, by decide⟩
theorem yq_Law_push : yV "WomenByTheRoofs$Law" y_Law_push b_Law_push 2 none 1 := ⟨gt_3 231 rfl rfl, gp_2 0 rfl rfl, gt_1 7 rfl rfl, gt_3 232 rfl rfl, by decide +kernel, by decide⟩
theorem yq_Law_quality : yS y_Law_quality b_Law_quality 6 (some .int) 5 := ⟨gt_3 234 rfl rfl, gt_1 7 rfl rfl, gt_3 235 rfl rfl, by decide +kernel, by decide⟩
theorem yq_Ground_column : yV "WomenByTheRoofs$Ground" y_Ground_column b_Ground_column 2 (some .int) 1 := ⟨gt_3 238 rfl rfl, gt_3 239 rfl rfl, gt_1 3 rfl rfl, gt_4 0 rfl rfl, by decide +kernel, by decide⟩
theorem yq_Ground_line : yV "WomenByTheRoofs$Ground" y_Ground_line b_Ground_line 2 (some .int) 1 := ⟨gt_4 2 rfl rfl, gt_4 3 rfl rfl, gt_1 3 rfl rfl, gt_4 4 rfl rfl, by decide +kernel, by decide⟩
theorem yq_Law_work : yV "WomenByTheRoofs$Law" y_Law_work b_Law_work 3 none 1 := ⟨gt_4 10 rfl rfl, gp_2 1 rfl rfl, gt_1 7 rfl rfl, gt_4 11 rfl rfl, by decide +kernel, by decide⟩
theorem yq_Law_pop : yV "WomenByTheRoofs$Law" y_Law_pop b_Law_pop 1 (some .int) 0 := ⟨gt_4 14 rfl rfl, gp_2 2 rfl rfl, gt_1 7 rfl rfl, gt_4 15 rfl rfl, by decide +kernel, by decide⟩
theorem yq_Law_joined : yS y_Law_joined b_Law_joined 3 (some .int) 3 := ⟨gt_4 17 rfl rfl, gt_1 7 rfl rfl, gt_4 18 rfl rfl, by decide +kernel, by decide⟩
theorem yq_Clock_move : yV "WomenByTheRoofs$Clock" y_Clock_move b_Clock_move 7 none 4 := ⟨gt_4 21 rfl rfl, gp_2 3 rfl rfl, gt_1 8 rfl rfl, gt_4 22 rfl rfl, by decide +kernel, by decide⟩
theorem yq_Crowd_stepAt : yV "WomenByTheRoofs$Crowd" y_Crowd_stepAt b_Crowd_stepAt 3 (some .int) 2 := ⟨gt_4 24 rfl rfl, gt_4 25 rfl rfl, gt_1 4 rfl rfl, gt_4 26 rfl rfl, by decide +kernel, by decide⟩
theorem yq_Nets_toward : yV "WomenByTheRoofs$Nets" y_Nets_toward b_Nets_toward 5 (some .int) 3 := ⟨gt_4 28 rfl rfl, gt_4 29 rfl rfl, gt_1 6 rfl rfl, gt_4 30 rfl rfl, by decide +kernel, by decide⟩
theorem yq_Crowd_placeBehind : yV "WomenByTheRoofs$Crowd" y_Crowd_placeBehind b_Crowd_placeBehind 3 (some .int) 2 := ⟨gt_4 32 rfl rfl, gt_4 33 rfl rfl, gt_1 4 rfl rfl, gt_4 34 rfl rfl, by decide +kernel, by decide⟩
theorem yq_Clock_greet : yV "WomenByTheRoofs$Clock" y_Clock_greet b_Clock_greet 6 none 4 := ⟨gt_4 37 rfl rfl, gp_2 4 rfl rfl, gt_1 8 rfl rfl, gt_4 38 rfl rfl, by decide +kernel, by decide⟩
theorem yq_Scene_addMeeting : yV "WomenByTheRoofs$Scene" y_Scene_addMeeting b_Scene_addMeeting 3 none 2 := ⟨gt_4 42 rfl rfl, gt_4 43 rfl rfl, gt_1 5 rfl rfl, gt_4 44 rfl rfl, by decide +kernel, by decide⟩
theorem yq_Clock_hearers : yV "WomenByTheRoofs$Clock" y_Clock_hearers b_Clock_hearers 9 (some .int) 4 := ⟨gt_4 47 rfl rfl, gp_2 5 rfl rfl, gt_1 8 rfl rfl, gt_4 48 rfl rfl, by decide +kernel, by decide⟩
theorem yq_Top_emptyRow : yV "WomenByTheRoofs" y_Top_emptyRow b_Top_emptyRow 1 none 0 := ⟨gt_4 54 rfl rfl, gp_2 6 rfl rfl, gt_1 1 rfl rfl, gt_4 55 rfl rfl, by decide +kernel, by decide⟩
theorem yq_Top_note : yV "WomenByTheRoofs" y_Top_note b_Top_note 2 none 1 := ⟨gt_4 58 rfl rfl, gp_2 7 rfl rfl, gt_1 1 rfl rfl, gt_4 59 rfl rfl, by decide +kernel, by decide⟩
theorem yq_Top_minutes : yV "WomenByTheRoofs" y_Top_minutes b_Top_minutes 3 (some .int) 1 := ⟨gt_4 61 rfl rfl, gt_4 62 rfl rfl, gt_1 1 rfl rfl, gt_4 63 rfl rfl, by decide +kernel, by decide⟩
theorem yq_Clock_reset : yV "WomenByTheRoofs$Clock" y_Clock_reset b_Clock_reset 1 none 0 := ⟨gt_4 65 rfl rfl, gt_4 66 rfl rfl, gt_1 8 rfl rfl, gt_4 67 rfl rfl, by decide +kernel, by decide⟩
theorem yq_Top_evening : yV "WomenByTheRoofs" y_Top_evening b_Top_evening 4 (some .int) 0 := ⟨gt_4 69 rfl rfl, gt_4 70 rfl rfl, gt_1 1 rfl rfl, gt_4 71 rfl rfl, by decide +kernel, by decide⟩
theorem yq_Acts_read : yV "WomenByTheRoofs$Acts" y_Acts_read b_Acts_read 5 (some .int) 1 := ⟨gt_4 73 rfl rfl, gt_4 74 rfl rfl, gt_1 10 rfl rfl, gt_4 75 rfl rfl, by decide +kernel, by decide⟩
theorem yq_Acts_readAct : yV "WomenByTheRoofs$Acts" y_Acts_readAct b_Acts_readAct 4 (some .int) 2 := ⟨gt_4 78 rfl rfl, gp_2 8 rfl rfl, gt_1 10 rfl rfl, gt_4 79 rfl rfl, by decide +kernel, by decide⟩
theorem yq_Acts_add : yV "WomenByTheRoofs$Acts" y_Acts_add b_Acts_add 4 none 3 := ⟨gt_4 83 rfl rfl, gp_2 9 rfl rfl, gt_1 10 rfl rfl, gt_4 84 rfl rfl, by decide +kernel, by decide⟩
theorem yq_Acts_readLetter : yV "WomenByTheRoofs$Acts" y_Acts_readLetter b_Acts_readLetter 4 (some .int) 2 := ⟨gt_4 87 rfl rfl, gp_2 10 rfl rfl, gt_1 10 rfl rfl, gt_4 88 rfl rfl, by decide +kernel, by decide⟩
theorem yq_Acts_readNumber : yV "WomenByTheRoofs$Acts" y_Acts_readNumber b_Acts_readNumber 4 (some .int) 2 := ⟨gt_4 91 rfl rfl, gp_2 11 rfl rfl, gt_1 10 rfl rfl, gt_4 92 rfl rfl, by decide +kernel, by decide⟩
theorem yq_Acts_readPlank : yV "WomenByTheRoofs$Acts" y_Acts_readPlank b_Acts_readPlank 6 (some .int) 2 := ⟨gt_4 96 rfl rfl, gp_2 12 rfl rfl, gt_1 10 rfl rfl, gt_4 97 rfl rfl, by decide +kernel, by decide⟩
theorem yq_Top_does : yV "WomenByTheRoofs" y_Top_does b_Top_does 2 (some .boolean) 1 := ⟨gt_4 100 rfl rfl, gp_2 13 rfl rfl, gt_1 1 rfl rfl, gt_4 101 rfl rfl, by decide +kernel, by decide⟩
theorem yq_Top_lasts : yV "WomenByTheRoofs" y_Top_lasts b_Top_lasts 3 (some .boolean) 1 := ⟨gt_4 104 rfl rfl, gp_2 14 rfl rfl, gt_1 1 rfl rfl, gt_4 105 rfl rfl, by decide +kernel, by decide⟩
theorem yq_Top_undo : yV "WomenByTheRoofs" y_Top_undo b_Top_undo 1 (some .int) 0 := ⟨gt_4 107 rfl rfl, gt_4 108 rfl rfl, gt_1 1 rfl rfl, gt_4 109 rfl rfl, by decide +kernel, by decide⟩
theorem yq_History_back : yV "WomenByTheRoofs$History" y_History_back b_History_back 2 (some .boolean) 1 := ⟨gt_4 111 rfl rfl, gt_4 112 rfl rfl, gt_1 9 rfl rfl, gt_4 113 rfl rfl, by decide +kernel, by decide⟩
theorem yq_Top_met : yV "WomenByTheRoofs" y_Top_met b_Top_met 3 (some .int) 2 := ⟨gt_4 115 rfl rfl, gt_4 116 rfl rfl, gt_1 1 rfl rfl, gt_4 117 rfl rfl, by decide +kernel, by decide⟩
theorem yq_Top_areTwo : yV "WomenByTheRoofs" y_Top_areTwo b_Top_areTwo 3 (some .boolean) 2 := ⟨gt_4 120 rfl rfl, gp_2 15 rfl rfl, gt_1 1 rfl rfl, gt_4 121 rfl rfl, by decide +kernel, by decide⟩
theorem yq_Scene_meetingsOfTwo : yV "WomenByTheRoofs$Scene" y_Scene_meetingsOfTwo b_Scene_meetingsOfTwo 3 (some .int) 2 := ⟨gt_4 123 rfl rfl, gt_4 124 rfl rfl, gt_1 5 rfl rfl, gt_4 125 rfl rfl, by decide +kernel, by decide⟩
theorem yq_Top_ahead : yV "WomenByTheRoofs" y_Top_ahead b_Top_ahead 3 (some .int) 1 := ⟨gt_4 127 rfl rfl, gt_4 128 rfl rfl, gt_1 1 rfl rfl, gt_4 129 rfl rfl, by decide +kernel, by decide⟩
theorem yq_Top_meet : yV "WomenByTheRoofs" y_Top_meet b_Top_meet 5 (some .int) 2 := ⟨gt_4 131 rfl rfl, gt_4 132 rfl rfl, gt_1 1 rfl rfl, gt_4 133 rfl rfl, by decide +kernel, by decide⟩
theorem yq_Top_known : yV "WomenByTheRoofs" y_Top_known b_Top_known 4 (some .int) 0 := ⟨gt_4 135 rfl rfl, gt_4 136 rfl rfl, gt_1 1 rfl rfl, gt_4 137 rfl rfl, by decide +kernel, by decide⟩
theorem yq_Top_gossip : yV "WomenByTheRoofs" y_Top_gossip b_Top_gossip 7 (some .int) 1 := ⟨gt_4 139 rfl rfl, gt_4 140 rfl rfl, gt_1 1 rfl rfl, gt_4 141 rfl rfl, by decide +kernel, by decide⟩
theorem yq_Top_hearers : yV "WomenByTheRoofs" y_Top_hearers b_Top_hearers 4 (some .int) 2 := ⟨gt_4 144 rfl rfl, gp_3 0 rfl rfl, gt_1 1 rfl rfl, gt_4 145 rfl rfl, by decide +kernel, by decide⟩
theorem yq_Top_pieces : yV "WomenByTheRoofs" y_Top_pieces b_Top_pieces 10 (some .int) 1 := ⟨gt_4 147 rfl rfl, gt_4 148 rfl rfl, gt_1 1 rfl rfl, gt_4 149 rfl rfl, by decide +kernel, by decide⟩
theorem yq_Nets_flood : yV "WomenByTheRoofs$Nets" y_Nets_flood b_Nets_flood 13 (some .long) 3 := ⟨gt_4 151 rfl rfl, gt_4 152 rfl rfl, gt_1 6 rfl rfl, gt_4 153 rfl rfl, by decide +kernel, by decide⟩
theorem yq_JLong_numberOfTrailingZeros : yS y_JLong_numberOfTrailingZeros b_JLong_numberOfTrailingZeros 3 (some .int) 1 := ⟨gt_4 155 rfl rfl, gt_1 20 rfl rfl, gt_4 156 rfl rfl, by decide +kernel, by decide⟩
theorem yq_JInteger_numberOfTrailingZeros : yS y_JInteger_numberOfTrailingZeros b_JInteger_numberOfTrailingZeros 2 (some .int) 1 := ⟨gt_4 158 rfl rfl, gt_1 21 rfl rfl, gt_4 159 rfl rfl, by decide +kernel, by decide⟩
theorem yq_JLong_bitCount : yS y_JLong_bitCount b_JLong_bitCount 2 (some .int) 1 := ⟨gt_4 164 rfl rfl, gt_1 20 rfl rfl, gt_4 165 rfl rfl, by decide +kernel, by decide⟩
theorem yq_Top_reach : yV "WomenByTheRoofs" y_Top_reach b_Top_reach 5 (some .int) 2 := ⟨gt_4 170 rfl rfl, gt_4 171 rfl rfl, gt_1 1 rfl rfl, gt_4 172 rfl rfl, by decide +kernel, by decide⟩
theorem yq_Top_noteSet : yV "WomenByTheRoofs" y_Top_noteSet b_Top_noteSet 3 none 1 := ⟨gt_4 175 rfl rfl, gp_3 1 rfl rfl, gt_1 1 rfl rfl, gt_4 176 rfl rfl, by decide +kernel, by decide⟩
theorem yq_Top_path : yV "WomenByTheRoofs" y_Top_path b_Top_path 8 (some .int) 3 := ⟨gt_4 179 rfl rfl, gt_4 180 rfl rfl, gt_1 1 rfl rfl, gt_4 181 rfl rfl, by decide +kernel, by decide⟩
theorem yq_Nets_measure : yV "WomenByTheRoofs$Nets" y_Nets_measure b_Nets_measure 10 none 3 := ⟨gt_4 183 rfl rfl, gt_4 184 rfl rfl, gt_1 6 rfl rfl, gt_4 185 rfl rfl, by decide +kernel, by decide⟩
theorem yq_Nets_around : yV "WomenByTheRoofs$Nets" y_Nets_around b_Nets_around 7 (some .long) 2 := ⟨gt_4 188 rfl rfl, gt_4 189 rfl rfl, gt_1 6 rfl rfl, gt_4 190 rfl rfl, by decide +kernel, by decide⟩
theorem yq_Nets_stepNearer : yV "WomenByTheRoofs$Nets" y_Nets_stepNearer b_Nets_stepNearer 6 (some .int) 3 := ⟨gt_4 193 rfl rfl, gt_4 194 rfl rfl, gt_1 6 rfl rfl, gt_4 195 rfl rfl, by decide +kernel, by decide⟩
theorem yq_Top_both : yV "WomenByTheRoofs" y_Top_both b_Top_both 6 (some .int) 4 := ⟨gt_4 199 rfl rfl, gt_4 200 rfl rfl, gt_1 1 rfl rfl, gt_4 201 rfl rfl, by decide +kernel, by decide⟩
theorem yq_Ways_acrossLevels : yV "WomenByTheRoofs$Ways" y_Ways_acrossLevels b_Ways_acrossLevels 7 (some .int) 3 := ⟨gt_4 203 rfl rfl, gt_4 204 rfl rfl, gt_1 12 rfl rfl, gt_4 205 rfl rfl, by decide +kernel, by decide⟩
theorem yq_Ways_begin : yV "WomenByTheRoofs$Ways" y_Ways_begin b_Ways_begin 3 none 1 := ⟨gt_4 208 rfl rfl, gp_3 2 rfl rfl, gt_1 12 rfl rfl, gt_4 209 rfl rfl, by decide +kernel, by decide⟩
theorem yq_Ways_leave : yV "WomenByTheRoofs$Ways" y_Ways_leave b_Ways_leave 8 (some .boolean) 3 := ⟨gt_4 213 rfl rfl, gp_3 3 rfl rfl, gt_1 12 rfl rfl, gt_4 214 rfl rfl, by decide +kernel, by decide⟩
theorem yq_Ways_lower : yV "WomenByTheRoofs$Ways" y_Ways_lower b_Ways_lower 3 (some .boolean) 2 := ⟨gt_4 218 rfl rfl, gp_3 4 rfl rfl, gt_1 12 rfl rfl, gt_4 219 rfl rfl, by decide +kernel, by decide⟩
theorem yq_Nets_stairs : yV "WomenByTheRoofs$Nets" y_Nets_stairs b_Nets_stairs 1 (some .long) 0 := ⟨gt_4 221 rfl rfl, gt_4 222 rfl rfl, gt_1 6 rfl rfl, gt_4 223 rfl rfl, by decide +kernel, by decide⟩
theorem yq_Top_errand : yV "WomenByTheRoofs" y_Top_errand b_Top_errand 6 (some .int) 2 := ⟨gt_4 225 rfl rfl, gt_4 226 rfl rfl, gt_1 1 rfl rfl, gt_4 227 rfl rfl, by decide +kernel, by decide⟩
theorem yq_Top_handOver : yV "WomenByTheRoofs" y_Top_handOver b_Top_handOver 9 (some .int) 3 := ⟨gt_4 230 rfl rfl, gp_3 5 rfl rfl, gt_1 1 rfl rfl, gt_4 231 rfl rfl, by decide +kernel, by decide⟩
theorem yq_Top_tryst : yV "WomenByTheRoofs" y_Top_tryst b_Top_tryst 4 (some .int) 2 := ⟨gt_4 234 rfl rfl, gt_4 235 rfl rfl, gt_1 1 rfl rfl, gt_4 236 rfl rfl, by decide +kernel, by decide⟩
theorem yq_Top_areManAndWoman : yV "WomenByTheRoofs" y_Top_areManAndWoman b_Top_areManAndWoman 3 (some .boolean) 2 := ⟨gt_4 239 rfl rfl, gp_3 6 rfl rfl, gt_1 1 rfl rfl, gt_5 0 rfl rfl, by decide +kernel, by decide⟩
theorem yq_Top_soonestStair : yV "WomenByTheRoofs" y_Top_soonestStair b_Top_soonestStair 7 (some .int) 3 := ⟨gt_5 3 rfl rfl, gp_3 7 rfl rfl, gt_1 1 rfl rfl, gt_5 4 rfl rfl, by decide +kernel, by decide⟩
theorem yq_Ways_later : yV "WomenByTheRoofs$Ways" y_Ways_later b_Ways_later 2 (some .int) 1 := ⟨gt_5 7 rfl rfl, gt_5 8 rfl rfl, gt_1 12 rfl rfl, gt_5 9 rfl rfl, by decide +kernel, by decide⟩
theorem yq_Top_open : yV "WomenByTheRoofs" y_Top_open b_Top_open 7 (some .int) 2 := ⟨gt_5 12 rfl rfl, gt_5 13 rfl rfl, gt_1 1 rfl rfl, gt_5 14 rfl rfl, by decide +kernel, by decide⟩
theorem yq_Top_canOpen : yV "WomenByTheRoofs" y_Top_canOpen b_Top_canOpen 3 (some .boolean) 1 := ⟨gt_5 17 rfl rfl, gp_3 8 rfl rfl, gt_1 1 rfl rfl, gt_5 18 rfl rfl, by decide +kernel, by decide⟩
theorem yq_Top_trystWith : yV "WomenByTheRoofs" y_Top_trystWith b_Top_trystWith 5 (some .int) 3 := ⟨gt_5 21 rfl rfl, gp_3 9 rfl rfl, gt_1 1 rfl rfl, gt_5 22 rfl rfl, by decide +kernel, by decide⟩
theorem yq_Top_part : yV "WomenByTheRoofs" y_Top_part b_Top_part 9 (some .int) 2 := ⟨gt_5 24 rfl rfl, gt_5 25 rfl rfl, gt_1 1 rfl rfl, gt_5 26 rfl rfl, by decide +kernel, by decide⟩
theorem yq_Top_canTryst : yV "WomenByTheRoofs" y_Top_canTryst b_Top_canTryst 7 (some .boolean) 3 := ⟨gt_5 29 rfl rfl, gp_3 10 rfl rfl, gt_1 1 rfl rfl, gt_5 30 rfl rfl, by decide +kernel, by decide⟩
theorem yq_Top_roaming : yV "WomenByTheRoofs" y_Top_roaming b_Top_roaming 5 (some .long) 2 := ⟨gt_5 33 rfl rfl, gp_3 11 rfl rfl, gt_1 1 rfl rfl, gt_5 34 rfl rfl, by decide +kernel, by decide⟩
theorem yq_Top_partedBy : yV "WomenByTheRoofs" y_Top_partedBy b_Top_partedBy 12 (some .long) 5 := ⟨gt_5 37 rfl rfl, gp_3 12 rfl rfl, gt_1 1 rfl rfl, gt_5 38 rfl rfl, by decide +kernel, by decide⟩
theorem yq_Top_planks : yV "WomenByTheRoofs" y_Top_planks b_Top_planks 4 (some .int) 2 := ⟨gt_5 40 rfl rfl, gt_5 41 rfl rfl, gt_1 1 rfl rfl, gt_5 42 rfl rfl, by decide +kernel, by decide⟩
theorem yq_Ways_bridged : yV "WomenByTheRoofs$Ways" y_Ways_bridged b_Ways_bridged 8 (some .int) 4 := ⟨gt_5 44 rfl rfl, gt_5 45 rfl rfl, gt_1 12 rfl rfl, gt_5 46 rfl rfl, by decide +kernel, by decide⟩
theorem yq_Ways_cross : yV "WomenByTheRoofs$Ways" y_Ways_cross b_Ways_cross 8 (some .boolean) 3 := ⟨gt_5 49 rfl rfl, gp_3 13 rfl rfl, gt_1 12 rfl rfl, gt_5 50 rfl rfl, by decide +kernel, by decide⟩
theorem yq_Top_fire : yV "WomenByTheRoofs" y_Top_fire b_Top_fire 3 (some .int) 1 := ⟨gt_5 54 rfl rfl, gt_5 55 rfl rfl, gt_1 1 rfl rfl, gt_5 56 rfl rfl, by decide +kernel, by decide⟩
theorem yq_Top_fights : yV "WomenByTheRoofs" y_Top_fights b_Top_fights 4 (some .int) 1 := ⟨gt_5 58 rfl rfl, gt_5 59 rfl rfl, gt_1 1 rfl rfl, gt_5 60 rfl rfl, by decide +kernel, by decide⟩
theorem yq_Top_stepsToFire : yV "WomenByTheRoofs" y_Top_stepsToFire b_Top_stepsToFire 5 (some .int) 1 := ⟨gt_5 63 rfl rfl, gp_3 14 rfl rfl, gt_1 1 rfl rfl, gt_5 64 rfl rfl, by decide +kernel, by decide⟩
theorem yq_Top_saved : yV "WomenByTheRoofs" y_Top_saved b_Top_saved 3 (some .int) 0 := ⟨gt_5 68 rfl rfl, gt_5 69 rfl rfl, gt_1 1 rfl rfl, gt_5 70 rfl rfl, by decide +kernel, by decide⟩
theorem yq_Top_soonestAtFire : yV "WomenByTheRoofs" y_Top_soonestAtFire b_Top_soonestAtFire 5 (some .int) 1 := ⟨gt_5 73 rfl rfl, gp_3 15 rfl rfl, gt_1 1 rfl rfl, gt_5 74 rfl rfl, by decide +kernel, by decide⟩
theorem yq_Top_wardrobe : yV "WomenByTheRoofs" y_Top_wardrobe b_Top_wardrobe 7 (some .int) 2 := ⟨gt_5 76 rfl rfl, gt_5 77 rfl rfl, gt_1 1 rfl rfl, gt_5 78 rfl rfl, by decide +kernel, by decide⟩
theorem yq_Ways_measurePairs : yV "WomenByTheRoofs$Ways" y_Ways_measurePairs b_Ways_measurePairs 7 none 2 := ⟨gt_5 80 rfl rfl, gt_5 81 rfl rfl, gt_1 12 rfl rfl, gt_5 82 rfl rfl, by decide +kernel, by decide⟩
theorem yq_Ways_pairAfter : yV "WomenByTheRoofs$Ways" y_Ways_pairAfter b_Ways_pairAfter 9 (some .int) 3 := ⟨gt_5 84 rfl rfl, gt_5 85 rfl rfl, gt_1 12 rfl rfl, gt_5 86 rfl rfl, by decide +kernel, by decide⟩
theorem yq_Ways_toSide : yS y_Ways_toSide b_Ways_toSide 3 (some .int) 3 := ⟨gt_5 88 rfl rfl, gt_1 12 rfl rfl, gt_5 89 rfl rfl, by decide +kernel, by decide⟩
theorem yq_Ways_pairNearer : yV "WomenByTheRoofs$Ways" y_Ways_pairNearer b_Ways_pairNearer 5 (some .int) 2 := ⟨gt_5 91 rfl rfl, gt_5 92 rfl rfl, gt_1 12 rfl rfl, gt_5 93 rfl rfl, by decide +kernel, by decide⟩
theorem yq_Top_flees : yV "WomenByTheRoofs" y_Top_flees b_Top_flees 5 (some .int) 3 := ⟨gt_5 96 rfl rfl, gt_5 97 rfl rfl, gt_1 1 rfl rfl, gt_5 98 rfl rfl, by decide +kernel, by decide⟩
theorem yq_Thief_start : yV "WomenByTheRoofs$Thief" y_Thief_start b_Thief_start 3 none 2 := ⟨gt_5 100 rfl rfl, gt_5 101 rfl rfl, gt_1 11 rfl rfl, gt_5 102 rfl rfl, by decide +kernel, by decide⟩
theorem yq_Top_hunt : yV "WomenByTheRoofs" y_Top_hunt b_Top_hunt 1 none 0 := ⟨gt_5 105 rfl rfl, gp_4 0 rfl rfl, gt_1 1 rfl rfl, gt_5 106 rfl rfl, by decide +kernel, by decide⟩
theorem yq_Thief_stir : yV "WomenByTheRoofs$Thief" y_Thief_stir b_Thief_stir 6 none 1 := ⟨gt_5 108 rfl rfl, gt_5 109 rfl rfl, gt_1 11 rfl rfl, gt_5 110 rfl rfl, by decide +kernel, by decide⟩
theorem yq_Scene_occupied : yV "WomenByTheRoofs$Scene" y_Scene_occupied b_Scene_occupied 3 (some .long) 2 := ⟨gt_5 114 rfl rfl, gt_5 115 rfl rfl, gt_1 5 rfl rfl, gt_5 116 rfl rfl, by decide +kernel, by decide⟩
theorem yq_Scene_guarded : yV "WomenByTheRoofs$Scene" y_Scene_guarded b_Scene_guarded 6 (some .long) 2 := ⟨gt_5 118 rfl rfl, gt_5 119 rfl rfl, gt_1 5 rfl rfl, gt_5 120 rfl rfl, by decide +kernel, by decide⟩
theorem yq_Thief_record : yV "WomenByTheRoofs$Thief" y_Thief_record b_Thief_record 6 none 3 := ⟨gt_5 122 rfl rfl, gt_5 123 rfl rfl, gt_1 11 rfl rfl, gt_5 124 rfl rfl, by decide +kernel, by decide⟩
theorem yq_Thief_strike : yV "WomenByTheRoofs$Thief" y_Thief_strike b_Thief_strike 2 none 1 := ⟨gt_5 126 rfl rfl, gt_5 127 rfl rfl, gt_1 11 rfl rfl, gt_5 128 rfl rfl, by decide +kernel, by decide⟩
theorem yq_Thief_gone : yV "WomenByTheRoofs$Thief" y_Thief_gone b_Thief_gone 1 (some .boolean) 0 := ⟨gt_5 131 rfl rfl, gt_5 132 rfl rfl, gt_1 11 rfl rfl, gt_5 133 rfl rfl, by decide +kernel, by decide⟩
theorem yq_Top_lairs : yV "WomenByTheRoofs" y_Top_lairs b_Top_lairs 3 (some .int) 1 := ⟨gt_5 135 rfl rfl, gt_5 136 rfl rfl, gt_1 1 rfl rfl, gt_5 137 rfl rfl, by decide +kernel, by decide⟩
theorem yq_Top_caught : yV "WomenByTheRoofs" y_Top_caught b_Top_caught 4 (some .int) 2 := ⟨gt_5 139 rfl rfl, gt_5 140 rfl rfl, gt_1 1 rfl rfl, gt_5 141 rfl rfl, by decide +kernel, by decide⟩
theorem yq_Top_watch : yV "WomenByTheRoofs" y_Top_watch b_Top_watch 7 (some .int) 4 := ⟨gt_5 143 rfl rfl, gt_5 144 rfl rfl, gt_1 1 rfl rfl, gt_5 145 rfl rfl, by decide +kernel, by decide⟩
theorem yq_Top_slipsBy : yV "WomenByTheRoofs" y_Top_slipsBy b_Top_slipsBy 6 (some .boolean) 5 := ⟨gt_5 148 rfl rfl, gp_4 1 rfl rfl, gt_1 1 rfl rfl, gt_5 149 rfl rfl, by decide +kernel, by decide⟩
theorem yq_Thief_roam : yV "WomenByTheRoofs$Thief" y_Thief_roam b_Thief_roam 7 none 1 := ⟨gt_5 152 rfl rfl, gt_5 153 rfl rfl, gt_1 11 rfl rfl, gt_5 154 rfl rfl, by decide +kernel, by decide⟩
theorem yq_Thief_isIn : yV "WomenByTheRoofs$Thief" y_Thief_isIn b_Thief_isIn 3 (some .boolean) 2 := ⟨gt_5 157 rfl rfl, gt_5 158 rfl rfl, gt_1 11 rfl rfl, gt_5 159 rfl rfl, by decide +kernel, by decide⟩
theorem yq_Top_keep : yV "WomenByTheRoofs" y_Top_keep b_Top_keep 2 (some .boolean) 1 := ⟨gt_5 161 rfl rfl, gt_5 162 rfl rfl, gt_1 1 rfl rfl, gt_5 163 rfl rfl, by decide +kernel, by decide⟩
theorem yq_History_store : yV "WomenByTheRoofs$History" y_History_store b_History_store 3 (some .boolean) 2 := ⟨gt_5 165 rfl rfl, gt_5 166 rfl rfl, gt_1 9 rfl rfl, gt_5 167 rfl rfl, by decide +kernel, by decide⟩
theorem yq_Top_again : yV "WomenByTheRoofs" y_Top_again b_Top_again 2 (some .boolean) 1 := ⟨gt_5 169 rfl rfl, gt_5 170 rfl rfl, gt_1 1 rfl rfl, gt_5 171 rfl rfl, by decide +kernel, by decide⟩
theorem yq_History_restore : yV "WomenByTheRoofs$History" y_History_restore b_History_restore 3 (some .boolean) 2 := ⟨gt_5 173 rfl rfl, gt_5 174 rfl rfl, gt_1 9 rfl rfl, gt_5 175 rfl rfl, by decide +kernel, by decide⟩
theorem yq_Top_count : yV "WomenByTheRoofs" y_Top_count b_Top_count 2 (some .int) 1 := ⟨gt_5 177 rfl rfl, gt_5 178 rfl rfl, gt_1 1 rfl rfl, gt_5 179 rfl rfl, by decide +kernel, by decide⟩
theorem yq_Scene_allMeetings : yV "WomenByTheRoofs$Scene" y_Scene_allMeetings b_Scene_allMeetings 3 (some .int) 0 := ⟨gt_5 181 rfl rfl, gt_5 182 rfl rfl, gt_1 5 rfl rfl, gt_5 183 rfl rfl, by decide +kernel, by decide⟩
theorem yq_Top_cell : yV "WomenByTheRoofs" y_Top_cell b_Top_cell 3 (some .int) 2 := ⟨gt_5 189 rfl rfl, gt_5 190 rfl rfl, gt_1 1 rfl rfl, gt_5 191 rfl rfl, by decide +kernel, by decide⟩
theorem yq_Top_person : yV "WomenByTheRoofs" y_Top_person b_Top_person 3 (some .int) 2 := ⟨gt_6 17 rfl rfl, gt_6 18 rfl rfl, gt_1 1 rfl rfl, gt_6 19 rfl rfl, by decide +kernel, by decide⟩
theorem yq_Scene_meetingsOf : yV "WomenByTheRoofs$Scene" y_Scene_meetingsOf b_Scene_meetingsOf 4 (some .int) 1 := ⟨gt_6 21 rfl rfl, gt_6 22 rfl rfl, gt_1 5 rfl rfl, gt_6 23 rfl rfl, by decide +kernel, by decide⟩
theorem yq_Top_row : yV "WomenByTheRoofs" y_Top_row b_Top_row 2 (some .int) 1 := ⟨gt_6 30 rfl rfl, gt_6 31 rfl rfl, gt_1 1 rfl rfl, gt_6 32 rfl rfl, by decide +kernel, by decide⟩
theorem yq_Mod_sign : yV "WomenByTheRoofsModel" y_Mod_sign b_Mod_sign 3 (some .int) 1 := ⟨gt_6 199 rfl rfl, gt_6 200 rfl rfl, gt_1 13 rfl rfl, gt_6 201 rfl rfl, by decide +kernel, by decide⟩
theorem yq_Mod_end : yV "WomenByTheRoofsModel" y_Mod_end b_Mod_end 2 (some .boolean) 1 := ⟨gt_6 203 rfl rfl, gt_6 204 rfl rfl, gt_1 13 rfl rfl, gt_6 205 rfl rfl, by decide +kernel, by decide⟩
theorem yq_Mod_in : yS y_Mod_in b_Mod_in 3 (some .boolean) 3 := ⟨gt_6 207 rfl rfl, gt_1 13 rfl rfl, gt_6 208 rfl rfl, by decide +kernel, by decide⟩
theorem yq_Mod_town : yV "WomenByTheRoofsModel" y_Mod_town b_Mod_town 5 (some .int) 0 := ⟨gt_6 210 rfl rfl, gt_6 211 rfl rfl, gt_1 13 rfl rfl, gt_6 212 rfl rfl, by decide +kernel, by decide⟩
theorem yq_Mod_begin : yV "WomenByTheRoofsModel" y_Mod_begin b_Mod_begin 4 none 3 := ⟨gt_6 215 rfl rfl, gp_4 3 rfl rfl, gt_1 13 rfl rfl, gt_6 216 rfl rfl, by decide +kernel, by decide⟩
theorem yq_Mod_fine : yV "WomenByTheRoofsModel" y_Mod_fine b_Mod_fine 1 (some .boolean) 0 := ⟨gt_6 219 rfl rfl, gp_4 4 rfl rfl, gt_1 13 rfl rfl, gt_6 220 rfl rfl, by decide +kernel, by decide⟩
theorem yq_Mod_fault : yV "WomenByTheRoofsModel" y_Mod_fault b_Mod_fault 2 none 1 := ⟨gt_6 223 rfl rfl, gp_4 5 rfl rfl, gt_1 13 rfl rfl, gt_6 224 rfl rfl, by decide +kernel, by decide⟩
theorem yq_Mod_here : yV "WomenByTheRoofsModel" y_Mod_here b_Mod_here 1 (some .int) 0 := ⟨gt_6 227 rfl rfl, gp_4 6 rfl rfl, gt_1 13 rfl rfl, gt_6 228 rfl rfl, by decide +kernel, by decide⟩
theorem yq_Mod_kindOf : yS y_Mod_kindOf b_Mod_kindOf 1 (some .int) 1 := ⟨gt_6 230 rfl rfl, gt_1 13 rfl rfl, gt_6 231 rfl rfl, by decide +kernel, by decide⟩
theorem yq_Mod_passes : yV "WomenByTheRoofsModel" y_Mod_passes b_Mod_passes 2 (some .boolean) 1 := ⟨gt_6 234 rfl rfl, gp_4 7 rfl rfl, gt_1 13 rfl rfl, gt_6 235 rfl rfl, by decide +kernel, by decide⟩
theorem yq_Mod_folk : yV "WomenByTheRoofsModel" y_Mod_folk b_Mod_folk 4 (some .int) 0 := ⟨gt_6 237 rfl rfl, gt_6 238 rfl rfl, gt_1 13 rfl rfl, gt_6 239 rfl rfl, by decide +kernel, by decide⟩
theorem yq_Mod_readOne : yV "WomenByTheRoofsModel" y_Mod_readOne b_Mod_readOne 2 none 1 := ⟨gt_7 2 rfl rfl, gp_4 8 rfl rfl, gt_1 13 rfl rfl, gt_7 3 rfl rfl, by decide +kernel, by decide⟩
theorem yq_Mod_number : yV "WomenByTheRoofsModel" y_Mod_number b_Mod_number 4 (some .int) 1 := ⟨gt_7 6 rfl rfl, gp_4 9 rfl rfl, gt_1 13 rfl rfl, gt_7 7 rfl rfl, by decide +kernel, by decide⟩
theorem yq_Mod_isOf : yV "WomenByTheRoofsModel" y_Mod_isOf b_Mod_isOf 3 (some .boolean) 2 := ⟨gt_7 10 rfl rfl, gp_4 10 rfl rfl, gt_1 13 rfl rfl, gt_7 11 rfl rfl, by decide +kernel, by decide⟩
theorem yq_Mod_isCell : yV "WomenByTheRoofsModel" y_Mod_isCell b_Mod_isCell 2 (some .boolean) 1 := ⟨gt_7 14 rfl rfl, gp_4 11 rfl rfl, gt_1 13 rfl rfl, gt_7 15 rfl rfl, by decide +kernel, by decide⟩
theorem yq_Mod_cells : yV "WomenByTheRoofsModel" y_Mod_cells b_Mod_cells 1 (some .int) 0 := ⟨gt_7 18 rfl rfl, gp_4 12 rfl rfl, gt_1 13 rfl rfl, gt_7 19 rfl rfl, by decide +kernel, by decide⟩
theorem yq_Mod_need : yV "WomenByTheRoofsModel" y_Mod_need b_Mod_need 2 none 1 := ⟨gt_7 22 rfl rfl, gp_4 13 rfl rfl, gt_1 13 rfl rfl, gt_7 23 rfl rfl, by decide +kernel, by decide⟩
theorem yq_Mod_readRoute : yV "WomenByTheRoofsModel" y_Mod_readRoute b_Mod_readRoute 4 (some .int) 2 := ⟨gt_7 26 rfl rfl, gp_4 14 rfl rfl, gt_1 13 rfl rfl, gt_7 27 rfl rfl, by decide +kernel, by decide⟩
theorem yq_Mod_stepOf : yS y_Mod_stepOf b_Mod_stepOf 1 (some .int) 1 := ⟨gt_7 29 rfl rfl, gt_1 13 rfl rfl, gt_7 30 rfl rfl, by decide +kernel, by decide⟩
theorem yq_Mod_come : yV "WomenByTheRoofsModel" y_Mod_come b_Mod_come 4 none 1 := ⟨gt_7 33 rfl rfl, gp_4 15 rfl rfl, gt_1 13 rfl rfl, gt_7 34 rfl rfl, by decide +kernel, by decide⟩
theorem yq_Mod_placeOf : yS y_Mod_placeOf b_Mod_placeOf 2 (some .int) 2 := ⟨gt_7 36 rfl rfl, gt_1 13 rfl rfl, gt_7 37 rfl rfl, by decide +kernel, by decide⟩
theorem yq_Mod_route : yV "WomenByTheRoofsModel" y_Mod_route b_Mod_route 4 (some .int) 1 := ⟨gt_7 39 rfl rfl, gt_7 40 rfl rfl, gt_1 13 rfl rfl, gt_7 41 rfl rfl, by decide +kernel, by decide⟩
theorem yq_Mod_isOne : yV "WomenByTheRoofsModel" y_Mod_isOne b_Mod_isOne 2 (some .boolean) 1 := ⟨gt_7 44 rfl rfl, gp_5 0 rfl rfl, gt_1 13 rfl rfl, gt_7 45 rfl rfl, by decide +kernel, by decide⟩
theorem yq_Mod_rule : yV "WomenByTheRoofsModel" y_Mod_rule b_Mod_rule 3 (some .int) 0 := ⟨gt_7 47 rfl rfl, gt_7 48 rfl rfl, gt_1 13 rfl rfl, gt_7 49 rfl rfl, by decide +kernel, by decide⟩
theorem yq_Mod_held : yV "WomenByTheRoofsModel" y_Mod_held b_Mod_held 3 (some .int) 1 := ⟨gt_7 52 rfl rfl, gp_5 1 rfl rfl, gt_1 13 rfl rfl, gt_7 53 rfl rfl, by decide +kernel, by decide⟩
theorem yq_Mod_sum : yV "WomenByTheRoofsModel" y_Mod_sum b_Mod_sum 5 (some .int) 1 := ⟨gt_7 56 rfl rfl, gp_5 2 rfl rfl, gt_1 13 rfl rfl, gt_7 57 rfl rfl, by decide +kernel, by decide⟩
theorem yq_Mod_product : yV "WomenByTheRoofsModel" y_Mod_product b_Mod_product 5 (some .int) 1 := ⟨gt_7 60 rfl rfl, gp_5 3 rfl rfl, gt_1 13 rfl rfl, gt_7 61 rfl rfl, by decide +kernel, by decide⟩
theorem yq_Mod_thing : yV "WomenByTheRoofsModel" y_Mod_thing b_Mod_thing 4 (some .int) 1 := ⟨gt_7 64 rfl rfl, gp_5 4 rfl rfl, gt_1 13 rfl rfl, gt_7 65 rfl rfl, by decide +kernel, by decide⟩
theorem yq_Mod_letter : yV "WomenByTheRoofsModel" y_Mod_letter b_Mod_letter 7 (some .int) 3 := ⟨gt_7 68 rfl rfl, gp_5 5 rfl rfl, gt_1 13 rfl rfl, gt_7 69 rfl rfl, by decide +kernel, by decide⟩
theorem yq_Mod_cellOf : yS y_Mod_cellOf b_Mod_cellOf 1 (some .int) 1 := ⟨gt_7 71 rfl rfl, gt_1 13 rfl rfl, gt_7 72 rfl rfl, by decide +kernel, by decide⟩
theorem yq_Mod_cell : yV "WomenByTheRoofsModel" y_Mod_cell b_Mod_cell 5 (some .int) 2 := ⟨gt_7 74 rfl rfl, gt_7 75 rfl rfl, gt_1 13 rfl rfl, gt_7 76 rfl rfl, by decide +kernel, by decide⟩
theorem yq_Mod_lost : yV "WomenByTheRoofsModel" y_Mod_lost b_Mod_lost 1 (some .int) 0 := ⟨gt_7 79 rfl rfl, gp_5 6 rfl rfl, gt_1 13 rfl rfl, gt_7 80 rfl rfl, by decide +kernel, by decide⟩
theorem yq_Mod_onPlace : yV "WomenByTheRoofsModel" y_Mod_onPlace b_Mod_onPlace 5 (some .int) 2 := ⟨gt_7 83 rfl rfl, gp_5 7 rfl rfl, gt_1 13 rfl rfl, gt_7 84 rfl rfl, by decide +kernel, by decide⟩
theorem yq_Mod_ways : yV "WomenByTheRoofsModel" y_Mod_ways b_Mod_ways 5 (some .int) 2 := ⟨gt_7 87 rfl rfl, gp_5 8 rfl rfl, gt_1 13 rfl rfl, gt_7 88 rfl rfl, by decide +kernel, by decide⟩
theorem yq_Mod_go : yV "WomenByTheRoofsModel" y_Mod_go b_Mod_go 7 (some .int) 3 := ⟨gt_7 91 rfl rfl, gp_5 9 rfl rfl, gt_1 13 rfl rfl, gt_7 92 rfl rfl, by decide +kernel, by decide⟩
theorem yq_Mod_levelOf : yS y_Mod_levelOf b_Mod_levelOf 1 (some .int) 1 := ⟨gt_7 94 rfl rfl, gt_1 13 rfl rfl, gt_7 95 rfl rfl, by decide +kernel, by decide⟩
theorem yq_Mod_beside : yV "WomenByTheRoofsModel" y_Mod_beside b_Mod_beside 5 (some .int) 2 := ⟨gt_7 98 rfl rfl, gp_5 10 rfl rfl, gt_1 13 rfl rfl, gt_7 99 rfl rfl, by decide +kernel, by decide⟩
theorem yq_Mod_isPlank : yS y_Mod_isPlank b_Mod_isPlank 6 (some .boolean) 3 := ⟨gt_7 101 rfl rfl, gt_1 13 rfl rfl, gt_7 102 rfl rfl, by decide +kernel, by decide⟩
theorem yq_Mod_person : yV "WomenByTheRoofsModel" y_Mod_person b_Mod_person 3 (some .int) 2 := ⟨gt_7 104 rfl rfl, gt_7 105 rfl rfl, gt_1 13 rfl rfl, gt_7 106 rfl rfl, by decide +kernel, by decide⟩
theorem yq_Mod_meetingsOf : yV "WomenByTheRoofsModel" y_Mod_meetingsOf b_Mod_meetingsOf 4 (some .int) 1 := ⟨gt_7 109 rfl rfl, gp_5 11 rfl rfl, gt_1 13 rfl rfl, gt_7 110 rfl rfl, by decide +kernel, by decide⟩
theorem yq_Mod_goes : yV "WomenByTheRoofsModel" y_Mod_goes b_Mod_goes 3 (some .boolean) 2 := ⟨gt_7 113 rfl rfl, gp_5 12 rfl rfl, gt_1 13 rfl rfl, gt_7 114 rfl rfl, by decide +kernel, by decide⟩
theorem yq_Mod_has : yS y_Mod_has b_Mod_has 2 (some .boolean) 2 := ⟨gt_7 116 rfl rfl, gt_1 13 rfl rfl, gt_7 117 rfl rfl, by decide +kernel, by decide⟩
theorem yq_Mod_build : yV "WomenByTheRoofsModel" y_Mod_build b_Mod_build 5 (some .int) 2 := ⟨gt_7 119 rfl rfl, gt_7 120 rfl rfl, gt_1 13 rfl rfl, gt_7 121 rfl rfl, by decide +kernel, by decide⟩
theorem yq_Mod_isUnder : yV "WomenByTheRoofsModel" y_Mod_isUnder b_Mod_isUnder 3 (some .boolean) 1 := ⟨gt_7 124 rfl rfl, gp_5 13 rfl rfl, gt_1 13 rfl rfl, gt_7 125 rfl rfl, by decide +kernel, by decide⟩
theorem yq_Mod_plank : yV "WomenByTheRoofsModel" y_Mod_plank b_Mod_plank 4 (some .int) 2 := ⟨gt_7 127 rfl rfl, gt_7 128 rfl rfl, gt_1 13 rfl rfl, gt_7 129 rfl rfl, by decide +kernel, by decide⟩
theorem yq_Mod_plankRefusal : yV "WomenByTheRoofsModel" y_Mod_plankRefusal b_Mod_plankRefusal 3 (some .int) 2 := ⟨gt_7 132 rfl rfl, gp_5 14 rfl rfl, gt_1 13 rfl rfl, gt_7 133 rfl rfl, by decide +kernel, by decide⟩
theorem yq_Mod_canBridge : yV "WomenByTheRoofsModel" y_Mod_canBridge b_Mod_canBridge 4 (some .boolean) 2 := ⟨gt_7 136 rfl rfl, gp_5 15 rfl rfl, gt_1 13 rfl rfl, gt_7 137 rfl rfl, by decide +kernel, by decide⟩
theorem yq_Mod_between : yV "WomenByTheRoofsModel" y_Mod_between b_Mod_between 5 (some .int) 2 := ⟨gt_7 140 rfl rfl, gp_6 0 rfl rfl, gt_1 13 rfl rfl, gt_7 141 rfl rfl, by decide +kernel, by decide⟩
theorem yq_JMath_abs : yS y_JMath_abs b_JMath_abs 1 (some .int) 1 := ⟨gt_7 143 rfl rfl, gt_1 22 rfl rfl, gt_7 144 rfl rfl, by decide +kernel, by decide⟩
theorem yq_Mod_remember : yV "WomenByTheRoofsModel" y_Mod_remember b_Mod_remember 3 none 1 := ⟨gt_7 147 rfl rfl, gp_6 1 rfl rfl, gt_1 13 rfl rfl, gt_7 148 rfl rfl, by decide +kernel, by decide⟩
theorem yq_Mod_lay : yS y_Mod_lay b_Mod_lay 4 none 3 := ⟨gt_7 150 rfl rfl, gt_1 13 rfl rfl, gt_7 151 rfl rfl, by decide +kernel, by decide⟩
theorem yq_Mod_layPlank : yV "WomenByTheRoofsModel" y_Mod_layPlank b_Mod_layPlank 4 none 2 := ⟨gt_7 154 rfl rfl, gp_6 2 rfl rfl, gt_1 13 rfl rfl, gt_7 155 rfl rfl, by decide +kernel, by decide⟩
theorem yq_Mod_take : yV "WomenByTheRoofsModel" y_Mod_take b_Mod_take 1 (some .int) 0 := ⟨gt_7 157 rfl rfl, gt_7 158 rfl rfl, gt_1 13 rfl rfl, gt_7 159 rfl rfl, by decide +kernel, by decide⟩
theorem yq_Mod_sheet : yV "WomenByTheRoofsModel" y_Mod_sheet b_Mod_sheet 9 (some .int) 4 := ⟨gt_7 161 rfl rfl, gt_7 162 rfl rfl, gt_1 13 rfl rfl, gt_7 163 rfl rfl, by decide +kernel, by decide⟩
theorem yq_Mod_tell : yV "WomenByTheRoofsModel" y_Mod_tell b_Mod_tell 2 (some .int) 1 := ⟨gt_7 167 rfl rfl, gt_7 168 rfl rfl, gt_1 13 rfl rfl, gt_7 169 rfl rfl, by decide +kernel, by decide⟩
theorem yq_Mod_canTell : yV "WomenByTheRoofsModel" y_Mod_canTell b_Mod_canTell 2 (some .boolean) 1 := ⟨gt_7 172 rfl rfl, gp_6 3 rfl rfl, gt_1 13 rfl rfl, gt_7 173 rfl rfl, by decide +kernel, by decide⟩
theorem yq_Mod_feast : yV "WomenByTheRoofsModel" y_Mod_feast b_Mod_feast 2 (some .int) 1 := ⟨gt_7 176 rfl rfl, gt_7 177 rfl rfl, gt_1 13 rfl rfl, gt_7 178 rfl rfl, by decide +kernel, by decide⟩
theorem yq_Mod_canFeast : yV "WomenByTheRoofsModel" y_Mod_canFeast b_Mod_canFeast 3 (some .boolean) 1 := ⟨gt_7 181 rfl rfl, gp_6 4 rfl rfl, gt_1 13 rfl rfl, gt_7 182 rfl rfl, by decide +kernel, by decide⟩
theorem yq_Mod_goFeast : yV "WomenByTheRoofsModel" y_Mod_goFeast b_Mod_goFeast 3 none 1 := ⟨gt_7 185 rfl rfl, gp_6 5 rfl rfl, gt_1 13 rfl rfl, gt_7 186 rfl rfl, by decide +kernel, by decide⟩
theorem yq_Mod_womenBelow : yV "WomenByTheRoofsModel" y_Mod_womenBelow b_Mod_womenBelow 3 (some .int) 0 := ⟨gt_7 189 rfl rfl, gp_6 6 rfl rfl, gt_1 13 rfl rfl, gt_7 190 rfl rfl, by decide +kernel, by decide⟩
theorem yq_Mod_minute : yV "WomenByTheRoofsModel" y_Mod_minute b_Mod_minute 1 (some .int) 0 := ⟨gt_7 192 rfl rfl, gt_7 193 rfl rfl, gt_1 13 rfl rfl, gt_7 194 rfl rfl, by decide +kernel, by decide⟩
theorem yq_Mod_goMinute : yV "WomenByTheRoofsModel" y_Mod_goMinute b_Mod_goMinute 4 none 1 := ⟨gt_7 197 rfl rfl, gp_6 7 rfl rfl, gt_1 13 rfl rfl, gt_7 198 rfl rfl, by decide +kernel, by decide⟩
theorem yq_Mod_areMeeting : yV "WomenByTheRoofsModel" y_Mod_areMeeting b_Mod_areMeeting 4 (some .boolean) 3 := ⟨gt_7 201 rfl rfl, gp_6 8 rfl rfl, gt_1 13 rfl rfl, gt_7 202 rfl rfl, by decide +kernel, by decide⟩
theorem yq_Mod_hears : yV "WomenByTheRoofsModel" y_Mod_hears b_Mod_hears 6 (some .int) 2 := ⟨gt_7 205 rfl rfl, gp_6 9 rfl rfl, gt_1 13 rfl rfl, gt_7 206 rfl rfl, by decide +kernel, by decide⟩
theorem yq_Mod_put : yV "WomenByTheRoofsModel" y_Mod_put b_Mod_put 2 none 1 := ⟨gt_7 209 rfl rfl, gp_6 10 rfl rfl, gt_1 13 rfl rfl, gt_7 210 rfl rfl, by decide +kernel, by decide⟩
theorem yq_Mod_minutes : yV "WomenByTheRoofsModel" y_Mod_minutes b_Mod_minutes 5 (some .int) 1 := ⟨gt_7 212 rfl rfl, gt_7 213 rfl rfl, gt_1 13 rfl rfl, gt_7 214 rfl rfl, by decide +kernel, by decide⟩
theorem yq_Mod_evening : yV "WomenByTheRoofsModel" y_Mod_evening b_Mod_evening 4 (some .int) 0 := ⟨gt_7 216 rfl rfl, gt_7 217 rfl rfl, gt_1 13 rfl rfl, gt_7 218 rfl rfl, by decide +kernel, by decide⟩
theorem yq_Mod_readAct : yV "WomenByTheRoofsModel" y_Mod_readAct b_Mod_readAct 3 none 1 := ⟨gt_7 221 rfl rfl, gp_6 11 rfl rfl, gt_1 13 rfl rfl, gt_7 222 rfl rfl, by decide +kernel, by decide⟩
theorem yq_Mod_act : yV "WomenByTheRoofsModel" y_Mod_act b_Mod_act 4 (some .boolean) 1 := ⟨gt_7 225 rfl rfl, gp_6 12 rfl rfl, gt_1 13 rfl rfl, gt_7 226 rfl rfl, by decide +kernel, by decide⟩
theorem yq_Mod_undo : yV "WomenByTheRoofsModel" y_Mod_undo b_Mod_undo 2 (some .int) 0 := ⟨gt_7 228 rfl rfl, gt_7 229 rfl rfl, gt_1 13 rfl rfl, gt_7 230 rfl rfl, by decide +kernel, by decide⟩
theorem yq_Mod_met : yV "WomenByTheRoofsModel" y_Mod_met b_Mod_met 3 (some .int) 2 := ⟨gt_7 232 rfl rfl, gt_7 233 rfl rfl, gt_1 13 rfl rfl, gt_7 234 rfl rfl, by decide +kernel, by decide⟩
theorem yq_Mod_areTwo : yV "WomenByTheRoofsModel" y_Mod_areTwo b_Mod_areTwo 3 (some .boolean) 2 := ⟨gt_7 237 rfl rfl, gp_6 13 rfl rfl, gt_1 13 rfl rfl, gt_7 238 rfl rfl, by decide +kernel, by decide⟩
theorem yq_Mod_ahead : yV "WomenByTheRoofsModel" y_Mod_ahead b_Mod_ahead 4 (some .int) 1 := ⟨gt_8 0 rfl rfl, gt_8 1 rfl rfl, gt_1 13 rfl rfl, gt_8 2 rfl rfl, by decide +kernel, by decide⟩
theorem yq_Mod_meet : yV "WomenByTheRoofsModel" y_Mod_meet b_Mod_meet 4 (some .int) 2 := ⟨gt_8 4 rfl rfl, gt_8 5 rfl rfl, gt_1 13 rfl rfl, gt_8 6 rfl rfl, by decide +kernel, by decide⟩
theorem yq_Mod_known : yV "WomenByTheRoofsModel" y_Mod_known b_Mod_known 3 (some .int) 0 := ⟨gt_8 8 rfl rfl, gt_8 9 rfl rfl, gt_1 13 rfl rfl, gt_8 10 rfl rfl, by decide +kernel, by decide⟩
theorem yq_Mod_gossip : yV "WomenByTheRoofsModel" y_Mod_gossip b_Mod_gossip 6 (some .int) 1 := ⟨gt_8 12 rfl rfl, gt_8 13 rfl rfl, gt_1 13 rfl rfl, gt_8 14 rfl rfl, by decide +kernel, by decide⟩
theorem yq_Mod_pieces : yV "WomenByTheRoofsModel" y_Mod_pieces b_Mod_pieces 7 (some .int) 1 := ⟨gt_8 16 rfl rfl, gt_8 17 rfl rfl, gt_1 13 rfl rfl, gt_8 18 rfl rfl, by decide +kernel, by decide⟩
theorem yq_Mod_findFar : yV "WomenByTheRoofsModel" y_Mod_findFar b_Mod_findFar 3 none 1 := ⟨gt_8 21 rfl rfl, gp_6 14 rfl rfl, gt_1 13 rfl rfl, gt_8 22 rfl rfl, by decide +kernel, by decide⟩
theorem yq_Mod_spread : yV "WomenByTheRoofsModel" y_Mod_spread b_Mod_spread 5 none 1 := ⟨gt_8 26 rfl rfl, gp_6 15 rfl rfl, gt_1 13 rfl rfl, gt_8 27 rfl rfl, by decide +kernel, by decide⟩
theorem yq_Mod_lower : yV "WomenByTheRoofsModel" y_Mod_lower b_Mod_lower 3 (some .boolean) 2 := ⟨gt_8 30 rfl rfl, gp_7 0 rfl rfl, gt_1 13 rfl rfl, gt_8 31 rfl rfl, by decide +kernel, by decide⟩
theorem yq_Mod_reached : yV "WomenByTheRoofsModel" y_Mod_reached b_Mod_reached 4 (some .int) 1 := ⟨gt_8 34 rfl rfl, gp_7 1 rfl rfl, gt_1 13 rfl rfl, gt_8 35 rfl rfl, by decide +kernel, by decide⟩
theorem yq_Mod_reach : yV "WomenByTheRoofsModel" y_Mod_reach b_Mod_reach 3 (some .int) 2 := ⟨gt_8 37 rfl rfl, gt_8 38 rfl rfl, gt_1 13 rfl rfl, gt_8 39 rfl rfl, by decide +kernel, by decide⟩
theorem yq_Mod_putCells : yV "WomenByTheRoofsModel" y_Mod_putCells b_Mod_putCells 3 none 1 := ⟨gt_8 42 rfl rfl, gp_7 2 rfl rfl, gt_1 13 rfl rfl, gt_8 43 rfl rfl, by decide +kernel, by decide⟩
theorem yq_Mod_path : yV "WomenByTheRoofsModel" y_Mod_path b_Mod_path 8 (some .int) 3 := ⟨gt_8 45 rfl rfl, gt_8 46 rfl rfl, gt_1 13 rfl rfl, gt_8 47 rfl rfl, by decide +kernel, by decide⟩
theorem yq_Mod_isPlaceOf : yV "WomenByTheRoofsModel" y_Mod_isPlaceOf b_Mod_isPlaceOf 3 (some .boolean) 2 := ⟨gt_8 50 rfl rfl, gp_7 3 rfl rfl, gt_1 13 rfl rfl, gt_8 51 rfl rfl, by decide +kernel, by decide⟩
theorem yq_Mod_both : yV "WomenByTheRoofsModel" y_Mod_both b_Mod_both 8 (some .int) 4 := ⟨gt_8 53 rfl rfl, gt_8 54 rfl rfl, gt_1 13 rfl rfl, gt_8 55 rfl rfl, by decide +kernel, by decide⟩
theorem yq_Mod_lowerBoth : yV "WomenByTheRoofsModel" y_Mod_lowerBoth b_Mod_lowerBoth 3 (some .boolean) 2 := ⟨gt_8 58 rfl rfl, gp_7 4 rfl rfl, gt_1 13 rfl rfl, gt_8 59 rfl rfl, by decide +kernel, by decide⟩
theorem yq_Mod_errand : yV "WomenByTheRoofsModel" y_Mod_errand b_Mod_errand 12 (some .int) 2 := ⟨gt_8 61 rfl rfl, gt_8 62 rfl rfl, gt_1 13 rfl rfl, gt_8 63 rfl rfl, by decide +kernel, by decide⟩
theorem yq_Mod_copy : yS y_Mod_copy b_Mod_copy 3 none 2 := ⟨gt_8 65 rfl rfl, gt_1 13 rfl rfl, gt_8 66 rfl rfl, by decide +kernel, by decide⟩
theorem yq_Mod_tryst : yV "WomenByTheRoofsModel" y_Mod_tryst b_Mod_tryst 4 (some .int) 2 := ⟨gt_8 68 rfl rfl, gt_8 69 rfl rfl, gt_1 13 rfl rfl, gt_8 70 rfl rfl, by decide +kernel, by decide⟩
theorem yq_Mod_areManWoman : yV "WomenByTheRoofsModel" y_Mod_areManWoman b_Mod_areManWoman 3 (some .boolean) 2 := ⟨gt_8 73 rfl rfl, gp_7 5 rfl rfl, gt_1 13 rfl rfl, gt_8 74 rfl rfl, by decide +kernel, by decide⟩
theorem yq_Mod_findTryst : yV "WomenByTheRoofsModel" y_Mod_findTryst b_Mod_findTryst 6 (some .int) 2 := ⟨gt_8 77 rfl rfl, gp_7 6 rfl rfl, gt_1 13 rfl rfl, gt_8 78 rfl rfl, by decide +kernel, by decide⟩
theorem yq_Mod_open : yV "WomenByTheRoofsModel" y_Mod_open b_Mod_open 8 (some .int) 2 := ⟨gt_8 80 rfl rfl, gt_8 81 rfl rfl, gt_1 13 rfl rfl, gt_8 82 rfl rfl, by decide +kernel, by decide⟩
theorem yq_Mod_part : yV "WomenByTheRoofsModel" y_Mod_part b_Mod_part 5 (some .int) 2 := ⟨gt_8 84 rfl rfl, gt_8 85 rfl rfl, gt_1 13 rfl rfl, gt_8 86 rfl rfl, by decide +kernel, by decide⟩
theorem yq_Mod_parts : yV "WomenByTheRoofsModel" y_Mod_parts b_Mod_parts 8 (some .boolean) 5 := ⟨gt_8 89 rfl rfl, gp_7 7 rfl rfl, gt_1 13 rfl rfl, gt_8 90 rfl rfl, by decide +kernel, by decide⟩
theorem yq_Mod_planks : yV "WomenByTheRoofsModel" y_Mod_planks b_Mod_planks 8 (some .int) 2 := ⟨gt_8 92 rfl rfl, gt_8 93 rfl rfl, gt_1 13 rfl rfl, gt_8 94 rfl rfl, by decide +kernel, by decide⟩
theorem yq_Mod_fire : yV "WomenByTheRoofsModel" y_Mod_fire b_Mod_fire 3 (some .int) 1 := ⟨gt_8 96 rfl rfl, gt_8 97 rfl rfl, gt_1 13 rfl rfl, gt_8 98 rfl rfl, by decide +kernel, by decide⟩
theorem yq_Mod_fights : yV "WomenByTheRoofsModel" y_Mod_fights b_Mod_fights 4 (some .int) 1 := ⟨gt_8 100 rfl rfl, gt_8 101 rfl rfl, gt_1 13 rfl rfl, gt_8 102 rfl rfl, by decide +kernel, by decide⟩
theorem yq_Mod_fights1 : yV "WomenByTheRoofsModel" y_Mod_fights1 b_Mod_fights1 5 (some .int) 1 := ⟨gt_8 105 rfl rfl, gp_7 8 rfl rfl, gt_1 13 rfl rfl, gt_8 106 rfl rfl, by decide +kernel, by decide⟩
theorem yq_Mod_saved : yV "WomenByTheRoofsModel" y_Mod_saved b_Mod_saved 7 (some .int) 0 := ⟨gt_8 108 rfl rfl, gt_8 109 rfl rfl, gt_1 13 rfl rfl, gt_8 110 rfl rfl, by decide +kernel, by decide⟩
theorem yq_Mod_wardrobe : yV "WomenByTheRoofsModel" y_Mod_wardrobe b_Mod_wardrobe 10 (some .int) 2 := ⟨gt_8 112 rfl rfl, gt_8 113 rfl rfl, gt_1 13 rfl rfl, gt_8 114 rfl rfl, by decide +kernel, by decide⟩
theorem yq_Mod_carryTo : yV "WomenByTheRoofsModel" y_Mod_carryTo b_Mod_carryTo 6 (some .int) 3 := ⟨gt_8 117 rfl rfl, gp_7 9 rfl rfl, gt_1 13 rfl rfl, gt_8 118 rfl rfl, by decide +kernel, by decide⟩
theorem yq_Mod_plain : yV "WomenByTheRoofsModel" y_Mod_plain b_Mod_plain 5 (some .int) 3 := ⟨gt_8 121 rfl rfl, gp_7 10 rfl rfl, gt_1 13 rfl rfl, gt_8 122 rfl rfl, by decide +kernel, by decide⟩
theorem yq_Mod_areNear : yV "WomenByTheRoofsModel" y_Mod_areNear b_Mod_areNear 4 (some .boolean) 2 := ⟨gt_8 125 rfl rfl, gp_7 11 rfl rfl, gt_1 13 rfl rfl, gt_8 126 rfl rfl, by decide +kernel, by decide⟩
theorem yq_Mod_flees : yV "WomenByTheRoofsModel" y_Mod_flees b_Mod_flees 5 (some .int) 3 := ⟨gt_8 128 rfl rfl, gt_8 129 rfl rfl, gt_1 13 rfl rfl, gt_8 130 rfl rfl, by decide +kernel, by decide⟩
theorem yq_Mod_thiefIn : yV "WomenByTheRoofsModel" y_Mod_thiefIn b_Mod_thiefIn 4 (some .int) 2 := ⟨gt_8 133 rfl rfl, gp_7 12 rfl rfl, gt_1 13 rfl rfl, gt_8 134 rfl rfl, by decide +kernel, by decide⟩
theorem yq_Mod_goThief : yV "WomenByTheRoofsModel" y_Mod_goThief b_Mod_goThief 3 (some .boolean) 0 := ⟨gt_8 137 rfl rfl, gp_7 13 rfl rfl, gt_1 13 rfl rfl, gt_8 138 rfl rfl, by decide +kernel, by decide⟩
theorem yq_Mod_putMay : yV "WomenByTheRoofsModel" y_Mod_putMay b_Mod_putMay 4 none 1 := ⟨gt_8 141 rfl rfl, gp_7 14 rfl rfl, gt_1 13 rfl rfl, gt_8 142 rfl rfl, by decide +kernel, by decide⟩
theorem yq_Mod_lairs : yV "WomenByTheRoofsModel" y_Mod_lairs b_Mod_lairs 4 (some .int) 1 := ⟨gt_8 144 rfl rfl, gt_8 145 rfl rfl, gt_1 13 rfl rfl, gt_8 146 rfl rfl, by decide +kernel, by decide⟩
theorem yq_Mod_caught : yV "WomenByTheRoofsModel" y_Mod_caught b_Mod_caught 4 (some .int) 2 := ⟨gt_8 148 rfl rfl, gt_8 149 rfl rfl, gt_1 13 rfl rfl, gt_8 150 rfl rfl, by decide +kernel, by decide⟩
theorem yq_Mod_watch : yV "WomenByTheRoofsModel" y_Mod_watch b_Mod_watch 7 (some .int) 4 := ⟨gt_8 152 rfl rfl, gt_8 153 rfl rfl, gt_1 13 rfl rfl, gt_8 154 rfl rfl, by decide +kernel, by decide⟩
theorem yq_Mod_gets : yV "WomenByTheRoofsModel" y_Mod_gets b_Mod_gets 7 (some .boolean) 3 := ⟨gt_8 157 rfl rfl, gp_7 15 rfl rfl, gt_1 13 rfl rfl, gt_8 158 rfl rfl, by decide +kernel, by decide⟩
theorem yq_Mod_enter : yV "WomenByTheRoofsModel" y_Mod_enter b_Mod_enter 3 (some .boolean) 2 := ⟨gt_8 161 rfl rfl, gp_8 0 rfl rfl, gt_1 13 rfl rfl, gt_8 162 rfl rfl, by decide +kernel, by decide⟩
theorem yq_Mod_keep : yV "WomenByTheRoofsModel" y_Mod_keep b_Mod_keep 2 (some .boolean) 1 := ⟨gt_8 164 rfl rfl, gt_8 165 rfl rfl, gt_1 13 rfl rfl, gt_8 166 rfl rfl, by decide +kernel, by decide⟩
theorem yq_Mod_again : yV "WomenByTheRoofsModel" y_Mod_again b_Mod_again 3 (some .boolean) 1 := ⟨gt_8 168 rfl rfl, gt_8 169 rfl rfl, gt_1 13 rfl rfl, gt_8 170 rfl rfl, by decide +kernel, by decide⟩
theorem yq_Mod_count : yV "WomenByTheRoofsModel" y_Mod_count b_Mod_count 4 (some .int) 1 := ⟨gt_8 172 rfl rfl, gt_8 173 rfl rfl, gt_1 13 rfl rfl, gt_8 174 rfl rfl, by decide +kernel, by decide⟩
theorem yq_Mod_row : yV "WomenByTheRoofsModel" y_Mod_row b_Mod_row 2 (some .int) 1 := ⟨gt_8 176 rfl rfl, gt_8 177 rfl rfl, gt_1 13 rfl rfl, gt_8 178 rfl rfl, by decide +kernel, by decide⟩
theorem kd_0 : kd 0 = 10 + 11 := by decide +kernel
theorem rf_0_0 : rf 0 0 = 1 := by decide +kernel
theorem rf_0_1 : rf 0 1 = 3 := by decide +kernel
theorem rf_0_2 : rf 0 2 = 6 := by decide +kernel
theorem rf_0_3 : rf 0 3 = 11 := by decide +kernel
theorem rf_0_4 : rf 0 4 = 18 := by decide +kernel
theorem rf_0_5 : rf 0 5 = 25 := by decide +kernel
theorem rf_0_6 : rf 0 6 = 32 := by decide +kernel
theorem rf_0_7 : rf 0 7 = 36 := by decide +kernel
theorem rf_0_8 : rf 0 8 = 40 := by decide +kernel
theorem rf_0_9 : rf 0 9 = 45 := by decide +kernel
theorem rf_0_10 : rf 0 10 = 46 := by decide +kernel
theorem rf_0_11 : rf 0 11 = 147 := by decide +kernel
theorem rf_0_12 : rf 0 12 = 151 := by decide +kernel
theorem rf_0_13 : rf 0 13 = 154 := by decide +kernel
theorem rf_0_14 : rf 0 14 = 161 := by decide +kernel
theorem kd_1 : kd 1 = 10 + 8 := by decide +kernel
theorem rf_1_0 : rf 1 0 = 2 := by decide +kernel
theorem kd_2 : kd 2 = 1 := by decide +kernel
theorem ln_2 : ln 2 = 80 := by decide +kernel
theorem kd_3 : kd 3 = 10 + 3 := by decide +kernel
theorem rf_3_0 : rf 3 0 = 4 := by decide +kernel
theorem rf_3_1 : rf 3 1 = 5 := by decide +kernel
theorem kd_4 : kd 4 = 1 := by decide +kernel
theorem ln_4 : ln 4 = 36 := by decide +kernel
theorem kd_5 : kd 5 = 1 := by decide +kernel
theorem ln_5 : ln 5 = 36 := by decide +kernel
theorem kd_6 : kd 6 = 10 + 2 := by decide +kernel
theorem rf_6_0 : rf 6 0 = 7 := by decide +kernel
theorem rf_6_1 : rf 6 1 = 8 := by decide +kernel
theorem rf_6_2 : rf 6 2 = 9 := by decide +kernel
theorem rf_6_3 : rf 6 3 = 10 := by decide +kernel
theorem kd_7 : kd 7 = 1 := by decide +kernel
theorem ln_7 : ln 7 = 72 := by decide +kernel
theorem kd_8 : kd 8 = 1 := by decide +kernel
theorem ln_8 : ln 8 = 8 := by decide +kernel
theorem kd_9 : kd 9 = 1 := by decide +kernel
theorem ln_9 : ln 9 = 8 := by decide +kernel
theorem kd_10 : kd 10 = 1 := by decide +kernel
theorem ln_10 : ln 10 = 9 := by decide +kernel
theorem kd_11 : kd 11 = 10 + 7 := by decide +kernel
theorem rf_11_0 : rf 11 0 = 12 := by decide +kernel
theorem rf_11_1 : rf 11 1 = 13 := by decide +kernel
theorem rf_11_2 : rf 11 2 = 14 := by decide +kernel
theorem rf_11_3 : rf 11 3 = 15 := by decide +kernel
theorem rf_11_4 : rf 11 4 = 16 := by decide +kernel
theorem rf_11_5 : rf 11 5 = 17 := by decide +kernel
theorem kd_12 : kd 12 = 1 := by decide +kernel
theorem ln_12 : ln 12 = 8 := by decide +kernel
theorem kd_13 : kd 13 = 1 := by decide +kernel
theorem ln_13 : ln 13 = 8 := by decide +kernel
theorem kd_14 : kd 14 = 1 := by decide +kernel
theorem ln_14 : ln 14 = 8 := by decide +kernel
theorem kd_15 : kd 15 = 1 := by decide +kernel
theorem ln_15 : ln 15 = 64 := by decide +kernel
theorem kd_16 : kd 16 = 1 := by decide +kernel
theorem ln_16 : ln 16 = 6 := by decide +kernel
theorem kd_17 : kd 17 = 1 := by decide +kernel
theorem ln_17 : ln 17 = 6 := by decide +kernel
theorem kd_18 : kd 18 = 10 + 7 := by decide +kernel
theorem rf_18_0 : rf 18 0 = 19 := by decide +kernel
theorem rf_18_1 : rf 18 1 = 20 := by decide +kernel
theorem rf_18_2 : rf 18 2 = 21 := by decide +kernel
theorem rf_18_3 : rf 18 3 = 22 := by decide +kernel
theorem rf_18_4 : rf 18 4 = 23 := by decide +kernel
theorem rf_18_5 : rf 18 5 = 24 := by decide +kernel
theorem kd_19 : kd 19 = 1 := by decide +kernel
theorem ln_19 : ln 19 = 8 := by decide +kernel
theorem kd_20 : kd 20 = 1 := by decide +kernel
theorem ln_20 : ln 20 = 8 := by decide +kernel
theorem kd_21 : kd 21 = 1 := by decide +kernel
theorem ln_21 : ln 21 = 8 := by decide +kernel
theorem kd_22 : kd 22 = 1 := by decide +kernel
theorem ln_22 : ln 22 = 64 := by decide +kernel
theorem kd_23 : kd 23 = 1 := by decide +kernel
theorem ln_23 : ln 23 = 6 := by decide +kernel
theorem kd_24 : kd 24 = 1 := by decide +kernel
theorem ln_24 : ln 24 = 6 := by decide +kernel
theorem kd_25 : kd 25 = 10 + 7 := by decide +kernel
theorem rf_25_0 : rf 25 0 = 26 := by decide +kernel
theorem rf_25_1 : rf 25 1 = 27 := by decide +kernel
theorem rf_25_2 : rf 25 2 = 28 := by decide +kernel
theorem rf_25_3 : rf 25 3 = 29 := by decide +kernel
theorem rf_25_4 : rf 25 4 = 30 := by decide +kernel
theorem rf_25_5 : rf 25 5 = 31 := by decide +kernel
theorem kd_26 : kd 26 = 1 := by decide +kernel
theorem ln_26 : ln 26 = 8 := by decide +kernel
theorem kd_27 : kd 27 = 1 := by decide +kernel
theorem ln_27 : ln 27 = 8 := by decide +kernel
theorem kd_28 : kd 28 = 1 := by decide +kernel
theorem ln_28 : ln 28 = 8 := by decide +kernel
theorem kd_29 : kd 29 = 1 := by decide +kernel
theorem ln_29 : ln 29 = 64 := by decide +kernel
theorem kd_30 : kd 30 = 1 := by decide +kernel
theorem ln_30 : ln 30 = 6 := by decide +kernel
theorem kd_31 : kd 31 = 1 := by decide +kernel
theorem ln_31 : ln 31 = 6 := by decide +kernel
theorem kd_32 : kd 32 = 10 + 6 := by decide +kernel
theorem rf_32_0 : rf 32 0 = 33 := by decide +kernel
theorem rf_32_1 : rf 32 1 = 34 := by decide +kernel
theorem rf_32_2 : rf 32 2 = 35 := by decide +kernel
theorem kd_33 : kd 33 = 4 := by decide +kernel
theorem ln_33 : ln 33 = 2 := by decide +kernel
theorem kd_34 : kd 34 = 4 := by decide +kernel
theorem ln_34 : ln 34 = 72 := by decide +kernel
theorem kd_35 : kd 35 = 1 := by decide +kernel
theorem ln_35 : ln 35 = 288 := by decide +kernel
theorem kd_36 : kd 36 = 10 + 6 := by decide +kernel
theorem rf_36_0 : rf 36 0 = 37 := by decide +kernel
theorem rf_36_1 : rf 36 1 = 38 := by decide +kernel
theorem rf_36_2 : rf 36 2 = 39 := by decide +kernel
theorem kd_37 : kd 37 = 4 := by decide +kernel
theorem ln_37 : ln 37 = 2 := by decide +kernel
theorem kd_38 : kd 38 = 4 := by decide +kernel
theorem ln_38 : ln 38 = 72 := by decide +kernel
theorem kd_39 : kd 39 = 1 := by decide +kernel
theorem ln_39 : ln 39 = 288 := by decide +kernel
theorem kd_40 : kd 40 = 10 + 5 := by decide +kernel
theorem rf_40_0 : rf 40 0 = 41 := by decide +kernel
theorem rf_40_1 : rf 40 1 = 42 := by decide +kernel
theorem rf_40_2 : rf 40 2 = 43 := by decide +kernel
theorem rf_40_3 : rf 40 3 = 44 := by decide +kernel
theorem kd_41 : kd 41 = 1 := by decide +kernel
theorem ln_41 : ln 41 = 40 := by decide +kernel
theorem kd_42 : kd 42 = 1 := by decide +kernel
theorem ln_42 : ln 42 = 40 := by decide +kernel
theorem kd_43 : kd 43 = 1 := by decide +kernel
theorem ln_43 : ln 43 = 40 := by decide +kernel
theorem kd_44 : kd 44 = 1 := by decide +kernel
theorem ln_44 : ln 44 = 40 := by decide +kernel
theorem kd_45 : kd 45 = 10 + 1 := by decide +kernel
theorem kd_46 : kd 46 = 10 + 4 := by decide +kernel
theorem rf_46_0 : rf 46 0 = 47 := by decide +kernel
theorem rf_46_1 : rf 46 1 = 48 := by decide +kernel
theorem kd_47 : kd 47 = 5 := by decide +kernel
theorem ln_47 : ln 47 = 12 := by decide +kernel
theorem kd_48 : kd 48 = 5 := by decide +kernel
theorem ln_48 : ln 48 = 2 := by decide +kernel
theorem kd_49 : kd 49 = 10 + 7 := by decide +kernel
theorem rf_49_0 : rf 49 0 = 50 := by decide +kernel
theorem rf_49_1 : rf 49 1 = 51 := by decide +kernel
theorem rf_49_2 : rf 49 2 = 52 := by decide +kernel
theorem rf_49_3 : rf 49 3 = 53 := by decide +kernel
theorem rf_49_4 : rf 49 4 = 54 := by decide +kernel
theorem rf_49_5 : rf 49 5 = 55 := by decide +kernel
theorem kd_50 : kd 50 = 1 := by decide +kernel
theorem ln_50 : ln 50 = 8 := by decide +kernel
theorem kd_51 : kd 51 = 1 := by decide +kernel
theorem ln_51 : ln 51 = 8 := by decide +kernel
theorem kd_52 : kd 52 = 1 := by decide +kernel
theorem ln_52 : ln 52 = 8 := by decide +kernel
theorem kd_53 : kd 53 = 1 := by decide +kernel
theorem ln_53 : ln 53 = 64 := by decide +kernel
theorem kd_54 : kd 54 = 1 := by decide +kernel
theorem ln_54 : ln 54 = 6 := by decide +kernel
theorem kd_55 : kd 55 = 1 := by decide +kernel
theorem ln_55 : ln 55 = 6 := by decide +kernel
theorem kd_56 : kd 56 = 10 + 7 := by decide +kernel
theorem rf_56_0 : rf 56 0 = 57 := by decide +kernel
theorem rf_56_1 : rf 56 1 = 58 := by decide +kernel
theorem rf_56_2 : rf 56 2 = 59 := by decide +kernel
theorem rf_56_3 : rf 56 3 = 60 := by decide +kernel
theorem rf_56_4 : rf 56 4 = 61 := by decide +kernel
theorem rf_56_5 : rf 56 5 = 62 := by decide +kernel
theorem kd_57 : kd 57 = 1 := by decide +kernel
theorem ln_57 : ln 57 = 8 := by decide +kernel
theorem kd_58 : kd 58 = 1 := by decide +kernel
theorem ln_58 : ln 58 = 8 := by decide +kernel
theorem kd_59 : kd 59 = 1 := by decide +kernel
theorem ln_59 : ln 59 = 8 := by decide +kernel
theorem kd_60 : kd 60 = 1 := by decide +kernel
theorem ln_60 : ln 60 = 64 := by decide +kernel
theorem kd_61 : kd 61 = 1 := by decide +kernel
theorem ln_61 : ln 61 = 6 := by decide +kernel
theorem kd_62 : kd 62 = 1 := by decide +kernel
theorem ln_62 : ln 62 = 6 := by decide +kernel
theorem kd_63 : kd 63 = 10 + 7 := by decide +kernel
theorem rf_63_0 : rf 63 0 = 64 := by decide +kernel
theorem rf_63_1 : rf 63 1 = 65 := by decide +kernel
theorem rf_63_2 : rf 63 2 = 66 := by decide +kernel
theorem rf_63_3 : rf 63 3 = 67 := by decide +kernel
theorem rf_63_4 : rf 63 4 = 68 := by decide +kernel
theorem rf_63_5 : rf 63 5 = 69 := by decide +kernel
theorem kd_64 : kd 64 = 1 := by decide +kernel
theorem ln_64 : ln 64 = 8 := by decide +kernel
theorem kd_65 : kd 65 = 1 := by decide +kernel
theorem ln_65 : ln 65 = 8 := by decide +kernel
theorem kd_66 : kd 66 = 1 := by decide +kernel
theorem ln_66 : ln 66 = 8 := by decide +kernel
theorem kd_67 : kd 67 = 1 := by decide +kernel
theorem ln_67 : ln 67 = 64 := by decide +kernel
theorem kd_68 : kd 68 = 1 := by decide +kernel
theorem ln_68 : ln 68 = 6 := by decide +kernel
theorem kd_69 : kd 69 = 1 := by decide +kernel
theorem ln_69 : ln 69 = 6 := by decide +kernel
theorem kd_70 : kd 70 = 10 + 7 := by decide +kernel
theorem rf_70_0 : rf 70 0 = 71 := by decide +kernel
theorem rf_70_1 : rf 70 1 = 72 := by decide +kernel
theorem rf_70_2 : rf 70 2 = 73 := by decide +kernel
theorem rf_70_3 : rf 70 3 = 74 := by decide +kernel
theorem rf_70_4 : rf 70 4 = 75 := by decide +kernel
theorem rf_70_5 : rf 70 5 = 76 := by decide +kernel
theorem kd_71 : kd 71 = 1 := by decide +kernel
theorem ln_71 : ln 71 = 8 := by decide +kernel
theorem kd_72 : kd 72 = 1 := by decide +kernel
theorem ln_72 : ln 72 = 8 := by decide +kernel
theorem kd_73 : kd 73 = 1 := by decide +kernel
theorem ln_73 : ln 73 = 8 := by decide +kernel
theorem kd_74 : kd 74 = 1 := by decide +kernel
theorem ln_74 : ln 74 = 64 := by decide +kernel
theorem kd_75 : kd 75 = 1 := by decide +kernel
theorem ln_75 : ln 75 = 6 := by decide +kernel
theorem kd_76 : kd 76 = 1 := by decide +kernel
theorem ln_76 : ln 76 = 6 := by decide +kernel
theorem kd_77 : kd 77 = 10 + 7 := by decide +kernel
theorem rf_77_0 : rf 77 0 = 78 := by decide +kernel
theorem rf_77_1 : rf 77 1 = 79 := by decide +kernel
theorem rf_77_2 : rf 77 2 = 80 := by decide +kernel
theorem rf_77_3 : rf 77 3 = 81 := by decide +kernel
theorem rf_77_4 : rf 77 4 = 82 := by decide +kernel
theorem rf_77_5 : rf 77 5 = 83 := by decide +kernel
theorem kd_78 : kd 78 = 1 := by decide +kernel
theorem ln_78 : ln 78 = 8 := by decide +kernel
theorem kd_79 : kd 79 = 1 := by decide +kernel
theorem ln_79 : ln 79 = 8 := by decide +kernel
theorem kd_80 : kd 80 = 1 := by decide +kernel
theorem ln_80 : ln 80 = 8 := by decide +kernel
theorem kd_81 : kd 81 = 1 := by decide +kernel
theorem ln_81 : ln 81 = 64 := by decide +kernel
theorem kd_82 : kd 82 = 1 := by decide +kernel
theorem ln_82 : ln 82 = 6 := by decide +kernel
theorem kd_83 : kd 83 = 1 := by decide +kernel
theorem ln_83 : ln 83 = 6 := by decide +kernel
theorem kd_84 : kd 84 = 10 + 7 := by decide +kernel
theorem rf_84_0 : rf 84 0 = 85 := by decide +kernel
theorem rf_84_1 : rf 84 1 = 86 := by decide +kernel
theorem rf_84_2 : rf 84 2 = 87 := by decide +kernel
theorem rf_84_3 : rf 84 3 = 88 := by decide +kernel
theorem rf_84_4 : rf 84 4 = 89 := by decide +kernel
theorem rf_84_5 : rf 84 5 = 90 := by decide +kernel
theorem kd_85 : kd 85 = 1 := by decide +kernel
theorem ln_85 : ln 85 = 8 := by decide +kernel
theorem kd_86 : kd 86 = 1 := by decide +kernel
theorem ln_86 : ln 86 = 8 := by decide +kernel
theorem kd_87 : kd 87 = 1 := by decide +kernel
theorem ln_87 : ln 87 = 8 := by decide +kernel
theorem kd_88 : kd 88 = 1 := by decide +kernel
theorem ln_88 : ln 88 = 64 := by decide +kernel
theorem kd_89 : kd 89 = 1 := by decide +kernel
theorem ln_89 : ln 89 = 6 := by decide +kernel
theorem kd_90 : kd 90 = 1 := by decide +kernel
theorem ln_90 : ln 90 = 6 := by decide +kernel
theorem kd_91 : kd 91 = 10 + 7 := by decide +kernel
theorem rf_91_0 : rf 91 0 = 92 := by decide +kernel
theorem rf_91_1 : rf 91 1 = 93 := by decide +kernel
theorem rf_91_2 : rf 91 2 = 94 := by decide +kernel
theorem rf_91_3 : rf 91 3 = 95 := by decide +kernel
theorem rf_91_4 : rf 91 4 = 96 := by decide +kernel
theorem rf_91_5 : rf 91 5 = 97 := by decide +kernel
theorem kd_92 : kd 92 = 1 := by decide +kernel
theorem ln_92 : ln 92 = 8 := by decide +kernel
theorem kd_93 : kd 93 = 1 := by decide +kernel
theorem ln_93 : ln 93 = 8 := by decide +kernel
theorem kd_94 : kd 94 = 1 := by decide +kernel
theorem ln_94 : ln 94 = 8 := by decide +kernel
theorem kd_95 : kd 95 = 1 := by decide +kernel
theorem ln_95 : ln 95 = 64 := by decide +kernel
theorem kd_96 : kd 96 = 1 := by decide +kernel
theorem ln_96 : ln 96 = 6 := by decide +kernel
theorem kd_97 : kd 97 = 1 := by decide +kernel
theorem ln_97 : ln 97 = 6 := by decide +kernel
theorem kd_98 : kd 98 = 10 + 7 := by decide +kernel
theorem rf_98_0 : rf 98 0 = 99 := by decide +kernel
theorem rf_98_1 : rf 98 1 = 100 := by decide +kernel
theorem rf_98_2 : rf 98 2 = 101 := by decide +kernel
theorem rf_98_3 : rf 98 3 = 102 := by decide +kernel
theorem rf_98_4 : rf 98 4 = 103 := by decide +kernel
theorem rf_98_5 : rf 98 5 = 104 := by decide +kernel
theorem kd_99 : kd 99 = 1 := by decide +kernel
theorem ln_99 : ln 99 = 8 := by decide +kernel
theorem kd_100 : kd 100 = 1 := by decide +kernel
theorem ln_100 : ln 100 = 8 := by decide +kernel
theorem kd_101 : kd 101 = 1 := by decide +kernel
theorem ln_101 : ln 101 = 8 := by decide +kernel
theorem kd_102 : kd 102 = 1 := by decide +kernel
theorem ln_102 : ln 102 = 64 := by decide +kernel
theorem kd_103 : kd 103 = 1 := by decide +kernel
theorem ln_103 : ln 103 = 6 := by decide +kernel
theorem kd_104 : kd 104 = 1 := by decide +kernel
theorem ln_104 : ln 104 = 6 := by decide +kernel
theorem kd_105 : kd 105 = 10 + 7 := by decide +kernel
theorem rf_105_0 : rf 105 0 = 106 := by decide +kernel
theorem rf_105_1 : rf 105 1 = 107 := by decide +kernel
theorem rf_105_2 : rf 105 2 = 108 := by decide +kernel
theorem rf_105_3 : rf 105 3 = 109 := by decide +kernel
theorem rf_105_4 : rf 105 4 = 110 := by decide +kernel
theorem rf_105_5 : rf 105 5 = 111 := by decide +kernel
theorem kd_106 : kd 106 = 1 := by decide +kernel
theorem ln_106 : ln 106 = 8 := by decide +kernel
theorem kd_107 : kd 107 = 1 := by decide +kernel
theorem ln_107 : ln 107 = 8 := by decide +kernel
theorem kd_108 : kd 108 = 1 := by decide +kernel
theorem ln_108 : ln 108 = 8 := by decide +kernel
theorem kd_109 : kd 109 = 1 := by decide +kernel
theorem ln_109 : ln 109 = 64 := by decide +kernel
theorem kd_110 : kd 110 = 1 := by decide +kernel
theorem ln_110 : ln 110 = 6 := by decide +kernel
theorem kd_111 : kd 111 = 1 := by decide +kernel
theorem ln_111 : ln 111 = 6 := by decide +kernel
theorem kd_112 : kd 112 = 10 + 7 := by decide +kernel
theorem rf_112_0 : rf 112 0 = 113 := by decide +kernel
theorem rf_112_1 : rf 112 1 = 114 := by decide +kernel
theorem rf_112_2 : rf 112 2 = 115 := by decide +kernel
theorem rf_112_3 : rf 112 3 = 116 := by decide +kernel
theorem rf_112_4 : rf 112 4 = 117 := by decide +kernel
theorem rf_112_5 : rf 112 5 = 118 := by decide +kernel
theorem kd_113 : kd 113 = 1 := by decide +kernel
theorem ln_113 : ln 113 = 8 := by decide +kernel
theorem kd_114 : kd 114 = 1 := by decide +kernel
theorem ln_114 : ln 114 = 8 := by decide +kernel
theorem kd_115 : kd 115 = 1 := by decide +kernel
theorem ln_115 : ln 115 = 8 := by decide +kernel
theorem kd_116 : kd 116 = 1 := by decide +kernel
theorem ln_116 : ln 116 = 64 := by decide +kernel
theorem kd_117 : kd 117 = 1 := by decide +kernel
theorem ln_117 : ln 117 = 6 := by decide +kernel
theorem kd_118 : kd 118 = 1 := by decide +kernel
theorem ln_118 : ln 118 = 6 := by decide +kernel
theorem kd_119 : kd 119 = 10 + 7 := by decide +kernel
theorem rf_119_0 : rf 119 0 = 120 := by decide +kernel
theorem rf_119_1 : rf 119 1 = 121 := by decide +kernel
theorem rf_119_2 : rf 119 2 = 122 := by decide +kernel
theorem rf_119_3 : rf 119 3 = 123 := by decide +kernel
theorem rf_119_4 : rf 119 4 = 124 := by decide +kernel
theorem rf_119_5 : rf 119 5 = 125 := by decide +kernel
theorem kd_120 : kd 120 = 1 := by decide +kernel
theorem ln_120 : ln 120 = 8 := by decide +kernel
theorem kd_121 : kd 121 = 1 := by decide +kernel
theorem ln_121 : ln 121 = 8 := by decide +kernel
theorem kd_122 : kd 122 = 1 := by decide +kernel
theorem ln_122 : ln 122 = 8 := by decide +kernel
theorem kd_123 : kd 123 = 1 := by decide +kernel
theorem ln_123 : ln 123 = 64 := by decide +kernel
theorem kd_124 : kd 124 = 1 := by decide +kernel
theorem ln_124 : ln 124 = 6 := by decide +kernel
theorem kd_125 : kd 125 = 1 := by decide +kernel
theorem ln_125 : ln 125 = 6 := by decide +kernel
theorem kd_126 : kd 126 = 10 + 7 := by decide +kernel
theorem rf_126_0 : rf 126 0 = 127 := by decide +kernel
theorem rf_126_1 : rf 126 1 = 128 := by decide +kernel
theorem rf_126_2 : rf 126 2 = 129 := by decide +kernel
theorem rf_126_3 : rf 126 3 = 130 := by decide +kernel
theorem rf_126_4 : rf 126 4 = 131 := by decide +kernel
theorem rf_126_5 : rf 126 5 = 132 := by decide +kernel
theorem kd_127 : kd 127 = 1 := by decide +kernel
theorem ln_127 : ln 127 = 8 := by decide +kernel
theorem kd_128 : kd 128 = 1 := by decide +kernel
theorem ln_128 : ln 128 = 8 := by decide +kernel
theorem kd_129 : kd 129 = 1 := by decide +kernel
theorem ln_129 : ln 129 = 8 := by decide +kernel
theorem kd_130 : kd 130 = 1 := by decide +kernel
theorem ln_130 : ln 130 = 64 := by decide +kernel
theorem kd_131 : kd 131 = 1 := by decide +kernel
theorem ln_131 : ln 131 = 6 := by decide +kernel
theorem kd_132 : kd 132 = 1 := by decide +kernel
theorem ln_132 : ln 132 = 6 := by decide +kernel
theorem kd_133 : kd 133 = 10 + 7 := by decide +kernel
theorem rf_133_0 : rf 133 0 = 134 := by decide +kernel
theorem rf_133_1 : rf 133 1 = 135 := by decide +kernel
theorem rf_133_2 : rf 133 2 = 136 := by decide +kernel
theorem rf_133_3 : rf 133 3 = 137 := by decide +kernel
theorem rf_133_4 : rf 133 4 = 138 := by decide +kernel
theorem rf_133_5 : rf 133 5 = 139 := by decide +kernel
theorem kd_134 : kd 134 = 1 := by decide +kernel
theorem ln_134 : ln 134 = 8 := by decide +kernel
theorem kd_135 : kd 135 = 1 := by decide +kernel
theorem ln_135 : ln 135 = 8 := by decide +kernel
theorem kd_136 : kd 136 = 1 := by decide +kernel
theorem ln_136 : ln 136 = 8 := by decide +kernel
theorem kd_137 : kd 137 = 1 := by decide +kernel
theorem ln_137 : ln 137 = 64 := by decide +kernel
theorem kd_138 : kd 138 = 1 := by decide +kernel
theorem ln_138 : ln 138 = 6 := by decide +kernel
theorem kd_139 : kd 139 = 1 := by decide +kernel
theorem ln_139 : ln 139 = 6 := by decide +kernel
theorem kd_140 : kd 140 = 10 + 7 := by decide +kernel
theorem rf_140_0 : rf 140 0 = 141 := by decide +kernel
theorem rf_140_1 : rf 140 1 = 142 := by decide +kernel
theorem rf_140_2 : rf 140 2 = 143 := by decide +kernel
theorem rf_140_3 : rf 140 3 = 144 := by decide +kernel
theorem rf_140_4 : rf 140 4 = 145 := by decide +kernel
theorem rf_140_5 : rf 140 5 = 146 := by decide +kernel
theorem kd_141 : kd 141 = 1 := by decide +kernel
theorem ln_141 : ln 141 = 8 := by decide +kernel
theorem kd_142 : kd 142 = 1 := by decide +kernel
theorem ln_142 : ln 142 = 8 := by decide +kernel
theorem kd_143 : kd 143 = 1 := by decide +kernel
theorem ln_143 : ln 143 = 8 := by decide +kernel
theorem kd_144 : kd 144 = 1 := by decide +kernel
theorem ln_144 : ln 144 = 64 := by decide +kernel
theorem kd_145 : kd 145 = 1 := by decide +kernel
theorem ln_145 : ln 145 = 6 := by decide +kernel
theorem kd_146 : kd 146 = 1 := by decide +kernel
theorem ln_146 : ln 146 = 6 := by decide +kernel
theorem kd_147 : kd 147 = 10 + 0 := by decide +kernel
theorem rf_147_0 : rf 147 0 = 148 := by decide +kernel
theorem rf_147_1 : rf 147 1 = 149 := by decide +kernel
theorem rf_147_2 : rf 147 2 = 150 := by decide +kernel
theorem kd_148 : kd 148 = 1 := by decide +kernel
theorem ln_148 : ln 148 = 32 := by decide +kernel
theorem kd_149 : kd 149 = 1 := by decide +kernel
theorem ln_149 : ln 149 = 32 := by decide +kernel
theorem kd_150 : kd 150 = 1 := by decide +kernel
theorem ln_150 : ln 150 = 32 := by decide +kernel
theorem kd_151 : kd 151 = 10 + 9 := by decide +kernel
theorem rf_151_0 : rf 151 0 = 152 := by decide +kernel
theorem rf_151_1 : rf 151 1 = 153 := by decide +kernel
theorem kd_152 : kd 152 = 4 := by decide +kernel
theorem ln_152 : ln 152 = 30 := by decide +kernel
theorem kd_153 : kd 153 = 4 := by decide +kernel
theorem ln_153 : ln 153 = 30 := by decide +kernel
theorem kd_154 : kd 154 = 10 + 10 := by decide +kernel
theorem rf_154_0 : rf 154 0 = 155 := by decide +kernel
theorem rf_154_1 : rf 154 1 = 156 := by decide +kernel
theorem rf_154_2 : rf 154 2 = 157 := by decide +kernel
theorem rf_154_3 : rf 154 3 = 158 := by decide +kernel
theorem rf_154_4 : rf 154 4 = 159 := by decide +kernel
theorem rf_154_5 : rf 154 5 = 160 := by decide +kernel
theorem kd_155 : kd 155 = 1 := by decide +kernel
theorem ln_155 : ln 155 = 36 := by decide +kernel
theorem kd_156 : kd 156 = 1 := by decide +kernel
theorem ln_156 : ln 156 = 36 := by decide +kernel
theorem kd_157 : kd 157 = 1 := by decide +kernel
theorem ln_157 : ln 157 = 36 := by decide +kernel
theorem kd_158 : kd 158 = 1 := by decide +kernel
theorem ln_158 : ln 158 = 72 := by decide +kernel
theorem kd_159 : kd 159 = 1 := by decide +kernel
theorem ln_159 : ln 159 = 180 := by decide +kernel
theorem kd_160 : kd 160 = 1 := by decide +kernel
theorem ln_160 : ln 160 = 180 := by decide +kernel
theorem kd_161 : kd 161 = 1 := by decide +kernel
theorem ln_161 : ln 161 = 10 := by decide +kernel
theorem kd_162 : kd 162 = 10 + 12 := by decide +kernel
theorem rf_162_0 : rf 162 0 = 163 := by decide +kernel
theorem rf_162_1 : rf 162 1 = 164 := by decide +kernel
theorem rf_162_6 : rf 162 6 = 165 := by decide +kernel
theorem rf_162_7 : rf 162 7 = 166 := by decide +kernel
theorem rf_162_9 : rf 162 9 = 167 := by decide +kernel
theorem rf_162_11 : rf 162 11 = 168 := by decide +kernel
theorem rf_162_19 : rf 162 19 = 169 := by decide +kernel
theorem rf_162_20 : rf 162 20 = 170 := by decide +kernel
theorem rf_162_21 : rf 162 21 = 171 := by decide +kernel
theorem rf_162_22 : rf 162 22 = 172 := by decide +kernel
theorem rf_162_26 : rf 162 26 = 173 := by decide +kernel
theorem rf_162_28 : rf 162 28 = 174 := by decide +kernel
theorem rf_162_32 : rf 162 32 = 175 := by decide +kernel
theorem rf_162_34 : rf 162 34 = 176 := by decide +kernel
theorem rf_162_35 : rf 162 35 = 177 := by decide +kernel
theorem rf_162_36 : rf 162 36 = 178 := by decide +kernel
theorem rf_162_37 : rf 162 37 = 179 := by decide +kernel
theorem rf_162_38 : rf 162 38 = 180 := by decide +kernel
theorem rf_162_39 : rf 162 39 = 181 := by decide +kernel
theorem rf_162_40 : rf 162 40 = 182 := by decide +kernel
theorem rf_162_41 : rf 162 41 = 183 := by decide +kernel
theorem rf_162_43 : rf 162 43 = 184 := by decide +kernel
theorem rf_162_44 : rf 162 44 = 185 := by decide +kernel
theorem rf_162_45 : rf 162 45 = 186 := by decide +kernel
theorem rf_162_46 : rf 162 46 = 187 := by decide +kernel
theorem rf_162_47 : rf 162 47 = 188 := by decide +kernel
theorem rf_162_49 : rf 162 49 = 189 := by decide +kernel
theorem rf_162_50 : rf 162 50 = 190 := by decide +kernel
theorem rf_162_51 : rf 162 51 = 191 := by decide +kernel
theorem kd_163 : kd 163 = 1 := by decide +kernel
theorem ln_163 : ln 163 = 96 := by decide +kernel
theorem kd_164 : kd 164 = 1 := by decide +kernel
theorem ln_164 : ln 164 = 36 := by decide +kernel
theorem kd_165 : kd 165 = 1 := by decide +kernel
theorem ln_165 : ln 165 = 72 := by decide +kernel
theorem kd_166 : kd 166 = 1 := by decide +kernel
theorem ln_166 : ln 166 = 8 := by decide +kernel
theorem kd_167 : kd 167 = 2 := by decide +kernel
theorem ln_167 : ln 167 = 80 := by decide +kernel
theorem kd_168 : kd 168 = 1 := by decide +kernel
theorem ln_168 : ln 168 = 16 := by decide +kernel
theorem kd_169 : kd 169 = 1 := by decide +kernel
theorem ln_169 : ln 169 = 36 := by decide +kernel
theorem kd_170 : kd 170 = 1 := by decide +kernel
theorem ln_170 : ln 170 = 96 := by decide +kernel
theorem kd_171 : kd 171 = 1 := by decide +kernel
theorem ln_171 : ln 171 = 9 := by decide +kernel
theorem kd_172 : kd 172 = 2 := by decide +kernel
theorem ln_172 : ln 172 = 40 := by decide +kernel
theorem kd_173 : kd 173 = 1 := by decide +kernel
theorem ln_173 : ln 173 = 1152 := by decide +kernel
theorem kd_174 : kd 174 = 1 := by decide +kernel
theorem ln_174 : ln 174 = 96 := by decide +kernel
theorem kd_175 : kd 175 = 1 := by decide +kernel
theorem ln_175 : ln 175 = 240 := by decide +kernel
theorem kd_176 : kd 176 = 1 := by decide +kernel
theorem ln_176 : ln 176 = 96 := by decide +kernel
theorem kd_177 : kd 177 = 1 := by decide +kernel
theorem ln_177 : ln 177 = 72 := by decide +kernel
theorem kd_178 : kd 178 = 1 := by decide +kernel
theorem ln_178 : ln 178 = 2 := by decide +kernel
theorem kd_179 : kd 179 = 3 := by decide +kernel
theorem ln_179 : ln 179 = 36 := by decide +kernel
theorem kd_180 : kd 180 = 1 := by decide +kernel
theorem ln_180 : ln 180 = 72 := by decide +kernel
theorem kd_181 : kd 181 = 1 := by decide +kernel
theorem ln_181 : ln 181 = 72 := by decide +kernel
theorem kd_182 : kd 182 = 1 := by decide +kernel
theorem ln_182 : ln 182 = 72 := by decide +kernel
theorem kd_183 : kd 183 = 1 := by decide +kernel
theorem ln_183 : ln 183 = 72 := by decide +kernel
theorem kd_184 : kd 184 = 1 := by decide +kernel
theorem ln_184 : ln 184 = 3 := by decide +kernel
theorem kd_185 : kd 185 = 1 := by decide +kernel
theorem ln_185 : ln 185 = 1296 := by decide +kernel
theorem kd_186 : kd 186 = 3 := by decide +kernel
theorem ln_186 : ln 186 = 72 := by decide +kernel
theorem kd_187 : kd 187 = 3 := by decide +kernel
theorem ln_187 : ln 187 = 72 := by decide +kernel
theorem kd_188 : kd 188 = 3 := by decide +kernel
theorem ln_188 : ln 188 = 72 := by decide +kernel
theorem kd_189 : kd 189 = 1 := by decide +kernel
theorem ln_189 : ln 189 = 192 := by decide +kernel
theorem kd_190 : kd 190 = 3 := by decide +kernel
theorem ln_190 : ln 190 = 2 := by decide +kernel
theorem kd_191 : kd 191 = 1 := by decide +kernel
theorem ln_191 : ln 191 = 2 := by decide +kernel
theorem kd_192 : kd 192 = 4 := by decide +kernel
theorem ln_192 : ln 192 = 1 := by decide +kernel
theorem kdScene_0 {k : Nat} (h : kd k = 10 + 7) : kd (rf k 0) = 1 := by
  have h1 : ∀ k, k < NT → kd k = 10 + 7 → kd (rf k 0) = 1 := by decide +kernel
  exact h1 k (kd_lt (by omega)) h
theorem lnScene_0 {k : Nat} (h : kd k = 10 + 7) : ln (rf k 0) = 8 := by
  have h1 : ∀ k, k < NT → kd k = 10 + 7 → ln (rf k 0) = 8 := by decide +kernel
  exact h1 k (kd_lt (by omega)) h
theorem kdScene_1 {k : Nat} (h : kd k = 10 + 7) : kd (rf k 1) = 1 := by
  have h1 : ∀ k, k < NT → kd k = 10 + 7 → kd (rf k 1) = 1 := by decide +kernel
  exact h1 k (kd_lt (by omega)) h
theorem lnScene_1 {k : Nat} (h : kd k = 10 + 7) : ln (rf k 1) = 8 := by
  have h1 : ∀ k, k < NT → kd k = 10 + 7 → ln (rf k 1) = 8 := by decide +kernel
  exact h1 k (kd_lt (by omega)) h
theorem kdScene_2 {k : Nat} (h : kd k = 10 + 7) : kd (rf k 2) = 1 := by
  have h1 : ∀ k, k < NT → kd k = 10 + 7 → kd (rf k 2) = 1 := by decide +kernel
  exact h1 k (kd_lt (by omega)) h
theorem lnScene_2 {k : Nat} (h : kd k = 10 + 7) : ln (rf k 2) = 8 := by
  have h1 : ∀ k, k < NT → kd k = 10 + 7 → ln (rf k 2) = 8 := by decide +kernel
  exact h1 k (kd_lt (by omega)) h
theorem kdScene_3 {k : Nat} (h : kd k = 10 + 7) : kd (rf k 3) = 1 := by
  have h1 : ∀ k, k < NT → kd k = 10 + 7 → kd (rf k 3) = 1 := by decide +kernel
  exact h1 k (kd_lt (by omega)) h
theorem lnScene_3 {k : Nat} (h : kd k = 10 + 7) : ln (rf k 3) = 64 := by
  have h1 : ∀ k, k < NT → kd k = 10 + 7 → ln (rf k 3) = 64 := by decide +kernel
  exact h1 k (kd_lt (by omega)) h
theorem kdScene_4 {k : Nat} (h : kd k = 10 + 7) : kd (rf k 4) = 1 := by
  have h1 : ∀ k, k < NT → kd k = 10 + 7 → kd (rf k 4) = 1 := by decide +kernel
  exact h1 k (kd_lt (by omega)) h
theorem lnScene_4 {k : Nat} (h : kd k = 10 + 7) : ln (rf k 4) = 6 := by
  have h1 : ∀ k, k < NT → kd k = 10 + 7 → ln (rf k 4) = 6 := by decide +kernel
  exact h1 k (kd_lt (by omega)) h
theorem kdScene_5 {k : Nat} (h : kd k = 10 + 7) : kd (rf k 5) = 1 := by
  have h1 : ∀ k, k < NT → kd k = 10 + 7 → kd (rf k 5) = 1 := by decide +kernel
  exact h1 k (kd_lt (by omega)) h
theorem lnScene_5 {k : Nat} (h : kd k = 10 + 7) : ln (rf k 5) = 6 := by
  have h1 : ∀ k, k < NT → kd k = 10 + 7 → ln (rf k 5) = 6 := by decide +kernel
  exact h1 k (kd_lt (by omega)) h
theorem kdNets_0 {k : Nat} (h : kd k = 10 + 6) : kd (rf k 0) = 4 := by
  have h1 : ∀ k, k < NT → kd k = 10 + 6 → kd (rf k 0) = 4 := by decide +kernel
  exact h1 k (kd_lt (by omega)) h
theorem lnNets_0 {k : Nat} (h : kd k = 10 + 6) : ln (rf k 0) = 2 := by
  have h1 : ∀ k, k < NT → kd k = 10 + 6 → ln (rf k 0) = 2 := by decide +kernel
  exact h1 k (kd_lt (by omega)) h
theorem kdNets_1 {k : Nat} (h : kd k = 10 + 6) : kd (rf k 1) = 4 := by
  have h1 : ∀ k, k < NT → kd k = 10 + 6 → kd (rf k 1) = 4 := by decide +kernel
  exact h1 k (kd_lt (by omega)) h
theorem lnNets_1 {k : Nat} (h : kd k = 10 + 6) : ln (rf k 1) = 72 := by
  have h1 : ∀ k, k < NT → kd k = 10 + 6 → ln (rf k 1) = 72 := by decide +kernel
  exact h1 k (kd_lt (by omega)) h
theorem kdNets_2 {k : Nat} (h : kd k = 10 + 6) : kd (rf k 2) = 1 := by
  have h1 : ∀ k, k < NT → kd k = 10 + 6 → kd (rf k 2) = 1 := by decide +kernel
  exact h1 k (kd_lt (by omega)) h
theorem lnNets_2 {k : Nat} (h : kd k = 10 + 6) : ln (rf k 2) = 288 := by
  have h1 : ∀ k, k < NT → kd k = 10 + 6 → ln (rf k 2) = 288 := by decide +kernel
  exact h1 k (kd_lt (by omega)) h
theorem mm_Crowd_41 : Cond.methodLink "WomenByTheRoofs$Crowd" 41 Lib.Math.max.name ∈ gw ∧ Cond.static Lib.Math.max.name ∈ gw ∧ Cond.initialized "java/lang/Math" ∈ gw ∧ Cond.code Lib.Math.max.name Lib.Math.max.code 2 (some .int) ∈ gw := ⟨gt_3 180 rfl rfl, gt_3 181 rfl rfl, gt_1 22 rfl rfl, gt_3 182 rfl rfl⟩
theorem mm_Top_381 : Cond.methodLink "WomenByTheRoofs" 381 Lib.Math.max.name ∈ gw ∧ Cond.static Lib.Math.max.name ∈ gw ∧ Cond.initialized "java/lang/Math" ∈ gw ∧ Cond.code Lib.Math.max.name Lib.Math.max.code 2 (some .int) ∈ gw := ⟨gt_4 232 rfl rfl, gt_3 181 rfl rfl, gt_1 22 rfl rfl, gt_3 182 rfl rfl⟩
theorem mm_Ways_30 : Cond.methodLink "WomenByTheRoofs$Ways" 30 Lib.Math.max.name ∈ gw ∧ Cond.static Lib.Math.max.name ∈ gw ∧ Cond.initialized "java/lang/Math" ∈ gw ∧ Cond.code Lib.Math.max.name Lib.Math.max.code 2 (some .int) ∈ gw := ⟨gt_5 10 rfl rfl, gt_3 181 rfl rfl, gt_1 22 rfl rfl, gt_3 182 rfl rfl⟩
theorem mm_Mod_304 : Cond.methodLink "WomenByTheRoofsModel" 304 Lib.Math.max.name ∈ gw ∧ Cond.static Lib.Math.max.name ∈ gw ∧ Cond.initialized "java/lang/Math" ∈ gw ∧ Cond.code Lib.Math.max.name Lib.Math.max.code 2 (some .int) ∈ gw := ⟨gt_7 165 rfl rfl, gt_3 181 rfl rfl, gt_1 22 rfl rfl, gt_3 182 rfl rfl⟩
theorem mm_Crowd_35 : Cond.methodLink "WomenByTheRoofs$Crowd" 35 Lib.Math.min.name ∈ gw ∧ Cond.static Lib.Math.min.name ∈ gw ∧ Cond.initialized "java/lang/Math" ∈ gw ∧ Cond.code Lib.Math.min.name Lib.Math.min.code 2 (some .int) ∈ gw := ⟨gt_3 177 rfl rfl, gt_3 178 rfl rfl, gt_1 22 rfl rfl, gt_3 179 rfl rfl⟩
theorem mm_Top_495 : Cond.methodLink "WomenByTheRoofs" 495 Lib.Math.min.name ∈ gw ∧ Cond.static Lib.Math.min.name ∈ gw ∧ Cond.initialized "java/lang/Math" ∈ gw ∧ Cond.code Lib.Math.min.name Lib.Math.min.code 2 (some .int) ∈ gw := ⟨gt_5 66 rfl rfl, gt_3 178 rfl rfl, gt_1 22 rfl rfl, gt_3 179 rfl rfl⟩
theorem mm_Mod_301 : Cond.methodLink "WomenByTheRoofsModel" 301 Lib.Math.min.name ∈ gw ∧ Cond.static Lib.Math.min.name ∈ gw ∧ Cond.initialized "java/lang/Math" ∈ gw ∧ Cond.code Lib.Math.min.name Lib.Math.min.code 2 (some .int) ∈ gw := ⟨gt_7 164 rfl rfl, gt_3 178 rfl rfl, gt_1 22 rfl rfl, gt_3 179 rfl rfl⟩
theorem mm_Mod_275 : Cond.methodLink "WomenByTheRoofsModel" 275 Lib.Math.abs.name ∈ gw ∧ Cond.static Lib.Math.abs.name ∈ gw ∧ Cond.initialized "java/lang/Math" ∈ gw ∧ Cond.code Lib.Math.abs.name Lib.Math.abs.code 1 (some .int) ∈ gw := ⟨gt_7 142 rfl rfl, gt_7 143 rfl rfl, gt_1 22 rfl rfl, gt_7 144 rfl rfl⟩
theorem mm_Law_62 : Cond.methodLink "WomenByTheRoofs$Law" 62 arraycopyName ∈ gw ∧ Cond.native arraycopyName ∈ gw ∧ Cond.static arraycopyName ∈ gw ∧ Cond.initialized "java/lang/System" ∈ gw := ⟨gt_3 84 rfl rfl, gt_3 86 rfl rfl, gt_3 85 rfl rfl, gt_1 14 rfl rfl⟩
theorem mm_Scene_47 : Cond.methodLink "WomenByTheRoofs$Scene" 47 arraycopyName ∈ gw ∧ Cond.native arraycopyName ∈ gw ∧ Cond.static arraycopyName ∈ gw ∧ Cond.initialized "java/lang/System" ∈ gw := ⟨gt_3 137 rfl rfl, gt_3 86 rfl rfl, gt_3 85 rfl rfl, gt_1 14 rfl rfl⟩
theorem kc_JInteger_265 : Cond.constant "java/lang/Integer" 265 (1431655765 : Int32) ∈ gw := gt_3 194 rfl rfl
theorem kc_JInteger_266 : Cond.constant "java/lang/Integer" 266 (858993459 : Int32) ∈ gw := gt_3 195 rfl rfl
theorem kc_JInteger_267 : Cond.constant "java/lang/Integer" 267 (252645135 : Int32) ∈ gw := gt_3 196 rfl rfl
theorem kc_JInteger_264 : Cond.constant "java/lang/Integer" 264 (65536 : Int32) ∈ gw := gt_4 160 rfl rfl
theorem kc_Nets_63 : Cond.constantLong "WomenByTheRoofs$Nets" 63 (-1 : Int64) ∈ gw := gt_4 161 rfl rfl
theorem kc_Top_303 : Cond.constantLong "WomenByTheRoofs" 303 (-1 : Int64) ∈ gw := gt_4 162 rfl rfl
theorem kc_JLong_314 : Cond.constantLong "java/lang/Long" 314 (6148914691236517205 : Int64) ∈ gw := gt_4 166 rfl rfl
theorem kc_JLong_316 : Cond.constantLong "java/lang/Long" 316 (3689348814741910323 : Int64) ∈ gw := gt_4 167 rfl rfl
theorem kc_JLong_318 : Cond.constantLong "java/lang/Long" 318 (1085102592571150095 : Int64) ∈ gw := gt_4 168 rfl rfl
theorem kc_Top_455 : Cond.constantLong "WomenByTheRoofs" 455 (262143 : Int64) ∈ gw := gt_4 177 rfl rfl
theorem kc_Nets_65 : Cond.constant "WomenByTheRoofs$Nets" 65 (1000000 : Int32) ∈ gw := gt_4 186 rfl rfl
theorem kc_Top_319 : Cond.constant "WomenByTheRoofs" 319 (1000000 : Int32) ∈ gw := gt_4 191 rfl rfl
theorem kc_Ways_36 : Cond.constant "WomenByTheRoofs$Ways" 36 (1000000 : Int32) ∈ gw := gt_4 210 rfl rfl
theorem kc_Thief_25 : Cond.constantLong "WomenByTheRoofs$Thief" 25 (-1 : Int64) ∈ gw := gt_5 129 rfl rfl
theorem kc_Mod_357 : Cond.constant "WomenByTheRoofsModel" 357 (1000000 : Int32) ∈ gw := gt_8 23 rfl rfl
