/-! p1: computed, nets -/
theorem g_path0 : agr (f_Top_path 0 0 0 M0) (f_Mod_path 0 0 0) = true := by decide +kernel
theorem g_reach0 : agr (f_Top_reach 0 0 M0) (f_Mod_reach 0 0) = true := by decide +kernel
theorem g_path1 : agr (f_Top_path 1 0 0 M0) (f_Mod_path 1 0 0) = true := by decide +kernel
theorem g_reach1 : agr (f_Top_reach 1 0 M0) (f_Mod_reach 1 0) = true := by decide +kernel
theorem g_pieces : ∀ i : Fin 2, agr (f_Top_pieces (Int32.ofInt (0 + i.val)) M0) (f_Mod_pieces (Int32.ofInt (0 + i.val))) = true := by decide +kernel
theorem g_both00 : agr (f_Top_both 0 0 0 0 M0) (f_Mod_both 0 0 0 0) = true := by decide +kernel
theorem g_watch00 : agr (f_Top_watch 0 0 0 0 M0) (f_Mod_watch 0 0 0 0) = true := by decide +kernel
theorem g_both01 : agr (f_Top_both 0 0 1 0 M0) (f_Mod_both 0 0 1 0) = true := by decide +kernel
theorem g_watch01 : agr (f_Top_watch 0 0 0 1 M0) (f_Mod_watch 0 0 0 1) = true := by decide +kernel
theorem g_both10 : agr (f_Top_both 1 0 0 0 M0) (f_Mod_both 1 0 0 0) = true := by decide +kernel
theorem g_watch10 : agr (f_Top_watch 0 1 0 0 M0) (f_Mod_watch 0 1 0 0) = true := by decide +kernel
theorem g_both11 : agr (f_Top_both 1 0 1 0 M0) (f_Mod_both 1 0 1 0) = true := by decide +kernel
theorem g_watch11 : agr (f_Top_watch 0 1 0 1 M0) (f_Mod_watch 0 1 0 1) = true := by decide +kernel
theorem g_errand : agr (f_Top_errand 0 0 M0) (f_Mod_errand 0 0) = true := by decide +kernel
theorem g_planks : agr (f_Top_planks 0 0 M0) (f_Mod_planks 0 0) = true := by decide +kernel
