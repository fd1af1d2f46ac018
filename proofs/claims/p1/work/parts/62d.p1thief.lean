/-! p1: computed, the wardrobe, thieves -/
theorem g_wardrobe : agr (f_Top_wardrobe 0 0 M0) (f_Mod_wardrobe 0 0) = true := by decide +kernel
theorem g_caught0 : agr (f_Top_caught 0 0 M0) (f_Mod_caught 0 0) = true := by decide +kernel
theorem g_caught1 : agr (f_Top_caught 0 1 M0) (f_Mod_caught 0 1) = true := by decide +kernel
