/-! p1: computed -/
theorem g_town : agr (f_Top_town M0) f_Mod_town = true := by decide +kernel
theorem g_folk : agr (f_Top_folk M0) f_Mod_folk = true := by decide +kernel
theorem g_rule : agr (f_Top_rule M0) f_Mod_rule = true := by decide +kernel
theorem g_take : agr (f_Top_take M0) f_Mod_take = true := by decide +kernel
theorem g_minute : agr (f_Top_minute M0) f_Mod_minute = true := by decide +kernel
theorem g_evening : agr (f_Top_evening M0) f_Mod_evening = true := by decide +kernel
theorem g_undo : agr (f_Top_undo M0) f_Mod_undo = true := by decide +kernel
theorem g_known : agr (f_Top_known M0) f_Mod_known = true := by decide +kernel
theorem g_saved : agr (f_Top_saved M0) f_Mod_saved = true := by decide +kernel
theorem g_plank : agr (f_Top_plank 0 0 M0) (f_Mod_plank 0 0) = true := by decide +kernel
theorem g_feast : ∀ i : Fin 2, agr (f_Top_feast (Int32.ofInt (0 + i.val)) M0) (f_Mod_feast (Int32.ofInt (0 + i.val))) = true := by decide +kernel
theorem g_keep : ∀ i : Fin 2, agr (f_Top_keep (Int32.ofInt (0 + i.val)) M0) (f_Mod_keep (Int32.ofInt (0 + i.val))) = true := by decide +kernel
theorem g_again : ∀ i : Fin 2, agr (f_Top_again (Int32.ofInt (0 + i.val)) M0) (f_Mod_again (Int32.ofInt (0 + i.val))) = true := by decide +kernel
theorem g_build : ∀ i : Fin 4, agr (f_Top_build 0 (Int32.ofInt (0 + i.val)) M0) (f_Mod_build 0 (Int32.ofInt (0 + i.val))) = true := by decide +kernel
theorem g_count : ∀ i : Fin 13, agq (f_Top_count (Int32.ofInt (0 + i.val)) M0) (f_Mod_count (Int32.ofInt (0 + i.val)) M0) = true := by decide +kernel
theorem g_fire1 : agr (f_Top_fire (-1) M0) (f_Mod_fire (-1)) = true := by decide +kernel
theorem g_fire0 : agr (f_Top_fire 0 M0) (f_Mod_fire 0) = true := by decide +kernel
theorem g_end : agr (f_Top_end 0 M0) (f_Mod_end 0) = true := by decide +kernel
