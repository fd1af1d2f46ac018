/-! p1: computed, many -/
theorem g_minutes : ∀ i : Fin 61, agr (f_Top_minutes (Int32.ofInt (0 + i.val)) M0) (f_Mod_minutes (Int32.ofInt (0 + i.val))) = true := by decide +kernel
theorem g_ahead : ∀ i : Fin 61, agr (f_Top_ahead (Int32.ofInt (0 + i.val)) M0) (f_Mod_ahead (Int32.ofInt (0 + i.val))) = true := by decide +kernel
theorem g_gossip : ∀ i : Fin 61, agr (f_Top_gossip (Int32.ofInt (0 + i.val)) M0) (f_Mod_gossip (Int32.ofInt (0 + i.val))) = true := by decide +kernel
