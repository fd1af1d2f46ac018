/-! p1: calls of CELLS: refused, or one of few cases -/
theorem r_path (l a b : Int32) : agr (f_Top_path l a b M0) (f_Mod_path l a b) = true := by
  by_cases h1 : a ≠ 0 ∨ l < 0 ∨ 1 < l
  · exact agr_some (-1, M0) (-1, s_i M0 162 13 0) (by unfold f_Top_path; rw [gl_no M0_r.1 h1, Option.bind_some, if_pos rfl]) (by unfold f_Mod_path; simp only [mem_]; rw [mp_no sz.2.2.2.1 sz.2.2.2.2.1 h1, Option.bind_some, if_pos rfl]) rfl
  by_cases h2 : b ≠ 0 ∨ l < 0 ∨ 1 < l
  · refine agr_some (-1, M0) (-1, s_i M0 162 13 0) ?_ ?_ rfl
    · unfold f_Top_path
      rw [gl_yes h1, Option.bind_some, if_neg (by decide), gl_no M0_r.1 h2, Option.bind_some, if_pos rfl]
    · unfold f_Mod_path
      simp only [mem_]
      rw [mp_yes h1, Option.bind_some, if_neg (by decide), mp_no sz.2.2.2.1 sz.2.2.2.2.1 h2, Option.bind_some, if_pos rfl]
  obtain ⟨rfl, hl⟩ := bad2 h1
  obtain ⟨rfl, -⟩ := bad2 h2
  rcases hl with rfl | rfl
  · exact g_path0
  · exact g_path1
theorem r_both (l a k b : Int32) : agr (f_Top_both l a k b M0) (f_Mod_both l a k b) = true := by
  by_cases h1 : a ≠ 0 ∨ l < 0 ∨ 1 < l
  · exact agr_some (-1, M0) (-1, s_i M0 162 13 0) (by unfold f_Top_both; rw [gl_no M0_r.1 h1, Option.bind_some, if_pos rfl]) (by unfold f_Mod_both; simp only [mem_]; rw [mp_no sz.2.2.2.1 sz.2.2.2.2.1 h1, Option.bind_some, if_pos rfl]) rfl
  by_cases h2 : b ≠ 0 ∨ k < 0 ∨ 1 < k
  · refine agr_some (-1, M0) (-1, s_i M0 162 13 0) ?_ ?_ rfl
    · unfold f_Top_both
      rw [gl_yes h1, Option.bind_some, if_neg (by decide), gl_no M0_r.1 h2, Option.bind_some, if_pos rfl]
    · unfold f_Mod_both
      simp only [mem_]
      rw [mp_yes h1, Option.bind_some, if_neg (by decide), mp_no sz.2.2.2.1 sz.2.2.2.2.1 h2, Option.bind_some, if_pos rfl]
  obtain ⟨rfl, hl⟩ := bad2 h1
  obtain ⟨rfl, hk⟩ := bad2 h2
  rcases hl with rfl | rfl <;> rcases hk with rfl | rfl
  · exact g_both00
  · exact g_both01
  · exact g_both10
  · exact g_both11
theorem r_errand (a b : Int32) : agr (f_Top_errand a b M0) (f_Mod_errand a b) = true := by
  by_cases h1 : a ≠ 0 ∨ (0 : Int32) < 0 ∨ 1 < (0 : Int32)
  · exact agr_some (-1, M0) (-1, s_i M0 162 13 0) (by unfold f_Top_errand; rw [gl_no M0_r.1 h1, Option.bind_some, if_pos rfl]) (by unfold f_Mod_errand; simp only [mem_]; rw [mp_no sz.2.2.2.1 sz.2.2.2.2.1 h1, Option.bind_some, if_pos rfl]) rfl
  by_cases h2 : b ≠ 0 ∨ (1 : Int32) < 0 ∨ 1 < (1 : Int32)
  · refine agr_some (-1, M0) (-1, s_i M0 162 13 0) ?_ ?_ rfl
    · unfold f_Top_errand
      rw [gl_yes h1, Option.bind_some, if_neg (by decide), gl_no M0_r.1 h2, Option.bind_some, if_pos rfl]
    · unfold f_Mod_errand
      simp only [mem_]
      rw [mp_yes h1, Option.bind_some, if_neg (by decide), mp_no sz.2.2.2.1 sz.2.2.2.2.1 h2, Option.bind_some, if_pos rfl]
  obtain ⟨rfl, -⟩ := bad2 h1
  obtain ⟨rfl, -⟩ := bad2 h2
  exact g_errand
theorem r_planks (a b : Int32) : agr (f_Top_planks a b M0) (f_Mod_planks a b) = true := by
  by_cases h1 : a ≠ 0 ∨ (1 : Int32) < 0 ∨ 1 < (1 : Int32)
  · exact agr_some (-1, M0) (-1, s_i M0 162 13 0) (by unfold f_Top_planks; rw [gl_no M0_r.1 h1, Option.bind_some, if_pos rfl]) (by unfold f_Mod_planks; simp only [mem_]; rw [mp_no sz.2.2.2.1 sz.2.2.2.2.1 h1, Option.bind_some, if_pos rfl]) rfl
  by_cases h2 : b ≠ 0 ∨ (1 : Int32) < 0 ∨ 1 < (1 : Int32)
  · refine agr_some (-1, M0) (-1, s_i M0 162 13 0) ?_ ?_ rfl
    · unfold f_Top_planks
      rw [gl_yes h1, Option.bind_some, if_neg (by decide), gl_no M0_r.1 h2, Option.bind_some, if_pos rfl]
    · unfold f_Mod_planks
      simp only [mem_]
      rw [mp_yes h1, Option.bind_some, if_neg (by decide), mp_no sz.2.2.2.1 sz.2.2.2.2.1 h2, Option.bind_some, if_pos rfl]
  obtain ⟨rfl, -⟩ := bad2 h1
  obtain ⟨rfl, -⟩ := bad2 h2
  exact g_planks
theorem r_watch (a l b k : Int32) : agr (f_Top_watch a l b k M0) (f_Mod_watch a l b k) = true := by
  by_cases h1 : a ≠ 0 ∨ l < 0 ∨ 1 < l
  · exact agr_some (-1, M0) (-1, s_i M0 162 13 0) (by unfold f_Top_watch; rw [gl_no M0_r.1 h1, Option.bind_some, if_pos rfl]) (by unfold f_Mod_watch; simp only [mem_]; rw [mp_no sz.2.2.2.1 sz.2.2.2.2.1 h1, Option.bind_some, if_pos rfl]) rfl
  by_cases h2 : b ≠ 0 ∨ k < 0 ∨ 1 < k
  · refine agr_some (-1, M0) (-1, s_i M0 162 13 0) ?_ ?_ rfl
    · unfold f_Top_watch
      rw [gl_yes h1, Option.bind_some, if_neg (by decide), gl_no M0_r.1 h2, Option.bind_some, if_pos rfl]
    · unfold f_Mod_watch
      simp only [mem_]
      rw [mp_yes h1, Option.bind_some, if_neg (by decide), mp_no sz.2.2.2.1 sz.2.2.2.2.1 h2, Option.bind_some, if_pos rfl]
  obtain ⟨rfl, hl⟩ := bad2 h1
  obtain ⟨rfl, hk⟩ := bad2 h2
  rcases hl with rfl | rfl <;> rcases hk with rfl | rfl
  · exact g_watch00
  · exact g_watch01
  · exact g_watch10
  · exact g_watch11
theorem r_caught (a l : Int32) : agr (f_Top_caught a l M0) (f_Mod_caught a l) = true := by
  by_cases h1 : a ≠ 0 ∨ l < 0 ∨ 1 < l
  · exact agr_some (-1, M0) (-1, s_i M0 162 13 0) (by unfold f_Top_caught; rw [gl_no M0_r.1 h1, Option.bind_some, if_pos rfl]) (by unfold f_Mod_caught; simp only [mem_]; rw [mp_no sz.2.2.2.1 sz.2.2.2.2.1 h1, Option.bind_some, if_pos rfl]) rfl
  obtain ⟨rfl, hl⟩ := bad2 h1
  rcases hl with rfl | rfl
  · exact g_caught0
  · exact g_caught1
theorem r_flees (a l n : Int32) : agr (f_Top_flees a l n M0) (f_Mod_flees a l n) = true := by
  by_cases h1 : a ≠ 0 ∨ l < 0 ∨ 1 < l
  · exact agr_some (-1, M0) (-1, s_i M0 162 13 0) (by unfold f_Top_flees; rw [gl_no M0_r.1 h1, Option.bind_some, if_pos rfl]) (by unfold f_Mod_flees; simp only [mem_]; rw [mp_no sz.2.2.2.1 sz.2.2.2.2.1 h1, Option.bind_some, if_pos rfl]) rfl
  by_cases h2 : n < 1 ∨ (30 : Int32) < n
  · refine agr_some (-1, M0) (-1, s_i M0 162 13 0) ?_ ?_ rfl
    · unfold f_Top_flees
      rw [gl_yes h1, Option.bind_some, if_neg (by decide)]
      by_cases h3 : n < 1
      · rw [if_pos h3]
      · rcases h2 with h | h
        · exact absurd h h3
        · rw [if_neg h3, if_neg (Int32.not_le.mpr h)]
    · unfold f_Mod_flees
      simp only [mem_]
      rw [mp_yes h1, Option.bind_some, if_neg (by decide), inno h2, Option.bind_some, if_pos rfl]
  obtain ⟨rfl, hl⟩ := bad2 h1
  have h3 : (1 : Int) ≤ n.toInt := Int32.le_iff_toInt_le.mp (nl fun e => h2 (.inl e))
  have h4 : n.toInt ≤ 30 := Int32.le_iff_toInt_le.mp (nl fun e => h2 (.inr e))
  rcases hl with rfl | rfl
  · exact fin_all (P := fun n => agr (f_Top_flees 0 0 n M0) (f_Mod_flees 0 0 n) = true) 1 30 30 (by decide) h3 h4 g_flees0
  · exact fin_all (P := fun n => agr (f_Top_flees 0 1 n M0) (f_Mod_flees 0 1 n) = true) 1 30 30 (by decide) h3 h4 g_flees1
theorem r_reach (l a : Int32) : agr (f_Top_reach l a M0) (f_Mod_reach l a) = true := by
  by_cases h1 : l < 0 ∨ (1 : Int32) < l
  · refine agr_some (-1, M0) (-1, s_i M0 162 13 0) ?_ (by unfold f_Mod_reach; simp only [mem_]; rw [inno h1, Option.bind_some, if_pos rfl]) rfl
    unfold f_Top_reach
    by_cases h3 : l < 0
    · rw [if_pos h3]
    · rcases h1 with h | h
      · exact absurd h h3
      · rw [if_neg h3, if_pos h]
  have h2 : ¬ l < 0 := fun e => h1 (.inl e)
  have h3 : ¬ (1 : Int32) < l := fun e => h1 (.inr e)
  by_cases h4 : a ≠ 0
  · refine agr_some (-1, M0) (-1, s_i M0 162 13 0) ?_ ?_ rfl
    · unfold f_Top_reach
      rw [if_neg h2, if_neg h3, gh_no M0_r.1 h4, Option.bind_some, if_pos rfl]
    · unfold f_Mod_reach
      simp only [mem_]
      rw [inyes h2 h3, Option.bind_some, if_neg (by decide), mc_no sz.2.2.2.1 sz.2.2.2.2.1 h4, Option.bind_some, if_pos rfl]
  rw [d0 h4]
  rcases valid2 h1 with rfl | rfl
  · exact g_reach0
  · exact g_reach1
theorem r_wardrobe (a b : Int32) : agr (f_Top_wardrobe a b M0) (f_Mod_wardrobe a b) = true := by
  by_cases h1 : a ≠ 0
  · exact agr_some (-1, M0) (-1, s_i M0 162 13 0) (by unfold f_Top_wardrobe; rw [gs_no M0_r.1 h1, Option.bind_some, if_pos rfl]) (by unfold f_Mod_wardrobe; simp only [mem_]; rw [mc_no sz.2.2.2.1 sz.2.2.2.2.1 h1, Option.bind_some, if_pos rfl]) rfl
  rw [d0 h1]
  by_cases h2 : b ≠ 0
  · refine agr_some (-1, M0) (-1, s_i M0 162 13 0) ?_ ?_ rfl
    · unfold f_Top_wardrobe
      rw [gs_yes, Option.bind_some, if_neg (by decide), gs_no M0_r.1 h2, Option.bind_some, if_pos rfl]
    · unfold f_Mod_wardrobe
      simp only [mem_]
      rw [mc_yes, Option.bind_some, if_neg (by decide), mc_no sz.2.2.2.1 sz.2.2.2.2.1 h2, Option.bind_some, if_pos rfl]
  rw [d0 h2]
  exact g_wardrobe
theorem r_build (a w : Int32) : agr (f_Top_build a w M0) (f_Mod_build a w) = true := by
  by_cases h1 : a ≠ 0
  · exact agr_some (-1, M0) (-1, s_i M0 162 13 0) (by unfold f_Top_build; rw [gh_no M0_r.1 h1, Option.bind_some, if_pos rfl]) (by unfold f_Mod_build; simp only [mem_]; rw [mc_no sz.2.2.2.1 sz.2.2.2.2.1 h1, Option.bind_some, if_pos rfl]) rfl
  rw [d0 h1]
  by_cases h2 : w < 0 ∨ (3 : Int32) < w
  · refine agr_some (-1, M0) (-1, s_i M0 162 13 0) ?_ ?_ rfl
    · unfold f_Top_build
      rw [gh_yes, Option.bind_some, if_neg (by decide)]
      by_cases h3 : w < 0
      · rw [if_pos h3]
      · rcases h2 with h | h
        · exact absurd h h3
        · rw [if_neg h3, if_pos h]
    · unfold f_Mod_build
      simp only [mem_]
      rw [mc_yes, Option.bind_some, if_neg (by decide), inno h2, Option.bind_some, if_pos rfl]
  have h3 : (0 : Int) ≤ w.toInt := Int32.le_iff_toInt_le.mp (nl fun e => h2 (.inl e))
  have h4 : w.toInt ≤ 3 := Int32.le_iff_toInt_le.mp (nl fun e => h2 (.inr e))
  exact fin_all (P := fun w => agr (f_Top_build 0 w M0) (f_Mod_build 0 w) = true) 0 3 4 (by decide) h3 h4 g_build
theorem r_plank (a b : Int32) : agr (f_Top_plank a b M0) (f_Mod_plank a b) = true := by
  by_cases h1 : a ≠ 0
  · refine agr_some (-1, Xc) (-1, s_i Xc 162 13 0) ?_ ?_ rfl
    · unfold f_Top_plank f_Top_lay
      rw [Xc_eq, Option.bind_some, gh_no Xc_r.1 h1, Option.bind_some, if_pos rfl]
      rfl
    · unfold f_Mod_plank f_Mod_plankRefusal
      simp only [mem_]
      rw [mc_no szX.2.1 szX.2.2 h1, Option.bind_some, if_pos rfl, Option.bind_some, if_neg (by decide)]
  rw [d0 h1]
  by_cases h2 : b ≠ 0
  · refine agr_some (-1, Xc) (-1, s_i Xc 162 13 0) ?_ ?_ rfl
    · unfold f_Top_plank f_Top_lay
      rw [Xc_eq, Option.bind_some, gh_yesX, Option.bind_some, if_neg (by decide), gh_no Xc_r.1 h2, Option.bind_some, if_pos rfl]
      rfl
    · unfold f_Mod_plank f_Mod_plankRefusal
      simp only [mem_]
      rw [mc_yesX, Option.bind_some, if_neg (by decide), mc_no szX.2.1 szX.2.2 h2, Option.bind_some, if_pos rfl, Option.bind_some, if_neg (by decide)]
  rw [d0 h2]
  exact g_plank
theorem r_minutes (a : Int32) : agr (f_Top_minutes a M0) (f_Mod_minutes a) = true := by
  by_cases h : a < 0 ∨ (60 : Int32) < a
  · exact s_minutes a h
  · exact fin_all (P := fun a => agr (f_Top_minutes a M0) (f_Mod_minutes a) = true) 0 60 61 (by decide) (in_span h).1 (in_span h).2 g_minutes
theorem r_ahead (a : Int32) : agr (f_Top_ahead a M0) (f_Mod_ahead a) = true := by
  by_cases h : a < 0 ∨ (60 : Int32) < a
  · exact s_ahead a h
  · exact fin_all (P := fun a => agr (f_Top_ahead a M0) (f_Mod_ahead a) = true) 0 60 61 (by decide) (in_span h).1 (in_span h).2 g_ahead
theorem r_gossip (a : Int32) : agr (f_Top_gossip a M0) (f_Mod_gossip a) = true := by
  by_cases h : a < 0 ∨ (60 : Int32) < a
  · exact s_gossip a h
  · exact fin_all (P := fun a => agr (f_Top_gossip a M0) (f_Mod_gossip a) = true) 0 60 61 (by decide) (in_span h).1 (in_span h).2 g_gossip
theorem r_pieces (a : Int32) : agr (f_Top_pieces a M0) (f_Mod_pieces a) = true := by
  by_cases h : a < 0 ∨ (1 : Int32) < a
  · exact s_pieces a h
  · exact fin_all (P := fun a => agr (f_Top_pieces a M0) (f_Mod_pieces a) = true) 0 1 2 (by decide) (in_span h).1 (in_span h).2 g_pieces
theorem r_lairs (a : Int32) : agr (f_Top_lairs a M0) (f_Mod_lairs a) = true := by
  by_cases h : a < 1 ∨ (30 : Int32) < a
  · exact s_lairs a h
  · exact fin_all (P := fun a => agr (f_Top_lairs a M0) (f_Mod_lairs a) = true) 1 30 30 (by decide) (in_span h).1 (in_span h).2 g_lairs
theorem r_feast (a : Int32) : agr (f_Top_feast a M0) (f_Mod_feast a) = true := by
  by_cases h : a < 0 ∨ (1 : Int32) < a
  · refine agr_some (-1, Xc) (-1, s_i Xc 162 13 0) ?_ ?_ rfl
    · unfold f_Top_feast
      rw [Xc_eq, Option.bind_some]
      by_cases h3 : a < 0
      · rw [if_pos h3]
      · rcases h with h | h
        · exact absurd h h3
        · rw [if_neg h3, if_pos h]
    · unfold f_Mod_feast f_Mod_canFeast
      simp only [mem_]
      rw [inno h, Option.bind_some, if_pos rfl, Option.bind_some, if_pos rfl]
  · exact fin_all (P := fun a => agr (f_Top_feast a M0) (f_Mod_feast a) = true) 0 1 2 (by decide) (in_span h).1 (in_span h).2 g_feast
theorem r_keep (a : Int32) : agr (f_Top_keep a M0) (f_Mod_keep a) = true := by
  by_cases h : a < 0 ∨ (1 : Int32) < a
  · refine agr_some (0, M0) (0, s_i M0 162 13 0) ?_ ?_ rfl
    · unfold f_Top_keep f_History_store
      rw [if_pos (by decide +kernel)]
      by_cases h3 : a < 0
      · rw [if_pos h3]; rfl
      · rcases h with h | h
        · exact absurd h h3
        · rw [if_neg h3, if_neg (show ¬ a < 2 from fun e => by have h5 := Int32.lt_iff_toInt_lt.mp h; have h6 := Int32.lt_iff_toInt_lt.mp e; have h7 : (1 : Int32).toInt = 1 := rfl; have h8 : (2 : Int32).toInt = 2 := rfl; omega)]
          rfl
    · unfold f_Mod_keep
      simp only [mem_]
      rw [inno h, Option.bind_some, if_pos rfl]
  · exact fin_all (P := fun a => agr (f_Top_keep a M0) (f_Mod_keep a) = true) 0 1 2 (by decide) (in_span h).1 (in_span h).2 g_keep
theorem r_again (a : Int32) : agr (f_Top_again a M0) (f_Mod_again a) = true := by
  by_cases h : a < 0 ∨ (1 : Int32) < a
  · refine agr_some (0, M0) (0, s_i M0 162 13 0) ?_ ?_ rfl
    · unfold f_Top_again f_History_restore
      rw [if_pos (by decide +kernel)]
      by_cases h3 : a < 0
      · rw [if_pos h3]; rfl
      · rcases h with h | h
        · exact absurd h h3
        · rw [if_neg h3, if_pos (show 2 ≤ a from Int32.le_iff_toInt_le.mpr (by have h5 := Int32.lt_iff_toInt_lt.mp h; have h7 : (1 : Int32).toInt = 1 := rfl; have h8 : (2 : Int32).toInt = 2 := rfl; omega))]
          rfl
    · unfold f_Mod_again
      simp only [mem_]
      rw [inno h, Option.bind_some, if_pos rfl]
  · exact fin_all (P := fun a => agr (f_Top_again a M0) (f_Mod_again a) = true) 0 1 2 (by decide) (in_span h).1 (in_span h).2 g_again
theorem r_fire (a : Int32) : agr (f_Top_fire a M0) (f_Mod_fire a) = true := by
  by_cases h : a = -1
  · subst h; exact g_fire1
  by_cases h1 : a ≠ 0
  · refine agr_some (-2, M0) (-2, s_i M0 162 13 0) ?_ ?_ rfl
    · unfold f_Top_fire
      rw [if_neg h, gh_no M0_r.1 h1, Option.bind_some, if_pos rfl]
    · unfold f_Mod_fire
      simp only [mem_]
      rw [if_neg h, mc_no sz.2.2.2.1 sz.2.2.2.2.1 h1, Option.bind_some, if_pos rfl]
  rw [d0 h1]
  exact g_fire0
theorem r_end (a : Int32) : agr (f_Top_end a M0) (f_Mod_end a) = true := by
  by_cases h : a < 0
  · exact agr_some (0, M0) (0, s_i M0 162 13 0) (by unfold f_Top_end; rw [if_pos h]) (by unfold f_Mod_end; simp only [mem_]; rw [inno (.inl h), Option.bind_some, if_pos rfl]) rfl
  by_cases h1 : a ≠ 0
  · have h2 : ¬ a ≤ 0 := fun e => by
      have h3 := Int32.le_iff_toInt_le.mp e
      have h4 := Int32.le_iff_toInt_le.mp (ge1 h h1)
      have h7 : (1 : Int32).toInt = 1 := rfl
      have h8 : (0 : Int32).toInt = 0 := rfl
      omega
    refine agr_some (0, M0) (0, s_i M0 162 13 0) ?_ ?_ rfl
    · unfold f_Top_end
      rw [if_neg h, M0_r.2.2.2.2.2.2.2.2.2.1, if_neg h2]
    · unfold f_Mod_end
      simp only [mem_]
      rw [sz.2.2.2.2.2.2.2, inno (.inr (Int32.not_le.mp h2)), Option.bind_some, if_pos rfl]
  rw [d0 h1]
  exact g_end
theorem r_count (a : Int32) : agq (f_Top_count a M0) (f_Mod_count a M0) = true := by
  by_cases h : a < 0 ∨ (12 : Int32) < a
  · have hh : ∀ k : Int32, 0 ≤ k → k ≤ 12 → ¬ a = k := fun k h1 h2 e => by
      subst e
      rcases h with h | h
      · exact absurd h (Int32.not_lt.mpr h1)
      · exact absurd h (Int32.not_lt.mpr h2)
    have e1 : f_Top_count a M0 = some (-100) := by
      unfold f_Top_count
      rw [if_neg (hh 0 (by decide) (by decide)), if_neg (hh 1 (by decide) (by decide)), if_neg (hh 2 (by decide) (by decide)), if_neg (hh 3 (by decide) (by decide)), if_neg (hh 4 (by decide) (by decide)), if_neg (hh 5 (by decide) (by decide)), if_neg (hh 6 (by decide) (by decide)), if_neg (hh 7 (by decide) (by decide)), if_neg (hh 8 (by decide) (by decide)), if_neg (hh 9 (by decide) (by decide)), if_neg (hh 10 (by decide) (by decide)), if_neg (hh 11 (by decide) (by decide)), if_neg (hh 12 (by decide) (by decide))]
    have e2 : f_Mod_count a M0 = some (-100, s_i M0 162 13 0) := by
      unfold f_Mod_count
      simp only [mem_]
      rw [if_neg (hh 0 (by decide) (by decide)), if_neg (hh 1 (by decide) (by decide)), if_neg (hh 2 (by decide) (by decide)), if_neg (hh 3 (by decide) (by decide)), if_neg (hh 4 (by decide) (by decide)), if_neg (hh 5 (by decide) (by decide)), if_neg (hh 6 (by decide) (by decide)), if_neg (hh 7 (by decide) (by decide)), if_neg (hh 8 (by decide) (by decide)), if_neg (hh 9 (by decide) (by decide)), if_neg (hh 10 (by decide) (by decide)), if_neg (hh 11 (by decide) (by decide)), if_neg (hh 12 (by decide) (by decide))]
    rw [e1, e2]; rfl
  · exact fin_all (P := fun a => agq (f_Top_count a M0) (f_Mod_count a M0) = true) 0 12 13 (by decide) (in_span h).1 (in_span h).2 g_count
