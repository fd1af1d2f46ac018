/-! p1: the refused calls -/
theorem agr_some {t : Option (Int32 × Mem)} {m : Mem → Option (Int32 × Mem)} (p q : Int32 × Mem) (ht : t = some p) (hm : m p.2 = some q) (e : p.1 = q.1) : agr t m = true := by
  simp only [agr, ht, hm, e, decide_true]
theorem sz : (s_i M0 162 13 0).1 3 3 = 1 ∧ (s_i M0 162 13 0).1 6 4 = 0 ∧ (s_i M0 162 13 0).1 162 4 = 0 ∧ (s_i M0 162 13 0).1 162 2 = 1 ∧ (s_i M0 162 13 0).1 162 3 = 1 ∧ (s_i M0 162 13 0).1 162 8 = -1 ∧ (s_i M0 162 13 0).1 162 12 = 0 ∧ (s_i M0 162 13 0).1 162 10 = 0 := by decide +kernel
theorem szX : (s_i Xc 162 13 0).1 162 4 = 0 ∧ (s_i Xc 162 13 0).1 162 2 = 1 ∧ (s_i Xc 162 13 0).1 162 3 = 1 := by decide +kernel
theorem gt60 {a : Int32} (h : ¬ a ≤ 60) : (60 : Int32) < a := Int32.not_le.mp h
theorem r_tryst (a b : Int32) : agr (f_Top_tryst a b M0) (f_Mod_tryst a b) = true :=
  agr_some (-1, M0) (-1, s_i M0 162 13 0) (by unfold f_Top_tryst; simp only [f_Top_areManAndWoman, ch_no M0_r.2.1, Option.bind_some, ↓reduceIte]) (by unfold f_Mod_tryst; simp only [mem_, f_Mod_areManWoman, mi_no sz.2.2.1, Option.bind_some, ↓reduceIte]) rfl
theorem r_open (a b : Int32) : agr (f_Top_open a b M0) (f_Mod_open a b) = true :=
  agr_some (-1, M0) (-1, s_i M0 162 13 0) (by unfold f_Top_open; simp only [f_Top_areManAndWoman, ch_no M0_r.2.1, Option.bind_some, ↓reduceIte]) (by unfold f_Mod_open; simp only [mem_, f_Mod_areManWoman, mi_no sz.2.2.1, Option.bind_some, ↓reduceIte]) rfl
theorem r_part (a b : Int32) : agr (f_Top_part a b M0) (f_Mod_part a b) = true :=
  agr_some (-1, M0) (-1, s_i M0 162 13 0) (by unfold f_Top_part; simp only [f_Top_areManAndWoman, ch_no M0_r.2.1, Option.bind_some, ↓reduceIte]) (by unfold f_Mod_part; simp only [mem_, f_Mod_areManWoman, mi_no sz.2.2.1, Option.bind_some, ↓reduceIte]) rfl
theorem r_meet (a b : Int32) : agr (f_Top_meet a b M0) (f_Mod_meet a b) = true :=
  agr_some (-1, M0) (-1, s_i M0 162 13 0) (by unfold f_Top_meet; simp only [f_Top_areTwo, ch_no M0_r.2.1, Option.bind_some, ↓reduceIte]) (by unfold f_Mod_meet; simp only [mem_, f_Mod_areTwo, mi_no sz.2.2.1, Option.bind_some, ↓reduceIte]) rfl
theorem r_met (a b : Int32) : agq (f_Top_met a b M0) (f_Mod_met a b M0) = true := by
  have h1 : f_Top_met a b M0 = some (-1) := by unfold f_Top_met; simp only [f_Top_areTwo, ch_no M0_r.2.1, Option.bind_some, ↓reduceIte]
  have h2 : f_Mod_met a b M0 = some (-1, s_i M0 162 13 0) := by unfold f_Mod_met; simp only [mem_, f_Mod_areTwo, mi_no sz.2.2.1, Option.bind_some, ↓reduceIte]
  rw [h1, h2]; rfl
theorem r_tell (a : Int32) : agr (f_Top_tell a M0) (f_Mod_tell a) = true :=
  agr_some (-1, Xc) (-1, s_i Xc 162 13 0) (by unfold f_Top_tell; simp only [Xc_eq, f_Top_give, ch_no Xc_r.2.1, Option.bind_some, ↓reduceIte]) (by unfold f_Mod_tell; simp only [mem_, f_Mod_canTell, mi_no szX.1, Option.bind_some, ↓reduceIte]) rfl
theorem s_minutes (a : Int32) (h : a < 0 ∨ (60 : Int32) < a) : agr (f_Top_minutes a M0) (f_Mod_minutes a) = true := by
  refine agr_some (-1, M0) (-1, s_i M0 162 13 0) ?_ (by unfold f_Mod_minutes; simp only [mem_, inno h, Option.bind_some, ↓reduceIte]) rfl
  unfold f_Top_minutes
  by_cases h1 : a < 0
  · rw [if_pos h1]
  · rcases h with h | h
    · exact absurd h h1
    · rw [if_neg h1, if_neg (Int32.not_le.mpr h)]
theorem s_ahead (a : Int32) (h : a < 0 ∨ (60 : Int32) < a) : agr (f_Top_ahead a M0) (f_Mod_ahead a) = true := by
  refine agr_some (-1, M0) (-1, s_i M0 162 13 0) ?_ (by unfold f_Mod_ahead; simp only [mem_, inno h, Option.bind_some, ↓reduceIte]) rfl
  unfold f_Top_ahead
  by_cases h1 : a < 0
  · rw [if_pos h1]
  · rcases h with h | h
    · exact absurd h h1
    · rw [if_neg h1, if_neg (Int32.not_le.mpr h)]
theorem s_gossip (a : Int32) (h : a < 0 ∨ (60 : Int32) < a) : agr (f_Top_gossip a M0) (f_Mod_gossip a) = true := by
  refine agr_some (-2, M0) (-2, s_i M0 162 13 0) ?_ (by unfold f_Mod_gossip; simp only [mem_, inno h, Option.bind_some, ↓reduceIte]) rfl
  unfold f_Top_gossip
  by_cases h1 : a < 0
  · rw [if_pos h1]
  · rcases h with h | h
    · exact absurd h h1
    · rw [if_neg h1, if_neg (Int32.not_le.mpr h)]
theorem s_pieces (a : Int32) (h : a < 0 ∨ (1 : Int32) < a) : agr (f_Top_pieces a M0) (f_Mod_pieces a) = true := by
  refine agr_some (-1, M0) (-1, s_i M0 162 13 0) ?_ (by unfold f_Mod_pieces; simp only [mem_, inno h, Option.bind_some, ↓reduceIte]) rfl
  unfold f_Top_pieces
  by_cases h1 : a < 0
  · rw [if_pos h1]
  · rcases h with h | h
    · exact absurd h h1
    · rw [if_neg h1, if_neg (Int32.not_le.mpr h)]
theorem s_lairs (a : Int32) (h : a < 1 ∨ (30 : Int32) < a) : agr (f_Top_lairs a M0) (f_Mod_lairs a) = true := by
  refine agr_some (-1, M0) (-1, s_i M0 162 13 0) ?_ (by unfold f_Mod_lairs; simp only [mem_, inno h, Option.bind_some, ↓reduceIte]) rfl
  unfold f_Top_lairs
  by_cases h1 : a < 1
  · rw [if_pos h1]
  · rcases h with h | h
    · exact absurd h h1
    · rw [if_neg h1, if_neg (Int32.not_le.mpr h)]
theorem s_fights (a : Int32) (h : a < 0 ∨ (60 : Int32) < a) : agr (f_Top_fights a M0) (f_Mod_fights a) = true := by
  refine agr_some (-1, M0) (-1, s_i M0 162 13 0) ?_ (by unfold f_Mod_fights; simp only [mem_, inno h, Option.bind_some, ↓reduceIte]) rfl
  unfold f_Top_fights
  by_cases h1 : a < 0
  · rw [if_pos h1]
  · rcases h with h | h
    · exact absurd h h1
    · rw [if_neg h1, if_neg (Int32.not_le.mpr h)]
theorem r_fights (a : Int32) : agr (f_Top_fights a M0) (f_Mod_fights a) = true := by
  by_cases h : a < 0 ∨ (60 : Int32) < a
  · exact s_fights a h
  have h1 : ¬ a < 0 := fun e => h (.inl e)
  have h2 : ¬ (60 : Int32) < a := fun e => h (.inr e)
  refine agr_some (-2, M0) (-2, s_i M0 162 13 0) ?_ ?_ rfl
  · unfold f_Top_fights
    rw [if_neg h1, if_pos (nl h2), if_pos M0_r.2.2.2.2.2.1]
  · unfold f_Mod_fights
    simp only [mem_, inyes h1 h2, Option.bind_some]
    rw [if_neg (by decide), if_pos sz.2.2.2.2.2.1]
theorem r_route (a : Int32) : agr (f_Top_route a M0) (f_Mod_route a) = true := by
  have h2 : ∃ q, f_Mod_route a (s_i M0 1 1 0) = some (-100, q) := by
    unfold f_Mod_route
    simp only [mem_]
    have hb : ∃ X, f_Mod_begin 167 ((s_i (s_i M0 1 1 0) 162 13 0).1 162 10) 80 (s_i (s_i M0 1 1 0) 162 13 0) = some X ∧ (s_i X 162 10 0).1 162 4 = 0 := ⟨_, rfl, by decide +kernel⟩
    obtain ⟨X, e, hX⟩ := hb
    rw [e]
    simp only [Option.bind_some, mi_no hX, ↓reduceIte]
    exact ⟨_, rfl⟩
  obtain ⟨q, hq⟩ := h2
  refine agr_some (-100, s_i M0 1 1 0) (-100, q) ?_ hq rfl
  unfold f_Top_route
  simp only [ch_no M0_r.2.1, Option.bind_some, ↓reduceIte, j_Top_route_28, mem_]
  rw [if_neg (by decide)]
theorem bad2 {l c : Int32} (h : ¬ (c ≠ 0 ∨ l < 0 ∨ 1 < l)) : c = 0 ∧ (l = 0 ∨ l = 1) := ⟨Decidable.byContradiction fun e => h (.inl e), valid2 fun e => h (.inr e)⟩
theorem gl_yes {l c : Int32} (h : ¬ (c ≠ 0 ∨ l < 0 ∨ 1 < l)) : f_Ground_holds l c M0 = some 1 := by
  obtain ⟨rfl, rfl | rfl⟩ := bad2 h <;> decide +kernel
theorem mp_yes {l c : Int32} (h : ¬ (c ≠ 0 ∨ l < 0 ∨ 1 < l)) : f_Mod_isPlaceOf l c (s_i M0 162 13 0) = some 1 := by
  obtain ⟨rfl, rfl | rfl⟩ := bad2 h <;> decide +kernel
theorem gl_yes0 : f_Ground_holds 0 0 M0 = some 1 := by decide +kernel
theorem gl_yes1 : f_Ground_holds 1 0 M0 = some 1 := by decide +kernel
theorem mp_yes0 : f_Mod_isPlaceOf 0 0 (s_i M0 162 13 0) = some 1 := by decide +kernel
theorem mp_yes1 : f_Mod_isPlaceOf 1 0 (s_i M0 162 13 0) = some 1 := by decide +kernel
theorem gs_yes : f_Ground_isStair 0 M0 = some 1 := by decide +kernel
theorem gh_yes : f_Ground_has 0 M0 = some 1 := by decide +kernel
theorem gh_yesX : f_Ground_has 0 Xc = some 1 := by decide +kernel
theorem mc_yes : f_Mod_isCell 0 (s_i M0 162 13 0) = some 1 := by decide +kernel
theorem mc_yesX : f_Mod_isCell 0 (s_i Xc 162 13 0) = some 1 := by decide +kernel
theorem d0 {c : Int32} (h : ¬ c ≠ 0) : c = 0 := Decidable.byContradiction h
theorem in_span {a : Int32} {lo hi : Int32} (h : ¬ (a < lo ∨ hi < a)) : lo.toInt ≤ a.toInt ∧ a.toInt ≤ hi.toInt := ⟨Int32.le_iff_toInt_le.mp (nl fun e => h (.inl e)), Int32.le_iff_toInt_le.mp (nl fun e => h (.inr e))⟩
