/-! every call keeps it that the fire is nowhere or at a cell (77h) -/
theorem ty_sign {n : Int} {M : Mem} (h : IY n M) (v1 : Int32) : ∃ x, f_Top_sign v1 M = some x ∧ ∃ r, f_Mod_sign v1 x.2 = some r ∧ (x.1 = r.1) ∧ IY (n + 1) r.2 := by
  obtain ⟨x, ex, r, er, e_q, iw⟩ := tz_sign h.1 v1
  have fr := wf_Mod_sign v1 x.2 (L := []) (sb_r _) Fx_r er
  have fx := wf_Top_sign v1 M (L := []) (sb_r _) Fx_r ex
  exact ⟨x, ex, r, er, e_q, iw, FRC_k h.2 (fx 0 16 (by decide +kernel) (by simp)).1 (fx 3 3 (by decide +kernel) (by simp)).1 (fr 0 16 (by decide +kernel) (by simp)).1 (fr 3 3 (by decide +kernel) (by simp)).1⟩
theorem ty_end {n : Int} {M : Mem} (h : IY n M) (v1 : Int32) : ∃ x, f_Top_end v1 M = some x ∧ ∃ r, f_Mod_end v1 x.2 = some r ∧ (x.1 = r.1) ∧ IY (n + 1) r.2 := by
  obtain ⟨x, ex, r, er, e_q, iw⟩ := tz_end h.1 v1
  have fr := wf_Mod_end v1 x.2 (L := []) (sb_r _) Fx_r er
  have fx := wf_Top_end v1 M (L := []) (sb_r _) Fx_r ex
  exact ⟨x, ex, r, er, e_q, iw, FRC_k h.2 (fx 0 16 (by decide +kernel) (by simp)).1 (fx 3 3 (by decide +kernel) (by simp)).1 (fr 0 16 (by decide +kernel) (by simp)).1 (fr 3 3 (by decide +kernel) (by simp)).1⟩
theorem ty_town {n : Int} {M : Mem} (h : IY n M)  : ∃ x, f_Top_town  M = some x ∧ ∃ r, f_Mod_town  x.2 = some r ∧ (x.1 = r.1) ∧ IY (n + 1) r.2 := by
  obtain ⟨x, ex, r, er, e_q, iw⟩ := tz_town h.1 
  have fr := wf_Mod_town  x.2 (L := []) (sb_r _) Fx_r er
  exact ⟨x, ex, r, er, e_q, iw, FRC_town h.1.1.1.1.1 h.2 ex (fr 0 16 (by decide +kernel) (by simp)).1 (fr 3 3 (by decide +kernel) (by simp)).1⟩
theorem ty_folk {n : Int} (hn : n ≤ 1000000) {M : Mem} (h : IY n M)  : ∃ x, f_Top_folk  M = some x ∧ ∃ r, f_Mod_folk  x.2 = some r ∧ (True) ∧ IY (n + 1) r.2 := by
  obtain ⟨x, ex, r, er, e_q, iw⟩ := tz_folk hn h.1 
  have fr := wf_Mod_folk  x.2 (L := []) (sb_r _) Fx_r er
  have fx := wf_Top_folk  M (L := []) (sb_r _) Fx_r ex
  exact ⟨x, ex, r, er, e_q, iw, FRC_k h.2 (fx 0 16 (by decide +kernel) (by simp)).1 (fx 3 3 (by decide +kernel) (by simp)).1 (fr 0 16 (by decide +kernel) (by simp)).1 (fr 3 3 (by decide +kernel) (by simp)).1⟩
theorem ty_rule {n : Int} {M : Mem} (h : IY n M)  : ∃ x, f_Top_rule  M = some x ∧ ∃ r, f_Mod_rule  x.2 = some r ∧ (x.1 = r.1) ∧ IY (n + 1) r.2 := by
  obtain ⟨x, ex, r, er, e_q, iw⟩ := tz_rule h.1 
  have fr := wf_Mod_rule  x.2 (L := []) (sb_r _) Fx_r er
  have fx := wf_Top_rule  M (L := []) (sb_r _) Fx_r ex
  exact ⟨x, ex, r, er, e_q, iw, FRC_k h.2 (fx 0 16 (by decide +kernel) (by simp)).1 (fx 3 3 (by decide +kernel) (by simp)).1 (fr 0 16 (by decide +kernel) (by simp)).1 (fr 3 3 (by decide +kernel) (by simp)).1⟩
theorem ty_route {n : Int} (hn : n ≤ 1000000) {M : Mem} (h : IY n M) (v1 : Int32) : ∃ x, f_Top_route v1 M = some x ∧ ∃ r, f_Mod_route v1 x.2 = some r ∧ (x.1 = r.1) ∧ IY (n + 1) r.2 := by
  obtain ⟨x, ex, r, er, e_q, iw⟩ := tz_route hn h.1 v1
  have fr := wf_Mod_route v1 x.2 (L := []) (sb_r _) Fx_r er
  have fx := wf_Top_route v1 M (L := []) (sb_r _) Fx_r ex
  exact ⟨x, ex, r, er, e_q, iw, FRC_k h.2 (fx 0 16 (by decide +kernel) (by simp)).1 (fx 3 3 (by decide +kernel) (by simp)).1 (fr 0 16 (by decide +kernel) (by simp)).1 (fr 3 3 (by decide +kernel) (by simp)).1⟩
theorem ty_cell {n : Int} {M : Mem} (h : IY n M) (v1 : Int32) (v2 : Int32) : ∃ x, f_Lw_cell v1 v2 M = some x ∧ ∃ r, f_Mod_cell v1 v2 x.2 = some r ∧ (True) ∧ IY (n + 1) r.2 := by
  obtain ⟨x, ex, r, er, e_q, iw⟩ := tz_cell h.1 v1 v2
  have fr := wf_Mod_cell v1 v2 x.2 (L := []) (sb_r _) Fx_r er
  have fx : Fx mK [] M x.2 := by
    unfold f_Lw_cell at ex
    obtain ⟨y, ey, ex⟩ := bo ex
    obtain rfl := Option.some.inj ex
    exact hv_fx y Fx_r
  exact ⟨x, ex, r, er, e_q, iw, FRC_k h.2 (fx 0 16 (by decide +kernel) (by simp)).1 (fx 3 3 (by decide +kernel) (by simp)).1 (fr 0 16 (by decide +kernel) (by simp)).1 (fr 3 3 (by decide +kernel) (by simp)).1⟩
theorem ty_person {n : Int} {M : Mem} (h : IY n M) (v1 : Int32) (v2 : Int32) : ∃ x, f_Lw_person v1 v2 M = some x ∧ ∃ r, f_Mod_person v1 v2 x.2 = some r ∧ (True) ∧ IY (n + 1) r.2 := by
  obtain ⟨x, ex, r, er, e_q, iw⟩ := tz_person h.1 v1 v2
  have fr := wf_Mod_person v1 v2 x.2 (L := []) (sb_r _) Fx_r er
  have fx : Fx mK [] M x.2 := by
    unfold f_Lw_person at ex
    obtain ⟨y, ey, ex⟩ := bo ex
    obtain rfl := Option.some.inj ex
    exact hv_fx y.1 (wf_Top_person v1 v2 M (by decide +kernel) Fx_r ey)
  exact ⟨x, ex, r, er, e_q, iw, FRC_k h.2 (fx 0 16 (by decide +kernel) (by simp)).1 (fx 3 3 (by decide +kernel) (by simp)).1 (fr 0 16 (by decide +kernel) (by simp)).1 (fr 3 3 (by decide +kernel) (by simp)).1⟩
theorem ty_build {n : Int} (hn : n ≤ 1000000) {M : Mem} (h : IY n M) (v1 : Int32) (v2 : Int32) : ∃ x, f_Top_build v1 v2 M = some x ∧ ∃ r, f_Mod_build v1 v2 x.2 = some r ∧ (x.1 = r.1) ∧ IY (n + 1) r.2 := by
  obtain ⟨x, ex, r, er, e_q, iw⟩ := tz_build hn h.1 v1 v2
  have fr := wf_Mod_build v1 v2 x.2 (L := []) (sb_r _) Fx_r er
  have fx := wf_Top_build v1 v2 M (L := []) (sb_r _) Fx_r ex
  exact ⟨x, ex, r, er, e_q, iw, FRC_k h.2 (fx 0 16 (by decide +kernel) (by simp)).1 (fx 3 3 (by decide +kernel) (by simp)).1 (fr 0 16 (by decide +kernel) (by simp)).1 (fr 3 3 (by decide +kernel) (by simp)).1⟩
theorem ty_plank {n : Int} {M : Mem} (h : IY n M) (v1 : Int32) (v2 : Int32) : ∃ x, f_Top_plank v1 v2 M = some x ∧ ∃ r, f_Mod_plank v1 v2 x.2 = some r ∧ (x.1 = r.1) ∧ IY (n + 1) r.2 := by
  obtain ⟨x, ex, r, er, e_q, iw⟩ := tz_plank h.1 v1 v2
  have fr := wf_Mod_plank v1 v2 x.2 (L := []) (sb_r _) Fx_r er
  have fx := wf_Top_plank v1 v2 M (L := []) (sb_r _) Fx_r ex
  exact ⟨x, ex, r, er, e_q, iw, FRC_k h.2 (fx 0 16 (by decide +kernel) (by simp)).1 (fx 3 3 (by decide +kernel) (by simp)).1 (fr 0 16 (by decide +kernel) (by simp)).1 (fr 3 3 (by decide +kernel) (by simp)).1⟩
theorem ty_take {n : Int} {M : Mem} (h : IY n M)  : ∃ x, f_Top_take  M = some x ∧ ∃ r, f_Mod_take  x.2 = some r ∧ (x.1 = r.1) ∧ IY (n + 1) r.2 := by
  obtain ⟨x, ex, r, er, e_q, iw⟩ := tz_take h.1 
  have fr := wf_Mod_take  x.2 (L := []) (sb_r _) Fx_r er
  have fx := wf_Top_take  M (L := []) (sb_r _) Fx_r ex
  exact ⟨x, ex, r, er, e_q, iw, FRC_k h.2 (fx 0 16 (by decide +kernel) (by simp)).1 (fx 3 3 (by decide +kernel) (by simp)).1 (fr 0 16 (by decide +kernel) (by simp)).1 (fr 3 3 (by decide +kernel) (by simp)).1⟩
theorem ty_sheet {n : Int} {M : Mem} (h : IY n M) (v1 : Int32) (v2 : Int32) (v3 : Int32) (v4 : Int32) : ∃ x, f_Top_sheet v1 v2 v3 v4 M = some x ∧ ∃ r, f_Mod_sheet v1 v2 v3 v4 x.2 = some r ∧ (x.1 = r.1) ∧ IY (n + 1) r.2 := by
  obtain ⟨x, ex, r, er, e_q, iw⟩ := tz_sheet h.1 v1 v2 v3 v4
  have fr := wf_Mod_sheet v1 v2 v3 v4 x.2 (L := []) (sb_r _) Fx_r er
  have fx := wf_Top_sheet v1 v2 v3 v4 M (L := []) (sb_r _) Fx_r ex
  exact ⟨x, ex, r, er, e_q, iw, FRC_k h.2 (fx 0 16 (by decide +kernel) (by simp)).1 (fx 3 3 (by decide +kernel) (by simp)).1 (fr 0 16 (by decide +kernel) (by simp)).1 (fr 3 3 (by decide +kernel) (by simp)).1⟩
theorem ty_tell {n : Int} {M : Mem} (h : IY n M) (v1 : Int32) : ∃ x, f_Top_tell v1 M = some x ∧ ∃ r, f_Mod_tell v1 x.2 = some r ∧ (x.1 = r.1) ∧ IY (n + 1) r.2 := by
  obtain ⟨x, ex, r, er, e_q, iw⟩ := tz_tell h.1 v1
  have fr := wf_Mod_tell v1 x.2 (L := []) (sb_r _) Fx_r er
  have fx := wf_Top_tell v1 M (L := []) (sb_r _) Fx_r ex
  exact ⟨x, ex, r, er, e_q, iw, FRC_k h.2 (fx 0 16 (by decide +kernel) (by simp)).1 (fx 3 3 (by decide +kernel) (by simp)).1 (fr 0 16 (by decide +kernel) (by simp)).1 (fr 3 3 (by decide +kernel) (by simp)).1⟩
theorem ty_feast {n : Int} {M : Mem} (h : IY n M) (v1 : Int32) : ∃ x, f_Top_feast v1 M = some x ∧ ∃ r, f_Mod_feast v1 x.2 = some r ∧ (x.1 = r.1) ∧ IY (n + 1) r.2 := by
  obtain ⟨x, ex, r, er, e_q, iw⟩ := tz_feast h.1 v1
  have fr := wf_Mod_feast v1 x.2 (L := []) (sb_r _) Fx_r er
  have fx := wf_Top_feast v1 M (L := []) (sb_r _) Fx_r ex
  exact ⟨x, ex, r, er, e_q, iw, FRC_k h.2 (fx 0 16 (by decide +kernel) (by simp)).1 (fx 3 3 (by decide +kernel) (by simp)).1 (fr 0 16 (by decide +kernel) (by simp)).1 (fr 3 3 (by decide +kernel) (by simp)).1⟩
theorem ty_minute {n : Int} {M : Mem} (h : IY n M)  : ∃ x, f_Top_minute  M = some x ∧ ∃ r, f_Mod_minute  x.2 = some r ∧ (x.1 = r.1) ∧ IY (n + 1) r.2 := by
  obtain ⟨x, ex, r, er, e_q, iw⟩ := tz_minute h.1 
  have fr := wf_Mod_minute  x.2 (L := []) (sb_r _) Fx_r er
  have fx := wf_Top_minute  M (L := []) (sb_r _) Fx_r ex
  exact ⟨x, ex, r, er, e_q, iw, FRC_k h.2 (fx 0 16 (by decide +kernel) (by simp)).1 (fx 3 3 (by decide +kernel) (by simp)).1 (fr 0 16 (by decide +kernel) (by simp)).1 (fr 3 3 (by decide +kernel) (by simp)).1⟩
theorem ty_minutes {n : Int} {M : Mem} (h : IY n M) (v1 : Int32) : ∃ x, f_Top_minutes v1 M = some x ∧ ∃ r, f_Mod_minutes v1 x.2 = some r ∧ (x.1 = r.1) ∧ IY (n + 1) r.2 := by
  obtain ⟨x, ex, r, er, e_q, iw⟩ := tz_minutes h.1 v1
  have fr := wf_Mod_minutes v1 x.2 (L := []) (sb_r _) Fx_r er
  have fx := wf_Top_minutes v1 M (L := []) (sb_r _) Fx_r ex
  exact ⟨x, ex, r, er, e_q, iw, FRC_k h.2 (fx 0 16 (by decide +kernel) (by simp)).1 (fx 3 3 (by decide +kernel) (by simp)).1 (fr 0 16 (by decide +kernel) (by simp)).1 (fr 3 3 (by decide +kernel) (by simp)).1⟩
theorem ty_evening {n : Int} {M : Mem} (h : IY n M)  : ∃ x, f_Top_evening  M = some x ∧ ∃ r, f_Mod_evening  x.2 = some r ∧ (x.1 = r.1) ∧ IY (n + 1) r.2 := by
  obtain ⟨x, ex, r, er, e_q, iw⟩ := tz_evening h.1 
  have fr := wf_Mod_evening  x.2 (L := []) (sb_r _) Fx_r er
  have fx := wf_Top_evening  M (L := []) (sb_r _) Fx_r ex
  exact ⟨x, ex, r, er, e_q, iw, FRC_k h.2 (fx 0 16 (by decide +kernel) (by simp)).1 (fx 3 3 (by decide +kernel) (by simp)).1 (fr 0 16 (by decide +kernel) (by simp)).1 (fr 3 3 (by decide +kernel) (by simp)).1⟩
theorem ty_undo {n : Int} {M : Mem} (h : IY n M)  : ∃ x, f_Top_undo  M = some x ∧ ∃ r, f_Mod_undo  x.2 = some r ∧ (x.1 = r.1) ∧ IY (n + 1) r.2 := by
  obtain ⟨x, ex, r, er, e_q, iw⟩ := tz_undo h.1 
  have fr := wf_Mod_undo  x.2 (L := []) (sb_r _) Fx_r er
  have fx := wf_Top_undo  M (L := []) (sb_r _) Fx_r ex
  exact ⟨x, ex, r, er, e_q, iw, FRC_k h.2 (fx 0 16 (by decide +kernel) (by simp)).1 (fx 3 3 (by decide +kernel) (by simp)).1 (fr 0 16 (by decide +kernel) (by simp)).1 (fr 3 3 (by decide +kernel) (by simp)).1⟩
theorem ty_met {n : Int} {M : Mem} (h : IY n M) (v1 : Int32) (v2 : Int32) : ∃ x, f_Top_met v1 v2 M = some x ∧ ∃ r, f_Mod_met v1 v2 M = some r ∧ (True) ∧ IY (n + 1) r.2 := by
  obtain ⟨x, ex, r, er, e_q, iw⟩ := tz_met h.1 v1 v2
  have fr := wf_Mod_met v1 v2 M (L := []) (sb_r _) Fx_r er
  exact ⟨x, ex, r, er, e_q, iw, FRC_k h.2 rfl rfl (fr 0 16 (by decide +kernel) (by simp)).1 (fr 3 3 (by decide +kernel) (by simp)).1⟩
theorem ty_ahead {n : Int} {M : Mem} (h : IY n M) (v1 : Int32) : ∃ x, f_Top_ahead v1 M = some x ∧ ∃ r, f_Mod_ahead v1 x.2 = some r ∧ (True) ∧ IY (n + 1) r.2 := by
  obtain ⟨x, ex, r, er, e_q, iw⟩ := tz_ahead h.1 v1
  have fr := wf_Mod_ahead v1 x.2 (L := []) (sb_r _) Fx_r er
  have fx := wf_Top_ahead v1 M (L := []) (sb_r _) Fx_r ex
  exact ⟨x, ex, r, er, e_q, iw, FRC_k h.2 (fx 0 16 (by decide +kernel) (by simp)).1 (fx 3 3 (by decide +kernel) (by simp)).1 (fr 0 16 (by decide +kernel) (by simp)).1 (fr 3 3 (by decide +kernel) (by simp)).1⟩
theorem ty_meet {n : Int} {M : Mem} (h : IY n M) (v1 : Int32) (v2 : Int32) : ∃ x, f_Top_meet v1 v2 M = some x ∧ ∃ r, f_Mod_meet v1 v2 x.2 = some r ∧ (True) ∧ IY (n + 1) r.2 := by
  obtain ⟨x, ex, r, er, e_q, iw⟩ := tz_meet h.1 v1 v2
  have fr := wf_Mod_meet v1 v2 x.2 (L := []) (sb_r _) Fx_r er
  have fx := wf_Top_meet v1 v2 M (L := []) (sb_r _) Fx_r ex
  exact ⟨x, ex, r, er, e_q, iw, FRC_k h.2 (fx 0 16 (by decide +kernel) (by simp)).1 (fx 3 3 (by decide +kernel) (by simp)).1 (fr 0 16 (by decide +kernel) (by simp)).1 (fr 3 3 (by decide +kernel) (by simp)).1⟩
theorem ty_known {n : Int} {M : Mem} (h : IY n M)  : ∃ x, f_Top_known  M = some x ∧ ∃ r, f_Mod_known  x.2 = some r ∧ (True) ∧ IY (n + 1) r.2 := by
  obtain ⟨x, ex, r, er, e_q, iw⟩ := tz_known h.1 
  have fr := wf_Mod_known  x.2 (L := []) (sb_r _) Fx_r er
  have fx := wf_Top_known  M (L := []) (sb_r _) Fx_r ex
  exact ⟨x, ex, r, er, e_q, iw, FRC_k h.2 (fx 0 16 (by decide +kernel) (by simp)).1 (fx 3 3 (by decide +kernel) (by simp)).1 (fr 0 16 (by decide +kernel) (by simp)).1 (fr 3 3 (by decide +kernel) (by simp)).1⟩
theorem ty_gossip {n : Int} {M : Mem} (h : IY n M) (v1 : Int32) : ∃ x, f_Top_gossip v1 M = some x ∧ ∃ r, f_Mod_gossip v1 x.2 = some r ∧ (True) ∧ IY (n + 1) r.2 := by
  obtain ⟨x, ex, r, er, e_q, iw⟩ := tz_gossip h.1 v1
  have fr := wf_Mod_gossip v1 x.2 (L := []) (sb_r _) Fx_r er
  have fx := wf_Top_gossip v1 M (L := []) (sb_r _) Fx_r ex
  exact ⟨x, ex, r, er, e_q, iw, FRC_k h.2 (fx 0 16 (by decide +kernel) (by simp)).1 (fx 3 3 (by decide +kernel) (by simp)).1 (fr 0 16 (by decide +kernel) (by simp)).1 (fr 3 3 (by decide +kernel) (by simp)).1⟩
theorem ty_pieces {n : Int} {M : Mem} (h : IY n M) (v1 : Int32) : ∃ x, f_Top_pieces v1 M = some x ∧ ∃ r, f_Mod_pieces v1 x.2 = some r ∧ (True) ∧ IY (n + 1) r.2 := by
  obtain ⟨x, ex, r, er, e_q, iw⟩ := tz_pieces h.1 v1
  have fr := wf_Mod_pieces v1 x.2 (L := []) (sb_r _) Fx_r er
  have fx := wf_Top_pieces v1 M (L := []) (sb_r _) Fx_r ex
  exact ⟨x, ex, r, er, e_q, iw, FRC_k h.2 (fx 0 16 (by decide +kernel) (by simp)).1 (fx 3 3 (by decide +kernel) (by simp)).1 (fr 0 16 (by decide +kernel) (by simp)).1 (fr 3 3 (by decide +kernel) (by simp)).1⟩
theorem ty_reach {n : Int} {M : Mem} (h : IY n M) (v1 : Int32) (v2 : Int32) : ∃ x, f_Top_reach v1 v2 M = some x ∧ ∃ r, f_Mod_reach v1 v2 x.2 = some r ∧ (True) ∧ IY (n + 1) r.2 := by
  obtain ⟨x, ex, r, er, e_q, iw⟩ := tz_reach h.1 v1 v2
  have fr := wf_Mod_reach v1 v2 x.2 (L := []) (sb_r _) Fx_r er
  have fx := wf_Top_reach v1 v2 M (L := []) (sb_r _) Fx_r ex
  exact ⟨x, ex, r, er, e_q, iw, FRC_k h.2 (fx 0 16 (by decide +kernel) (by simp)).1 (fx 3 3 (by decide +kernel) (by simp)).1 (fr 0 16 (by decide +kernel) (by simp)).1 (fr 3 3 (by decide +kernel) (by simp)).1⟩
theorem ty_path {n : Int} {M : Mem} (h : IY n M) (v1 : Int32) (v2 : Int32) (v3 : Int32) : ∃ x, f_Top_path v1 v2 v3 M = some x ∧ ∃ r, f_Mod_path v1 v2 v3 x.2 = some r ∧ (True) ∧ IY (n + 1) r.2 := by
  obtain ⟨x, ex, r, er, e_q, iw⟩ := tz_path h.1 v1 v2 v3
  have fr := wf_Mod_path v1 v2 v3 x.2 (L := []) (sb_r _) Fx_r er
  have fx := wf_Top_path v1 v2 v3 M (L := []) (sb_r _) Fx_r ex
  exact ⟨x, ex, r, er, e_q, iw, FRC_k h.2 (fx 0 16 (by decide +kernel) (by simp)).1 (fx 3 3 (by decide +kernel) (by simp)).1 (fr 0 16 (by decide +kernel) (by simp)).1 (fr 3 3 (by decide +kernel) (by simp)).1⟩
theorem ty_both {n : Int} {M : Mem} (h : IY n M) (v1 : Int32) (v2 : Int32) (v3 : Int32) (v4 : Int32) : ∃ x, f_Top_both v1 v2 v3 v4 M = some x ∧ ∃ r, f_Mod_both v1 v2 v3 v4 x.2 = some r ∧ (True) ∧ IY (n + 1) r.2 := by
  obtain ⟨x, ex, r, er, e_q, iw⟩ := tz_both h.1 v1 v2 v3 v4
  have fr := wf_Mod_both v1 v2 v3 v4 x.2 (L := []) (sb_r _) Fx_r er
  have fx := wf_Top_both v1 v2 v3 v4 M (L := []) (sb_r _) Fx_r ex
  exact ⟨x, ex, r, er, e_q, iw, FRC_k h.2 (fx 0 16 (by decide +kernel) (by simp)).1 (fx 3 3 (by decide +kernel) (by simp)).1 (fr 0 16 (by decide +kernel) (by simp)).1 (fr 3 3 (by decide +kernel) (by simp)).1⟩
theorem ty_errand {n : Int} {M : Mem} (h : IY n M) (v1 : Int32) (v2 : Int32) : ∃ x, f_Top_errand v1 v2 M = some x ∧ ∃ r, f_Mod_errand v1 v2 x.2 = some r ∧ (True) ∧ IY (n + 1) r.2 := by
  obtain ⟨x, ex, r, er, e_q, iw⟩ := tz_errand h.1 v1 v2
  have fr := wf_Mod_errand v1 v2 x.2 (L := []) (sb_r _) Fx_r er
  have fx := wf_Top_errand v1 v2 M (L := []) (sb_r _) Fx_r ex
  exact ⟨x, ex, r, er, e_q, iw, FRC_k h.2 (fx 0 16 (by decide +kernel) (by simp)).1 (fx 3 3 (by decide +kernel) (by simp)).1 (fr 0 16 (by decide +kernel) (by simp)).1 (fr 3 3 (by decide +kernel) (by simp)).1⟩
theorem ty_tryst {n : Int} {M : Mem} (h : IY n M) (v1 : Int32) (v2 : Int32) : ∃ x, f_Top_tryst v1 v2 M = some x ∧ ∃ r, f_Mod_tryst v1 v2 x.2 = some r ∧ (True) ∧ IY (n + 1) r.2 := by
  obtain ⟨x, ex, r, er, e_q, iw⟩ := tz_tryst h.1 v1 v2
  have fr := wf_Mod_tryst v1 v2 x.2 (L := []) (sb_r _) Fx_r er
  have fx := wf_Top_tryst v1 v2 M (L := []) (sb_r _) Fx_r ex
  exact ⟨x, ex, r, er, e_q, iw, FRC_k h.2 (fx 0 16 (by decide +kernel) (by simp)).1 (fx 3 3 (by decide +kernel) (by simp)).1 (fr 0 16 (by decide +kernel) (by simp)).1 (fr 3 3 (by decide +kernel) (by simp)).1⟩
theorem ty_open {n : Int} {M : Mem} (h : IY n M) (v1 : Int32) (v2 : Int32) : ∃ x, f_Top_open v1 v2 M = some x ∧ ∃ r, f_Mod_open v1 v2 x.2 = some r ∧ (True) ∧ IY (n + 1) r.2 := by
  obtain ⟨x, ex, r, er, e_q, iw⟩ := tz_open h.1 v1 v2
  have fr := wf_Mod_open v1 v2 x.2 (L := []) (sb_r _) Fx_r er
  have fx := wf_Top_open v1 v2 M (L := []) (sb_r _) Fx_r ex
  exact ⟨x, ex, r, er, e_q, iw, FRC_k h.2 (fx 0 16 (by decide +kernel) (by simp)).1 (fx 3 3 (by decide +kernel) (by simp)).1 (fr 0 16 (by decide +kernel) (by simp)).1 (fr 3 3 (by decide +kernel) (by simp)).1⟩
theorem ty_part {n : Int} {M : Mem} (h : IY n M) (v1 : Int32) (v2 : Int32) : ∃ x, f_Top_part v1 v2 M = some x ∧ ∃ r, f_Mod_part v1 v2 x.2 = some r ∧ (True) ∧ IY (n + 1) r.2 := by
  obtain ⟨x, ex, r, er, e_q, iw⟩ := tz_part h.1 v1 v2
  have fr := wf_Mod_part v1 v2 x.2 (L := []) (sb_r _) Fx_r er
  have fx := wf_Top_part v1 v2 M (L := []) (sb_r _) Fx_r ex
  exact ⟨x, ex, r, er, e_q, iw, FRC_k h.2 (fx 0 16 (by decide +kernel) (by simp)).1 (fx 3 3 (by decide +kernel) (by simp)).1 (fr 0 16 (by decide +kernel) (by simp)).1 (fr 3 3 (by decide +kernel) (by simp)).1⟩
theorem ty_planks {n : Int} {M : Mem} (h : IY n M) (v1 : Int32) (v2 : Int32) : ∃ x, f_Top_planks v1 v2 M = some x ∧ ∃ r, f_Mod_planks v1 v2 x.2 = some r ∧ (True) ∧ IY (n + 1) r.2 := by
  obtain ⟨x, ex, r, er, e_q, iw⟩ := tz_planks h.1 v1 v2
  have fr := wf_Mod_planks v1 v2 x.2 (L := []) (sb_r _) Fx_r er
  have fx := wf_Top_planks v1 v2 M (L := []) (sb_r _) Fx_r ex
  exact ⟨x, ex, r, er, e_q, iw, FRC_k h.2 (fx 0 16 (by decide +kernel) (by simp)).1 (fx 3 3 (by decide +kernel) (by simp)).1 (fr 0 16 (by decide +kernel) (by simp)).1 (fr 3 3 (by decide +kernel) (by simp)).1⟩
theorem ty_fire {n : Int} {M : Mem} (h : IY n M) (v1 : Int32) : ∃ x, f_Top_fire v1 M = some x ∧ ∃ r, f_Mod_fire v1 x.2 = some r ∧ (x.1 = r.1) ∧ IY (n + 1) r.2 := by
  obtain ⟨x, ex, r, er, e_q, iw⟩ := tz_fire h.1 v1
  have fr := wf_Mod_fire v1 x.2 (L := []) (sb_r _) Fx_r er
  exact ⟨x, ex, r, er, e_q, iw, FRC_fire h.1.1.1.1.1 h.2 ex (fr 0 16 (by decide +kernel) (by simp)).1 (fr 3 3 (by decide +kernel) (by simp)).1⟩
theorem ty_fights {n : Int} {M : Mem} (h : IY n M) (v1 : Int32) : ∃ x, f_Top_fights v1 M = some x ∧ ∃ r, f_Mod_fights v1 x.2 = some r ∧ (True) ∧ IY (n + 1) r.2 := by
  obtain ⟨x, ex, r, er, e_q, iw⟩ := tz_fights h.1 v1
  have fr := wf_Mod_fights v1 x.2 (L := []) (sb_r _) Fx_r er
  have fx := wf_Top_fights v1 M (L := []) (sb_r _) Fx_r ex
  exact ⟨x, ex, r, er, e_q, iw, FRC_k h.2 (fx 0 16 (by decide +kernel) (by simp)).1 (fx 3 3 (by decide +kernel) (by simp)).1 (fr 0 16 (by decide +kernel) (by simp)).1 (fr 3 3 (by decide +kernel) (by simp)).1⟩
theorem ty_saved {n : Int} {M : Mem} (h : IY n M)  : ∃ x, f_Top_saved  M = some x ∧ ∃ r, f_Mod_saved  x.2 = some r ∧ (x.1 = r.1) ∧ IY (n + 1) r.2 := by
  obtain ⟨x, ex, r, er, e_q, iw⟩ := tz_saved h.1 
  have fr := wf_Mod_saved  x.2 (L := []) (sb_r _) Fx_r er
  obtain ⟨m, z⟩ := h.1.2
  have q := some_of (sf_Top_saved  M h.1.1.1.1.1) ex
  have g : ∀ kx i, 162 ≤ kx → x.2.1 kx i = M.1 kx i := fun kx i w => q.2.1 kx i (.inl w)
  have z1 : ZA M x.2 m := up_c z q.1 g
  have fi : M.1 0 16 = x.2.1 162 8 := by rw [g 162 8 (by decide)]; exact h.1.1.2.2.2
  have fri : FRI x.2 := FRI_g g (FRC_I h.1.1.2 h.2)
  have fx := wf_Top_saved  M (L := []) (sb_r _) Fx_r ex
  exact ⟨x, ex, r, er, (saved_q h.1.1.1.1.1 z1 fi fri ex er).1, iw, FRC_k h.2 (fx 0 16 (by decide +kernel) (by simp)).1 (fx 3 3 (by decide +kernel) (by simp)).1 (fr 0 16 (by decide +kernel) (by simp)).1 (fr 3 3 (by decide +kernel) (by simp)).1⟩
theorem ty_wardrobe {n : Int} {M : Mem} (h : IY n M) (v1 : Int32) (v2 : Int32) : ∃ x, f_Top_wardrobe v1 v2 M = some x ∧ ∃ r, f_Mod_wardrobe v1 v2 x.2 = some r ∧ (True) ∧ IY (n + 1) r.2 := by
  obtain ⟨x, ex, r, er, e_q, iw⟩ := tz_wardrobe h.1 v1 v2
  have fr := wf_Mod_wardrobe v1 v2 x.2 (L := []) (sb_r _) Fx_r er
  have fx := wf_Top_wardrobe v1 v2 M (L := []) (sb_r _) Fx_r ex
  exact ⟨x, ex, r, er, e_q, iw, FRC_k h.2 (fx 0 16 (by decide +kernel) (by simp)).1 (fx 3 3 (by decide +kernel) (by simp)).1 (fr 0 16 (by decide +kernel) (by simp)).1 (fr 3 3 (by decide +kernel) (by simp)).1⟩
theorem ty_flees {n : Int} {M : Mem} (h : IY n M) (v1 : Int32) (v2 : Int32) (v3 : Int32) : ∃ x, f_Top_flees v1 v2 v3 M = some x ∧ ∃ r, f_Mod_flees v1 v2 v3 x.2 = some r ∧ (True) ∧ IY (n + 1) r.2 := by
  obtain ⟨x, ex, r, er, e_q, iw⟩ := tz_flees h.1 v1 v2 v3
  have fr := wf_Mod_flees v1 v2 v3 x.2 (L := []) (sb_r _) Fx_r er
  have fx := wf_Top_flees v1 v2 v3 M (L := []) (sb_r _) Fx_r ex
  exact ⟨x, ex, r, er, e_q, iw, FRC_k h.2 (fx 0 16 (by decide +kernel) (by simp)).1 (fx 3 3 (by decide +kernel) (by simp)).1 (fr 0 16 (by decide +kernel) (by simp)).1 (fr 3 3 (by decide +kernel) (by simp)).1⟩
theorem ty_lairs {n : Int} {M : Mem} (h : IY n M) (v1 : Int32) : ∃ x, f_Top_lairs v1 M = some x ∧ ∃ r, f_Mod_lairs v1 x.2 = some r ∧ (True) ∧ IY (n + 1) r.2 := by
  obtain ⟨x, ex, r, er, e_q, iw⟩ := tz_lairs h.1 v1
  have fr := wf_Mod_lairs v1 x.2 (L := []) (sb_r _) Fx_r er
  have fx := wf_Top_lairs v1 M (L := []) (sb_r _) Fx_r ex
  exact ⟨x, ex, r, er, e_q, iw, FRC_k h.2 (fx 0 16 (by decide +kernel) (by simp)).1 (fx 3 3 (by decide +kernel) (by simp)).1 (fr 0 16 (by decide +kernel) (by simp)).1 (fr 3 3 (by decide +kernel) (by simp)).1⟩
theorem ty_caught {n : Int} {M : Mem} (h : IY n M) (v1 : Int32) (v2 : Int32) : ∃ x, f_Top_caught v1 v2 M = some x ∧ ∃ r, f_Mod_caught v1 v2 x.2 = some r ∧ (True) ∧ IY (n + 1) r.2 := by
  obtain ⟨x, ex, r, er, e_q, iw⟩ := tz_caught h.1 v1 v2
  have fr := wf_Mod_caught v1 v2 x.2 (L := []) (sb_r _) Fx_r er
  have fx := wf_Top_caught v1 v2 M (L := []) (sb_r _) Fx_r ex
  exact ⟨x, ex, r, er, e_q, iw, FRC_k h.2 (fx 0 16 (by decide +kernel) (by simp)).1 (fx 3 3 (by decide +kernel) (by simp)).1 (fr 0 16 (by decide +kernel) (by simp)).1 (fr 3 3 (by decide +kernel) (by simp)).1⟩
theorem ty_watch {n : Int} {M : Mem} (h : IY n M) (v1 : Int32) (v2 : Int32) (v3 : Int32) (v4 : Int32) : ∃ x, f_Top_watch v1 v2 v3 v4 M = some x ∧ ∃ r, f_Mod_watch v1 v2 v3 v4 x.2 = some r ∧ (True) ∧ IY (n + 1) r.2 := by
  obtain ⟨x, ex, r, er, e_q, iw⟩ := tz_watch h.1 v1 v2 v3 v4
  have fr := wf_Mod_watch v1 v2 v3 v4 x.2 (L := []) (sb_r _) Fx_r er
  have fx := wf_Top_watch v1 v2 v3 v4 M (L := []) (sb_r _) Fx_r ex
  exact ⟨x, ex, r, er, e_q, iw, FRC_k h.2 (fx 0 16 (by decide +kernel) (by simp)).1 (fx 3 3 (by decide +kernel) (by simp)).1 (fr 0 16 (by decide +kernel) (by simp)).1 (fr 3 3 (by decide +kernel) (by simp)).1⟩
theorem ty_keep {n : Int} {M : Mem} (h : IY n M) (v1 : Int32) : ∃ x, f_Top_keep v1 M = some x ∧ ∃ r, f_Mod_keep v1 x.2 = some r ∧ (x.1 = r.1) ∧ IY (n + 1) r.2 := by
  obtain ⟨x, ex, r, er, e_q, iw⟩ := tz_keep h.1 v1
  have fr := wf_Mod_keep v1 x.2 (L := []) (sb_r _) Fx_r er
  have fx := wf_Top_keep v1 M (L := []) (sb_r _) Fx_r ex
  exact ⟨x, ex, r, er, e_q, iw, FRC_k h.2 (fx 0 16 (by decide +kernel) (by simp)).1 (fx 3 3 (by decide +kernel) (by simp)).1 (fr 0 16 (by decide +kernel) (by simp)).1 (fr 3 3 (by decide +kernel) (by simp)).1⟩
theorem ty_again {n : Int} {M : Mem} (h : IY n M) (v1 : Int32) : ∃ x, f_Top_again v1 M = some x ∧ ∃ r, f_Mod_again v1 x.2 = some r ∧ (x.1 = r.1) ∧ IY (n + 1) r.2 := by
  obtain ⟨x, ex, r, er, e_q, iw⟩ := tz_again h.1 v1
  have fr := wf_Mod_again v1 x.2 (L := []) (sb_r _) Fx_r er
  have fx := wf_Top_again v1 M (L := []) (sb_r _) Fx_r ex
  exact ⟨x, ex, r, er, e_q, iw, FRC_k h.2 (fx 0 16 (by decide +kernel) (by simp)).1 (fx 3 3 (by decide +kernel) (by simp)).1 (fr 0 16 (by decide +kernel) (by simp)).1 (fr 3 3 (by decide +kernel) (by simp)).1⟩
theorem ty_count {n : Int} {M : Mem} (h : IY n M) (v1 : Int32) : ∃ x, f_Top_count v1 M = some x ∧ ∃ r, f_Mod_count v1 M = some r ∧ (True) ∧ IY (n + 1) r.2 := by
  obtain ⟨x, ex, r, er, e_q, iw⟩ := tz_count h.1 v1
  have fr := wf_Mod_count v1 M (L := []) (sb_r _) Fx_r er
  exact ⟨x, ex, r, er, e_q, iw, FRC_k h.2 rfl rfl (fr 0 16 (by decide +kernel) (by simp)).1 (fr 3 3 (by decide +kernel) (by simp)).1⟩
theorem ty_row {n : Int} {M : Mem} (h : IY n M) (v1 : Int32) : ∃ x, f_Lw_row v1 M = some x ∧ ∃ r, f_Mod_row v1 x.2 = some r ∧ (True) ∧ IY (n + 1) r.2 := by
  obtain ⟨x, ex, r, er, e_q, iw⟩ := tz_row h.1 v1
  have fr := wf_Mod_row v1 x.2 (L := []) (sb_r _) Fx_r er
  have fx : Fx mK [] M x.2 := by
    unfold f_Lw_row at ex
    obtain ⟨y, ey, ex⟩ := bo ex
    obtain rfl := Option.some.inj ex
    exact hv_fx y Fx_r
  exact ⟨x, ex, r, er, e_q, iw, FRC_k h.2 (fx 0 16 (by decide +kernel) (by simp)).1 (fx 3 3 (by decide +kernel) (by simp)).1 (fr 0 16 (by decide +kernel) (by simp)).1 (fr 3 3 (by decide +kernel) (by simp)).1⟩
