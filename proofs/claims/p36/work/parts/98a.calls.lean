/-! calls that leave alone what both sides share -/
theorem hv_fx {A M : Mem} (y : Option Int32) (h : Fx mK [] A M) : Fx mK [] A (hv y M).2 := by
  cases y with
  | none => exact h
  | some r => exact wlg h rfl (oc_c (sb_r _) (by decide +kernel))
theorem tw_folk {n : Int} (hn : n ≤ 1000000) {M : Mem} (h : IV n M)  : ∃ x, f_Top_folk  M = some x ∧ ∃ r, f_Mod_folk  x.2 = some r ∧ True ∧ IV (n + 1) r.2 := by
  obtain ⟨x, ex, q⟩ := sf_Top_folk  M h.1.1.1
  obtain ⟨r, er, o⟩ := mr_folk hn (RI_Gc h.1.1 q.1 q.2.1) 
  refine ⟨x, ex, r, er, trivial, fin1 (q.2.2.2.2) o, RL_keep h.2 (wf_Top_folk  M (by decide +kernel) Fx_r ex) (wf_Mod_folk  x.2 (by decide +kernel) Fx_r er) ?_⟩
  rw [o.2.2]; have := Jr_162_10 h.1.1.1; have z : (0 : Int32).toInt = 0 := rfl; omega
theorem tw_route {n : Int} (hn : n ≤ 1000000) {M : Mem} (h : IV n M) (v1 : Int32) : ∃ x, f_Top_route v1 M = some x ∧ ∃ r, f_Mod_route v1 x.2 = some r ∧ True ∧ IV (n + 1) r.2 := by
  obtain ⟨x, ex, q⟩ := sf_Top_route v1 M h.1.1.1
  obtain ⟨r, er, o⟩ := mr_route hn (RI_Gc h.1.1 q.1 q.2.1) v1
  refine ⟨x, ex, r, er, trivial, fin1 (q.2.2.2.2) o, RL_keep h.2 (wf_Top_route v1 M (by decide +kernel) Fx_r ex) (wf_Mod_route v1 x.2 (by decide +kernel) Fx_r er) ?_⟩
  rw [o.2.2]; have := Jr_162_10 h.1.1.1; have z : (0 : Int32).toInt = 0 := rfl; omega
theorem tw_cell {n : Int} {M : Mem} (h : IV n M) (v1 : Int32) (v2 : Int32) : ∃ x, f_Lw_cell v1 v2 M = some x ∧ ∃ r, f_Mod_cell v1 v2 x.2 = some r ∧ True ∧ IV (n + 1) r.2 := by
  obtain ⟨x, ex, q⟩ := ct_Lw_cell h.1.1.1 v1 v2
  obtain ⟨r, er, o⟩ := mr_cell (RI_Gc h.1.1 q.1 q.2) v1 v2
  have fx : Fx mK [] M x.2 := by
    unfold f_Lw_cell at ex
    obtain ⟨y, ey, ex⟩ := bo ex
    obtain rfl := Option.some.inj ex
    exact hv_fx y Fx_r
  refine ⟨x, ex, r, er, trivial, fin0 h.1 q.2 o, RL_keep h.2 fx (wf_Mod_cell v1 v2 x.2 (by decide +kernel) Fx_r er) ?_⟩
  rw [o.2.2, q.2 162 10 (.inl (by decide))]; exact Int.le_refl _
theorem tw_person {n : Int} {M : Mem} (h : IV n M) (v1 : Int32) (v2 : Int32) : ∃ x, f_Lw_person v1 v2 M = some x ∧ ∃ r, f_Mod_person v1 v2 x.2 = some r ∧ True ∧ IV (n + 1) r.2 := by
  obtain ⟨x, ex, q⟩ := ct_Lw_person h.1.1.1 v1 v2
  obtain ⟨r, er, o⟩ := mr_person (RI_Gc h.1.1 q.1 q.2) v1 v2
  have fx : Fx mK [] M x.2 := by
    unfold f_Lw_person at ex
    obtain ⟨y, ey, ex⟩ := bo ex
    obtain rfl := Option.some.inj ex
    exact hv_fx y.1 (wf_Top_person v1 v2 M (by decide +kernel) Fx_r ey)
  refine ⟨x, ex, r, er, trivial, fin0 h.1 q.2 o, RL_keep h.2 fx (wf_Mod_person v1 v2 x.2 (by decide +kernel) Fx_r er) ?_⟩
  rw [o.2.2, q.2 162 10 (.inl (by decide))]; exact Int.le_refl _
theorem tw_build {n : Int} (hn : n ≤ 1000000) {M : Mem} (h : IV n M) (v1 : Int32) (v2 : Int32) : ∃ x, f_Top_build v1 v2 M = some x ∧ ∃ r, f_Mod_build v1 v2 x.2 = some r ∧ True ∧ IV (n + 1) r.2 := by
  obtain ⟨x, ex, q⟩ := sf_Top_build v1 v2 M h.1.1.1
  obtain ⟨r, er, o⟩ := mr_build hn (RI_Gc h.1.1 q.1 q.2) v1 v2
  refine ⟨x, ex, r, er, trivial, fin0 h.1 q.2 o, RL_keep h.2 (wf_Top_build v1 v2 M (by decide +kernel) Fx_r ex) (wf_Mod_build v1 v2 x.2 (by decide +kernel) Fx_r er) ?_⟩
  rw [o.2.2, q.2 162 10 (.inl (by decide))]; exact Int.le_refl _
theorem tw_plank {n : Int} {M : Mem} (h : IV n M) (v1 : Int32) (v2 : Int32) : ∃ x, f_Top_plank v1 v2 M = some x ∧ ∃ r, f_Mod_plank v1 v2 x.2 = some r ∧ True ∧ IV (n + 1) r.2 := by
  obtain ⟨x, ex, q⟩ := sf_Top_plank v1 v2 M h.1.1.1
  obtain ⟨r, er, o⟩ := mr_plank (RI_Gc h.1.1 q.1 q.2) v1 v2
  refine ⟨x, ex, r, er, trivial, fin0 h.1 q.2 o, RL_keep h.2 (wf_Top_plank v1 v2 M (by decide +kernel) Fx_r ex) (wf_Mod_plank v1 v2 x.2 (by decide +kernel) Fx_r er) ?_⟩
  rw [o.2.2, q.2 162 10 (.inl (by decide))]; exact Int.le_refl _
theorem tw_take {n : Int} {M : Mem} (h : IV n M)  : ∃ x, f_Top_take  M = some x ∧ ∃ r, f_Mod_take  x.2 = some r ∧ True ∧ IV (n + 1) r.2 := by
  obtain ⟨x, ex, q⟩ := sf_Top_take  M h.1.1.1
  obtain ⟨r, er, o⟩ := mr_take (RI_Gc h.1.1 q.1 q.2) 
  refine ⟨x, ex, r, er, trivial, fin0 h.1 q.2 o, RL_keep h.2 (wf_Top_take  M (by decide +kernel) Fx_r ex) (wf_Mod_take  x.2 (by decide +kernel) Fx_r er) ?_⟩
  rw [o.2.2, q.2 162 10 (.inl (by decide))]; exact Int.le_refl _
theorem tw_sheet {n : Int} {M : Mem} (h : IV n M) (v1 : Int32) (v2 : Int32) (v3 : Int32) (v4 : Int32) : ∃ x, f_Top_sheet v1 v2 v3 v4 M = some x ∧ ∃ r, f_Mod_sheet v1 v2 v3 v4 x.2 = some r ∧ True ∧ IV (n + 1) r.2 := by
  obtain ⟨x, ex, q⟩ := sf_Top_sheet v1 v2 v3 v4 M h.1.1.1
  obtain ⟨r, er, o⟩ := mr_sheet (RI_Gc h.1.1 q.1 q.2) v1 v2 v3 v4
  refine ⟨x, ex, r, er, trivial, fin0 h.1 q.2 o, RL_keep h.2 (wf_Top_sheet v1 v2 v3 v4 M (by decide +kernel) Fx_r ex) (wf_Mod_sheet v1 v2 v3 v4 x.2 (by decide +kernel) Fx_r er) ?_⟩
  rw [o.2.2, q.2 162 10 (.inl (by decide))]; exact Int.le_refl _
theorem tw_tell {n : Int} {M : Mem} (h : IV n M) (v1 : Int32) : ∃ x, f_Top_tell v1 M = some x ∧ ∃ r, f_Mod_tell v1 x.2 = some r ∧ True ∧ IV (n + 1) r.2 := by
  obtain ⟨x, ex, q⟩ := sf_Top_tell v1 M h.1.1.1
  obtain ⟨r, er, o⟩ := mr_tell (RI_Gc h.1.1 q.1 q.2.1) v1
  refine ⟨x, ex, r, er, trivial, fin0 h.1 q.2.1 o, RL_keep h.2 (wf_Top_tell v1 M (by decide +kernel) Fx_r ex) (wf_Mod_tell v1 x.2 (by decide +kernel) Fx_r er) ?_⟩
  rw [o.2.2, q.2.1 162 10 (.inl (by decide))]; exact Int.le_refl _
theorem tw_feast {n : Int} {M : Mem} (h : IV n M) (v1 : Int32) : ∃ x, f_Top_feast v1 M = some x ∧ ∃ r, f_Mod_feast v1 x.2 = some r ∧ True ∧ IV (n + 1) r.2 := by
  obtain ⟨x, ex, q⟩ := sf_Top_feast v1 M h.1.1.1
  obtain ⟨r, er, o⟩ := mr_feast (RI_Gc h.1.1 q.1 q.2) v1
  refine ⟨x, ex, r, er, trivial, fin0 h.1 q.2 o, RL_keep h.2 (wf_Top_feast v1 M (by decide +kernel) Fx_r ex) (wf_Mod_feast v1 x.2 (by decide +kernel) Fx_r er) ?_⟩
  rw [o.2.2, q.2 162 10 (.inl (by decide))]; exact Int.le_refl _
theorem tw_minute {n : Int} {M : Mem} (h : IV n M)  : ∃ x, f_Top_minute  M = some x ∧ ∃ r, f_Mod_minute  x.2 = some r ∧ True ∧ IV (n + 1) r.2 := by
  obtain ⟨x, ex, q⟩ := sf_Top_minute  M h.1.1.1
  obtain ⟨r, er, o⟩ := mr_minute (RI_Gc h.1.1 q.1 q.2) 
  refine ⟨x, ex, r, er, trivial, fin0 h.1 q.2 o, RL_keep h.2 (wf_Top_minute  M (by decide +kernel) Fx_r ex) (wf_Mod_minute  x.2 (by decide +kernel) Fx_r er) ?_⟩
  rw [o.2.2, q.2 162 10 (.inl (by decide))]; exact Int.le_refl _
theorem tw_minutes {n : Int} {M : Mem} (h : IV n M) (v1 : Int32) : ∃ x, f_Top_minutes v1 M = some x ∧ ∃ r, f_Mod_minutes v1 x.2 = some r ∧ True ∧ IV (n + 1) r.2 := by
  obtain ⟨x, ex, q⟩ := sf_Top_minutes v1 M h.1.1.1
  obtain ⟨r, er, o⟩ := mr_minutes (RI_Gc h.1.1 q.1 q.2) v1
  refine ⟨x, ex, r, er, trivial, fin0 h.1 q.2 o, RL_keep h.2 (wf_Top_minutes v1 M (by decide +kernel) Fx_r ex) (wf_Mod_minutes v1 x.2 (by decide +kernel) Fx_r er) ?_⟩
  rw [o.2.2, q.2 162 10 (.inl (by decide))]; exact Int.le_refl _
theorem tw_evening {n : Int} {M : Mem} (h : IV n M)  : ∃ x, f_Top_evening  M = some x ∧ ∃ r, f_Mod_evening  x.2 = some r ∧ True ∧ IV (n + 1) r.2 := by
  obtain ⟨x, ex, q⟩ := sf_Top_evening  M h.1.1.1
  obtain ⟨r, er, o⟩ := mr_evening (RI_Gc h.1.1 q.1 q.2.1) 
  refine ⟨x, ex, r, er, trivial, fin1 (q.2.2.2) o, RL_keep h.2 (wf_Top_evening  M (by decide +kernel) Fx_r ex) (wf_Mod_evening  x.2 (by decide +kernel) Fx_r er) ?_⟩
  rw [o.2.2]; have := Jr_162_10 h.1.1.1; have z : (0 : Int32).toInt = 0 := rfl; omega
theorem tw_undo {n : Int} {M : Mem} (h : IV n M)  : ∃ x, f_Top_undo  M = some x ∧ ∃ r, f_Mod_undo  x.2 = some r ∧ True ∧ IV (n + 1) r.2 := by
  obtain ⟨x, ex, q⟩ := sf_Top_undo  M h.1.1.1
  obtain ⟨r, er, o⟩ := mr_undo (RI_Gc h.1.1 q.1 q.2.1) 
  refine ⟨x, ex, r, er, trivial, fin0 h.1 q.2.1 o, RL_keep h.2 (wf_Top_undo  M (by decide +kernel) Fx_r ex) (wf_Mod_undo  x.2 (by decide +kernel) Fx_r er) ?_⟩
  rw [o.2.2, q.2.1 162 10 (.inl (by decide))]; exact Int.le_refl _
theorem tw_met {n : Int} {M : Mem} (h : IV n M) (v1 : Int32) (v2 : Int32) : ∃ x, f_Top_met v1 v2 M = some x ∧ ∃ r, f_Mod_met v1 v2 M = some r ∧ True ∧ IV (n + 1) r.2 := by
  obtain ⟨x, ex, _⟩ := sf_Top_met v1 v2 M h.1.1.1
  obtain ⟨r, er, o⟩ := mr_met h.1.1 v1 v2
  refine ⟨x, ex, r, er, trivial, fin0 h.1 Gc_r o, RL_keep h.2 Fx_r (wf_Mod_met v1 v2 M (by decide +kernel) Fx_r er) ?_⟩
  rw [o.2.2]; exact Int.le_refl _
theorem tw_ahead {n : Int} {M : Mem} (h : IV n M) (v1 : Int32) : ∃ x, f_Top_ahead v1 M = some x ∧ ∃ r, f_Mod_ahead v1 x.2 = some r ∧ True ∧ IV (n + 1) r.2 := by
  obtain ⟨x, ex, q⟩ := sf_Top_ahead v1 M h.1.1.1
  obtain ⟨r, er, o⟩ := mr_ahead (RI_Gc h.1.1 q.1 q.2) v1
  refine ⟨x, ex, r, er, trivial, fin0 h.1 q.2 o, RL_keep h.2 (wf_Top_ahead v1 M (by decide +kernel) Fx_r ex) (wf_Mod_ahead v1 x.2 (by decide +kernel) Fx_r er) ?_⟩
  rw [o.2.2, q.2 162 10 (.inl (by decide))]; exact Int.le_refl _
theorem tw_meet {n : Int} {M : Mem} (h : IV n M) (v1 : Int32) (v2 : Int32) : ∃ x, f_Top_meet v1 v2 M = some x ∧ ∃ r, f_Mod_meet v1 v2 x.2 = some r ∧ True ∧ IV (n + 1) r.2 := by
  obtain ⟨x, ex, q⟩ := sf_Top_meet v1 v2 M h.1.1.1
  obtain ⟨r, er, o⟩ := mr_meet (RI_Gc h.1.1 q.1 q.2.1) v1 v2
  refine ⟨x, ex, r, er, trivial, fin0 h.1 q.2.1 o, RL_keep h.2 (wf_Top_meet v1 v2 M (by decide +kernel) Fx_r ex) (wf_Mod_meet v1 v2 x.2 (by decide +kernel) Fx_r er) ?_⟩
  rw [o.2.2, q.2.1 162 10 (.inl (by decide))]; exact Int.le_refl _
theorem tw_known {n : Int} {M : Mem} (h : IV n M)  : ∃ x, f_Top_known  M = some x ∧ ∃ r, f_Mod_known  x.2 = some r ∧ True ∧ IV (n + 1) r.2 := by
  obtain ⟨x, ex, q⟩ := sf_Top_known  M h.1.1.1
  obtain ⟨r, er, o⟩ := mr_known (RI_Gc h.1.1 q.1 q.2) 
  refine ⟨x, ex, r, er, trivial, fin0 h.1 q.2 o, RL_keep h.2 (wf_Top_known  M (by decide +kernel) Fx_r ex) (wf_Mod_known  x.2 (by decide +kernel) Fx_r er) ?_⟩
  rw [o.2.2, q.2 162 10 (.inl (by decide))]; exact Int.le_refl _
theorem tw_gossip {n : Int} {M : Mem} (h : IV n M) (v1 : Int32) : ∃ x, f_Top_gossip v1 M = some x ∧ ∃ r, f_Mod_gossip v1 x.2 = some r ∧ True ∧ IV (n + 1) r.2 := by
  obtain ⟨x, ex, q⟩ := sf_Top_gossip v1 M h.1.1.1
  obtain ⟨r, er, o⟩ := mr_gossip (RI_Gc h.1.1 q.1 q.2.1) v1
  refine ⟨x, ex, r, er, trivial, fin0 h.1 q.2.1 o, RL_keep h.2 (wf_Top_gossip v1 M (by decide +kernel) Fx_r ex) (wf_Mod_gossip v1 x.2 (by decide +kernel) Fx_r er) ?_⟩
  rw [o.2.2, q.2.1 162 10 (.inl (by decide))]; exact Int.le_refl _
theorem tw_pieces {n : Int} {M : Mem} (h : IV n M) (v1 : Int32) : ∃ x, f_Top_pieces v1 M = some x ∧ ∃ r, f_Mod_pieces v1 x.2 = some r ∧ True ∧ IV (n + 1) r.2 := by
  obtain ⟨x, ex, q⟩ := sf_Top_pieces v1 M h.1.1.1
  obtain ⟨r, er, o⟩ := mr_pieces (RI_Gc h.1.1 q.1 q.2) v1
  refine ⟨x, ex, r, er, trivial, fin0 h.1 q.2 o, RL_keep h.2 (wf_Top_pieces v1 M (by decide +kernel) Fx_r ex) (wf_Mod_pieces v1 x.2 (by decide +kernel) Fx_r er) ?_⟩
  rw [o.2.2, q.2 162 10 (.inl (by decide))]; exact Int.le_refl _
theorem tw_reach {n : Int} {M : Mem} (h : IV n M) (v1 : Int32) (v2 : Int32) : ∃ x, f_Top_reach v1 v2 M = some x ∧ ∃ r, f_Mod_reach v1 v2 x.2 = some r ∧ True ∧ IV (n + 1) r.2 := by
  obtain ⟨x, ex, q⟩ := sf_Top_reach v1 v2 M h.1.1.1
  obtain ⟨r, er, o⟩ := mr_reach (RI_Gc h.1.1 q.1 q.2.1) v1 v2
  refine ⟨x, ex, r, er, trivial, fin0 h.1 q.2.1 o, RL_keep h.2 (wf_Top_reach v1 v2 M (by decide +kernel) Fx_r ex) (wf_Mod_reach v1 v2 x.2 (by decide +kernel) Fx_r er) ?_⟩
  rw [o.2.2, q.2.1 162 10 (.inl (by decide))]; exact Int.le_refl _
theorem tw_path {n : Int} {M : Mem} (h : IV n M) (v1 : Int32) (v2 : Int32) (v3 : Int32) : ∃ x, f_Top_path v1 v2 v3 M = some x ∧ ∃ r, f_Mod_path v1 v2 v3 x.2 = some r ∧ True ∧ IV (n + 1) r.2 := by
  obtain ⟨x, ex, q⟩ := sf_Top_path v1 v2 v3 M h.1.1.1
  obtain ⟨r, er, o⟩ := mr_path (RI_Gc h.1.1 q.1 q.2.1) v1 v2 v3
  refine ⟨x, ex, r, er, trivial, fin0 h.1 q.2.1 o, RL_keep h.2 (wf_Top_path v1 v2 v3 M (by decide +kernel) Fx_r ex) (wf_Mod_path v1 v2 v3 x.2 (by decide +kernel) Fx_r er) ?_⟩
  rw [o.2.2, q.2.1 162 10 (.inl (by decide))]; exact Int.le_refl _
theorem tw_both {n : Int} {M : Mem} (h : IV n M) (v1 : Int32) (v2 : Int32) (v3 : Int32) (v4 : Int32) : ∃ x, f_Top_both v1 v2 v3 v4 M = some x ∧ ∃ r, f_Mod_both v1 v2 v3 v4 x.2 = some r ∧ True ∧ IV (n + 1) r.2 := by
  obtain ⟨x, ex, q⟩ := sf_Top_both v1 v2 v3 v4 M h.1.1.1
  obtain ⟨r, er, o⟩ := mr_both (RI_Gc h.1.1 q.1 q.2) v1 v2 v3 v4
  refine ⟨x, ex, r, er, trivial, fin0 h.1 q.2 o, RL_keep h.2 (wf_Top_both v1 v2 v3 v4 M (by decide +kernel) Fx_r ex) (wf_Mod_both v1 v2 v3 v4 x.2 (by decide +kernel) Fx_r er) ?_⟩
  rw [o.2.2, q.2 162 10 (.inl (by decide))]; exact Int.le_refl _
theorem tw_errand {n : Int} {M : Mem} (h : IV n M) (v1 : Int32) (v2 : Int32) : ∃ x, f_Top_errand v1 v2 M = some x ∧ ∃ r, f_Mod_errand v1 v2 x.2 = some r ∧ True ∧ IV (n + 1) r.2 := by
  obtain ⟨x, ex, q⟩ := sf_Top_errand v1 v2 M h.1.1.1
  obtain ⟨r, er, o⟩ := mr_errand (RI_Gc h.1.1 q.1 q.2.1) v1 v2
  refine ⟨x, ex, r, er, trivial, fin0 h.1 q.2.1 o, RL_keep h.2 (wf_Top_errand v1 v2 M (by decide +kernel) Fx_r ex) (wf_Mod_errand v1 v2 x.2 (by decide +kernel) Fx_r er) ?_⟩
  rw [o.2.2, q.2.1 162 10 (.inl (by decide))]; exact Int.le_refl _
theorem tw_tryst {n : Int} {M : Mem} (h : IV n M) (v1 : Int32) (v2 : Int32) : ∃ x, f_Top_tryst v1 v2 M = some x ∧ ∃ r, f_Mod_tryst v1 v2 x.2 = some r ∧ True ∧ IV (n + 1) r.2 := by
  obtain ⟨x, ex, q⟩ := sf_Top_tryst v1 v2 M h.1.1.1
  obtain ⟨r, er, o⟩ := mr_tryst (RI_Gc h.1.1 q.1 q.2.1) v1 v2
  refine ⟨x, ex, r, er, trivial, fin0 h.1 q.2.1 o, RL_keep h.2 (wf_Top_tryst v1 v2 M (by decide +kernel) Fx_r ex) (wf_Mod_tryst v1 v2 x.2 (by decide +kernel) Fx_r er) ?_⟩
  rw [o.2.2, q.2.1 162 10 (.inl (by decide))]; exact Int.le_refl _
theorem tw_open {n : Int} {M : Mem} (h : IV n M) (v1 : Int32) (v2 : Int32) : ∃ x, f_Top_open v1 v2 M = some x ∧ ∃ r, f_Mod_open v1 v2 x.2 = some r ∧ True ∧ IV (n + 1) r.2 := by
  obtain ⟨x, ex, q⟩ := sf_Top_open v1 v2 M h.1.1.1
  obtain ⟨r, er, o⟩ := mr_open (RI_Gc h.1.1 q.1 q.2.1) v1 v2
  refine ⟨x, ex, r, er, trivial, fin0 h.1 q.2.1 o, RL_keep h.2 (wf_Top_open v1 v2 M (by decide +kernel) Fx_r ex) (wf_Mod_open v1 v2 x.2 (by decide +kernel) Fx_r er) ?_⟩
  rw [o.2.2, q.2.1 162 10 (.inl (by decide))]; exact Int.le_refl _
theorem tw_part {n : Int} {M : Mem} (h : IV n M) (v1 : Int32) (v2 : Int32) : ∃ x, f_Top_part v1 v2 M = some x ∧ ∃ r, f_Mod_part v1 v2 x.2 = some r ∧ True ∧ IV (n + 1) r.2 := by
  obtain ⟨x, ex, q⟩ := sf_Top_part v1 v2 M h.1.1.1
  obtain ⟨r, er, o⟩ := mr_part (RI_Gc h.1.1 q.1 q.2.1) v1 v2
  refine ⟨x, ex, r, er, trivial, fin0 h.1 q.2.1 o, RL_keep h.2 (wf_Top_part v1 v2 M (by decide +kernel) Fx_r ex) (wf_Mod_part v1 v2 x.2 (by decide +kernel) Fx_r er) ?_⟩
  rw [o.2.2, q.2.1 162 10 (.inl (by decide))]; exact Int.le_refl _
theorem tw_planks {n : Int} {M : Mem} (h : IV n M) (v1 : Int32) (v2 : Int32) : ∃ x, f_Top_planks v1 v2 M = some x ∧ ∃ r, f_Mod_planks v1 v2 x.2 = some r ∧ True ∧ IV (n + 1) r.2 := by
  obtain ⟨x, ex, q⟩ := sf_Top_planks v1 v2 M h.1.1.1
  obtain ⟨r, er, o⟩ := mr_planks (RI_Gc h.1.1 q.1 q.2) v1 v2
  refine ⟨x, ex, r, er, trivial, fin0 h.1 q.2 o, RL_keep h.2 (wf_Top_planks v1 v2 M (by decide +kernel) Fx_r ex) (wf_Mod_planks v1 v2 x.2 (by decide +kernel) Fx_r er) ?_⟩
  rw [o.2.2, q.2 162 10 (.inl (by decide))]; exact Int.le_refl _
theorem tw_fights {n : Int} {M : Mem} (h : IV n M) (v1 : Int32) : ∃ x, f_Top_fights v1 M = some x ∧ ∃ r, f_Mod_fights v1 x.2 = some r ∧ True ∧ IV (n + 1) r.2 := by
  obtain ⟨x, ex, q⟩ := sf_Top_fights v1 M h.1.1.1
  obtain ⟨r, er, o⟩ := mr_fights (RI_Gc h.1.1 q.1 q.2) v1
  refine ⟨x, ex, r, er, trivial, fin0 h.1 q.2 o, RL_keep h.2 (wf_Top_fights v1 M (by decide +kernel) Fx_r ex) (wf_Mod_fights v1 x.2 (by decide +kernel) Fx_r er) ?_⟩
  rw [o.2.2, q.2 162 10 (.inl (by decide))]; exact Int.le_refl _
theorem tw_saved {n : Int} {M : Mem} (h : IV n M)  : ∃ x, f_Top_saved  M = some x ∧ ∃ r, f_Mod_saved  x.2 = some r ∧ True ∧ IV (n + 1) r.2 := by
  obtain ⟨x, ex, q⟩ := sf_Top_saved  M h.1.1.1
  obtain ⟨r, er, o⟩ := mr_saved (RI_Gc h.1.1 q.1 q.2.1) 
  refine ⟨x, ex, r, er, trivial, fin0 h.1 q.2.1 o, RL_keep h.2 (wf_Top_saved  M (by decide +kernel) Fx_r ex) (wf_Mod_saved  x.2 (by decide +kernel) Fx_r er) ?_⟩
  rw [o.2.2, q.2.1 162 10 (.inl (by decide))]; exact Int.le_refl _
theorem tw_wardrobe {n : Int} {M : Mem} (h : IV n M) (v1 : Int32) (v2 : Int32) : ∃ x, f_Top_wardrobe v1 v2 M = some x ∧ ∃ r, f_Mod_wardrobe v1 v2 x.2 = some r ∧ True ∧ IV (n + 1) r.2 := by
  obtain ⟨x, ex, q⟩ := sf_Top_wardrobe v1 v2 M h.1.1.1
  obtain ⟨r, er, o⟩ := mr_wardrobe (RI_Gc h.1.1 q.1 q.2.1) v1 v2
  refine ⟨x, ex, r, er, trivial, fin0 h.1 q.2.1 o, RL_keep h.2 (wf_Top_wardrobe v1 v2 M (by decide +kernel) Fx_r ex) (wf_Mod_wardrobe v1 v2 x.2 (by decide +kernel) Fx_r er) ?_⟩
  rw [o.2.2, q.2.1 162 10 (.inl (by decide))]; exact Int.le_refl _
theorem tw_flees {n : Int} {M : Mem} (h : IV n M) (v1 : Int32) (v2 : Int32) (v3 : Int32) : ∃ x, f_Top_flees v1 v2 v3 M = some x ∧ ∃ r, f_Mod_flees v1 v2 v3 x.2 = some r ∧ True ∧ IV (n + 1) r.2 := by
  obtain ⟨x, ex, q⟩ := sf_Top_flees v1 v2 v3 M h.1.1.1
  obtain ⟨r, er, o⟩ := mr_flees (RI_Gc h.1.1 q.1 q.2.1) v1 v2 v3
  refine ⟨x, ex, r, er, trivial, fin0 h.1 q.2.1 o, RL_keep h.2 (wf_Top_flees v1 v2 v3 M (by decide +kernel) Fx_r ex) (wf_Mod_flees v1 v2 v3 x.2 (by decide +kernel) Fx_r er) ?_⟩
  rw [o.2.2, q.2.1 162 10 (.inl (by decide))]; exact Int.le_refl _
theorem tw_lairs {n : Int} {M : Mem} (h : IV n M) (v1 : Int32) : ∃ x, f_Top_lairs v1 M = some x ∧ ∃ r, f_Mod_lairs v1 x.2 = some r ∧ True ∧ IV (n + 1) r.2 := by
  obtain ⟨x, ex, q⟩ := sf_Top_lairs v1 M h.1.1.1
  obtain ⟨r, er, o⟩ := mr_lairs (RI_Gc h.1.1 q.1 q.2.1) v1
  refine ⟨x, ex, r, er, trivial, fin0 h.1 q.2.1 o, RL_keep h.2 (wf_Top_lairs v1 M (by decide +kernel) Fx_r ex) (wf_Mod_lairs v1 x.2 (by decide +kernel) Fx_r er) ?_⟩
  rw [o.2.2, q.2.1 162 10 (.inl (by decide))]; exact Int.le_refl _
theorem tw_caught {n : Int} {M : Mem} (h : IV n M) (v1 : Int32) (v2 : Int32) : ∃ x, f_Top_caught v1 v2 M = some x ∧ ∃ r, f_Mod_caught v1 v2 x.2 = some r ∧ True ∧ IV (n + 1) r.2 := by
  obtain ⟨x, ex, q⟩ := sf_Top_caught v1 v2 M h.1.1.1
  obtain ⟨r, er, o⟩ := mr_caught (RI_Gc h.1.1 q.1 q.2.1) v1 v2
  refine ⟨x, ex, r, er, trivial, fin0 h.1 q.2.1 o, RL_keep h.2 (wf_Top_caught v1 v2 M (by decide +kernel) Fx_r ex) (wf_Mod_caught v1 v2 x.2 (by decide +kernel) Fx_r er) ?_⟩
  rw [o.2.2, q.2.1 162 10 (.inl (by decide))]; exact Int.le_refl _
theorem tw_watch {n : Int} {M : Mem} (h : IV n M) (v1 : Int32) (v2 : Int32) (v3 : Int32) (v4 : Int32) : ∃ x, f_Top_watch v1 v2 v3 v4 M = some x ∧ ∃ r, f_Mod_watch v1 v2 v3 v4 x.2 = some r ∧ True ∧ IV (n + 1) r.2 := by
  obtain ⟨x, ex, q⟩ := sf_Top_watch v1 v2 v3 v4 M h.1.1.1
  obtain ⟨r, er, o⟩ := mr_watch (RI_Gc h.1.1 q.1 q.2.1) v1 v2 v3 v4
  refine ⟨x, ex, r, er, trivial, fin0 h.1 q.2.1 o, RL_keep h.2 (wf_Top_watch v1 v2 v3 v4 M (by decide +kernel) Fx_r ex) (wf_Mod_watch v1 v2 v3 v4 x.2 (by decide +kernel) Fx_r er) ?_⟩
  rw [o.2.2, q.2.1 162 10 (.inl (by decide))]; exact Int.le_refl _
theorem tw_again {n : Int} {M : Mem} (h : IV n M) (v1 : Int32) : ∃ x, f_Top_again v1 M = some x ∧ ∃ r, f_Mod_again v1 x.2 = some r ∧ True ∧ IV (n + 1) r.2 := by
  obtain ⟨x, ex, q⟩ := sf_Top_again v1 M h.1.1.1
  obtain ⟨r, er, o⟩ := mr_again (RI_Gc h.1.1 q.1 q.2.1) v1
  refine ⟨x, ex, r, er, trivial, fin0 h.1 q.2.1 o, RL_keep h.2 (wf_Top_again v1 M (by decide +kernel) Fx_r ex) (wf_Mod_again v1 x.2 (by decide +kernel) Fx_r er) ?_⟩
  rw [o.2.2, q.2.1 162 10 (.inl (by decide))]; exact Int.le_refl _
theorem tw_count {n : Int} {M : Mem} (h : IV n M) (v1 : Int32) : ∃ x, f_Top_count v1 M = some x ∧ ∃ r, f_Mod_count v1 M = some r ∧ True ∧ IV (n + 1) r.2 := by
  obtain ⟨x, ex, _⟩ := sf_Top_count v1 M h.1.1.1
  obtain ⟨r, er, o⟩ := mr_count h.1.1 v1
  refine ⟨x, ex, r, er, trivial, fin0 h.1 Gc_r o, RL_keep h.2 Fx_r (wf_Mod_count v1 M (by decide +kernel) Fx_r er) ?_⟩
  rw [o.2.2]; exact Int.le_refl _
theorem tw_row {n : Int} {M : Mem} (h : IV n M) (v1 : Int32) : ∃ x, f_Lw_row v1 M = some x ∧ ∃ r, f_Mod_row v1 x.2 = some r ∧ True ∧ IV (n + 1) r.2 := by
  obtain ⟨x, ex, q⟩ := ct_Lw_row h.1.1.1 v1
  obtain ⟨r, er, o⟩ := mr_row (RI_Gc h.1.1 q.1 q.2) v1
  have fx : Fx mK [] M x.2 := by
    unfold f_Lw_row at ex
    obtain ⟨y, ey, ex⟩ := bo ex
    obtain rfl := Option.some.inj ex
    exact hv_fx y Fx_r
  refine ⟨x, ex, r, er, trivial, fin0 h.1 q.2 o, RL_keep h.2 fx (wf_Mod_row v1 x.2 (by decide +kernel) Fx_r er) ?_⟩
  rw [o.2.2, q.2 162 10 (.inl (by decide))]; exact Int.le_refl _
