/-! every call keeps it that no number of MEETINGS is too large (89a to 89c) -/
theorem tv_sign {n : Int} (hn : n ≤ 2566) {M : Mem} (h : IZ n M) (v1 : Int32) : ∃ x, f_Top_sign v1 M = some x ∧ ∃ r, f_Mod_sign v1 x.2 = some r ∧ (x.1 = r.1) ∧ IZ (n + 1) r.2 := by
  have n0 := IZ_n h
  obtain ⟨x, ex, r, er, e_q, ix⟩ := tx_sign h.1 v1
  have mb1 := MB_m h.2 (wf_Top_sign v1 M (by decide +kernel) Fx_r ex)
  exact ⟨x, ex, r, er, e_q, ix, MB_le (MB_m mb1 (wf_Mod_sign v1 x.2 (by decide +kernel) Fx_r er)) (by omega)⟩
theorem tv_end {n : Int} (hn : n ≤ 2566) {M : Mem} (h : IZ n M) (v1 : Int32) : ∃ x, f_Top_end v1 M = some x ∧ ∃ r, f_Mod_end v1 x.2 = some r ∧ (x.1 = r.1) ∧ IZ (n + 1) r.2 := by
  have n0 := IZ_n h
  obtain ⟨x, ex, r, er, e_q, ix⟩ := tx_end h.1 v1
  have mb1 := MB_m h.2 (wf_Top_end v1 M (by decide +kernel) Fx_r ex)
  exact ⟨x, ex, r, er, e_q, ix, MB_le (MB_m mb1 (wf_Mod_end v1 x.2 (by decide +kernel) Fx_r er)) (by omega)⟩
theorem tv_town {n : Int} (hn : n ≤ 2566) {M : Mem} (h : IZ n M)  : ∃ x, f_Top_town  M = some x ∧ ∃ r, f_Mod_town  x.2 = some r ∧ (x.1 = r.1) ∧ IZ (n + 1) r.2 := by
  have n0 := IZ_n h
  obtain ⟨x, ex, r, er, e_q, ix⟩ := tx_town h.1 
  have mb1 := mb_town (by omega) h.2 ex
  exact ⟨x, ex, r, er, e_q, ix, MB_le (MB_m mb1 (wf_Mod_town  x.2 (by decide +kernel) Fx_r er)) (by omega)⟩
theorem tv_folk {n : Int} (hn : n ≤ 2566) {M : Mem} (h : IZ n M)  : ∃ x, f_Top_folk  M = some x ∧ ∃ r, f_Mod_folk  x.2 = some r ∧ (True) ∧ IZ (n + 1) r.2 := by
  have n0 := IZ_n h
  obtain ⟨x, ex, r, er, e_q, ix⟩ := tx_folk (by omega) h.1 
  have mb1 := MB_m h.2 (wf_Top_folk  M (by decide +kernel) Fx_r ex)
  exact ⟨x, ex, r, er, e_q, ix, MB_le (MB_m mb1 (wf_Mod_folk  x.2 (by decide +kernel) Fx_r er)) (by omega)⟩
theorem tv_rule {n : Int} (hn : n ≤ 2566) {M : Mem} (h : IZ n M)  : ∃ x, f_Top_rule  M = some x ∧ ∃ r, f_Mod_rule  x.2 = some r ∧ (x.1 = r.1) ∧ IZ (n + 1) r.2 := by
  have n0 := IZ_n h
  obtain ⟨x, ex, r, er, e_q, ix⟩ := tx_rule h.1 
  have mb1 := MB_m h.2 (wf_Top_rule  M (by decide +kernel) Fx_r ex)
  exact ⟨x, ex, r, er, e_q, ix, MB_le (MB_m mb1 (wf_Mod_rule  x.2 (by decide +kernel) Fx_r er)) (by omega)⟩
theorem tv_route {n : Int} (hn : n ≤ 2566) {M : Mem} (h : IZ n M) (v1 : Int32) : ∃ x, f_Top_route v1 M = some x ∧ ∃ r, f_Mod_route v1 x.2 = some r ∧ (x.1 = r.1) ∧ IZ (n + 1) r.2 := by
  have n0 := IZ_n h
  obtain ⟨x, ex, r, er, e_q, ix⟩ := tx_route (by omega) h.1 v1
  have mb1 := MB_m h.2 (wf_Top_route v1 M (by decide +kernel) Fx_r ex)
  exact ⟨x, ex, r, er, e_q, ix, MB_le (MB_m mb1 (wf_Mod_route v1 x.2 (by decide +kernel) Fx_r er)) (by omega)⟩
theorem tv_cell {n : Int} (hn : n ≤ 2566) {M : Mem} (h : IZ n M) (v1 : Int32) (v2 : Int32) : ∃ x, f_Lw_cell v1 v2 M = some x ∧ ∃ r, f_Mod_cell v1 v2 x.2 = some r ∧ (True) ∧ IZ (n + 1) r.2 := by
  have n0 := IZ_n h
  obtain ⟨x, ex, r, er, e_q, ix⟩ := tx_cell h.1 v1 v2
  have mb1 : MB (2000 * n) x.2 := by
    unfold f_Lw_cell at ex
    obtain ⟨y, ey, ex⟩ := bo ex
    obtain rfl := Option.some.inj ex
    exact MB_f h.2 (fun kx hk i => by rw [hv_1])
  exact ⟨x, ex, r, er, e_q, ix, MB_le (MB_m mb1 (wf_Mod_cell v1 v2 x.2 (by decide +kernel) Fx_r er)) (by omega)⟩
theorem tv_person {n : Int} (hn : n ≤ 2566) {M : Mem} (h : IZ n M) (v1 : Int32) (v2 : Int32) : ∃ x, f_Lw_person v1 v2 M = some x ∧ ∃ r, f_Mod_person v1 v2 x.2 = some r ∧ (True) ∧ IZ (n + 1) r.2 := by
  have n0 := IZ_n h
  obtain ⟨x, ex, r, er, e_q, ix⟩ := tx_person h.1 v1 v2
  have mb1 : MB (2000 * n) x.2 := by
    unfold f_Lw_person at ex
    obtain ⟨y, ey, ex⟩ := bo ex
    obtain rfl := Option.some.inj ex
    exact MB_f (MB_m h.2 (wf_Top_person v1 v2 M (by decide +kernel) Fx_r ey)) (fun kx hk i => by rw [hv_1])
  exact ⟨x, ex, r, er, e_q, ix, MB_le (MB_m mb1 (wf_Mod_person v1 v2 x.2 (by decide +kernel) Fx_r er)) (by omega)⟩
theorem tv_build {n : Int} (hn : n ≤ 2566) {M : Mem} (h : IZ n M) (v1 : Int32) (v2 : Int32) : ∃ x, f_Top_build v1 v2 M = some x ∧ ∃ r, f_Mod_build v1 v2 x.2 = some r ∧ (x.1 = r.1) ∧ IZ (n + 1) r.2 := by
  have n0 := IZ_n h
  obtain ⟨x, ex, r, er, e_q, ix⟩ := tx_build (by omega) h.1 v1 v2
  have mb1 := MB_m h.2 (wf_Top_build v1 v2 M (by decide +kernel) Fx_r ex)
  exact ⟨x, ex, r, er, e_q, ix, MB_le (MB_m mb1 (wf_Mod_build v1 v2 x.2 (by decide +kernel) Fx_r er)) (by omega)⟩
theorem tv_plank {n : Int} (hn : n ≤ 2566) {M : Mem} (h : IZ n M) (v1 : Int32) (v2 : Int32) : ∃ x, f_Top_plank v1 v2 M = some x ∧ ∃ r, f_Mod_plank v1 v2 x.2 = some r ∧ (x.1 = r.1) ∧ IZ (n + 1) r.2 := by
  have n0 := IZ_n h
  obtain ⟨x, ex, r, er, e_q, ix⟩ := tx_plank h.1 v1 v2
  have mb1 := mb_plank (IZ_g h) ex
  exact ⟨x, ex, r, er, e_q, ix, MB_le (MB_m mb1 (wf_Mod_plank v1 v2 x.2 (by decide +kernel) Fx_r er)) (by omega)⟩
theorem tv_take {n : Int} (hn : n ≤ 2566) {M : Mem} (h : IZ n M)  : ∃ x, f_Top_take  M = some x ∧ ∃ r, f_Mod_take  x.2 = some r ∧ (x.1 = r.1) ∧ IZ (n + 1) r.2 := by
  have n0 := IZ_n h
  obtain ⟨x, ex, r, er, e_q, ix⟩ := tx_take h.1 
  have mb1 := mb_take (IZ_g h) ex
  exact ⟨x, ex, r, er, e_q, ix, MB_le (MB_m mb1 (wf_Mod_take  x.2 (by decide +kernel) Fx_r er)) (by omega)⟩
theorem tv_sheet {n : Int} (hn : n ≤ 2566) {M : Mem} (h : IZ n M) (v1 : Int32) (v2 : Int32) (v3 : Int32) (v4 : Int32) : ∃ x, f_Top_sheet v1 v2 v3 v4 M = some x ∧ ∃ r, f_Mod_sheet v1 v2 v3 v4 x.2 = some r ∧ (x.1 = r.1) ∧ IZ (n + 1) r.2 := by
  have n0 := IZ_n h
  obtain ⟨x, ex, r, er, e_q, ix⟩ := tx_sheet h.1 v1 v2 v3 v4
  have mb1 := MB_m h.2 (wf_Top_sheet v1 v2 v3 v4 M (by decide +kernel) Fx_r ex)
  exact ⟨x, ex, r, er, e_q, ix, MB_le (MB_m mb1 (wf_Mod_sheet v1 v2 v3 v4 x.2 (by decide +kernel) Fx_r er)) (by omega)⟩
theorem tv_tell {n : Int} (hn : n ≤ 2566) {M : Mem} (h : IZ n M) (v1 : Int32) : ∃ x, f_Top_tell v1 M = some x ∧ ∃ r, f_Mod_tell v1 x.2 = some r ∧ (x.1 = r.1) ∧ IZ (n + 1) r.2 := by
  have n0 := IZ_n h
  obtain ⟨x, ex, r, er, e_q, ix⟩ := tx_tell h.1 v1
  have mb1 := mb_tell (IZ_g h) ex
  exact ⟨x, ex, r, er, e_q, ix, MB_le (MB_m mb1 (wf_Mod_tell v1 x.2 (by decide +kernel) Fx_r er)) (by omega)⟩
theorem tv_feast {n : Int} (hn : n ≤ 2566) {M : Mem} (h : IZ n M) (v1 : Int32) : ∃ x, f_Top_feast v1 M = some x ∧ ∃ r, f_Mod_feast v1 x.2 = some r ∧ (x.1 = r.1) ∧ IZ (n + 1) r.2 := by
  have n0 := IZ_n h
  obtain ⟨x, ex, r, er, e_q, ix⟩ := tx_feast h.1 v1
  have mb1 := mb_feast (IZ_g h) ex
  exact ⟨x, ex, r, er, e_q, ix, MB_le (MB_m mb1 (wf_Mod_feast v1 x.2 (by decide +kernel) Fx_r er)) (by omega)⟩
theorem tv_minute {n : Int} (hn : n ≤ 2566) {M : Mem} (h : IZ n M)  : ∃ x, f_Top_minute  M = some x ∧ ∃ r, f_Mod_minute  x.2 = some r ∧ (x.1 = r.1) ∧ IZ (n + 1) r.2 := by
  have n0 := IZ_n h
  obtain ⟨x, ex, r, er, e_q, ix⟩ := tx_minute h.1 
  have mb1 := mb_minute (by omega) (IZ_g h) ex
  exact ⟨x, ex, r, er, e_q, ix, MB_le (MB_m mb1 (wf_Mod_minute  x.2 (by decide +kernel) Fx_r er)) (by omega)⟩
theorem tv_minutes {n : Int} (hn : n ≤ 2566) {M : Mem} (h : IZ n M) (v1 : Int32) : ∃ x, f_Top_minutes v1 M = some x ∧ ∃ r, f_Mod_minutes v1 x.2 = some r ∧ (x.1 = r.1) ∧ IZ (n + 1) r.2 := by
  have n0 := IZ_n h
  obtain ⟨x, ex, r, er, e_q, ix⟩ := tx_minutes h.1 v1
  have mb1 := mb_minutes (by omega) (IZ_g h) ex
  exact ⟨x, ex, r, er, e_q, ix, MB_le (MB_m mb1 (wf_Mod_minutes v1 x.2 (by decide +kernel) Fx_r er)) (by omega)⟩
theorem tv_evening {n : Int} (hn : n ≤ 2566) {M : Mem} (h : IZ n M)  : ∃ x, f_Top_evening  M = some x ∧ ∃ r, f_Mod_evening  x.2 = some r ∧ (x.1 = r.1) ∧ IZ (n + 1) r.2 := by
  have n0 := IZ_n h
  obtain ⟨x, ex, r, er, e_q, ix⟩ := tx_evening h.1 
  have mb1 := mb_evening (by omega) (IZ_g h) ex
  exact ⟨x, ex, r, er, e_q, ix, MB_le (MB_m mb1 (wf_Mod_evening  x.2 (by decide +kernel) Fx_r er)) (by omega)⟩
theorem tv_undo {n : Int} (hn : n ≤ 2566) {M : Mem} (h : IZ n M)  : ∃ x, f_Top_undo  M = some x ∧ ∃ r, f_Mod_undo  x.2 = some r ∧ (x.1 = r.1) ∧ IZ (n + 1) r.2 := by
  have n0 := IZ_n h
  obtain ⟨x, ex, r, er, e_q, ix⟩ := tx_undo h.1 
  have mb1 := mb_undo (IZ_g h) ex
  exact ⟨x, ex, r, er, e_q, ix, MB_le (MB_m mb1 (wf_Mod_undo  x.2 (by decide +kernel) Fx_r er)) (by omega)⟩
theorem tv_met {n : Int} (hn : n ≤ 2566) {M : Mem} (h : IZ n M) (v1 : Int32) (v2 : Int32) : ∃ x, f_Top_met v1 v2 M = some x ∧ ∃ r, f_Mod_met v1 v2 M = some r ∧ (True) ∧ IZ (n + 1) r.2 := by
  have n0 := IZ_n h
  obtain ⟨x, ex, r, er, e_q, ix⟩ := tx_met h.1 v1 v2
  have mb1 := h.2
  exact ⟨x, ex, r, er, e_q, ix, MB_le (MB_m mb1 (wf_Mod_met v1 v2 M (by decide +kernel) Fx_r er)) (by omega)⟩
theorem tv_ahead {n : Int} (hn : n ≤ 2566) {M : Mem} (h : IZ n M) (v1 : Int32) : ∃ x, f_Top_ahead v1 M = some x ∧ ∃ r, f_Mod_ahead v1 x.2 = some r ∧ (True) ∧ IZ (n + 1) r.2 := by
  have n0 := IZ_n h
  obtain ⟨x, ex, r, er, e_q, ix⟩ := tx_ahead h.1 v1
  have mb1 := MB_m h.2 (wf_Top_ahead v1 M (by decide +kernel) Fx_r ex)
  exact ⟨x, ex, r, er, e_q, ix, MB_le (MB_m mb1 (wf_Mod_ahead v1 x.2 (by decide +kernel) Fx_r er)) (by omega)⟩
theorem tv_meet {n : Int} (hn : n ≤ 2566) {M : Mem} (h : IZ n M) (v1 : Int32) (v2 : Int32) : ∃ x, f_Top_meet v1 v2 M = some x ∧ ∃ r, f_Mod_meet v1 v2 x.2 = some r ∧ (True) ∧ IZ (n + 1) r.2 := by
  have n0 := IZ_n h
  obtain ⟨x, ex, r, er, e_q, ix⟩ := tx_meet h.1 v1 v2
  have mb1 := MB_m h.2 (wf_Top_meet v1 v2 M (by decide +kernel) Fx_r ex)
  exact ⟨x, ex, r, er, e_q, ix, MB_le (MB_m mb1 (wf_Mod_meet v1 v2 x.2 (by decide +kernel) Fx_r er)) (by omega)⟩
theorem tv_known {n : Int} (hn : n ≤ 2566) {M : Mem} (h : IZ n M)  : ∃ x, f_Top_known  M = some x ∧ ∃ r, f_Mod_known  x.2 = some r ∧ (True) ∧ IZ (n + 1) r.2 := by
  have n0 := IZ_n h
  obtain ⟨x, ex, r, er, e_q, ix⟩ := tx_known h.1 
  have mb1 := MB_m h.2 (wf_Top_known  M (by decide +kernel) Fx_r ex)
  exact ⟨x, ex, r, er, e_q, ix, MB_le (MB_m mb1 (wf_Mod_known  x.2 (by decide +kernel) Fx_r er)) (by omega)⟩
theorem tv_gossip {n : Int} (hn : n ≤ 2566) {M : Mem} (h : IZ n M) (v1 : Int32) : ∃ x, f_Top_gossip v1 M = some x ∧ ∃ r, f_Mod_gossip v1 x.2 = some r ∧ (True) ∧ IZ (n + 1) r.2 := by
  have n0 := IZ_n h
  obtain ⟨x, ex, r, er, e_q, ix⟩ := tx_gossip h.1 v1
  have mb1 := MB_m h.2 (wf_Top_gossip v1 M (by decide +kernel) Fx_r ex)
  exact ⟨x, ex, r, er, e_q, ix, MB_le (MB_m mb1 (wf_Mod_gossip v1 x.2 (by decide +kernel) Fx_r er)) (by omega)⟩
theorem tv_pieces {n : Int} (hn : n ≤ 2566) {M : Mem} (h : IZ n M) (v1 : Int32) : ∃ x, f_Top_pieces v1 M = some x ∧ ∃ r, f_Mod_pieces v1 x.2 = some r ∧ (True) ∧ IZ (n + 1) r.2 := by
  have n0 := IZ_n h
  obtain ⟨x, ex, r, er, e_q, ix⟩ := tx_pieces h.1 v1
  have mb1 := MB_m h.2 (wf_Top_pieces v1 M (by decide +kernel) Fx_r ex)
  exact ⟨x, ex, r, er, e_q, ix, MB_le (MB_m mb1 (wf_Mod_pieces v1 x.2 (by decide +kernel) Fx_r er)) (by omega)⟩
theorem tv_reach {n : Int} (hn : n ≤ 2566) {M : Mem} (h : IZ n M) (v1 : Int32) (v2 : Int32) : ∃ x, f_Top_reach v1 v2 M = some x ∧ ∃ r, f_Mod_reach v1 v2 x.2 = some r ∧ (True) ∧ IZ (n + 1) r.2 := by
  have n0 := IZ_n h
  obtain ⟨x, ex, r, er, e_q, ix⟩ := tx_reach h.1 v1 v2
  have mb1 := MB_m h.2 (wf_Top_reach v1 v2 M (by decide +kernel) Fx_r ex)
  exact ⟨x, ex, r, er, e_q, ix, MB_le (MB_m mb1 (wf_Mod_reach v1 v2 x.2 (by decide +kernel) Fx_r er)) (by omega)⟩
theorem tv_path {n : Int} (hn : n ≤ 2566) {M : Mem} (h : IZ n M) (v1 : Int32) (v2 : Int32) (v3 : Int32) : ∃ x, f_Top_path v1 v2 v3 M = some x ∧ ∃ r, f_Mod_path v1 v2 v3 x.2 = some r ∧ (True) ∧ IZ (n + 1) r.2 := by
  have n0 := IZ_n h
  obtain ⟨x, ex, r, er, e_q, ix⟩ := tx_path h.1 v1 v2 v3
  have mb1 := MB_m h.2 (wf_Top_path v1 v2 v3 M (by decide +kernel) Fx_r ex)
  exact ⟨x, ex, r, er, e_q, ix, MB_le (MB_m mb1 (wf_Mod_path v1 v2 v3 x.2 (by decide +kernel) Fx_r er)) (by omega)⟩
theorem tv_both {n : Int} (hn : n ≤ 2566) {M : Mem} (h : IZ n M) (v1 : Int32) (v2 : Int32) (v3 : Int32) (v4 : Int32) : ∃ x, f_Top_both v1 v2 v3 v4 M = some x ∧ ∃ r, f_Mod_both v1 v2 v3 v4 x.2 = some r ∧ (True) ∧ IZ (n + 1) r.2 := by
  have n0 := IZ_n h
  obtain ⟨x, ex, r, er, e_q, ix⟩ := tx_both h.1 v1 v2 v3 v4
  have mb1 := MB_m h.2 (wf_Top_both v1 v2 v3 v4 M (by decide +kernel) Fx_r ex)
  exact ⟨x, ex, r, er, e_q, ix, MB_le (MB_m mb1 (wf_Mod_both v1 v2 v3 v4 x.2 (by decide +kernel) Fx_r er)) (by omega)⟩
theorem tv_errand {n : Int} (hn : n ≤ 2566) {M : Mem} (h : IZ n M) (v1 : Int32) (v2 : Int32) : ∃ x, f_Top_errand v1 v2 M = some x ∧ ∃ r, f_Mod_errand v1 v2 x.2 = some r ∧ (True) ∧ IZ (n + 1) r.2 := by
  have n0 := IZ_n h
  obtain ⟨x, ex, r, er, e_q, ix⟩ := tx_errand h.1 v1 v2
  have mb1 := MB_m h.2 (wf_Top_errand v1 v2 M (by decide +kernel) Fx_r ex)
  exact ⟨x, ex, r, er, e_q, ix, MB_le (MB_m mb1 (wf_Mod_errand v1 v2 x.2 (by decide +kernel) Fx_r er)) (by omega)⟩
theorem tv_tryst {n : Int} (hn : n ≤ 2566) {M : Mem} (h : IZ n M) (v1 : Int32) (v2 : Int32) : ∃ x, f_Top_tryst v1 v2 M = some x ∧ ∃ r, f_Mod_tryst v1 v2 x.2 = some r ∧ (True) ∧ IZ (n + 1) r.2 := by
  have n0 := IZ_n h
  obtain ⟨x, ex, r, er, e_q, ix⟩ := tx_tryst h.1 v1 v2
  have mb1 := MB_m h.2 (wf_Top_tryst v1 v2 M (by decide +kernel) Fx_r ex)
  exact ⟨x, ex, r, er, e_q, ix, MB_le (MB_m mb1 (wf_Mod_tryst v1 v2 x.2 (by decide +kernel) Fx_r er)) (by omega)⟩
theorem tv_open {n : Int} (hn : n ≤ 2566) {M : Mem} (h : IZ n M) (v1 : Int32) (v2 : Int32) : ∃ x, f_Top_open v1 v2 M = some x ∧ ∃ r, f_Mod_open v1 v2 x.2 = some r ∧ (True) ∧ IZ (n + 1) r.2 := by
  have n0 := IZ_n h
  obtain ⟨x, ex, r, er, e_q, ix⟩ := tx_open h.1 v1 v2
  have mb1 := MB_m h.2 (wf_Top_open v1 v2 M (by decide +kernel) Fx_r ex)
  exact ⟨x, ex, r, er, e_q, ix, MB_le (MB_m mb1 (wf_Mod_open v1 v2 x.2 (by decide +kernel) Fx_r er)) (by omega)⟩
theorem tv_part {n : Int} (hn : n ≤ 2566) {M : Mem} (h : IZ n M) (v1 : Int32) (v2 : Int32) : ∃ x, f_Top_part v1 v2 M = some x ∧ ∃ r, f_Mod_part v1 v2 x.2 = some r ∧ (True) ∧ IZ (n + 1) r.2 := by
  have n0 := IZ_n h
  obtain ⟨x, ex, r, er, e_q, ix⟩ := tx_part h.1 v1 v2
  have mb1 := MB_m h.2 (wf_Top_part v1 v2 M (by decide +kernel) Fx_r ex)
  exact ⟨x, ex, r, er, e_q, ix, MB_le (MB_m mb1 (wf_Mod_part v1 v2 x.2 (by decide +kernel) Fx_r er)) (by omega)⟩
theorem tv_planks {n : Int} (hn : n ≤ 2566) {M : Mem} (h : IZ n M) (v1 : Int32) (v2 : Int32) : ∃ x, f_Top_planks v1 v2 M = some x ∧ ∃ r, f_Mod_planks v1 v2 x.2 = some r ∧ (True) ∧ IZ (n + 1) r.2 := by
  have n0 := IZ_n h
  obtain ⟨x, ex, r, er, e_q, ix⟩ := tx_planks h.1 v1 v2
  have mb1 := MB_m h.2 (wf_Top_planks v1 v2 M (by decide +kernel) Fx_r ex)
  exact ⟨x, ex, r, er, e_q, ix, MB_le (MB_m mb1 (wf_Mod_planks v1 v2 x.2 (by decide +kernel) Fx_r er)) (by omega)⟩
theorem tv_fire {n : Int} (hn : n ≤ 2566) {M : Mem} (h : IZ n M) (v1 : Int32) : ∃ x, f_Top_fire v1 M = some x ∧ ∃ r, f_Mod_fire v1 x.2 = some r ∧ (x.1 = r.1) ∧ IZ (n + 1) r.2 := by
  have n0 := IZ_n h
  obtain ⟨x, ex, r, er, e_q, ix⟩ := tx_fire h.1 v1
  have mb1 := MB_m h.2 (wf_Top_fire v1 M (by decide +kernel) Fx_r ex)
  exact ⟨x, ex, r, er, e_q, ix, MB_le (MB_m mb1 (wf_Mod_fire v1 x.2 (by decide +kernel) Fx_r er)) (by omega)⟩
theorem tv_fights {n : Int} (hn : n ≤ 2566) {M : Mem} (h : IZ n M) (v1 : Int32) : ∃ x, f_Top_fights v1 M = some x ∧ ∃ r, f_Mod_fights v1 x.2 = some r ∧ (True) ∧ IZ (n + 1) r.2 := by
  have n0 := IZ_n h
  obtain ⟨x, ex, r, er, e_q, ix⟩ := tx_fights h.1 v1
  have mb1 := MB_m h.2 (wf_Top_fights v1 M (by decide +kernel) Fx_r ex)
  exact ⟨x, ex, r, er, e_q, ix, MB_le (MB_m mb1 (wf_Mod_fights v1 x.2 (by decide +kernel) Fx_r er)) (by omega)⟩
theorem tv_saved {n : Int} (hn : n ≤ 2566) {M : Mem} (h : IZ n M)  : ∃ x, f_Top_saved  M = some x ∧ ∃ r, f_Mod_saved  x.2 = some r ∧ (True) ∧ IZ (n + 1) r.2 := by
  have n0 := IZ_n h
  obtain ⟨x, ex, r, er, e_q, ix⟩ := tx_saved h.1 
  have mb1 := MB_m h.2 (wf_Top_saved  M (by decide +kernel) Fx_r ex)
  exact ⟨x, ex, r, er, e_q, ix, MB_le (MB_m mb1 (wf_Mod_saved  x.2 (by decide +kernel) Fx_r er)) (by omega)⟩
theorem tv_wardrobe {n : Int} (hn : n ≤ 2566) {M : Mem} (h : IZ n M) (v1 : Int32) (v2 : Int32) : ∃ x, f_Top_wardrobe v1 v2 M = some x ∧ ∃ r, f_Mod_wardrobe v1 v2 x.2 = some r ∧ (True) ∧ IZ (n + 1) r.2 := by
  have n0 := IZ_n h
  obtain ⟨x, ex, r, er, e_q, ix⟩ := tx_wardrobe h.1 v1 v2
  have mb1 := MB_m h.2 (wf_Top_wardrobe v1 v2 M (by decide +kernel) Fx_r ex)
  exact ⟨x, ex, r, er, e_q, ix, MB_le (MB_m mb1 (wf_Mod_wardrobe v1 v2 x.2 (by decide +kernel) Fx_r er)) (by omega)⟩
theorem tv_flees {n : Int} (hn : n ≤ 2566) {M : Mem} (h : IZ n M) (v1 : Int32) (v2 : Int32) (v3 : Int32) : ∃ x, f_Top_flees v1 v2 v3 M = some x ∧ ∃ r, f_Mod_flees v1 v2 v3 x.2 = some r ∧ (True) ∧ IZ (n + 1) r.2 := by
  have n0 := IZ_n h
  obtain ⟨x, ex, r, er, e_q, ix⟩ := tx_flees h.1 v1 v2 v3
  have mb1 := MB_m h.2 (wf_Top_flees v1 v2 v3 M (by decide +kernel) Fx_r ex)
  exact ⟨x, ex, r, er, e_q, ix, MB_le (MB_m mb1 (wf_Mod_flees v1 v2 v3 x.2 (by decide +kernel) Fx_r er)) (by omega)⟩
theorem tv_lairs {n : Int} (hn : n ≤ 2566) {M : Mem} (h : IZ n M) (v1 : Int32) : ∃ x, f_Top_lairs v1 M = some x ∧ ∃ r, f_Mod_lairs v1 x.2 = some r ∧ (True) ∧ IZ (n + 1) r.2 := by
  have n0 := IZ_n h
  obtain ⟨x, ex, r, er, e_q, ix⟩ := tx_lairs h.1 v1
  have mb1 := MB_m h.2 (wf_Top_lairs v1 M (by decide +kernel) Fx_r ex)
  exact ⟨x, ex, r, er, e_q, ix, MB_le (MB_m mb1 (wf_Mod_lairs v1 x.2 (by decide +kernel) Fx_r er)) (by omega)⟩
theorem tv_caught {n : Int} (hn : n ≤ 2566) {M : Mem} (h : IZ n M) (v1 : Int32) (v2 : Int32) : ∃ x, f_Top_caught v1 v2 M = some x ∧ ∃ r, f_Mod_caught v1 v2 x.2 = some r ∧ (True) ∧ IZ (n + 1) r.2 := by
  have n0 := IZ_n h
  obtain ⟨x, ex, r, er, e_q, ix⟩ := tx_caught h.1 v1 v2
  have mb1 := MB_m h.2 (wf_Top_caught v1 v2 M (by decide +kernel) Fx_r ex)
  exact ⟨x, ex, r, er, e_q, ix, MB_le (MB_m mb1 (wf_Mod_caught v1 v2 x.2 (by decide +kernel) Fx_r er)) (by omega)⟩
theorem tv_watch {n : Int} (hn : n ≤ 2566) {M : Mem} (h : IZ n M) (v1 : Int32) (v2 : Int32) (v3 : Int32) (v4 : Int32) : ∃ x, f_Top_watch v1 v2 v3 v4 M = some x ∧ ∃ r, f_Mod_watch v1 v2 v3 v4 x.2 = some r ∧ (True) ∧ IZ (n + 1) r.2 := by
  have n0 := IZ_n h
  obtain ⟨x, ex, r, er, e_q, ix⟩ := tx_watch h.1 v1 v2 v3 v4
  have mb1 := MB_m h.2 (wf_Top_watch v1 v2 v3 v4 M (by decide +kernel) Fx_r ex)
  exact ⟨x, ex, r, er, e_q, ix, MB_le (MB_m mb1 (wf_Mod_watch v1 v2 v3 v4 x.2 (by decide +kernel) Fx_r er)) (by omega)⟩
theorem tv_keep {n : Int} (hn : n ≤ 2566) {M : Mem} (h : IZ n M) (v1 : Int32) : ∃ x, f_Top_keep v1 M = some x ∧ ∃ r, f_Mod_keep v1 x.2 = some r ∧ (x.1 = r.1) ∧ IZ (n + 1) r.2 := by
  have n0 := IZ_n h
  obtain ⟨x, ex, r, er, e_q, ix⟩ := tx_keep h.1 v1
  have mb1 := mb_keep (IZ_g h) ex
  exact ⟨x, ex, r, er, e_q, ix, MB_le (MB_m mb1 (wf_Mod_keep v1 x.2 (by decide +kernel) Fx_r er)) (by omega)⟩
theorem tv_again {n : Int} (hn : n ≤ 2566) {M : Mem} (h : IZ n M) (v1 : Int32) : ∃ x, f_Top_again v1 M = some x ∧ ∃ r, f_Mod_again v1 x.2 = some r ∧ (x.1 = r.1) ∧ IZ (n + 1) r.2 := by
  have n0 := IZ_n h
  obtain ⟨x, ex, r, er, e_q, ix⟩ := tx_again h.1 v1
  have mb1 := mb_again (IZ_g h) ex
  exact ⟨x, ex, r, er, e_q, ix, MB_le (MB_m mb1 (wf_Mod_again v1 x.2 (by decide +kernel) Fx_r er)) (by omega)⟩
theorem tv_count {n : Int} (hn : n ≤ 2566) {M : Mem} (h : IZ n M) (v1 : Int32) : ∃ x, f_Top_count v1 M = some x ∧ ∃ r, f_Mod_count v1 M = some r ∧ (x = r.1) ∧ IZ (n + 1) r.2 := by
  have n0 := IZ_n h
  obtain ⟨x, ex, r, er, e_q, ix⟩ := tx_count h.1 v1
  have mb1 := h.2
  exact ⟨x, ex, r, er, count_q hn h ex er, ix, MB_le (MB_m mb1 (wf_Mod_count v1 M (by decide +kernel) Fx_r er)) (by omega)⟩
theorem tv_row {n : Int} (hn : n ≤ 2566) {M : Mem} (h : IZ n M) (v1 : Int32) : ∃ x, f_Lw_row v1 M = some x ∧ ∃ r, f_Mod_row v1 x.2 = some r ∧ (True) ∧ IZ (n + 1) r.2 := by
  have n0 := IZ_n h
  obtain ⟨x, ex, r, er, e_q, ix⟩ := tx_row h.1 v1
  have mb1 : MB (2000 * n) x.2 := by
    unfold f_Lw_row at ex
    obtain ⟨y, ey, ex⟩ := bo ex
    obtain rfl := Option.some.inj ex
    exact MB_f h.2 (fun kx hk i => by rw [hv_1])
  exact ⟨x, ex, r, er, e_q, ix, MB_le (MB_m mb1 (wf_Mod_row v1 x.2 (by decide +kernel) Fx_r er)) (by omega)⟩
