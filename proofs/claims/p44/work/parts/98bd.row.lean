/-! every call keeps it that the row told last is one on both sides (88h) -/
theorem tx_sign {n : Int} {M : Mem} (h : IX n M) (v1 : Int32) : ∃ x, f_Top_sign v1 M = some x ∧ ∃ r, f_Mod_sign v1 x.2 = some r ∧ (x.1 = r.1) ∧ IX (n + 1) r.2 := by
  obtain ⟨x, ex, r, er, e_q, iy⟩ := ty_sign h.1 v1
  exact ⟨x, ex, r, er, e_q, iy, RRx_A (wf_Top_sign v1 M (by decide +kernel) Fx_r ex) (wf_Mod_sign v1 x.2 (by decide +kernel) Fx_r er) h.2⟩
theorem tx_end {n : Int} {M : Mem} (h : IX n M) (v1 : Int32) : ∃ x, f_Top_end v1 M = some x ∧ ∃ r, f_Mod_end v1 x.2 = some r ∧ (x.1 = r.1) ∧ IX (n + 1) r.2 := by
  obtain ⟨x, ex, r, er, e_q, iy⟩ := ty_end h.1 v1
  exact ⟨x, ex, r, er, e_q, iy, RRx_A (wf_Top_end v1 M (by decide +kernel) Fx_r ex) (wf_Mod_end v1 x.2 (by decide +kernel) Fx_r er) h.2⟩
theorem tx_town {n : Int} {M : Mem} (h : IX n M)  : ∃ x, f_Top_town  M = some x ∧ ∃ r, f_Mod_town  x.2 = some r ∧ (x.1 = r.1) ∧ IX (n + 1) r.2 := by
  obtain ⟨x, ex, r, er, e_q, iy⟩ := ty_town h.1 
  exact ⟨x, ex, r, er, e_q, iy, RRx_A (wf_Top_town  M (by decide +kernel) Fx_r ex) (wf_Mod_town  x.2 (by decide +kernel) Fx_r er) h.2⟩
theorem tx_folk {n : Int} (hn : n ≤ 1000000) {M : Mem} (h : IX n M)  : ∃ x, f_Top_folk  M = some x ∧ ∃ r, f_Mod_folk  x.2 = some r ∧ (True) ∧ IX (n + 1) r.2 := by
  obtain ⟨x, ex, r, er, e_q, iy⟩ := ty_folk hn h.1 
  exact ⟨x, ex, r, er, e_q, iy, RRx_A (wf_Top_folk  M (by decide +kernel) Fx_r ex) (wf_Mod_folk  x.2 (by decide +kernel) Fx_r er) h.2⟩
theorem tx_rule {n : Int} {M : Mem} (h : IX n M)  : ∃ x, f_Top_rule  M = some x ∧ ∃ r, f_Mod_rule  x.2 = some r ∧ (x.1 = r.1) ∧ IX (n + 1) r.2 := by
  obtain ⟨x, ex, r, er, e_q, iy⟩ := ty_rule h.1 
  exact ⟨x, ex, r, er, e_q, iy, RRx_A (wf_Top_rule  M (by decide +kernel) Fx_r ex) (wf_Mod_rule  x.2 (by decide +kernel) Fx_r er) h.2⟩
theorem tx_route {n : Int} (hn : n ≤ 1000000) {M : Mem} (h : IX n M) (v1 : Int32) : ∃ x, f_Top_route v1 M = some x ∧ ∃ r, f_Mod_route v1 x.2 = some r ∧ (x.1 = r.1) ∧ IX (n + 1) r.2 := by
  obtain ⟨x, ex, r, er, e_q, iy⟩ := ty_route hn h.1 v1
  exact ⟨x, ex, r, er, e_q, iy, RRx_A (wf_Top_route v1 M (by decide +kernel) Fx_r ex) (wf_Mod_route v1 x.2 (by decide +kernel) Fx_r er) h.2⟩
theorem tx_cell {n : Int} {M : Mem} (h : IX n M) (v1 : Int32) (v2 : Int32) : ∃ x, f_Lw_cell v1 v2 M = some x ∧ ∃ r, f_Mod_cell v1 v2 x.2 = some r ∧ (True) ∧ IX (n + 1) r.2 := by
  obtain ⟨x, ex, r, er, e_q, iy⟩ := ty_cell h.1 v1 v2
  have fr := wf_Mod_cell v1 v2 x.2 (L := []) (sb_r _) Fx_r er
  have q : True ∧ RR r.2 r.2 := by
    refine ⟨trivial, ?_⟩
    unfold f_Lw_cell at ex
    obtain ⟨y, ey, ex⟩ := bo ex
    obtain rfl := Option.some.inj ex
    exact RRx_L (hv_1 y M) Fx_r (wf_Mod_cell v1 v2 _ (by decide +kernel) Fx_r er) h.2
  exact ⟨x, ex, r, er, e_q, iy, q.2⟩
theorem tx_person {n : Int} {M : Mem} (h : IX n M) (v1 : Int32) (v2 : Int32) : ∃ x, f_Lw_person v1 v2 M = some x ∧ ∃ r, f_Mod_person v1 v2 x.2 = some r ∧ (True) ∧ IX (n + 1) r.2 := by
  obtain ⟨x, ex, r, er, e_q, iy⟩ := ty_person h.1 v1 v2
  have fr := wf_Mod_person v1 v2 x.2 (L := []) (sb_r _) Fx_r er
  have q : True ∧ RR r.2 r.2 := by
    refine ⟨trivial, ?_⟩
    unfold f_Lw_person at ex
    obtain ⟨y, ey, ex⟩ := bo ex
    obtain rfl := Option.some.inj ex
    exact RRx_L (hv_1 y.1 y.2) (wf_Top_person v1 v2 M (by decide +kernel) Fx_r ey) (wf_Mod_person v1 v2 _ (by decide +kernel) Fx_r er) h.2
  exact ⟨x, ex, r, er, e_q, iy, q.2⟩
theorem tx_build {n : Int} (hn : n ≤ 1000000) {M : Mem} (h : IX n M) (v1 : Int32) (v2 : Int32) : ∃ x, f_Top_build v1 v2 M = some x ∧ ∃ r, f_Mod_build v1 v2 x.2 = some r ∧ (x.1 = r.1) ∧ IX (n + 1) r.2 := by
  obtain ⟨x, ex, r, er, e_q, iy⟩ := ty_build hn h.1 v1 v2
  exact ⟨x, ex, r, er, e_q, iy, RRx_A (wf_Top_build v1 v2 M (by decide +kernel) Fx_r ex) (wf_Mod_build v1 v2 x.2 (by decide +kernel) Fx_r er) h.2⟩
theorem tx_plank {n : Int} {M : Mem} (h : IX n M) (v1 : Int32) (v2 : Int32) : ∃ x, f_Top_plank v1 v2 M = some x ∧ ∃ r, f_Mod_plank v1 v2 x.2 = some r ∧ (x.1 = r.1) ∧ IX (n + 1) r.2 := by
  obtain ⟨x, ex, r, er, e_q, iy⟩ := ty_plank h.1 v1 v2
  exact ⟨x, ex, r, er, e_q, iy, RRx_A (wf_Top_plank v1 v2 M (by decide +kernel) Fx_r ex) (wf_Mod_plank v1 v2 x.2 (by decide +kernel) Fx_r er) h.2⟩
theorem tx_take {n : Int} {M : Mem} (h : IX n M)  : ∃ x, f_Top_take  M = some x ∧ ∃ r, f_Mod_take  x.2 = some r ∧ (x.1 = r.1) ∧ IX (n + 1) r.2 := by
  obtain ⟨x, ex, r, er, e_q, iy⟩ := ty_take h.1 
  exact ⟨x, ex, r, er, e_q, iy, RRx_A (wf_Top_take  M (by decide +kernel) Fx_r ex) (wf_Mod_take  x.2 (by decide +kernel) Fx_r er) h.2⟩
theorem tx_sheet {n : Int} {M : Mem} (h : IX n M) (v1 : Int32) (v2 : Int32) (v3 : Int32) (v4 : Int32) : ∃ x, f_Top_sheet v1 v2 v3 v4 M = some x ∧ ∃ r, f_Mod_sheet v1 v2 v3 v4 x.2 = some r ∧ (x.1 = r.1) ∧ IX (n + 1) r.2 := by
  obtain ⟨x, ex, r, er, e_q, iy⟩ := ty_sheet h.1 v1 v2 v3 v4
  exact ⟨x, ex, r, er, e_q, iy, RRx_A (wf_Top_sheet v1 v2 v3 v4 M (by decide +kernel) Fx_r ex) (wf_Mod_sheet v1 v2 v3 v4 x.2 (by decide +kernel) Fx_r er) h.2⟩
theorem tx_tell {n : Int} {M : Mem} (h : IX n M) (v1 : Int32) : ∃ x, f_Top_tell v1 M = some x ∧ ∃ r, f_Mod_tell v1 x.2 = some r ∧ (x.1 = r.1) ∧ IX (n + 1) r.2 := by
  obtain ⟨x, ex, r, er, e_q, iy⟩ := ty_tell h.1 v1
  exact ⟨x, ex, r, er, e_q, iy, RRx_A (wf_Top_tell v1 M (by decide +kernel) Fx_r ex) (wf_Mod_tell v1 x.2 (by decide +kernel) Fx_r er) h.2⟩
theorem tx_feast {n : Int} {M : Mem} (h : IX n M) (v1 : Int32) : ∃ x, f_Top_feast v1 M = some x ∧ ∃ r, f_Mod_feast v1 x.2 = some r ∧ (x.1 = r.1) ∧ IX (n + 1) r.2 := by
  obtain ⟨x, ex, r, er, e_q, iy⟩ := ty_feast h.1 v1
  exact ⟨x, ex, r, er, e_q, iy, RRx_A (wf_Top_feast v1 M (by decide +kernel) Fx_r ex) (wf_Mod_feast v1 x.2 (by decide +kernel) Fx_r er) h.2⟩
theorem tx_minute {n : Int} {M : Mem} (h : IX n M)  : ∃ x, f_Top_minute  M = some x ∧ ∃ r, f_Mod_minute  x.2 = some r ∧ (x.1 = r.1) ∧ IX (n + 1) r.2 := by
  obtain ⟨x, ex, r, er, e_q, iy⟩ := ty_minute h.1 
  have hJ := h.1.1.1.1.1.1
  obtain ⟨m, z⟩ := h.1.1.2
  have jr : J r.2 := iy.1.1.1.1.1
  have q := some_of (sf_Top_minute  M hJ) ex
  have g : ∀ kx i, 162 ≤ kx → x.2.1 kx i = M.1 kx i := fun kx i w => q.2 kx i (.inl w)
  have z1 : ZA M x.2 m := up_c z q.1 g
  have rr1 : RR M x.2 := RR_g g h.2
  have kk : KK x.2 := (RI_ge h.1.1.1.1.1 q.1 g).2.1
  exact ⟨x, ex, r, er, e_q, iy, RRx_B (wf_Mod_minute  x.2 (by decide +kernel) Fx_r er) (minute_r z1 kk ex er)⟩
theorem tx_minutes {n : Int} {M : Mem} (h : IX n M) (v1 : Int32) : ∃ x, f_Top_minutes v1 M = some x ∧ ∃ r, f_Mod_minutes v1 x.2 = some r ∧ (x.1 = r.1) ∧ IX (n + 1) r.2 := by
  obtain ⟨x, ex, r, er, e_q, iy⟩ := ty_minutes h.1 v1
  have hJ := h.1.1.1.1.1.1
  obtain ⟨m, z⟩ := h.1.1.2
  have jr : J r.2 := iy.1.1.1.1.1
  have q := some_of (sf_Top_minutes v1 M hJ) ex
  have g : ∀ kx i, 162 ≤ kx → x.2.1 kx i = M.1 kx i := fun kx i w => q.2 kx i (.inl w)
  have z1 : ZA M x.2 m := up_c z q.1 g
  have rr1 : RR M x.2 := RR_g g h.2
  have kk : KK x.2 := (RI_ge h.1.1.1.1.1 q.1 g).2.1
  exact ⟨x, ex, r, er, e_q, iy, RRx_B (wf_Mod_minutes v1 x.2 (by decide +kernel) Fx_r er) (minutes_r z1 kk ex er rr1)⟩
theorem tx_evening {n : Int} {M : Mem} (h : IX n M)  : ∃ x, f_Top_evening  M = some x ∧ ∃ r, f_Mod_evening  x.2 = some r ∧ (x.1 = r.1) ∧ IX (n + 1) r.2 := by
  obtain ⟨x, ex, r, er, e_q, iy⟩ := ty_evening h.1 
  have hJ := h.1.1.1.1.1.1
  obtain ⟨m, z⟩ := h.1.1.2
  have jr : J r.2 := iy.1.1.1.1.1
  have q := some_of (sf_Top_evening  M hJ) ex
  have g : ∀ kx i, 162 ≤ kx → x.2.1 kx i = M.1 kx i := fun kx i w => q.2.1 kx i (.inl w)
  have z1 : ZA M x.2 m := up_c z q.1 g
  have rr1 : RR M x.2 := RR_g g h.2
  have kk : KK x.2 := (RI_ge h.1.1.1.1.1 q.1 g).2.1
  have l : M.1 1 1 = x.2.1 162 10 := by rw [g 162 10 (by decide)]; exact h.1.1.1.1.2
  have hb : ∀ p : Nat, (p : Int) < (x.2.1 162 10).toInt → -128 ≤ (x.2.1 167 p).toInt ∧ (x.2.1 167 p).toInt ≤ 127 := fun p hp => by rw [g 167 p (by decide)]; rw [g 162 10 (by decide)] at hp; exact h.1.1.1.2.1.2 p hp
  have tx := cx_rx h.1.1.1.2.1.1 h.1.1.1.1.2 g 60
  exact ⟨x, ex, r, er, e_q, iy, RRx_B (wf_Mod_evening  x.2 (by decide +kernel) Fx_r er) (evening_r z1 kk tx l hJ hb rr1 ex er)⟩
theorem tx_undo {n : Int} {M : Mem} (h : IX n M)  : ∃ x, f_Top_undo  M = some x ∧ ∃ r, f_Mod_undo  x.2 = some r ∧ (x.1 = r.1) ∧ IX (n + 1) r.2 := by
  obtain ⟨x, ex, r, er, e_q, iy⟩ := ty_undo h.1 
  exact ⟨x, ex, r, er, e_q, iy, RRx_A (wf_Top_undo  M (by decide +kernel) Fx_r ex) (wf_Mod_undo  x.2 (by decide +kernel) Fx_r er) h.2⟩
theorem tx_met {n : Int} {M : Mem} (h : IX n M) (v1 : Int32) (v2 : Int32) : ∃ x, f_Top_met v1 v2 M = some x ∧ ∃ r, f_Mod_met v1 v2 M = some r ∧ (True) ∧ IX (n + 1) r.2 := by
  obtain ⟨x, ex, r, er, e_q, iy⟩ := ty_met h.1 v1 v2
  exact ⟨x, ex, r, er, e_q, iy, RRx_A Fx_r (wf_Mod_met v1 v2 M (by decide +kernel) Fx_r er) h.2⟩
theorem tx_ahead {n : Int} {M : Mem} (h : IX n M) (v1 : Int32) : ∃ x, f_Top_ahead v1 M = some x ∧ ∃ r, f_Mod_ahead v1 x.2 = some r ∧ (True) ∧ IX (n + 1) r.2 := by
  obtain ⟨x, ex, r, er, e_q, iy⟩ := ty_ahead h.1 v1
  have hJ := h.1.1.1.1.1.1
  obtain ⟨m, z⟩ := h.1.1.2
  have jr : J r.2 := iy.1.1.1.1.1
  have q := some_of (sf_Top_ahead v1 M hJ) ex
  have g : ∀ kx i, 162 ≤ kx → x.2.1 kx i = M.1 kx i := fun kx i w => q.2 kx i (.inl w)
  have z1 : ZA M x.2 m := up_c z q.1 g
  have rr1 : RR M x.2 := RR_g g h.2
  exact ⟨x, ex, r, er, e_q, iy, RRx_B (wf_Mod_ahead v1 x.2 (by decide +kernel) Fx_r er) ((ahead_q z1 ex er).2 rr1)⟩
theorem tx_meet {n : Int} {M : Mem} (h : IX n M) (v1 : Int32) (v2 : Int32) : ∃ x, f_Top_meet v1 v2 M = some x ∧ ∃ r, f_Mod_meet v1 v2 x.2 = some r ∧ (True) ∧ IX (n + 1) r.2 := by
  obtain ⟨x, ex, r, er, e_q, iy⟩ := ty_meet h.1 v1 v2
  have hJ := h.1.1.1.1.1.1
  obtain ⟨m, z⟩ := h.1.1.2
  have jr : J r.2 := iy.1.1.1.1.1
  have q := some_of (sf_Top_meet v1 v2 M hJ) ex
  have g : ∀ kx i, 162 ≤ kx → x.2.1 kx i = M.1 kx i := fun kx i w => q.2.1 kx i (.inl w)
  have z1 : ZA M x.2 m := up_c z q.1 g
  have rr1 : RR M x.2 := RR_g g h.2
  exact ⟨x, ex, r, er, e_q, iy, RRx_B (wf_Mod_meet v1 v2 x.2 (by decide +kernel) Fx_r er) ((meet_q z1 ex er).2 rr1)⟩
theorem tx_known {n : Int} {M : Mem} (h : IX n M)  : ∃ x, f_Top_known  M = some x ∧ ∃ r, f_Mod_known  x.2 = some r ∧ (True) ∧ IX (n + 1) r.2 := by
  obtain ⟨x, ex, r, er, e_q, iy⟩ := ty_known h.1 
  have hJ := h.1.1.1.1.1.1
  obtain ⟨m, z⟩ := h.1.1.2
  have jr : J r.2 := iy.1.1.1.1.1
  have q := some_of (sf_Top_known  M hJ) ex
  have g : ∀ kx i, 162 ≤ kx → x.2.1 kx i = M.1 kx i := fun kx i w => q.2 kx i (.inl w)
  have z1 : ZA M x.2 m := up_c z q.1 g
  have rr1 : RR M x.2 := RR_g g h.2
  exact ⟨x, ex, r, er, e_q, iy, RRx_B (wf_Mod_known  x.2 (by decide +kernel) Fx_r er) ((known_q z1 ex er).2 rr1)⟩
theorem tx_gossip {n : Int} {M : Mem} (h : IX n M) (v1 : Int32) : ∃ x, f_Top_gossip v1 M = some x ∧ ∃ r, f_Mod_gossip v1 x.2 = some r ∧ (True) ∧ IX (n + 1) r.2 := by
  obtain ⟨x, ex, r, er, e_q, iy⟩ := ty_gossip h.1 v1
  have hJ := h.1.1.1.1.1.1
  obtain ⟨m, z⟩ := h.1.1.2
  have jr : J r.2 := iy.1.1.1.1.1
  have q := some_of (sf_Top_gossip v1 M hJ) ex
  have g : ∀ kx i, 162 ≤ kx → x.2.1 kx i = M.1 kx i := fun kx i w => q.2.1 kx i (.inl w)
  have z1 : ZA M x.2 m := up_c z q.1 g
  have rr1 : RR M x.2 := RR_g g h.2
  exact ⟨x, ex, r, er, e_q, iy, RRx_B (wf_Mod_gossip v1 x.2 (by decide +kernel) Fx_r er) ((gossip_q z1 ex er).2 rr1)⟩
theorem tx_pieces {n : Int} {M : Mem} (h : IX n M) (v1 : Int32) : ∃ x, f_Top_pieces v1 M = some x ∧ ∃ r, f_Mod_pieces v1 x.2 = some r ∧ (True) ∧ IX (n + 1) r.2 := by
  obtain ⟨x, ex, r, er, e_q, iy⟩ := ty_pieces h.1 v1
  have hJ := h.1.1.1.1.1.1
  obtain ⟨m, z⟩ := h.1.1.2
  have jr : J r.2 := iy.1.1.1.1.1
  have q := some_of (sf_Top_pieces v1 M hJ) ex
  have g : ∀ kx i, 162 ≤ kx → x.2.1 kx i = M.1 kx i := fun kx i w => q.2 kx i (.inl w)
  have z1 : ZA M x.2 m := up_c z q.1 g
  have rr1 : RR M x.2 := RR_g g h.2
  exact ⟨x, ex, r, er, e_q, iy, RRx_B (wf_Mod_pieces v1 x.2 (by decide +kernel) Fx_r er) (pieces_r hJ z1 ex er rr1)⟩
theorem tx_reach {n : Int} {M : Mem} (h : IX n M) (v1 : Int32) (v2 : Int32) : ∃ x, f_Top_reach v1 v2 M = some x ∧ ∃ r, f_Mod_reach v1 v2 x.2 = some r ∧ (True) ∧ IX (n + 1) r.2 := by
  obtain ⟨x, ex, r, er, e_q, iy⟩ := ty_reach h.1 v1 v2
  have hJ := h.1.1.1.1.1.1
  obtain ⟨m, z⟩ := h.1.1.2
  have jr : J r.2 := iy.1.1.1.1.1
  have q := some_of (sf_Top_reach v1 v2 M hJ) ex
  have g : ∀ kx i, 162 ≤ kx → x.2.1 kx i = M.1 kx i := fun kx i w => q.2.1 kx i (.inl w)
  have z1 : ZA M x.2 m := up_c z q.1 g
  have rr1 : RR M x.2 := RR_g g h.2
  exact ⟨x, ex, r, er, e_q, iy, RRx_B (wf_Mod_reach v1 v2 x.2 (by decide +kernel) Fx_r er) ((reach_q hJ z1 ex er).2 rr1)⟩
theorem tx_path {n : Int} {M : Mem} (h : IX n M) (v1 : Int32) (v2 : Int32) (v3 : Int32) : ∃ x, f_Top_path v1 v2 v3 M = some x ∧ ∃ r, f_Mod_path v1 v2 v3 x.2 = some r ∧ (True) ∧ IX (n + 1) r.2 := by
  obtain ⟨x, ex, r, er, e_q, iy⟩ := ty_path h.1 v1 v2 v3
  have hJ := h.1.1.1.1.1.1
  obtain ⟨m, z⟩ := h.1.1.2
  have jr : J r.2 := iy.1.1.1.1.1
  have q := some_of (sf_Top_path v1 v2 v3 M hJ) ex
  have g : ∀ kx i, 162 ≤ kx → x.2.1 kx i = M.1 kx i := fun kx i w => q.2.1 kx i (.inl w)
  have z1 : ZA M x.2 m := up_c z q.1 g
  have rr1 : RR M x.2 := RR_g g h.2
  exact ⟨x, ex, r, er, e_q, iy, RRx_B (wf_Mod_path v1 v2 v3 x.2 (by decide +kernel) Fx_r er) (path_r z1 ex er rr1)⟩
theorem tx_both {n : Int} {M : Mem} (h : IX n M) (v1 : Int32) (v2 : Int32) (v3 : Int32) (v4 : Int32) : ∃ x, f_Top_both v1 v2 v3 v4 M = some x ∧ ∃ r, f_Mod_both v1 v2 v3 v4 x.2 = some r ∧ (True) ∧ IX (n + 1) r.2 := by
  obtain ⟨x, ex, r, er, e_q, iy⟩ := ty_both h.1 v1 v2 v3 v4
  have hJ := h.1.1.1.1.1.1
  obtain ⟨m, z⟩ := h.1.1.2
  have jr : J r.2 := iy.1.1.1.1.1
  have q := some_of (sf_Top_both v1 v2 v3 v4 M hJ) ex
  have g : ∀ kx i, 162 ≤ kx → x.2.1 kx i = M.1 kx i := fun kx i w => q.2 kx i (.inl w)
  have z1 : ZA M x.2 m := up_c z q.1 g
  have rr1 : RR M x.2 := RR_g g h.2
  exact ⟨x, ex, r, er, e_q, iy, RRx_B (wf_Mod_both v1 v2 v3 v4 x.2 (by decide +kernel) Fx_r er) ((both_q z1 ex er).2 rr1)⟩
theorem tx_errand {n : Int} {M : Mem} (h : IX n M) (v1 : Int32) (v2 : Int32) : ∃ x, f_Top_errand v1 v2 M = some x ∧ ∃ r, f_Mod_errand v1 v2 x.2 = some r ∧ (True) ∧ IX (n + 1) r.2 := by
  obtain ⟨x, ex, r, er, e_q, iy⟩ := ty_errand h.1 v1 v2
  have hJ := h.1.1.1.1.1.1
  obtain ⟨m, z⟩ := h.1.1.2
  have jr : J r.2 := iy.1.1.1.1.1
  have q := some_of (sf_Top_errand v1 v2 M hJ) ex
  have g : ∀ kx i, 162 ≤ kx → x.2.1 kx i = M.1 kx i := fun kx i w => q.2.1 kx i (.inl w)
  have z1 : ZA M x.2 m := up_c z q.1 g
  have rr1 : RR M x.2 := RR_g g h.2
  exact ⟨x, ex, r, er, e_q, iy, RRx_B (wf_Mod_errand v1 v2 x.2 (by decide +kernel) Fx_r er) ((errand_q z1 ex er).2 rr1)⟩
theorem tx_tryst {n : Int} {M : Mem} (h : IX n M) (v1 : Int32) (v2 : Int32) : ∃ x, f_Top_tryst v1 v2 M = some x ∧ ∃ r, f_Mod_tryst v1 v2 x.2 = some r ∧ (True) ∧ IX (n + 1) r.2 := by
  obtain ⟨x, ex, r, er, e_q, iy⟩ := ty_tryst h.1 v1 v2
  have hJ := h.1.1.1.1.1.1
  obtain ⟨m, z⟩ := h.1.1.2
  have jr : J r.2 := iy.1.1.1.1.1
  have q := some_of (sf_Top_tryst v1 v2 M hJ) ex
  have g : ∀ kx i, 162 ≤ kx → x.2.1 kx i = M.1 kx i := fun kx i w => q.2.1 kx i (.inl w)
  have z1 : ZA M x.2 m := up_c z q.1 g
  have rr1 : RR M x.2 := RR_g g h.2
  exact ⟨x, ex, r, er, e_q, iy, RRx_B (wf_Mod_tryst v1 v2 x.2 (by decide +kernel) Fx_r er) ((tryst_q z1 ex er).2 rr1)⟩
theorem tx_open {n : Int} {M : Mem} (h : IX n M) (v1 : Int32) (v2 : Int32) : ∃ x, f_Top_open v1 v2 M = some x ∧ ∃ r, f_Mod_open v1 v2 x.2 = some r ∧ (True) ∧ IX (n + 1) r.2 := by
  obtain ⟨x, ex, r, er, e_q, iy⟩ := ty_open h.1 v1 v2
  have hJ := h.1.1.1.1.1.1
  obtain ⟨m, z⟩ := h.1.1.2
  have jr : J r.2 := iy.1.1.1.1.1
  have q := some_of (sf_Top_open v1 v2 M hJ) ex
  have g : ∀ kx i, 162 ≤ kx → x.2.1 kx i = M.1 kx i := fun kx i w => q.2.1 kx i (.inl w)
  have z1 : ZA M x.2 m := up_c z q.1 g
  have rr1 : RR M x.2 := RR_g g h.2
  exact ⟨x, ex, r, er, e_q, iy, RRx_B (wf_Mod_open v1 v2 x.2 (by decide +kernel) Fx_r er) ((open_q z1 ex er).2 rr1)⟩
theorem tx_part {n : Int} {M : Mem} (h : IX n M) (v1 : Int32) (v2 : Int32) : ∃ x, f_Top_part v1 v2 M = some x ∧ ∃ r, f_Mod_part v1 v2 x.2 = some r ∧ (True) ∧ IX (n + 1) r.2 := by
  obtain ⟨x, ex, r, er, e_q, iy⟩ := ty_part h.1 v1 v2
  have hJ := h.1.1.1.1.1.1
  obtain ⟨m, z⟩ := h.1.1.2
  have jr : J r.2 := iy.1.1.1.1.1
  have q := some_of (sf_Top_part v1 v2 M hJ) ex
  have g : ∀ kx i, 162 ≤ kx → x.2.1 kx i = M.1 kx i := fun kx i w => q.2.1 kx i (.inl w)
  have z1 : ZA M x.2 m := up_c z q.1 g
  have rr1 : RR M x.2 := RR_g g h.2
  exact ⟨x, ex, r, er, e_q, iy, RRx_B (wf_Mod_part v1 v2 x.2 (by decide +kernel) Fx_r er) (part_r hJ z1 ex er rr1)⟩
theorem tx_planks {n : Int} {M : Mem} (h : IX n M) (v1 : Int32) (v2 : Int32) : ∃ x, f_Top_planks v1 v2 M = some x ∧ ∃ r, f_Mod_planks v1 v2 x.2 = some r ∧ (True) ∧ IX (n + 1) r.2 := by
  obtain ⟨x, ex, r, er, e_q, iy⟩ := ty_planks h.1 v1 v2
  have hJ := h.1.1.1.1.1.1
  obtain ⟨m, z⟩ := h.1.1.2
  have jr : J r.2 := iy.1.1.1.1.1
  have q := some_of (sf_Top_planks v1 v2 M hJ) ex
  have g : ∀ kx i, 162 ≤ kx → x.2.1 kx i = M.1 kx i := fun kx i w => q.2 kx i (.inl w)
  have z1 : ZA M x.2 m := up_c z q.1 g
  have rr1 : RR M x.2 := RR_g g h.2
  exact ⟨x, ex, r, er, e_q, iy, RRx_B (wf_Mod_planks v1 v2 x.2 (by decide +kernel) Fx_r er) ((planks_q z1 ex er).2 rr1)⟩
theorem tx_fire {n : Int} {M : Mem} (h : IX n M) (v1 : Int32) : ∃ x, f_Top_fire v1 M = some x ∧ ∃ r, f_Mod_fire v1 x.2 = some r ∧ (x.1 = r.1) ∧ IX (n + 1) r.2 := by
  obtain ⟨x, ex, r, er, e_q, iy⟩ := ty_fire h.1 v1
  exact ⟨x, ex, r, er, e_q, iy, RRx_A (wf_Top_fire v1 M (by decide +kernel) Fx_r ex) (wf_Mod_fire v1 x.2 (by decide +kernel) Fx_r er) h.2⟩
theorem tx_fights {n : Int} {M : Mem} (h : IX n M) (v1 : Int32) : ∃ x, f_Top_fights v1 M = some x ∧ ∃ r, f_Mod_fights v1 x.2 = some r ∧ (True) ∧ IX (n + 1) r.2 := by
  obtain ⟨x, ex, r, er, e_q, iy⟩ := ty_fights h.1 v1
  have hJ := h.1.1.1.1.1.1
  obtain ⟨m, z⟩ := h.1.1.2
  have jr : J r.2 := iy.1.1.1.1.1
  have q := some_of (sf_Top_fights v1 M hJ) ex
  have g : ∀ kx i, 162 ≤ kx → x.2.1 kx i = M.1 kx i := fun kx i w => q.2 kx i (.inl w)
  have z1 : ZA M x.2 m := up_c z q.1 g
  have rr1 : RR M x.2 := RR_g g h.2
  have fi : M.1 0 16 = x.2.1 162 8 := by rw [g 162 8 (by decide)]; exact h.1.1.1.2.2.2
  have fri : FRI x.2 := FRI_g g (FRC_I h.1.1.1.2 h.1.2)
  exact ⟨x, ex, r, er, e_q, iy, RRx_B (wf_Mod_fights v1 x.2 (by decide +kernel) Fx_r er) (fights_r z1 fi fri ex er rr1)⟩
theorem tx_saved {n : Int} {M : Mem} (h : IX n M)  : ∃ x, f_Top_saved  M = some x ∧ ∃ r, f_Mod_saved  x.2 = some r ∧ (True) ∧ IX (n + 1) r.2 := by
  obtain ⟨x, ex, r, er, e_q, iy⟩ := ty_saved h.1 
  have hJ := h.1.1.1.1.1.1
  obtain ⟨m, z⟩ := h.1.1.2
  have jr : J r.2 := iy.1.1.1.1.1
  have q := some_of (sf_Top_saved  M hJ) ex
  have g : ∀ kx i, 162 ≤ kx → x.2.1 kx i = M.1 kx i := fun kx i w => q.2.1 kx i (.inl w)
  have z1 : ZA M x.2 m := up_c z q.1 g
  have rr1 : RR M x.2 := RR_g g h.2
  have fi : M.1 0 16 = x.2.1 162 8 := by rw [g 162 8 (by decide)]; exact h.1.1.1.2.2.2
  have fri : FRI x.2 := FRI_g g (FRC_I h.1.1.1.2 h.1.2)
  exact ⟨x, ex, r, er, e_q, iy, RRx_B (wf_Mod_saved  x.2 (by decide +kernel) Fx_r er) ((saved_q hJ z1 fi fri ex er).2 rr1)⟩
theorem tx_wardrobe {n : Int} {M : Mem} (h : IX n M) (v1 : Int32) (v2 : Int32) : ∃ x, f_Top_wardrobe v1 v2 M = some x ∧ ∃ r, f_Mod_wardrobe v1 v2 x.2 = some r ∧ (True) ∧ IX (n + 1) r.2 := by
  obtain ⟨x, ex, r, er, e_q, iy⟩ := ty_wardrobe h.1 v1 v2
  have hJ := h.1.1.1.1.1.1
  obtain ⟨m, z⟩ := h.1.1.2
  have jr : J r.2 := iy.1.1.1.1.1
  have q := some_of (sf_Top_wardrobe v1 v2 M hJ) ex
  have g : ∀ kx i, 162 ≤ kx → x.2.1 kx i = M.1 kx i := fun kx i w => q.2.1 kx i (.inl w)
  have z1 : ZA M x.2 m := up_c z q.1 g
  have rr1 : RR M x.2 := RR_g g h.2
  exact ⟨x, ex, r, er, e_q, iy, RRx_B (wf_Mod_wardrobe v1 v2 x.2 (by decide +kernel) Fx_r er) (wardrobe_r z1 ex er rr1)⟩
theorem tx_flees {n : Int} {M : Mem} (h : IX n M) (v1 : Int32) (v2 : Int32) (v3 : Int32) : ∃ x, f_Top_flees v1 v2 v3 M = some x ∧ ∃ r, f_Mod_flees v1 v2 v3 x.2 = some r ∧ (True) ∧ IX (n + 1) r.2 := by
  obtain ⟨x, ex, r, er, e_q, iy⟩ := ty_flees h.1 v1 v2 v3
  have hJ := h.1.1.1.1.1.1
  obtain ⟨m, z⟩ := h.1.1.2
  have jr : J r.2 := iy.1.1.1.1.1
  have q := some_of (sf_Top_flees v1 v2 v3 M hJ) ex
  have g : ∀ kx i, 162 ≤ kx → x.2.1 kx i = M.1 kx i := fun kx i w => q.2.1 kx i (.inl w)
  have z1 : ZA M x.2 m := up_c z q.1 g
  have rr1 : RR M x.2 := RR_g g h.2
  exact ⟨x, ex, r, er, e_q, iy, RRx_B (wf_Mod_flees v1 v2 v3 x.2 (by decide +kernel) Fx_r er) ((flees_q z1 ex er).2 rr1)⟩
theorem tx_lairs {n : Int} {M : Mem} (h : IX n M) (v1 : Int32) : ∃ x, f_Top_lairs v1 M = some x ∧ ∃ r, f_Mod_lairs v1 x.2 = some r ∧ (True) ∧ IX (n + 1) r.2 := by
  obtain ⟨x, ex, r, er, e_q, iy⟩ := ty_lairs h.1 v1
  have hJ := h.1.1.1.1.1.1
  obtain ⟨m, z⟩ := h.1.1.2
  have jr : J r.2 := iy.1.1.1.1.1
  have q := some_of (sf_Top_lairs v1 M hJ) ex
  have g : ∀ kx i, 162 ≤ kx → x.2.1 kx i = M.1 kx i := fun kx i w => q.2.1 kx i (.inl w)
  have z1 : ZA M x.2 m := up_c z q.1 g
  have rr1 : RR M x.2 := RR_g g h.2
  exact ⟨x, ex, r, er, e_q, iy, RRx_B (wf_Mod_lairs v1 x.2 (by decide +kernel) Fx_r er) ((lairs_q z1 ex er).2 rr1)⟩
theorem tx_caught {n : Int} {M : Mem} (h : IX n M) (v1 : Int32) (v2 : Int32) : ∃ x, f_Top_caught v1 v2 M = some x ∧ ∃ r, f_Mod_caught v1 v2 x.2 = some r ∧ (True) ∧ IX (n + 1) r.2 := by
  obtain ⟨x, ex, r, er, e_q, iy⟩ := ty_caught h.1 v1 v2
  have hJ := h.1.1.1.1.1.1
  obtain ⟨m, z⟩ := h.1.1.2
  have jr : J r.2 := iy.1.1.1.1.1
  have q := some_of (sf_Top_caught v1 v2 M hJ) ex
  have g : ∀ kx i, 162 ≤ kx → x.2.1 kx i = M.1 kx i := fun kx i w => q.2.1 kx i (.inl w)
  have z1 : ZA M x.2 m := up_c z q.1 g
  have rr1 : RR M x.2 := RR_g g h.2
  exact ⟨x, ex, r, er, e_q, iy, RRx_B (wf_Mod_caught v1 v2 x.2 (by decide +kernel) Fx_r er) ((caught_q z1 ex er).2 rr1)⟩
theorem tx_watch {n : Int} {M : Mem} (h : IX n M) (v1 : Int32) (v2 : Int32) (v3 : Int32) (v4 : Int32) : ∃ x, f_Top_watch v1 v2 v3 v4 M = some x ∧ ∃ r, f_Mod_watch v1 v2 v3 v4 x.2 = some r ∧ (True) ∧ IX (n + 1) r.2 := by
  obtain ⟨x, ex, r, er, e_q, iy⟩ := ty_watch h.1 v1 v2 v3 v4
  have hJ := h.1.1.1.1.1.1
  obtain ⟨m, z⟩ := h.1.1.2
  have jr : J r.2 := iy.1.1.1.1.1
  have q := some_of (sf_Top_watch v1 v2 v3 v4 M hJ) ex
  have g : ∀ kx i, 162 ≤ kx → x.2.1 kx i = M.1 kx i := fun kx i w => q.2.1 kx i (.inl w)
  have z1 : ZA M x.2 m := up_c z q.1 g
  have rr1 : RR M x.2 := RR_g g h.2
  exact ⟨x, ex, r, er, e_q, iy, RRx_B (wf_Mod_watch v1 v2 v3 v4 x.2 (by decide +kernel) Fx_r er) ((watch_q z1 ex er).2 rr1)⟩
theorem tx_keep {n : Int} {M : Mem} (h : IX n M) (v1 : Int32) : ∃ x, f_Top_keep v1 M = some x ∧ ∃ r, f_Mod_keep v1 x.2 = some r ∧ (x.1 = r.1) ∧ IX (n + 1) r.2 := by
  obtain ⟨x, ex, r, er, e_q, iy⟩ := ty_keep h.1 v1
  exact ⟨x, ex, r, er, e_q, iy, RRx_A (wf_Top_keep v1 M (by decide +kernel) Fx_r ex) (wf_Mod_keep v1 x.2 (by decide +kernel) Fx_r er) h.2⟩
theorem tx_again {n : Int} {M : Mem} (h : IX n M) (v1 : Int32) : ∃ x, f_Top_again v1 M = some x ∧ ∃ r, f_Mod_again v1 x.2 = some r ∧ (x.1 = r.1) ∧ IX (n + 1) r.2 := by
  obtain ⟨x, ex, r, er, e_q, iy⟩ := ty_again h.1 v1
  exact ⟨x, ex, r, er, e_q, iy, RRx_A (wf_Top_again v1 M (by decide +kernel) Fx_r ex) (wf_Mod_again v1 x.2 (by decide +kernel) Fx_r er) h.2⟩
theorem tx_count {n : Int} {M : Mem} (h : IX n M) (v1 : Int32) : ∃ x, f_Top_count v1 M = some x ∧ ∃ r, f_Mod_count v1 M = some r ∧ (True) ∧ IX (n + 1) r.2 := by
  obtain ⟨x, ex, r, er, e_q, iy⟩ := ty_count h.1 v1
  exact ⟨x, ex, r, er, e_q, iy, RRx_A Fx_r (wf_Mod_count v1 M (by decide +kernel) Fx_r er) h.2⟩
theorem tx_row {n : Int} {M : Mem} (h : IX n M) (v1 : Int32) : ∃ x, f_Lw_row v1 M = some x ∧ ∃ r, f_Mod_row v1 x.2 = some r ∧ (True) ∧ IX (n + 1) r.2 := by
  obtain ⟨x, ex, r, er, e_q, iy⟩ := ty_row h.1 v1
  have fr := wf_Mod_row v1 x.2 (L := []) (sb_r _) Fx_r er
  have q : True ∧ RR r.2 r.2 := by
    refine ⟨trivial, ?_⟩
    unfold f_Lw_row at ex
    obtain ⟨y, ey, ex⟩ := bo ex
    obtain rfl := Option.some.inj ex
    exact RRx_L (hv_1 y M) Fx_r (wf_Mod_row v1 _ (by decide +kernel) Fx_r er) h.2
  exact ⟨x, ex, r, er, e_q, iy, q.2⟩
