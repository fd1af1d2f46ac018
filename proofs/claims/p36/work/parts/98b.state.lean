/-! every call keeps the relation of the whole state -/
theorem tz_sign {n : Int} {M : Mem} (h : IW n M) (v1 : Int32) : ∃ x, f_Top_sign v1 M = some x ∧ ∃ r, f_Mod_sign v1 x.2 = some r ∧ (x.1 = r.1) ∧ IW (n + 1) r.2 := by
  obtain ⟨x, ex, r, er, e_q, iv⟩ := tw_sign h.1 v1
  obtain ⟨m, z⟩ := h.2
  have jr : J r.2 := iv.1.1.1
  have q := some_of (ct_sign h.1.1.1.1 v1) ex
  have g : ∀ kx i, 162 ≤ kx → x.2.1 kx i = M.1 kx i := fun kx i w => q.2.1 kx i w
  have fr := wf_Mod_sign v1 x.2 (L := []) (sb_r _) Fx_r er
  have fx : Fz M x.2 := cx_f (by decide +kernel) (wf_Top_sign v1 M (L := []) (sb_r _) Fx_r ex)
  exact ⟨x, ex, r, er, e_q, iv, m, qz z jr fx g (cx_f (by decide +kernel) fr) (cr_f (by decide +kernel) fr)⟩
theorem tz_end {n : Int} {M : Mem} (h : IW n M) (v1 : Int32) : ∃ x, f_Top_end v1 M = some x ∧ ∃ r, f_Mod_end v1 x.2 = some r ∧ (x.1 = r.1) ∧ IW (n + 1) r.2 := by
  obtain ⟨x, ex, r, er, e_q, iv⟩ := tw_end h.1 v1
  obtain ⟨m, z⟩ := h.2
  have jr : J r.2 := iv.1.1.1
  have q := some_of (ct_end h.1.1.1.1 v1) ex
  have g : ∀ kx i, 162 ≤ kx → x.2.1 kx i = M.1 kx i := fun kx i w => q.2.1 kx i w
  have fr := wf_Mod_end v1 x.2 (L := []) (sb_r _) Fx_r er
  have fx : Fz M x.2 := cx_f (by decide +kernel) (wf_Top_end v1 M (L := []) (sb_r _) Fx_r ex)
  exact ⟨x, ex, r, er, e_q, iv, m, qz z jr fx g (cx_f (by decide +kernel) fr) (cr_f (by decide +kernel) fr)⟩
theorem tz_town {n : Int} {M : Mem} (h : IW n M)  : ∃ x, f_Top_town  M = some x ∧ ∃ r, f_Mod_town  x.2 = some r ∧ (x.1 = r.1) ∧ IW (n + 1) r.2 := by
  obtain ⟨x, ex, r, er, e_q, iv⟩ := tw_town h.1 
  obtain ⟨m, z⟩ := h.2
  have jr : J r.2 := iv.1.1.1
  have q := some_of (sf_Top_town  M h.1.1.1.1) ex
  have g : ∀ kx i, 162 ≤ kx → x.2.1 kx i = M.1 kx i := fun kx i w => q.2.1 kx i (.inl w)
  have fr := wf_Mod_town  x.2 (L := []) (sb_r _) Fx_r er
  have z1 : ZA M x.2 m := up_c z q.1 g
  have kk : KK x.2 := (RI_ge h.1.1.1 q.1 g).2.1
  have hJ := h.1.1.1.1
  have l : M.1 1 1 = x.2.1 162 10 := by rw [g 162 10 (by decide)]; exact h.1.1.2
  have hb : ∀ p : Nat, (p : Int) < (x.2.1 162 10).toInt → -128 ≤ (x.2.1 167 p).toInt ∧ (x.2.1 167 p).toInt ≤ 127 := fun p hp => by rw [g 167 p (by decide)]; rw [g 162 10 (by decide)] at hp; exact h.1.2.1.2 p hp
  have tx := ct_ra h.1.2.1.1 h.1.1.2 g
  have t := town_2 z1 tx l hb jr ex er
  obtain ⟨t1, m2, t2⟩ := t
  exact ⟨x, ex, r, er, t1, iv, m2, dn_r t2 (cx_f (by decide +kernel) fr)⟩
theorem tz_folk {n : Int} (hn : n ≤ 1000000) {M : Mem} (h : IW n M)  : ∃ x, f_Top_folk  M = some x ∧ ∃ r, f_Mod_folk  x.2 = some r ∧ (True) ∧ IW (n + 1) r.2 := by
  obtain ⟨x, ex, r, er, e_q, iv⟩ := tw_folk hn h.1 
  obtain ⟨m, z⟩ := h.2
  have jr : J r.2 := iv.1.1.1
  have q := some_of (sf_Top_folk  M h.1.1.1.1) ex
  have g : ∀ kx i, 162 ≤ kx → x.2.1 kx i = M.1 kx i := fun kx i w => q.2.1 kx i (.inl w)
  have fr := wf_Mod_folk  x.2 (L := []) (sb_r _) Fx_r er
  have z1 : ZA M x.2 m := up_c z q.1 g
  have kk : KK x.2 := (RI_ge h.1.1.1 q.1 g).2.1
  have big : 0 ≤ (x.2.1 162 48).toInt ∧ (x.2.1 162 48).toInt ≤ 2000000 := by rw [g 162 48 (by decide)]; have := h.1.1.1.2.2; omega
  have hJ := h.1.1.1.1
  have l : M.1 1 1 = x.2.1 162 10 := by rw [g 162 10 (by decide)]; exact h.1.1.2
  have hb : ∀ p : Nat, (p : Int) < (x.2.1 162 10).toInt → -128 ≤ (x.2.1 167 p).toInt ∧ (x.2.1 167 p).toInt ≤ 127 := fun p hp => by rw [g 167 p (by decide)]; rw [g 162 10 (by decide)] at hp; exact h.1.2.1.2 p hp
  have tx := cx_rx h.1.2.1.1 h.1.1.2 g 76
  have t := folk_2 z1 kk big hJ tx l hb jr ex er
  obtain ⟨m2, t2⟩ := t
  exact ⟨x, ex, r, er, trivial, iv, m2, dn_r t2 (cx_f (by decide +kernel) fr)⟩
theorem tz_rule {n : Int} {M : Mem} (h : IW n M)  : ∃ x, f_Top_rule  M = some x ∧ ∃ r, f_Mod_rule  x.2 = some r ∧ (x.1 = r.1) ∧ IW (n + 1) r.2 := by
  obtain ⟨x, ex, r, er, e_q, iv⟩ := tw_rule h.1 
  obtain ⟨m, z⟩ := h.2
  have jr : J r.2 := iv.1.1.1
  have q := some_of (sf_Top_rule  M h.1.1.1.1) ex
  have g : ∀ kx i, 162 ≤ kx → x.2.1 kx i = M.1 kx i := fun kx i w => q.2.1 kx i (.inl w)
  have fr := wf_Mod_rule  x.2 (L := []) (sb_r _) Fx_r er
  have z1 : ZA M x.2 m := up_c z q.1 g
  have kk : KK x.2 := (RI_ge h.1.1.1 q.1 g).2.1
  have hJ := h.1.1.1.1
  have l : M.1 1 1 = x.2.1 162 10 := by rw [g 162 10 (by decide)]; exact h.1.1.2
  have hb : ∀ p : Nat, (p : Int) < (x.2.1 162 10).toInt → -128 ≤ (x.2.1 167 p).toInt ∧ (x.2.1 167 p).toInt ≤ 127 := fun p hp => by rw [g 167 p (by decide)]; rw [g 162 10 (by decide)] at hp; exact h.1.2.1.2 p hp
  have tx := cx_rx h.1.2.1.1 h.1.1.2 g 40
  have t := rule_2 z1 hJ tx l hb jr ex er
  exact ⟨x, ex, r, er, t.1, iv, m, dn_r t.2 (cx_f (by decide +kernel) fr)⟩
theorem tz_route {n : Int} (hn : n ≤ 1000000) {M : Mem} (h : IW n M) (v1 : Int32) : ∃ x, f_Top_route v1 M = some x ∧ ∃ r, f_Mod_route v1 x.2 = some r ∧ (x.1 = r.1) ∧ IW (n + 1) r.2 := by
  obtain ⟨x, ex, r, er, e_q, iv⟩ := tw_route hn h.1 v1
  obtain ⟨m, z⟩ := h.2
  have jr : J r.2 := iv.1.1.1
  have q := some_of (sf_Top_route v1 M h.1.1.1.1) ex
  have g : ∀ kx i, 162 ≤ kx → x.2.1 kx i = M.1 kx i := fun kx i w => q.2.1 kx i (.inl w)
  have fr := wf_Mod_route v1 x.2 (L := []) (sb_r _) Fx_r er
  have z1 : ZA M x.2 m := up_c z q.1 g
  have kk : KK x.2 := (RI_ge h.1.1.1 q.1 g).2.1
  have big : 0 ≤ (x.2.1 162 48).toInt ∧ (x.2.1 162 48).toInt ≤ 2000000 := by rw [g 162 48 (by decide)]; have := h.1.1.1.2.2; omega
  have hJ := h.1.1.1.1
  have l : M.1 1 1 = x.2.1 162 10 := by rw [g 162 10 (by decide)]; exact h.1.1.2
  have hb : ∀ p : Nat, (p : Int) < (x.2.1 162 10).toInt → -128 ≤ (x.2.1 167 p).toInt ∧ (x.2.1 167 p).toInt ≤ 127 := fun p hp => by rw [g 167 p (by decide)]; rw [g 162 10 (by decide)] at hp; exact h.1.2.1.2 p hp
  have tx := cx_rx h.1.2.1.1 h.1.1.2 g 80
  have t := route_2 z1 kk big tx l hb jr ex er
  exact ⟨x, ex, r, er, t.1, iv, m, dn_r t.2 (cx_f (by decide +kernel) fr)⟩
theorem tz_cell {n : Int} {M : Mem} (h : IW n M) (v1 : Int32) (v2 : Int32) : ∃ x, f_Lw_cell v1 v2 M = some x ∧ ∃ r, f_Mod_cell v1 v2 x.2 = some r ∧ (True) ∧ IW (n + 1) r.2 := by
  obtain ⟨x, ex, r, er, e_q, iv⟩ := tw_cell h.1 v1 v2
  obtain ⟨m, z⟩ := h.2
  have jr : J r.2 := iv.1.1.1
  have q := some_of (ct_Lw_cell h.1.1.1.1 v1 v2) ex
  have g : ∀ kx i, 162 ≤ kx → x.2.1 kx i = M.1 kx i := fun kx i w => q.2 kx i (.inl w)
  have fr := wf_Mod_cell v1 v2 x.2 (L := []) (sb_r _) Fx_r er
  have fx : Fz M x.2 := by
    unfold f_Lw_cell at ex
    obtain ⟨y, ey, ex⟩ := bo ex
    obtain rfl := Option.some.inj ex
    exact Fz_hv y Fz_r
  exact ⟨x, ex, r, er, e_q, iv, m, qz z jr fx g (cx_f (by decide +kernel) fr) (cr_f (by decide +kernel) fr)⟩
theorem tz_person {n : Int} {M : Mem} (h : IW n M) (v1 : Int32) (v2 : Int32) : ∃ x, f_Lw_person v1 v2 M = some x ∧ ∃ r, f_Mod_person v1 v2 x.2 = some r ∧ (True) ∧ IW (n + 1) r.2 := by
  obtain ⟨x, ex, r, er, e_q, iv⟩ := tw_person h.1 v1 v2
  obtain ⟨m, z⟩ := h.2
  have jr : J r.2 := iv.1.1.1
  have q := some_of (ct_Lw_person h.1.1.1.1 v1 v2) ex
  have g : ∀ kx i, 162 ≤ kx → x.2.1 kx i = M.1 kx i := fun kx i w => q.2 kx i (.inl w)
  have fr := wf_Mod_person v1 v2 x.2 (L := []) (sb_r _) Fx_r er
  have fx : Fz M x.2 := by
    unfold f_Lw_person at ex
    obtain ⟨y, ey, ex⟩ := bo ex
    obtain rfl := Option.some.inj ex
    exact Fz_hv y.1 (cx_f (by decide +kernel) (wf_Top_person v1 v2 M (L := []) (sb_r _) Fx_r ey))
  exact ⟨x, ex, r, er, e_q, iv, m, qz z jr fx g (cx_f (by decide +kernel) fr) (cr_f (by decide +kernel) fr)⟩
theorem tz_build {n : Int} (hn : n ≤ 1000000) {M : Mem} (h : IW n M) (v1 : Int32) (v2 : Int32) : ∃ x, f_Top_build v1 v2 M = some x ∧ ∃ r, f_Mod_build v1 v2 x.2 = some r ∧ (x.1 = r.1) ∧ IW (n + 1) r.2 := by
  obtain ⟨x, ex, r, er, e_q, iv⟩ := tw_build hn h.1 v1 v2
  obtain ⟨m, z⟩ := h.2
  have jr : J r.2 := iv.1.1.1
  have q := some_of (sf_Top_build v1 v2 M h.1.1.1.1) ex
  have g : ∀ kx i, 162 ≤ kx → x.2.1 kx i = M.1 kx i := fun kx i w => q.2 kx i (.inl w)
  have fr := wf_Mod_build v1 v2 x.2 (L := []) (sb_r _) Fx_r er
  have z1 : ZA M x.2 m := up_c z q.1 g
  have kk : KK x.2 := (RI_ge h.1.1.1 q.1 g).2.1
  have big : 0 ≤ (x.2.1 162 48).toInt ∧ (x.2.1 162 48).toInt ≤ 2000000 := by rw [g 162 48 (by decide)]; have := h.1.1.1.2.2; omega
  have t := build_2 z1 kk big.2 jr ex er
  exact ⟨x, ex, r, er, t.1, iv, m, dn_r t.2 (cx_f (by decide +kernel) fr)⟩
theorem tz_plank {n : Int} {M : Mem} (h : IW n M) (v1 : Int32) (v2 : Int32) : ∃ x, f_Top_plank v1 v2 M = some x ∧ ∃ r, f_Mod_plank v1 v2 x.2 = some r ∧ (x.1 = r.1) ∧ IW (n + 1) r.2 := by
  obtain ⟨x, ex, r, er, e_q, iv⟩ := tw_plank h.1 v1 v2
  obtain ⟨m, z⟩ := h.2
  have jr : J r.2 := iv.1.1.1
  have q := some_of (sf_Top_plank v1 v2 M h.1.1.1.1) ex
  have g : ∀ kx i, 162 ≤ kx → x.2.1 kx i = M.1 kx i := fun kx i w => q.2 kx i (.inl w)
  have fr := wf_Mod_plank v1 v2 x.2 (L := []) (sb_r _) Fx_r er
  have z1 : ZA M x.2 m := up_c z q.1 g
  have kk : KK x.2 := (RI_ge h.1.1.1 q.1 g).2.1
  have t := plank_2 z1 kk jr ex er
  exact ⟨x, ex, r, er, t.1, iv, m, dn_r t.2 (cx_f (by decide +kernel) fr)⟩
theorem tz_take {n : Int} {M : Mem} (h : IW n M)  : ∃ x, f_Top_take  M = some x ∧ ∃ r, f_Mod_take  x.2 = some r ∧ (x.1 = r.1) ∧ IW (n + 1) r.2 := by
  obtain ⟨x, ex, r, er, e_q, iv⟩ := tw_take h.1 
  obtain ⟨m, z⟩ := h.2
  have jr : J r.2 := iv.1.1.1
  have q := some_of (sf_Top_take  M h.1.1.1.1) ex
  have g : ∀ kx i, 162 ≤ kx → x.2.1 kx i = M.1 kx i := fun kx i w => q.2 kx i (.inl w)
  have fr := wf_Mod_take  x.2 (L := []) (sb_r _) Fx_r er
  have z1 : ZA M x.2 m := up_c z q.1 g
  have kk : KK x.2 := (RI_ge h.1.1.1 q.1 g).2.1
  have t := take_2 z1 kk ex er
  exact ⟨x, ex, r, er, t.1, iv, m, dn_r t.2 (cx_f (by decide +kernel) fr)⟩
theorem tz_sheet {n : Int} {M : Mem} (h : IW n M) (v1 : Int32) (v2 : Int32) (v3 : Int32) (v4 : Int32) : ∃ x, f_Top_sheet v1 v2 v3 v4 M = some x ∧ ∃ r, f_Mod_sheet v1 v2 v3 v4 x.2 = some r ∧ (x.1 = r.1) ∧ IW (n + 1) r.2 := by
  obtain ⟨x, ex, r, er, e_q, iv⟩ := tw_sheet h.1 v1 v2 v3 v4
  obtain ⟨m, z⟩ := h.2
  have jr : J r.2 := iv.1.1.1
  have q := some_of (sf_Top_sheet v1 v2 v3 v4 M h.1.1.1.1) ex
  have g : ∀ kx i, 162 ≤ kx → x.2.1 kx i = M.1 kx i := fun kx i w => q.2 kx i (.inl w)
  have fr := wf_Mod_sheet v1 v2 v3 v4 x.2 (L := []) (sb_r _) Fx_r er
  have z1 : ZA M x.2 m := up_c z q.1 g
  have kk : KK x.2 := (RI_ge h.1.1.1 q.1 g).2.1
  have t := sheet_2 z1 jr ex er
  exact ⟨x, ex, r, er, t.1, iv, m, dn_r t.2 (cx_f (by decide +kernel) fr)⟩
theorem tz_tell {n : Int} {M : Mem} (h : IW n M) (v1 : Int32) : ∃ x, f_Top_tell v1 M = some x ∧ ∃ r, f_Mod_tell v1 x.2 = some r ∧ (x.1 = r.1) ∧ IW (n + 1) r.2 := by
  obtain ⟨x, ex, r, er, e_q, iv⟩ := tw_tell h.1 v1
  obtain ⟨m, z⟩ := h.2
  have jr : J r.2 := iv.1.1.1
  have q := some_of (sf_Top_tell v1 M h.1.1.1.1) ex
  have g : ∀ kx i, 162 ≤ kx → x.2.1 kx i = M.1 kx i := fun kx i w => q.2.1 kx i (.inl w)
  have fr := wf_Mod_tell v1 x.2 (L := []) (sb_r _) Fx_r er
  have z1 : ZA M x.2 m := up_c z q.1 g
  have kk : KK x.2 := (RI_ge h.1.1.1 q.1 g).2.1
  have t := tell_2 z1 kk ex er
  exact ⟨x, ex, r, er, t.1, iv, m, dn_r t.2 (cx_f (by decide +kernel) fr)⟩
theorem tz_feast {n : Int} {M : Mem} (h : IW n M) (v1 : Int32) : ∃ x, f_Top_feast v1 M = some x ∧ ∃ r, f_Mod_feast v1 x.2 = some r ∧ (x.1 = r.1) ∧ IW (n + 1) r.2 := by
  obtain ⟨x, ex, r, er, e_q, iv⟩ := tw_feast h.1 v1
  obtain ⟨m, z⟩ := h.2
  have jr : J r.2 := iv.1.1.1
  have q := some_of (sf_Top_feast v1 M h.1.1.1.1) ex
  have g : ∀ kx i, 162 ≤ kx → x.2.1 kx i = M.1 kx i := fun kx i w => q.2 kx i (.inl w)
  have fr := wf_Mod_feast v1 x.2 (L := []) (sb_r _) Fx_r er
  have z1 : ZA M x.2 m := up_c z q.1 g
  have kk : KK x.2 := (RI_ge h.1.1.1 q.1 g).2.1
  have t := feast_2 z1 kk ex er
  exact ⟨x, ex, r, er, t.1, iv, m, dn_r t.2 (cx_f (by decide +kernel) fr)⟩
theorem tz_minute {n : Int} {M : Mem} (h : IW n M)  : ∃ x, f_Top_minute  M = some x ∧ ∃ r, f_Mod_minute  x.2 = some r ∧ (x.1 = r.1) ∧ IW (n + 1) r.2 := by
  obtain ⟨x, ex, r, er, e_q, iv⟩ := tw_minute h.1 
  obtain ⟨m, z⟩ := h.2
  have jr : J r.2 := iv.1.1.1
  have q := some_of (sf_Top_minute  M h.1.1.1.1) ex
  have g : ∀ kx i, 162 ≤ kx → x.2.1 kx i = M.1 kx i := fun kx i w => q.2 kx i (.inl w)
  have fr := wf_Mod_minute  x.2 (L := []) (sb_r _) Fx_r er
  have z1 : ZA M x.2 m := up_c z q.1 g
  have kk : KK x.2 := (RI_ge h.1.1.1 q.1 g).2.1
  have t := minute_2 z1 kk jr ex er
  exact ⟨x, ex, r, er, t.1, iv, m, dn_r t.2 (cx_f (by decide +kernel) fr)⟩
theorem tz_minutes {n : Int} {M : Mem} (h : IW n M) (v1 : Int32) : ∃ x, f_Top_minutes v1 M = some x ∧ ∃ r, f_Mod_minutes v1 x.2 = some r ∧ (x.1 = r.1) ∧ IW (n + 1) r.2 := by
  obtain ⟨x, ex, r, er, e_q, iv⟩ := tw_minutes h.1 v1
  obtain ⟨m, z⟩ := h.2
  have jr : J r.2 := iv.1.1.1
  have q := some_of (sf_Top_minutes v1 M h.1.1.1.1) ex
  have g : ∀ kx i, 162 ≤ kx → x.2.1 kx i = M.1 kx i := fun kx i w => q.2 kx i (.inl w)
  have fr := wf_Mod_minutes v1 x.2 (L := []) (sb_r _) Fx_r er
  have z1 : ZA M x.2 m := up_c z q.1 g
  have kk : KK x.2 := (RI_ge h.1.1.1 q.1 g).2.1
  have t := minutes_2 z1 kk jr ex er
  exact ⟨x, ex, r, er, t.1, iv, m, dn_r t.2 (cx_f (by decide +kernel) fr)⟩
theorem tz_evening {n : Int} {M : Mem} (h : IW n M)  : ∃ x, f_Top_evening  M = some x ∧ ∃ r, f_Mod_evening  x.2 = some r ∧ (x.1 = r.1) ∧ IW (n + 1) r.2 := by
  obtain ⟨x, ex, r, er, e_q, iv⟩ := tw_evening h.1 
  obtain ⟨m, z⟩ := h.2
  have jr : J r.2 := iv.1.1.1
  have q := some_of (sf_Top_evening  M h.1.1.1.1) ex
  have g : ∀ kx i, 162 ≤ kx → x.2.1 kx i = M.1 kx i := fun kx i w => q.2.1 kx i (.inl w)
  have fr := wf_Mod_evening  x.2 (L := []) (sb_r _) Fx_r er
  have z1 : ZA M x.2 m := up_c z q.1 g
  have kk : KK x.2 := (RI_ge h.1.1.1 q.1 g).2.1
  have hJ := h.1.1.1.1
  have l : M.1 1 1 = x.2.1 162 10 := by rw [g 162 10 (by decide)]; exact h.1.1.2
  have hb : ∀ p : Nat, (p : Int) < (x.2.1 162 10).toInt → -128 ≤ (x.2.1 167 p).toInt ∧ (x.2.1 167 p).toInt ≤ 127 := fun p hp => by rw [g 167 p (by decide)]; rw [g 162 10 (by decide)] at hp; exact h.1.2.1.2 p hp
  have tx := cx_rx h.1.2.1.1 h.1.1.2 g 60
  have t := evening_2 z1 kk tx l hJ hb jr ex er
  exact ⟨x, ex, r, er, t.1, iv, m, dn_r t.2 (cx_f (by decide +kernel) fr)⟩
theorem tz_undo {n : Int} {M : Mem} (h : IW n M)  : ∃ x, f_Top_undo  M = some x ∧ ∃ r, f_Mod_undo  x.2 = some r ∧ (x.1 = r.1) ∧ IW (n + 1) r.2 := by
  obtain ⟨x, ex, r, er, e_q, iv⟩ := tw_undo h.1 
  obtain ⟨m, z⟩ := h.2
  have jr : J r.2 := iv.1.1.1
  have q := some_of (sf_Top_undo  M h.1.1.1.1) ex
  have g : ∀ kx i, 162 ≤ kx → x.2.1 kx i = M.1 kx i := fun kx i w => q.2.1 kx i (.inl w)
  have fr := wf_Mod_undo  x.2 (L := []) (sb_r _) Fx_r er
  have z1 : ZA M x.2 m := up_c z q.1 g
  have kk : KK x.2 := (RI_ge h.1.1.1 q.1 g).2.1
  have t := undo_2 z1 jr ex er
  exact ⟨x, ex, r, er, t.1, iv, m, dn_r t.2 (cx_f (by decide +kernel) fr)⟩
theorem tz_met {n : Int} {M : Mem} (h : IW n M) (v1 : Int32) (v2 : Int32) : ∃ x, f_Top_met v1 v2 M = some x ∧ ∃ r, f_Mod_met v1 v2 M = some r ∧ (True) ∧ IW (n + 1) r.2 := by
  obtain ⟨x, ex, r, er, e_q, iv⟩ := tw_met h.1 v1 v2
  obtain ⟨m, z⟩ := h.2
  have jr : J r.2 := iv.1.1.1
  have fr := wf_Mod_met v1 v2 M (L := []) (sb_r _) Fx_r er
  exact ⟨x, ex, r, er, e_q, iv, m, qz z jr Fz_r (fun _ _ _ => rfl) (cx_f (by decide +kernel) fr) (cr_f (by decide +kernel) fr)⟩
theorem tz_ahead {n : Int} {M : Mem} (h : IW n M) (v1 : Int32) : ∃ x, f_Top_ahead v1 M = some x ∧ ∃ r, f_Mod_ahead v1 x.2 = some r ∧ (True) ∧ IW (n + 1) r.2 := by
  obtain ⟨x, ex, r, er, e_q, iv⟩ := tw_ahead h.1 v1
  obtain ⟨m, z⟩ := h.2
  have jr : J r.2 := iv.1.1.1
  have q := some_of (sf_Top_ahead v1 M h.1.1.1.1) ex
  have g : ∀ kx i, 162 ≤ kx → x.2.1 kx i = M.1 kx i := fun kx i w => q.2 kx i (.inl w)
  have fr := wf_Mod_ahead v1 x.2 (L := []) (sb_r _) Fx_r er
  have fx : Fz M x.2 := cx_f (by decide +kernel) (wf_Top_ahead v1 M (L := []) (sb_r _) Fx_r ex)
  exact ⟨x, ex, r, er, e_q, iv, m, qz z jr fx g (cx_f (by decide +kernel) fr) (cr_f (by decide +kernel) fr)⟩
theorem tz_meet {n : Int} {M : Mem} (h : IW n M) (v1 : Int32) (v2 : Int32) : ∃ x, f_Top_meet v1 v2 M = some x ∧ ∃ r, f_Mod_meet v1 v2 x.2 = some r ∧ (True) ∧ IW (n + 1) r.2 := by
  obtain ⟨x, ex, r, er, e_q, iv⟩ := tw_meet h.1 v1 v2
  obtain ⟨m, z⟩ := h.2
  have jr : J r.2 := iv.1.1.1
  have q := some_of (sf_Top_meet v1 v2 M h.1.1.1.1) ex
  have g : ∀ kx i, 162 ≤ kx → x.2.1 kx i = M.1 kx i := fun kx i w => q.2.1 kx i (.inl w)
  have fr := wf_Mod_meet v1 v2 x.2 (L := []) (sb_r _) Fx_r er
  have fx : Fz M x.2 := cx_f (by decide +kernel) (wf_Top_meet v1 v2 M (L := []) (sb_r _) Fx_r ex)
  exact ⟨x, ex, r, er, e_q, iv, m, qz z jr fx g (cx_f (by decide +kernel) fr) (cr_f (by decide +kernel) fr)⟩
theorem tz_known {n : Int} {M : Mem} (h : IW n M)  : ∃ x, f_Top_known  M = some x ∧ ∃ r, f_Mod_known  x.2 = some r ∧ (True) ∧ IW (n + 1) r.2 := by
  obtain ⟨x, ex, r, er, e_q, iv⟩ := tw_known h.1 
  obtain ⟨m, z⟩ := h.2
  have jr : J r.2 := iv.1.1.1
  have q := some_of (sf_Top_known  M h.1.1.1.1) ex
  have g : ∀ kx i, 162 ≤ kx → x.2.1 kx i = M.1 kx i := fun kx i w => q.2 kx i (.inl w)
  have fr := wf_Mod_known  x.2 (L := []) (sb_r _) Fx_r er
  have fx : Fz M x.2 := cx_f (by decide +kernel) (wf_Top_known  M (L := []) (sb_r _) Fx_r ex)
  exact ⟨x, ex, r, er, e_q, iv, m, qz z jr fx g (cx_f (by decide +kernel) fr) (cr_f (by decide +kernel) fr)⟩
theorem tz_gossip {n : Int} {M : Mem} (h : IW n M) (v1 : Int32) : ∃ x, f_Top_gossip v1 M = some x ∧ ∃ r, f_Mod_gossip v1 x.2 = some r ∧ (True) ∧ IW (n + 1) r.2 := by
  obtain ⟨x, ex, r, er, e_q, iv⟩ := tw_gossip h.1 v1
  obtain ⟨m, z⟩ := h.2
  have jr : J r.2 := iv.1.1.1
  have q := some_of (sf_Top_gossip v1 M h.1.1.1.1) ex
  have g : ∀ kx i, 162 ≤ kx → x.2.1 kx i = M.1 kx i := fun kx i w => q.2.1 kx i (.inl w)
  have fr := wf_Mod_gossip v1 x.2 (L := []) (sb_r _) Fx_r er
  have fx : Fz M x.2 := cx_f (by decide +kernel) (wf_Top_gossip v1 M (L := []) (sb_r _) Fx_r ex)
  exact ⟨x, ex, r, er, e_q, iv, m, qz z jr fx g (cx_f (by decide +kernel) fr) (cr_f (by decide +kernel) fr)⟩
theorem tz_pieces {n : Int} {M : Mem} (h : IW n M) (v1 : Int32) : ∃ x, f_Top_pieces v1 M = some x ∧ ∃ r, f_Mod_pieces v1 x.2 = some r ∧ (True) ∧ IW (n + 1) r.2 := by
  obtain ⟨x, ex, r, er, e_q, iv⟩ := tw_pieces h.1 v1
  obtain ⟨m, z⟩ := h.2
  have jr : J r.2 := iv.1.1.1
  have q := some_of (sf_Top_pieces v1 M h.1.1.1.1) ex
  have g : ∀ kx i, 162 ≤ kx → x.2.1 kx i = M.1 kx i := fun kx i w => q.2 kx i (.inl w)
  have fr := wf_Mod_pieces v1 x.2 (L := []) (sb_r _) Fx_r er
  have fx : Fz M x.2 := cx_f (by decide +kernel) (wf_Top_pieces v1 M (L := []) (sb_r _) Fx_r ex)
  exact ⟨x, ex, r, er, e_q, iv, m, qz z jr fx g (cx_f (by decide +kernel) fr) (cr_f (by decide +kernel) fr)⟩
theorem tz_reach {n : Int} {M : Mem} (h : IW n M) (v1 : Int32) (v2 : Int32) : ∃ x, f_Top_reach v1 v2 M = some x ∧ ∃ r, f_Mod_reach v1 v2 x.2 = some r ∧ (True) ∧ IW (n + 1) r.2 := by
  obtain ⟨x, ex, r, er, e_q, iv⟩ := tw_reach h.1 v1 v2
  obtain ⟨m, z⟩ := h.2
  have jr : J r.2 := iv.1.1.1
  have q := some_of (sf_Top_reach v1 v2 M h.1.1.1.1) ex
  have g : ∀ kx i, 162 ≤ kx → x.2.1 kx i = M.1 kx i := fun kx i w => q.2.1 kx i (.inl w)
  have fr := wf_Mod_reach v1 v2 x.2 (L := []) (sb_r _) Fx_r er
  have fx : Fz M x.2 := cx_f (by decide +kernel) (wf_Top_reach v1 v2 M (L := []) (sb_r _) Fx_r ex)
  exact ⟨x, ex, r, er, e_q, iv, m, qz z jr fx g (cx_f (by decide +kernel) fr) (cr_f (by decide +kernel) fr)⟩
theorem tz_path {n : Int} {M : Mem} (h : IW n M) (v1 : Int32) (v2 : Int32) (v3 : Int32) : ∃ x, f_Top_path v1 v2 v3 M = some x ∧ ∃ r, f_Mod_path v1 v2 v3 x.2 = some r ∧ (True) ∧ IW (n + 1) r.2 := by
  obtain ⟨x, ex, r, er, e_q, iv⟩ := tw_path h.1 v1 v2 v3
  obtain ⟨m, z⟩ := h.2
  have jr : J r.2 := iv.1.1.1
  have q := some_of (sf_Top_path v1 v2 v3 M h.1.1.1.1) ex
  have g : ∀ kx i, 162 ≤ kx → x.2.1 kx i = M.1 kx i := fun kx i w => q.2.1 kx i (.inl w)
  have fr := wf_Mod_path v1 v2 v3 x.2 (L := []) (sb_r _) Fx_r er
  have fx : Fz M x.2 := cx_f (by decide +kernel) (wf_Top_path v1 v2 v3 M (L := []) (sb_r _) Fx_r ex)
  exact ⟨x, ex, r, er, e_q, iv, m, qz z jr fx g (cx_f (by decide +kernel) fr) (cr_f (by decide +kernel) fr)⟩
theorem tz_both {n : Int} {M : Mem} (h : IW n M) (v1 : Int32) (v2 : Int32) (v3 : Int32) (v4 : Int32) : ∃ x, f_Top_both v1 v2 v3 v4 M = some x ∧ ∃ r, f_Mod_both v1 v2 v3 v4 x.2 = some r ∧ (True) ∧ IW (n + 1) r.2 := by
  obtain ⟨x, ex, r, er, e_q, iv⟩ := tw_both h.1 v1 v2 v3 v4
  obtain ⟨m, z⟩ := h.2
  have jr : J r.2 := iv.1.1.1
  have q := some_of (sf_Top_both v1 v2 v3 v4 M h.1.1.1.1) ex
  have g : ∀ kx i, 162 ≤ kx → x.2.1 kx i = M.1 kx i := fun kx i w => q.2 kx i (.inl w)
  have fr := wf_Mod_both v1 v2 v3 v4 x.2 (L := []) (sb_r _) Fx_r er
  have fx : Fz M x.2 := cx_f (by decide +kernel) (wf_Top_both v1 v2 v3 v4 M (L := []) (sb_r _) Fx_r ex)
  exact ⟨x, ex, r, er, e_q, iv, m, qz z jr fx g (cx_f (by decide +kernel) fr) (cr_f (by decide +kernel) fr)⟩
theorem tz_errand {n : Int} {M : Mem} (h : IW n M) (v1 : Int32) (v2 : Int32) : ∃ x, f_Top_errand v1 v2 M = some x ∧ ∃ r, f_Mod_errand v1 v2 x.2 = some r ∧ (True) ∧ IW (n + 1) r.2 := by
  obtain ⟨x, ex, r, er, e_q, iv⟩ := tw_errand h.1 v1 v2
  obtain ⟨m, z⟩ := h.2
  have jr : J r.2 := iv.1.1.1
  have q := some_of (sf_Top_errand v1 v2 M h.1.1.1.1) ex
  have g : ∀ kx i, 162 ≤ kx → x.2.1 kx i = M.1 kx i := fun kx i w => q.2.1 kx i (.inl w)
  have fr := wf_Mod_errand v1 v2 x.2 (L := []) (sb_r _) Fx_r er
  have fx : Fz M x.2 := cx_f (by decide +kernel) (wf_Top_errand v1 v2 M (L := []) (sb_r _) Fx_r ex)
  exact ⟨x, ex, r, er, e_q, iv, m, qz z jr fx g (cx_f (by decide +kernel) fr) (cr_f (by decide +kernel) fr)⟩
theorem tz_tryst {n : Int} {M : Mem} (h : IW n M) (v1 : Int32) (v2 : Int32) : ∃ x, f_Top_tryst v1 v2 M = some x ∧ ∃ r, f_Mod_tryst v1 v2 x.2 = some r ∧ (True) ∧ IW (n + 1) r.2 := by
  obtain ⟨x, ex, r, er, e_q, iv⟩ := tw_tryst h.1 v1 v2
  obtain ⟨m, z⟩ := h.2
  have jr : J r.2 := iv.1.1.1
  have q := some_of (sf_Top_tryst v1 v2 M h.1.1.1.1) ex
  have g : ∀ kx i, 162 ≤ kx → x.2.1 kx i = M.1 kx i := fun kx i w => q.2.1 kx i (.inl w)
  have fr := wf_Mod_tryst v1 v2 x.2 (L := []) (sb_r _) Fx_r er
  have fx : Fz M x.2 := cx_f (by decide +kernel) (wf_Top_tryst v1 v2 M (L := []) (sb_r _) Fx_r ex)
  exact ⟨x, ex, r, er, e_q, iv, m, qz z jr fx g (cx_f (by decide +kernel) fr) (cr_f (by decide +kernel) fr)⟩
theorem tz_open {n : Int} {M : Mem} (h : IW n M) (v1 : Int32) (v2 : Int32) : ∃ x, f_Top_open v1 v2 M = some x ∧ ∃ r, f_Mod_open v1 v2 x.2 = some r ∧ (True) ∧ IW (n + 1) r.2 := by
  obtain ⟨x, ex, r, er, e_q, iv⟩ := tw_open h.1 v1 v2
  obtain ⟨m, z⟩ := h.2
  have jr : J r.2 := iv.1.1.1
  have q := some_of (sf_Top_open v1 v2 M h.1.1.1.1) ex
  have g : ∀ kx i, 162 ≤ kx → x.2.1 kx i = M.1 kx i := fun kx i w => q.2.1 kx i (.inl w)
  have fr := wf_Mod_open v1 v2 x.2 (L := []) (sb_r _) Fx_r er
  have fx : Fz M x.2 := cx_f (by decide +kernel) (wf_Top_open v1 v2 M (L := []) (sb_r _) Fx_r ex)
  have qr := some_of (sf_Mod_open v1 v2 x.2 q.1) er
  exact ⟨x, ex, r, er, e_q, iv, m, qz z jr fx g (cx_f (by decide +kernel) fr) (cr_gd qr.2)⟩
theorem tz_part {n : Int} {M : Mem} (h : IW n M) (v1 : Int32) (v2 : Int32) : ∃ x, f_Top_part v1 v2 M = some x ∧ ∃ r, f_Mod_part v1 v2 x.2 = some r ∧ (True) ∧ IW (n + 1) r.2 := by
  obtain ⟨x, ex, r, er, e_q, iv⟩ := tw_part h.1 v1 v2
  obtain ⟨m, z⟩ := h.2
  have jr : J r.2 := iv.1.1.1
  have q := some_of (sf_Top_part v1 v2 M h.1.1.1.1) ex
  have g : ∀ kx i, 162 ≤ kx → x.2.1 kx i = M.1 kx i := fun kx i w => q.2.1 kx i (.inl w)
  have fr := wf_Mod_part v1 v2 x.2 (L := []) (sb_r _) Fx_r er
  have fx : Fz M x.2 := cx_f (by decide +kernel) (wf_Top_part v1 v2 M (L := []) (sb_r _) Fx_r ex)
  have qr := some_of (sf_Mod_part v1 v2 x.2 q.1) er
  exact ⟨x, ex, r, er, e_q, iv, m, qz z jr fx g (cx_f (by decide +kernel) fr) (cr_gd qr.2.1)⟩
theorem tz_planks {n : Int} {M : Mem} (h : IW n M) (v1 : Int32) (v2 : Int32) : ∃ x, f_Top_planks v1 v2 M = some x ∧ ∃ r, f_Mod_planks v1 v2 x.2 = some r ∧ (True) ∧ IW (n + 1) r.2 := by
  obtain ⟨x, ex, r, er, e_q, iv⟩ := tw_planks h.1 v1 v2
  obtain ⟨m, z⟩ := h.2
  have jr : J r.2 := iv.1.1.1
  have q := some_of (sf_Top_planks v1 v2 M h.1.1.1.1) ex
  have g : ∀ kx i, 162 ≤ kx → x.2.1 kx i = M.1 kx i := fun kx i w => q.2 kx i (.inl w)
  have fr := wf_Mod_planks v1 v2 x.2 (L := []) (sb_r _) Fx_r er
  have fx : Fz M x.2 := cx_f (by decide +kernel) (wf_Top_planks v1 v2 M (L := []) (sb_r _) Fx_r ex)
  exact ⟨x, ex, r, er, e_q, iv, m, qz z jr fx g (cx_f (by decide +kernel) fr) (cr_f (by decide +kernel) fr)⟩
theorem tz_fire {n : Int} {M : Mem} (h : IW n M) (v1 : Int32) : ∃ x, f_Top_fire v1 M = some x ∧ ∃ r, f_Mod_fire v1 x.2 = some r ∧ (x.1 = r.1) ∧ IW (n + 1) r.2 := by
  obtain ⟨x, ex, r, er, e_q, iv⟩ := tw_fire h.1 v1
  obtain ⟨m, z⟩ := h.2
  have jr : J r.2 := iv.1.1.1
  have q := some_of (sf_Top_fire v1 M h.1.1.1.1) ex
  have g : ∀ kx i, 162 ≤ kx → x.2.1 kx i = M.1 kx i := fun kx i w => q.2 kx i (.inl w)
  have fr := wf_Mod_fire v1 x.2 (L := []) (sb_r _) Fx_r er
  have fx : Fz M x.2 := cx_f (by decide +kernel) (wf_Top_fire v1 M (L := []) (sb_r _) Fx_r ex)
  exact ⟨x, ex, r, er, e_q, iv, m, qz z jr fx g (cx_f (by decide +kernel) fr) (cr_f (by decide +kernel) fr)⟩
theorem tz_fights {n : Int} {M : Mem} (h : IW n M) (v1 : Int32) : ∃ x, f_Top_fights v1 M = some x ∧ ∃ r, f_Mod_fights v1 x.2 = some r ∧ (True) ∧ IW (n + 1) r.2 := by
  obtain ⟨x, ex, r, er, e_q, iv⟩ := tw_fights h.1 v1
  obtain ⟨m, z⟩ := h.2
  have jr : J r.2 := iv.1.1.1
  have q := some_of (sf_Top_fights v1 M h.1.1.1.1) ex
  have g : ∀ kx i, 162 ≤ kx → x.2.1 kx i = M.1 kx i := fun kx i w => q.2 kx i (.inl w)
  have fr := wf_Mod_fights v1 x.2 (L := []) (sb_r _) Fx_r er
  have fx : Fz M x.2 := cx_f (by decide +kernel) (wf_Top_fights v1 M (L := []) (sb_r _) Fx_r ex)
  exact ⟨x, ex, r, er, e_q, iv, m, qz z jr fx g (cx_f (by decide +kernel) fr) (cr_f (by decide +kernel) fr)⟩
theorem tz_saved {n : Int} {M : Mem} (h : IW n M)  : ∃ x, f_Top_saved  M = some x ∧ ∃ r, f_Mod_saved  x.2 = some r ∧ (True) ∧ IW (n + 1) r.2 := by
  obtain ⟨x, ex, r, er, e_q, iv⟩ := tw_saved h.1 
  obtain ⟨m, z⟩ := h.2
  have jr : J r.2 := iv.1.1.1
  have q := some_of (sf_Top_saved  M h.1.1.1.1) ex
  have g : ∀ kx i, 162 ≤ kx → x.2.1 kx i = M.1 kx i := fun kx i w => q.2.1 kx i (.inl w)
  have fr := wf_Mod_saved  x.2 (L := []) (sb_r _) Fx_r er
  have fx : Fz M x.2 := cx_f (by decide +kernel) (wf_Top_saved  M (L := []) (sb_r _) Fx_r ex)
  exact ⟨x, ex, r, er, e_q, iv, m, qz z jr fx g (cx_f (by decide +kernel) fr) (cr_f (by decide +kernel) fr)⟩
theorem tz_wardrobe {n : Int} {M : Mem} (h : IW n M) (v1 : Int32) (v2 : Int32) : ∃ x, f_Top_wardrobe v1 v2 M = some x ∧ ∃ r, f_Mod_wardrobe v1 v2 x.2 = some r ∧ (True) ∧ IW (n + 1) r.2 := by
  obtain ⟨x, ex, r, er, e_q, iv⟩ := tw_wardrobe h.1 v1 v2
  obtain ⟨m, z⟩ := h.2
  have jr : J r.2 := iv.1.1.1
  have q := some_of (sf_Top_wardrobe v1 v2 M h.1.1.1.1) ex
  have g : ∀ kx i, 162 ≤ kx → x.2.1 kx i = M.1 kx i := fun kx i w => q.2.1 kx i (.inl w)
  have fr := wf_Mod_wardrobe v1 v2 x.2 (L := []) (sb_r _) Fx_r er
  have fx : Fz M x.2 := cx_f (by decide +kernel) (wf_Top_wardrobe v1 v2 M (L := []) (sb_r _) Fx_r ex)
  exact ⟨x, ex, r, er, e_q, iv, m, qz z jr fx g (cx_f (by decide +kernel) fr) (cr_f (by decide +kernel) fr)⟩
theorem tz_flees {n : Int} {M : Mem} (h : IW n M) (v1 : Int32) (v2 : Int32) (v3 : Int32) : ∃ x, f_Top_flees v1 v2 v3 M = some x ∧ ∃ r, f_Mod_flees v1 v2 v3 x.2 = some r ∧ (True) ∧ IW (n + 1) r.2 := by
  obtain ⟨x, ex, r, er, e_q, iv⟩ := tw_flees h.1 v1 v2 v3
  obtain ⟨m, z⟩ := h.2
  have jr : J r.2 := iv.1.1.1
  have q := some_of (sf_Top_flees v1 v2 v3 M h.1.1.1.1) ex
  have g : ∀ kx i, 162 ≤ kx → x.2.1 kx i = M.1 kx i := fun kx i w => q.2.1 kx i (.inl w)
  have fr := wf_Mod_flees v1 v2 v3 x.2 (L := []) (sb_r _) Fx_r er
  have fx : Fz M x.2 := cx_f (by decide +kernel) (wf_Top_flees v1 v2 v3 M (L := []) (sb_r _) Fx_r ex)
  exact ⟨x, ex, r, er, e_q, iv, m, qz z jr fx g (cx_f (by decide +kernel) fr) (cr_f (by decide +kernel) fr)⟩
theorem tz_lairs {n : Int} {M : Mem} (h : IW n M) (v1 : Int32) : ∃ x, f_Top_lairs v1 M = some x ∧ ∃ r, f_Mod_lairs v1 x.2 = some r ∧ (True) ∧ IW (n + 1) r.2 := by
  obtain ⟨x, ex, r, er, e_q, iv⟩ := tw_lairs h.1 v1
  obtain ⟨m, z⟩ := h.2
  have jr : J r.2 := iv.1.1.1
  have q := some_of (sf_Top_lairs v1 M h.1.1.1.1) ex
  have g : ∀ kx i, 162 ≤ kx → x.2.1 kx i = M.1 kx i := fun kx i w => q.2.1 kx i (.inl w)
  have fr := wf_Mod_lairs v1 x.2 (L := []) (sb_r _) Fx_r er
  have fx : Fz M x.2 := cx_f (by decide +kernel) (wf_Top_lairs v1 M (L := []) (sb_r _) Fx_r ex)
  exact ⟨x, ex, r, er, e_q, iv, m, qz z jr fx g (cx_f (by decide +kernel) fr) (cr_f (by decide +kernel) fr)⟩
theorem tz_caught {n : Int} {M : Mem} (h : IW n M) (v1 : Int32) (v2 : Int32) : ∃ x, f_Top_caught v1 v2 M = some x ∧ ∃ r, f_Mod_caught v1 v2 x.2 = some r ∧ (True) ∧ IW (n + 1) r.2 := by
  obtain ⟨x, ex, r, er, e_q, iv⟩ := tw_caught h.1 v1 v2
  obtain ⟨m, z⟩ := h.2
  have jr : J r.2 := iv.1.1.1
  have q := some_of (sf_Top_caught v1 v2 M h.1.1.1.1) ex
  have g : ∀ kx i, 162 ≤ kx → x.2.1 kx i = M.1 kx i := fun kx i w => q.2.1 kx i (.inl w)
  have fr := wf_Mod_caught v1 v2 x.2 (L := []) (sb_r _) Fx_r er
  have fx : Fz M x.2 := cx_f (by decide +kernel) (wf_Top_caught v1 v2 M (L := []) (sb_r _) Fx_r ex)
  exact ⟨x, ex, r, er, e_q, iv, m, qz z jr fx g (cx_f (by decide +kernel) fr) (cr_f (by decide +kernel) fr)⟩
theorem tz_watch {n : Int} {M : Mem} (h : IW n M) (v1 : Int32) (v2 : Int32) (v3 : Int32) (v4 : Int32) : ∃ x, f_Top_watch v1 v2 v3 v4 M = some x ∧ ∃ r, f_Mod_watch v1 v2 v3 v4 x.2 = some r ∧ (True) ∧ IW (n + 1) r.2 := by
  obtain ⟨x, ex, r, er, e_q, iv⟩ := tw_watch h.1 v1 v2 v3 v4
  obtain ⟨m, z⟩ := h.2
  have jr : J r.2 := iv.1.1.1
  have q := some_of (sf_Top_watch v1 v2 v3 v4 M h.1.1.1.1) ex
  have g : ∀ kx i, 162 ≤ kx → x.2.1 kx i = M.1 kx i := fun kx i w => q.2.1 kx i (.inl w)
  have fr := wf_Mod_watch v1 v2 v3 v4 x.2 (L := []) (sb_r _) Fx_r er
  have fx : Fz M x.2 := cx_f (by decide +kernel) (wf_Top_watch v1 v2 v3 v4 M (L := []) (sb_r _) Fx_r ex)
  exact ⟨x, ex, r, er, e_q, iv, m, qz z jr fx g (cx_f (by decide +kernel) fr) (cr_f (by decide +kernel) fr)⟩
theorem tz_keep {n : Int} {M : Mem} (h : IW n M) (v1 : Int32) : ∃ x, f_Top_keep v1 M = some x ∧ ∃ r, f_Mod_keep v1 x.2 = some r ∧ (x.1 = r.1) ∧ IW (n + 1) r.2 := by
  obtain ⟨x, ex, r, er, e_q, iv⟩ := tw_keep h.1 v1
  obtain ⟨m, z⟩ := h.2
  have jr : J r.2 := iv.1.1.1
  have q := some_of (sf_Top_keep v1 M h.1.1.1.1) ex
  have g : ∀ kx i, 162 ≤ kx → x.2.1 kx i = M.1 kx i := fun kx i w => q.2.1 kx i (.inl w)
  have fr := wf_Mod_keep v1 x.2 (L := []) (sb_r _) Fx_r er
  have z1 : ZA M x.2 m := up_c z q.1 g
  exact ⟨x, ex, r, er, e_q, iv, m, dn_r (keep_2 z1 jr ex er) (cx_f (by decide +kernel) fr)⟩
theorem tz_again {n : Int} {M : Mem} (h : IW n M) (v1 : Int32) : ∃ x, f_Top_again v1 M = some x ∧ ∃ r, f_Mod_again v1 x.2 = some r ∧ (x.1 = r.1) ∧ IW (n + 1) r.2 := by
  obtain ⟨x, ex, r, er, e_q, iv⟩ := tw_again h.1 v1
  obtain ⟨m, z⟩ := h.2
  have jr : J r.2 := iv.1.1.1
  have q := some_of (sf_Top_again v1 M h.1.1.1.1) ex
  have g : ∀ kx i, 162 ≤ kx → x.2.1 kx i = M.1 kx i := fun kx i w => q.2.1 kx i (.inl w)
  have fr := wf_Mod_again v1 x.2 (L := []) (sb_r _) Fx_r er
  have z1 : ZA M x.2 m := up_c z q.1 g
  have kk : KK x.2 := (RI_ge h.1.1.1 q.1 g).2.1
  have t := again_2 z1 jr ex er
  exact ⟨x, ex, r, er, t.1, iv, m, dn_r t.2 (cx_f (by decide +kernel) fr)⟩
theorem tz_count {n : Int} {M : Mem} (h : IW n M) (v1 : Int32) : ∃ x, f_Top_count v1 M = some x ∧ ∃ r, f_Mod_count v1 M = some r ∧ (True) ∧ IW (n + 1) r.2 := by
  obtain ⟨x, ex, r, er, e_q, iv⟩ := tw_count h.1 v1
  obtain ⟨m, z⟩ := h.2
  have jr : J r.2 := iv.1.1.1
  have fr := wf_Mod_count v1 M (L := []) (sb_r _) Fx_r er
  exact ⟨x, ex, r, er, e_q, iv, m, qz z jr Fz_r (fun _ _ _ => rfl) (cx_f (by decide +kernel) fr) (cr_f (by decide +kernel) fr)⟩
theorem tz_row {n : Int} {M : Mem} (h : IW n M) (v1 : Int32) : ∃ x, f_Lw_row v1 M = some x ∧ ∃ r, f_Mod_row v1 x.2 = some r ∧ (True) ∧ IW (n + 1) r.2 := by
  obtain ⟨x, ex, r, er, e_q, iv⟩ := tw_row h.1 v1
  obtain ⟨m, z⟩ := h.2
  have jr : J r.2 := iv.1.1.1
  have q := some_of (ct_Lw_row h.1.1.1.1 v1) ex
  have g : ∀ kx i, 162 ≤ kx → x.2.1 kx i = M.1 kx i := fun kx i w => q.2 kx i (.inl w)
  have fr := wf_Mod_row v1 x.2 (L := []) (sb_r _) Fx_r er
  have fx : Fz M x.2 := by
    unfold f_Lw_row at ex
    obtain ⟨y, ey, ex⟩ := bo ex
    obtain rfl := Option.some.inj ex
    exact Fz_hv y Fz_r
  exact ⟨x, ex, r, er, e_q, iv, m, qz z jr fx g (cx_f (by decide +kernel) fr) (cr_f (by decide +kernel) fr)⟩
