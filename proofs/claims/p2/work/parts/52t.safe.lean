/-! safety of the class, 20 -/
theorem sl_Top_caught_36  (a0_ : Int32) (N_ : Mem) (hN : J N_) (i1_ : (1 : Int) ≤ a0_.toInt) (i2_ : a0_.toInt ≤ (31 : Int)) : ∃ x, iter (lb_Top_caught_36) FU (a0_, N_) = some x ∧ (SQ (fun r : Mem => J r) (fun r : Int32 × Mem => J r.2 ∧ (1 : Int) ≤ r.1.toInt ∧ r.1.toInt ≤ (30 : Int))) x := by
  refine iter_r (fun s : Int32 × Mem => J s.2 ∧ (1 : Int) ≤ s.1.toInt ∧ s.1.toInt ≤ (31 : Int)) (fun s : Int32 × Mem => (31 - s.1.toInt).toNat) (SQ (fun r : Mem => J r) (fun r : Int32 × Mem => J r.2 ∧ (1 : Int) ≤ r.1.toInt ∧ r.1.toInt ≤ (30 : Int))) ?_ FU (a0_, N_) ⟨hN, i1_, i2_⟩ (by show (31 - a0_.toInt).toNat < FU; rw [FU_v]; omega)
  clear i2_ i1_ hN
  rintro ⟨a0_', N_'⟩ ⟨hN, i1_, i2_⟩
  dsimp only at hN i1_ i2_
  unfold lb_Top_caught_36
  dsimp only
  refine if_i (fun c => ?_) (fun c => ?_)
  · have c1 := c
    have d2 : (30 : Int) < a0_'.toInt := lti.mp c1
    exact ⟨_, rfl, hN⟩
  · have c3 := c
    have d4 : a0_'.toInt ≤ (30 : Int) := nlti.mp c3
    refine bind_i (sf_Top_hunt N_' hN) (fun x4 _ q => ?_)
    have h5 := q
    refine bind_i (sf_Thief_gone x4 h5) (fun x5 _ q => ?_)
    obtain ⟨h6, h7⟩ := q
    refine if_i (fun c => ?_) (fun c => ?_)
    · have c8 := c
      have d9 : x5.toInt = (0 : Int) := eqi.mp c8
      have q10 : (a0_' + (1 : Int32)).toInt = a0_'.toInt + (1 : Int) := add_ti rfl rfl (by omega) (by omega)
      exact ⟨_, rfl, ⟨h5, (show (1 : Int) ≤ (a0_' + (1 : Int32)).toInt by omega), (show (a0_' + (1 : Int32)).toInt ≤ (31 : Int) by omega)⟩, show (31 - (a0_' + (1 : Int32)).toInt).toNat < (31 - a0_'.toInt).toNat by omega⟩
    · have c11 := c
      have d12 : ¬ x5.toInt = (0 : Int) := neqi.mp c11
      exact ⟨_, rfl, h5, (show (1 : Int) ≤ a0_'.toInt by omega), (show a0_'.toInt ≤ (30 : Int) by omega)⟩
theorem sf_Top_caught (v1 : Int32) (v2 : Int32) (M : Mem) (hJ : J M) : ∃ r : Int32 × Mem, f_Top_caught v1 v2 M = some r ∧ (J r.2 ∧ (-2 : Int) ≤ r.1.toInt ∧ r.1.toInt ≤ (30 : Int)) := by
  unfold f_Top_caught
  refine bind_i (sf_Ground_holds v2 v1 M hJ) (fun x1 _ q => ?_)
  obtain ⟨h1, h2, h3, h4⟩ := q
  refine if_i (fun c => ?_) (fun c => ?_)
  · have c5 := c
    have d6 : x1.toInt = (0 : Int) := eqi.mp c5
    exact ⟨((-1 : Int32), M), rfl, hJ, (show (-2 : Int) ≤ (-1 : Int32).toInt by decide), (show (-1 : Int32).toInt ≤ (30 : Int) by decide)⟩
  · have c7 := c
    have d8 : ¬ x1.toInt = (0 : Int) := neqi.mp c7
    refine bind_i (sf_Scene_copy 25 11 M kd_25 kd_11 hJ) (fun x2 _ q => ?_)
    obtain ⟨h9, h10⟩ := q
    refine bind_i (sf_Thief_start v2 v1 x2 h9) (fun x3 _ q => ?_)
    have h11 := q
    refine bind_i (sl_Top_caught_36  (1 : Int32) x3 h11 (show (1 : Int) ≤ (1 : Int32).toInt by decide) (show (1 : Int32).toInt ≤ (31 : Int) by decide)) (fun x12 _ q => ?_)
    rcases x12 with y | y
    · have q9 : J y := q
      dsimp only [Sum.elim_inl, Sum.elim_inr]
      have h14 := q9
      exact ⟨((-2 : Int32), y), rfl, h14, (show (-2 : Int) ≤ (-2 : Int32).toInt by decide), (show (-2 : Int32).toInt ≤ (30 : Int) by decide)⟩
    · have q9 : J y.2 ∧ (1 : Int) ≤ y.1.toInt ∧ y.1.toInt ≤ (30 : Int) := q
      dsimp only [Sum.elim_inl, Sum.elim_inr]
      obtain ⟨h16, h17, h18⟩ := q9
      exact ⟨(y.1, y.2), rfl, h16, (show (-2 : Int) ≤ y.1.toInt by omega), (show y.1.toInt ≤ (30 : Int) by omega)⟩
theorem sf_Top_slipsBy (v1 : Int32) (v2 : Int32) (v3 : Int32) (v4 : Int32) (v5 : Int32) (M : Mem) (hJ : J M) : ∃ r : Int32 × Mem, f_Top_slipsBy v1 v2 v3 v4 v5 M = some r ∧ (J r.2 ∧ (0 : Int) ≤ r.1.toInt ∧ r.1.toInt ≤ (1 : Int)) := by
  unfold f_Top_slipsBy
  refine bind_i (sf_Thief_start v2 v3 M hJ) (fun x1 _ q => ?_)
  have h1 := q
  refine bind_i (sf_Scene_guarded 11 (0 : Int32) v1 x1 kd_11 h1) (fun x2 _ q => ?_)
  refine bind_i (sf_Scene_guarded 11 (1 : Int32) v1 x1 kd_11 h1) (fun x3 _ q => ?_)
  refine bind_i (sf_Thief_record (0 : Int32) x2 x3 x1 h1) (fun x4 _ q => ?_)
  have h2 := q
  refine bind_i (sf_Thief_roam 32 x4 kd_32 h2) (fun x5 _ q => ?_)
  have h3 := q
  refine bind_i (sf_Thief_isIn v4 v5 x5 h3) (fun x6 _ q => ?_)
  obtain ⟨h4, h5⟩ := q
  refine c_i (bool_of (by omega) (by omega)) ?_
  exact ⟨(x6, x5), rfl, h3, (show (0 : Int) ≤ x6.toInt by omega), (show x6.toInt ≤ (1 : Int) by omega)⟩
theorem sl_Top_watch_45 (v1 : Int32) (v2 : Int32) (v3 : Int32) (v4 : Int32) (v5 : Int32) (a0_ : Int32) (N_ : Mem) (hp_v1 : (0 : Int) ≤ v1.toInt ∧ v1.toInt ≤ (35 : Int)) (hp_v2 : (0 : Int) ≤ v2.toInt ∧ v2.toInt ≤ (1 : Int)) (hp_v3 : (0 : Int) ≤ v3.toInt ∧ v3.toInt ≤ (35 : Int)) (hp_v4 : (0 : Int) ≤ v4.toInt ∧ v4.toInt ≤ (1 : Int)) (hp_v5 : (0 : Int) ≤ v5.toInt ∧ v5.toInt ≤ (8 : Int)) (hN : J N_) (i1_ : (0 : Int) ≤ a0_.toInt) (i2_ : a0_.toInt ≤ (256 : Int)) : ∃ x, iter (lb_Top_watch_45 v1 v2 v3 v4 v5) FU (a0_, N_) = some x ∧ (SQ (fun r : Mem => J r) (fun r : Int32 × Mem => J r.2 ∧ (0 : Int) ≤ r.1.toInt ∧ r.1.toInt ≤ (255 : Int))) x := by
  refine iter_r (fun s : Int32 × Mem => J s.2 ∧ (0 : Int) ≤ s.1.toInt ∧ s.1.toInt ≤ (256 : Int)) (fun s : Int32 × Mem => (256 - s.1.toInt).toNat) (SQ (fun r : Mem => J r) (fun r : Int32 × Mem => J r.2 ∧ (0 : Int) ≤ r.1.toInt ∧ r.1.toInt ≤ (255 : Int))) ?_ FU (a0_, N_) ⟨hN, i1_, i2_⟩ (by show (256 - a0_.toInt).toNat < FU; rw [FU_v]; omega)
  clear i2_ i1_ hN
  rintro ⟨a0_', N_'⟩ ⟨hN, i1_, i2_⟩
  dsimp only at hN i1_ i2_
  unfold lb_Top_watch_45
  dsimp only
  refine if_i (fun c => ?_) (fun c => ?_)
  · have c1 := c
    have r2 := Jr_6_4 hN
    have q3 := shl8 (s := (N_'.1 6 4)) (by omega) (by omega)
    have d4 : ((1 : Int32) <<< ((N_'.1 6 4) &&& 31)).toInt ≤ a0_'.toInt := lei.mp c1
    exact ⟨_, rfl, hN⟩
  · have c5 := c
    have r6 := Jr_6_4 hN
    have q7 := shl8 (s := (N_'.1 6 4)) (by omega) (by omega)
    have d8 : a0_'.toInt < ((1 : Int32) <<< ((N_'.1 6 4) &&& 31)).toInt := nlei.mp c5
    refine bind_i (sf_JInteger_bitCount a0_') (fun x3 _ q => ?_)
    obtain ⟨h9, h10⟩ := q
    refine if_i (fun c => ?_) (fun c => ?_)
    · have c11 := c
      have d12 : x3.toInt = v5.toInt := eqi.mp c11
      refine bind_i (sf_Top_slipsBy a0_' v2 v1 v4 v3 N_' hN) (fun x4 _ q => ?_)
      obtain ⟨h13, h14, h15⟩ := q
      refine if_i (fun c => ?_) (fun c => ?_)
      · have c16 := c
        have d17 : x4.1.toInt = (0 : Int) := eqi.mp c16
        exact ⟨_, rfl, h13, (show (0 : Int) ≤ a0_'.toInt by omega), (show a0_'.toInt ≤ (255 : Int) by omega)⟩
      · have c18 := c
        have d19 : ¬ x4.1.toInt = (0 : Int) := neqi.mp c18
        have q20 : (a0_' + (1 : Int32)).toInt = a0_'.toInt + (1 : Int) := add_ti rfl rfl (by omega) (by omega)
        exact ⟨_, rfl, ⟨h13, (show (0 : Int) ≤ (a0_' + (1 : Int32)).toInt by omega), (show (a0_' + (1 : Int32)).toInt ≤ (256 : Int) by omega)⟩, show (256 - (a0_' + (1 : Int32)).toInt).toNat < (256 - a0_'.toInt).toNat by omega⟩
    · have c21 := c
      have d22 : ¬ x3.toInt = v5.toInt := neqi.mp c21
      have q23 : (a0_' + (1 : Int32)).toInt = a0_'.toInt + (1 : Int) := add_ti rfl rfl (by omega) (by omega)
      exact ⟨_, rfl, ⟨hN, (show (0 : Int) ≤ (a0_' + (1 : Int32)).toInt by omega), (show (a0_' + (1 : Int32)).toInt ≤ (256 : Int) by omega)⟩, show (256 - (a0_' + (1 : Int32)).toInt).toNat < (256 - a0_'.toInt).toNat by omega⟩
theorem sl_Top_watch_30 (v1 : Int32) (v2 : Int32) (v3 : Int32) (v4 : Int32) (a0_ : Int32) (N_ : Mem) (hp_v1 : (0 : Int) ≤ v1.toInt ∧ v1.toInt ≤ (35 : Int)) (hp_v2 : (0 : Int) ≤ v2.toInt ∧ v2.toInt ≤ (1 : Int)) (hp_v3 : (0 : Int) ≤ v3.toInt ∧ v3.toInt ≤ (35 : Int)) (hp_v4 : (0 : Int) ≤ v4.toInt ∧ v4.toInt ≤ (1 : Int)) (hN : J N_) (i1_ : (0 : Int) ≤ a0_.toInt) (i2_ : a0_.toInt ≤ (9 : Int)) : ∃ x, iter (lb_Top_watch_30 v1 v2 v3 v4) FU (a0_, N_) = some x ∧ (SQ (fun r : Mem => J r) (fun r : Int32 × Int32 × Mem => J r.2.2 ∧ (0 : Int) ≤ r.1.toInt ∧ r.1.toInt ≤ (8 : Int) ∧ (0 : Int) ≤ r.2.1.toInt ∧ r.2.1.toInt ≤ (255 : Int))) x := by
  refine iter_r (fun s : Int32 × Mem => J s.2 ∧ (0 : Int) ≤ s.1.toInt ∧ s.1.toInt ≤ (9 : Int)) (fun s : Int32 × Mem => (9 - s.1.toInt).toNat) (SQ (fun r : Mem => J r) (fun r : Int32 × Int32 × Mem => J r.2.2 ∧ (0 : Int) ≤ r.1.toInt ∧ r.1.toInt ≤ (8 : Int) ∧ (0 : Int) ≤ r.2.1.toInt ∧ r.2.1.toInt ≤ (255 : Int))) ?_ FU (a0_, N_) ⟨hN, i1_, i2_⟩ (by show (9 - a0_.toInt).toNat < FU; rw [FU_v]; omega)
  clear i2_ i1_ hN
  rintro ⟨a0_', N_'⟩ ⟨hN, i1_, i2_⟩
  dsimp only at hN i1_ i2_
  unfold lb_Top_watch_30
  dsimp only
  refine if_i (fun c => ?_) (fun c => ?_)
  · have c1 := c
    have r2 := Jr_6_4 hN
    have d3 : (N_'.1 6 4).toInt < a0_'.toInt := lti.mp c1
    exact ⟨_, rfl, hN⟩
  · have c4 := c
    have r5 := Jr_6_4 hN
    have d6 : a0_'.toInt ≤ (N_'.1 6 4).toInt := nlti.mp c4
    refine bind_i (sl_Top_watch_45 v1 v2 v3 v4 a0_' (0 : Int32) N_' (⟨show (0 : Int) ≤ v1.toInt by omega, show v1.toInt ≤ (35 : Int) by omega⟩) (⟨show (0 : Int) ≤ v2.toInt by omega, show v2.toInt ≤ (1 : Int) by omega⟩) (⟨show (0 : Int) ≤ v3.toInt by omega, show v3.toInt ≤ (35 : Int) by omega⟩) (⟨show (0 : Int) ≤ v4.toInt by omega, show v4.toInt ≤ (1 : Int) by omega⟩) (⟨show (0 : Int) ≤ a0_'.toInt by omega, show a0_'.toInt ≤ (8 : Int) by omega⟩) hN (show (0 : Int) ≤ (0 : Int32).toInt by decide) (show (0 : Int32).toInt ≤ (256 : Int) by decide)) (fun x7 _ q => ?_)
    rcases x7 with y | y
    · have q9 : J y := q
      dsimp only [Sum.elim_inl, Sum.elim_inr]
      have h9 := q9
      have q10 : (a0_' + (1 : Int32)).toInt = a0_'.toInt + (1 : Int) := add_ti rfl rfl (by omega) (by omega)
      exact ⟨_, rfl, ⟨h9, (show (0 : Int) ≤ (a0_' + (1 : Int32)).toInt by omega), (show (a0_' + (1 : Int32)).toInt ≤ (9 : Int) by omega)⟩, show (9 - (a0_' + (1 : Int32)).toInt).toNat < (9 - a0_'.toInt).toNat by omega⟩
    · have q9 : J y.2 ∧ (0 : Int) ≤ y.1.toInt ∧ y.1.toInt ≤ (255 : Int) := q
      dsimp only [Sum.elim_inl, Sum.elim_inr]
      obtain ⟨h12, h13, h14⟩ := q9
      exact ⟨_, rfl, h12, (show (0 : Int) ≤ a0_'.toInt by omega), (show a0_'.toInt ≤ (8 : Int) by omega), (show (0 : Int) ≤ y.1.toInt by omega), (show y.1.toInt ≤ (255 : Int) by omega)⟩
theorem sf_Top_watch (v1 : Int32) (v2 : Int32) (v3 : Int32) (v4 : Int32) (M : Mem) (hJ : J M) : ∃ r : Int32 × Mem, f_Top_watch v1 v2 v3 v4 M = some r ∧ (J r.2 ∧ (-2 : Int) ≤ r.1.toInt ∧ r.1.toInt ≤ (8 : Int)) := by
  unfold f_Top_watch
  refine bind_i (sf_Ground_holds v2 v1 M hJ) (fun x1 _ q => ?_)
  obtain ⟨h1, h2, h3, h4⟩ := q
  refine if_i (fun c => ?_) (fun c => ?_)
  · have c5 := c
    have d6 : x1.toInt = (0 : Int) := eqi.mp c5
    exact ⟨((-1 : Int32), M), rfl, hJ, (show (-2 : Int) ≤ (-1 : Int32).toInt by decide), (show (-1 : Int32).toInt ≤ (8 : Int) by decide)⟩
  · have c7 := c
    have d8 : ¬ x1.toInt = (0 : Int) := neqi.mp c7
    refine bind_i (sf_Ground_holds v4 v3 M hJ) (fun x2 _ q => ?_)
    obtain ⟨h9, h10, h11, h12⟩ := q
    refine if_i (fun c => ?_) (fun c => ?_)
    · have c13 := c
      have d14 : x2.toInt = (0 : Int) := eqi.mp c13
      exact ⟨((-1 : Int32), M), rfl, hJ, (show (-2 : Int) ≤ (-1 : Int32).toInt by decide), (show (-1 : Int32).toInt ≤ (8 : Int) by decide)⟩
    · have c15 := c
      have d16 : ¬ x2.toInt = (0 : Int) := neqi.mp c15
      refine bind_i (sl_Top_watch_30 v1 v2 v3 v4 (0 : Int32) M (⟨show (0 : Int) ≤ v1.toInt by omega, show v1.toInt ≤ (35 : Int) by omega⟩) (⟨show (0 : Int) ≤ v2.toInt by omega, show v2.toInt ≤ (1 : Int) by omega⟩) (⟨show (0 : Int) ≤ v3.toInt by omega, show v3.toInt ≤ (35 : Int) by omega⟩) (⟨show (0 : Int) ≤ v4.toInt by omega, show v4.toInt ≤ (1 : Int) by omega⟩) hJ (show (0 : Int) ≤ (0 : Int32).toInt by decide) (show (0 : Int32).toInt ≤ (9 : Int) by decide)) (fun x17 _ q => ?_)
      rcases x17 with y | y
      · have q9 : J y := q
        dsimp only [Sum.elim_inl, Sum.elim_inr]
        have h19 := q9
        exact ⟨((-2 : Int32), y), rfl, h19, (show (-2 : Int) ≤ (-2 : Int32).toInt by decide), (show (-2 : Int32).toInt ≤ (8 : Int) by decide)⟩
      · have q9 : J y.2.2 ∧ (0 : Int) ≤ y.1.toInt ∧ y.1.toInt ≤ (8 : Int) ∧ (0 : Int) ≤ y.2.1.toInt ∧ y.2.1.toInt ≤ (255 : Int) := q
        dsimp only [Sum.elim_inl, Sum.elim_inr]
        obtain ⟨h21, h22, h23, h24, h25⟩ := q9
        refine bind_i (sf_Top_emptyRow y.2.2 h21) (fun x15 _ q => ?_)
        have h26 := q
        refine bind_i (sf_Top_note y.2.1 x15 h26) (fun x16 _ q => ?_)
        have h27 := q
        exact ⟨(y.1, x16), rfl, h27, (show (-2 : Int) ≤ y.1.toInt by omega), (show y.1.toInt ≤ (8 : Int) by omega)⟩
theorem sf_Top_keep (v1 : Int32) (M : Mem) (hJ : J M) : ∃ r : Int32 × Mem, f_Top_keep v1 M = some r ∧ (J r.2 ∧ (0 : Int) ≤ r.1.toInt ∧ r.1.toInt ≤ (1 : Int)) := by
  unfold f_Top_keep
  refine bind_i (sf_History_store v1 11 M kd_11 hJ) (fun x1 _ q => ?_)
  obtain ⟨h1, h2, h3⟩ := q
  refine c_i (bool_of (by omega) (by omega)) ?_
  exact ⟨(x1.1, x1.2), rfl, h1, (show (0 : Int) ≤ x1.1.toInt by omega), (show x1.1.toInt ≤ (1 : Int) by omega)⟩
theorem sf_Top_again (v1 : Int32) (M : Mem) (hJ : J M) : ∃ r : Int32 × Mem, f_Top_again v1 M = some r ∧ (J r.2 ∧ (0 : Int) ≤ r.1.toInt ∧ r.1.toInt ≤ (1 : Int)) := by
  unfold f_Top_again
  refine bind_i (sf_History_restore v1 11 M kd_11 hJ) (fun x1 _ q => ?_)
  obtain ⟨h1, h2, h3⟩ := q
  refine if_i (fun c => ?_) (fun c => ?_)
  · have c4 := c
    have d5 : x1.1.toInt = (0 : Int) := eqi.mp c4
    exact ⟨((0 : Int32), x1.2), rfl, h1, (show (0 : Int) ≤ (0 : Int32).toInt by decide), (show (0 : Int32).toInt ≤ (1 : Int) by decide)⟩
  · have c6 := c
    have d7 : ¬ x1.1.toInt = (0 : Int) := neqi.mp c6
    refine bind_i (sf_History_forget x1.2 h1) (fun x2 _ q => ?_)
    have h8 := q
    refine bind_i (sf_Nets_lay 32 11 (-1 : Int32) x2 kd_32 kd_11 h8) (fun x3 _ q => ?_)
    have h9 := q
    exact ⟨((1 : Int32), x3), rfl, h9, (show (0 : Int) ≤ (1 : Int32).toInt by decide), (show (1 : Int32).toInt ≤ (1 : Int) by decide)⟩
theorem sf_Top_count (v1 : Int32) (M : Mem) (hJ : J M) : ∃ r : Int32, f_Top_count v1 M = some r ∧ (True) := by
  unfold f_Top_count
  refine if_i (fun c => ?_) (fun c => ?_)
  · have c1 := c
    have d2 : v1.toInt = (0 : Int) := eqi.mp c1
    exact ⟨(M.1 3 3), rfl, trivial⟩
  · have c3 := c
    have d4 : ¬ v1.toInt = (0 : Int) := neqi.mp c3
    refine if_i (fun c => ?_) (fun c => ?_)
    · have c5 := c
      have d6 : v1.toInt = (1 : Int) := eqi.mp c5
      exact ⟨(M.1 3 2), rfl, trivial⟩
    · have c7 := c
      have d8 : ¬ v1.toInt = (1 : Int) := neqi.mp c7
      refine if_i (fun c => ?_) (fun c => ?_)
      · have c9 := c
        have d10 : v1.toInt = (2 : Int) := eqi.mp c9
        exact ⟨(M.1 6 4), rfl, trivial⟩
      · have c11 := c
        have d12 : ¬ v1.toInt = (2 : Int) := neqi.mp c11
        refine if_i (fun c => ?_) (fun c => ?_)
        · have c13 := c
          have d14 : v1.toInt = (3 : Int) := eqi.mp c13
          exact ⟨(M.1 11 7), rfl, trivial⟩
        · have c15 := c
          have d16 : ¬ v1.toInt = (3 : Int) := neqi.mp c15
          refine if_i (fun c => ?_) (fun c => ?_)
          · have c17 := c
            have d18 : v1.toInt = (4 : Int) := eqi.mp c17
            exact ⟨(M.1 11 6), rfl, trivial⟩
          · have c19 := c
            have d20 : ¬ v1.toInt = (4 : Int) := neqi.mp c19
            refine if_i (fun c => ?_) (fun c => ?_)
            · have c21 := c
              have d22 : v1.toInt = (5 : Int) := eqi.mp c21
              exact ⟨(M.1 6 5), rfl, trivial⟩
            · have c23 := c
              have d24 : ¬ v1.toInt = (5 : Int) := neqi.mp c23
              refine if_i (fun c => ?_) (fun c => ?_)
              · have c25 := c
                have d26 : v1.toInt = (6 : Int) := eqi.mp c25
                exact ⟨(M.1 11 8), rfl, trivial⟩
              · have c27 := c
                have d28 : ¬ v1.toInt = (6 : Int) := neqi.mp c27
                refine if_i (fun c => ?_) (fun c => ?_)
                · have c29 := c
                  have d30 : v1.toInt = (7 : Int) := eqi.mp c29
                  exact ⟨(M.1 11 9), rfl, trivial⟩
                · have c31 := c
                  have d32 : ¬ v1.toInt = (7 : Int) := neqi.mp c31
                  refine if_i (fun c => ?_) (fun c => ?_)
                  · have c33 := c
                    have d34 : v1.toInt = (8 : Int) := eqi.mp c33
                    refine bind_i (sf_Scene_allMeetings 11 M kd_11 hJ) (fun x9 _ q => ?_)
                    exact ⟨x9, rfl, trivial⟩
                  · have c35 := c
                    have d36 : ¬ v1.toInt = (8 : Int) := neqi.mp c35
                    refine if_i (fun c => ?_) (fun c => ?_)
                    · have c37 := c
                      have d38 : v1.toInt = (9 : Int) := eqi.mp c37
                      exact ⟨(M.1 0 16), rfl, trivial⟩
                    · have c39 := c
                      have d40 : ¬ v1.toInt = (9 : Int) := neqi.mp c39
                      refine if_i (fun c => ?_) (fun c => ?_)
                      · have c41 := c
                        have d42 : v1.toInt = (10 : Int) := eqi.mp c41
                        exact ⟨(M.1 46 2), rfl, trivial⟩
                      · have c43 := c
                        have d44 : ¬ v1.toInt = (10 : Int) := neqi.mp c43
                        refine if_i (fun c => ?_) (fun c => ?_)
                        · have c45 := c
                          have d46 : v1.toInt = (11 : Int) := eqi.mp c45
                          exact ⟨(M.1 0 15), rfl, trivial⟩
                        · have c47 := c
                          have d48 : ¬ v1.toInt = (11 : Int) := neqi.mp c47
                          refine if_i (fun c => ?_) (fun c => ?_)
                          · have c49 := c
                            have d50 : v1.toInt = (12 : Int) := eqi.mp c49
                            exact ⟨(M.1 1 1), rfl, trivial⟩
                          · have c51 := c
                            have d52 : ¬ v1.toInt = (12 : Int) := neqi.mp c51
                            exact ⟨(-100 : Int32), rfl, trivial⟩
theorem sf_Top_cell (v1 : Int32) (v2 : Int32) (M : Mem) (hJ : J M) : ∃ r : Option (Int32), f_Top_cell v1 v2 M = some r ∧ (True) := by
  unfold f_Top_cell
  refine bind_i (sf_Ground_has v1 M hJ) (fun x1 _ q => ?_)
  obtain ⟨h1, h2, h3⟩ := q
  refine if_i (fun c => ?_) (fun c => ?_)
  · have c4 := c
    have d5 : x1.toInt = (0 : Int) := eqi.mp c4
    exact ⟨_, rfl, trivial⟩
  · have c6 := c
    have d7 : ¬ x1.toInt = (0 : Int) := neqi.mp c6
    refine if_i (fun c => ?_) (fun c => ?_)
    · have c8 := c
      have d9 : v2.toInt = (0 : Int) := eqi.mp c8
      refine inb_i (by omega) (by omega) ?_
      exact ⟨_, rfl, trivial⟩
    · have c10 := c
      have d11 : ¬ v2.toInt = (0 : Int) := neqi.mp c10
      refine if_i (fun c => ?_) (fun c => ?_)
      · have c12 := c
        have d13 : v2.toInt = (1 : Int) := eqi.mp c12
        have r14 := Jr_6_4 hJ
        refine bind_i (sf_Scene_standing 11 (0 : Int32) v1 (M.1 6 4) M kd_11 (⟨show (0 : Int) ≤ (M.1 6 4).toInt by omega, show (M.1 6 4).toInt ≤ (8 : Int) by omega⟩) hJ) (fun x3 _ q => ?_)
        exact ⟨_, rfl, trivial⟩
      · have c15 := c
        have d16 : ¬ v2.toInt = (1 : Int) := neqi.mp c15
        refine if_i (fun c => ?_) (fun c => ?_)
        · have c17 := c
          have d18 : v2.toInt = (2 : Int) := eqi.mp c17
          have r19 := Jr_6_4 hJ
          refine bind_i (sf_Scene_standing 11 (1 : Int32) v1 (M.1 6 4) M kd_11 (⟨show (0 : Int) ≤ (M.1 6 4).toInt by omega, show (M.1 6 4).toInt ≤ (8 : Int) by omega⟩) hJ) (fun x5 _ q => ?_)
          exact ⟨_, rfl, trivial⟩
        · have c20 := c
          have d21 : ¬ v2.toInt = (2 : Int) := neqi.mp c20
          refine if_i (fun c => ?_) (fun c => ?_)
          · have c22 := c
            have d23 : v2.toInt = (3 : Int) := eqi.mp c22
            refine bind_i (sf_Scene_planksAt 11 v1 M kd_11 hJ) (fun x7 _ q => ?_)
            exact ⟨_, rfl, trivial⟩
          · have c24 := c
            have d25 : ¬ v2.toInt = (3 : Int) := neqi.mp c24
            refine if_i (fun c => ?_) (fun c => ?_)
            · have c26 := c
              have d27 : v2.toInt = (4 : Int) := eqi.mp c26
              refine inb_i (by omega) (by omega) ?_
              refine bind_i (sf_JLong_bitCount (M.2.1 34 v1.toNatClampNeg)) (fun x9 _ q => ?_)
              obtain ⟨h28, h29⟩ := q
              exact ⟨_, rfl, trivial⟩
            · have c30 := c
              have d31 : ¬ v2.toInt = (4 : Int) := neqi.mp c30
              refine if_i (fun c => ?_) (fun c => ?_)
              · have c32 := c
                have d33 : v2.toInt = (5 : Int) := eqi.mp c32
                have q34 : ((36 : Int32) + v1).toInt = (36 : Int) + v1.toInt := add_ti rfl rfl (by omega) (by omega)
                refine inb_i (by omega) (by omega) ?_
                refine bind_i (sf_JLong_bitCount (M.2.1 34 ((36 : Int32) + v1).toNatClampNeg)) (fun x11 _ q => ?_)
                obtain ⟨h35, h36⟩ := q
                exact ⟨_, rfl, trivial⟩
              · have c37 := c
                have d38 : ¬ v2.toInt = (5 : Int) := neqi.mp c37
                exact ⟨_, rfl, trivial⟩
theorem sf_Top_person (v1 : Int32) (v2 : Int32) (M : Mem) (hJ : J M) : ∃ r : (Option (Int32)) × Mem, f_Top_person v1 v2 M = some r ∧ (J r.2) := by
  unfold f_Top_person
  refine bind_i (sf_Crowd_has v1 M hJ) (fun x1 _ q => ?_)
  obtain ⟨h1, h2, h3⟩ := q
  refine if_i (fun c => ?_) (fun c => ?_)
  · have c4 := c
    have d5 : x1.toInt = (0 : Int) := eqi.mp c4
    exact ⟨(none, M), rfl, hJ⟩
  · have c6 := c
    have d7 : ¬ x1.toInt = (0 : Int) := neqi.mp c6
    refine if_i (fun c => ?_) (fun c => ?_)
    · have c8 := c
      have d9 : v2.toInt = (0 : Int) := eqi.mp c8
      refine bind_i (sf_Crowd_woman v1 M hJ) (fun x2 _ q => ?_)
      obtain ⟨h10, h11⟩ := q
      refine if_i (fun c => ?_) (fun c => ?_)
      · have c12 := c
        have d13 : x2.toInt = (0 : Int) := eqi.mp c12
        exact ⟨((some (0 : Int32)), M), rfl, hJ⟩
      · have c14 := c
        have d15 : ¬ x2.toInt = (0 : Int) := neqi.mp c14
        exact ⟨((some (1 : Int32)), M), rfl, hJ⟩
    · have c16 := c
      have d17 : ¬ v2.toInt = (0 : Int) := neqi.mp c16
      refine if_i (fun c => ?_) (fun c => ?_)
      · have c18 := c
        have d19 : v2.toInt = (1 : Int) := eqi.mp c18
        refine inb_i (by omega) (by omega) ?_
        exact ⟨((some (M.1 12 v1.toNatClampNeg)), M), rfl, hJ⟩
      · have c20 := c
        have d21 : ¬ v2.toInt = (1 : Int) := neqi.mp c20
        refine if_i (fun c => ?_) (fun c => ?_)
        · have c22 := c
          have d23 : v2.toInt = (2 : Int) := eqi.mp c22
          refine inb_i (by omega) (by omega) ?_
          exact ⟨((some (M.1 13 v1.toNatClampNeg)), M), rfl, hJ⟩
        · have c24 := c
          have d25 : ¬ v2.toInt = (2 : Int) := neqi.mp c24
          refine if_i (fun c => ?_) (fun c => ?_)
          · have c26 := c
            have d27 : v2.toInt = (3 : Int) := eqi.mp c26
            refine inb_i (by omega) (by omega) ?_
            exact ⟨((some (M.1 14 v1.toNatClampNeg)), M), rfl, hJ⟩
          · have c28 := c
            have d29 : ¬ v2.toInt = (3 : Int) := neqi.mp c28
            refine if_i (fun c => ?_) (fun c => ?_)
            · have c30 := c
              have d31 : v2.toInt = (4 : Int) := eqi.mp c30
              refine inb_i (by omega) (by omega) ?_
              exact ⟨((some (M.1 8 v1.toNatClampNeg)), M), rfl, hJ⟩
            · have c32 := c
              have d33 : ¬ v2.toInt = (4 : Int) := neqi.mp c32
              refine if_i (fun c => ?_) (fun c => ?_)
              · have c34 := c
                have d35 : v2.toInt = (5 : Int) := eqi.mp c34
                exact ⟨((some (((M.1 11 8) >>> (v1 &&& 31)) &&& (1 : Int32))), M), rfl, hJ⟩
              · have c36 := c
                have d37 : ¬ v2.toInt = (5 : Int) := neqi.mp c36
                refine if_i (fun c => ?_) (fun c => ?_)
                · have c38 := c
                  have d39 : v2.toInt = (6 : Int) := eqi.mp c38
                  refine bind_i (sf_Scene_meetingsOf 11 v1 M kd_11 (⟨show (0 : Int) ≤ v1.toInt by omega, show v1.toInt ≤ (7 : Int) by omega⟩) hJ) (fun x10 _ q => ?_)
                  exact ⟨((some x10), M), rfl, hJ⟩
                · have c40 := c
                  have d41 : ¬ v2.toInt = (6 : Int) := neqi.mp c40
                  refine if_i (fun c => ?_) (fun c => ?_)
                  · have c42 := c
                    have d43 : v2.toInt = (7 : Int) := eqi.mp c42
                    refine bind_i (sf_Law_goes v1 11 M (⟨show (0 : Int) ≤ v1.toInt by omega, show v1.toInt ≤ (7 : Int) by omega⟩) kd_11 hJ) (fun x12 _ q => ?_)
                    obtain ⟨h44, h45, h46⟩ := q
                    refine if_i (fun c => ?_) (fun c => ?_)
                    · have c47 := c
                      have d48 : x12.1.toInt = (0 : Int) := eqi.mp c47
                      exact ⟨((some (0 : Int32)), x12.2), rfl, h44⟩
                    · have c49 := c
                      have d50 : ¬ x12.1.toInt = (0 : Int) := neqi.mp c49
                      exact ⟨((some (1 : Int32)), x12.2), rfl, h44⟩
                  · have c51 := c
                    have d52 : ¬ v2.toInt = (7 : Int) := neqi.mp c51
                    exact ⟨(none, M), rfl, hJ⟩
theorem sf_Top_row (v1 : Int32) (M : Mem) (hJ : J M) : ∃ r : Option (Int32), f_Top_row v1 M = some r ∧ (True) := by
  unfold f_Top_row
  refine if_i (fun c => ?_) (fun c => ?_)
  · have c1 := c
    have d2 : v1.toInt < (0 : Int) := lti.mp c1
    exact ⟨_, rfl, trivial⟩
  · have c3 := c
    have d4 : (0 : Int) ≤ v1.toInt := nlti.mp c3
    refine if_i (fun c => ?_) (fun c => ?_)
    · have c5 := c
      have d6 : (M.1 0 15).toInt ≤ v1.toInt := lei.mp c5
      exact ⟨_, rfl, trivial⟩
    · have c7 := c
      have d8 : v1.toInt < (M.1 0 15).toInt := nlei.mp c7
      refine if_i (fun c => ?_) (fun c => ?_)
      · have c9 := c
        have d10 : v1.toInt < (10 : Int) := lti.mp c9
        refine inb_i (by omega) (by omega) ?_
        exact ⟨_, rfl, trivial⟩
      · have c11 := c
        have d12 : (10 : Int) ≤ v1.toInt := nlti.mp c11
        exact ⟨_, rfl, trivial⟩
