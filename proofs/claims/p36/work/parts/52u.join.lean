section
/-! safety of the class, 21 -/
theorem sl_Top_flees_48 (v3 : Int32) (a0_ : Int32) (N_ : Mem) (B_ : Mem) (hp_v3 : (1 : Int) ≤ v3.toInt ∧ v3.toInt ≤ (30 : Int)) (hN : J N_) (hG : Gc 0 B_ N_) (i2_ : (0 : Int) ≤ a0_.toInt) (i3_ : a0_.toInt ≤ (30 : Int)) : ∃ x, iter (lb_Top_flees_48 v3) FU (a0_, N_) = some x ∧ (fun r : Mem => J r ∧ Gc 0 B_ r) x := by
  refine iter_r (fun s : Int32 × Mem => J s.2 ∧ Gc 0 B_ s.2 ∧ (0 : Int) ≤ s.1.toInt ∧ s.1.toInt ≤ (30 : Int)) (fun s : Int32 × Mem => (30 - s.1.toInt).toNat) (fun r : Mem => J r ∧ Gc 0 B_ r) ?_ FU (a0_, N_) ⟨hN, hG, i2_, i3_⟩ (by show (30 - a0_.toInt).toNat < FU; rw [FU_v]; omega)
  clear i3_ i2_ hG hN
  rintro ⟨a0_', N_'⟩ ⟨hN, hG, i2_, i3_⟩
  dsimp only at hN hG i2_ i3_
  unfold lb_Top_flees_48
  dsimp only
  refine if_i (fun c => ?_) (fun c => ?_)
  · have c1 := c
    have d2 : v3.toInt ≤ a0_'.toInt := lei.mp c1
    exact ⟨_, rfl, hN, hG⟩
  · have c3 := c
    have d4 : a0_'.toInt < v3.toInt := nlei.mp c3
    refine bind_i (sf_Top_hunt N_' hN) (fun x4 _ q => ?_)
    obtain ⟨h5, h6⟩ := q
    have hG7 : Gc 0 B_ x4 := Gc_t hG h6
    have q8 : (a0_' + (1 : Int32)).toInt = a0_'.toInt + (1 : Int) := add_ti rfl rfl (by omega) (by omega)
    exact ⟨_, rfl, ⟨h5, hG7, (show (0 : Int) ≤ (a0_' + (1 : Int32)).toInt by omega), (show (a0_' + (1 : Int32)).toInt ≤ (30 : Int) by omega)⟩, show (30 - (a0_' + (1 : Int32)).toInt).toNat < (30 - a0_'.toInt).toNat by omega⟩
theorem sf_Top_flees (v1 : Int32) (v2 : Int32) (v3 : Int32) (M : Mem) (hJ : J M) : ∃ r : Int32 × Mem, f_Top_flees v1 v2 v3 M = some r ∧ (J r.2 ∧ Gc 0 M r.2 ∧ (-1 : Int) ≤ r.1.toInt ∧ r.1.toInt ≤ (1 : Int)) := by
  unfold f_Top_flees
  refine bind_i (sf_Ground_holds v2 v1 M hJ) (fun x1 _ q => ?_)
  obtain ⟨h1, h2, h3, h4⟩ := q
  refine if_i (fun c => ?_) (fun c => ?_)
  · have c5 := c
    have d6 : x1.toInt = (0 : Int) := eqi.mp c5
    exact ⟨((-1 : Int32), M), rfl, hJ, Gc_r, (show (-1 : Int) ≤ (-1 : Int32).toInt by decide), (show (-1 : Int32).toInt ≤ (1 : Int) by decide)⟩
  · have c7 := c
    have d8 : ¬ x1.toInt = (0 : Int) := neqi.mp c7
    refine if_i (fun c => ?_) (fun c => ?_)
    · have c9 := c
      have d10 : v3.toInt < (1 : Int) := lti.mp c9
      exact ⟨((-1 : Int32), M), rfl, hJ, Gc_r, (show (-1 : Int) ≤ (-1 : Int32).toInt by decide), (show (-1 : Int32).toInt ≤ (1 : Int) by decide)⟩
    · have c11 := c
      have d12 : (1 : Int) ≤ v3.toInt := nlti.mp c11
      refine if_i (fun c => ?_) (fun c => ?_)
      · have c13 := c
        have d14 : v3.toInt ≤ (30 : Int) := lei.mp c13
        refine bind_i (sf_Scene_copy 25 11 M kd_25 kd_11 hJ) (fun x2 _ q => ?_)
        obtain ⟨h15, h16, h17⟩ := q
        have hG18 : Gc 0 M x2 := Gc_t Gc_r h16
        refine bind_i (sf_Thief_start v2 v1 x2 h15) (fun x3 _ q => ?_)
        obtain ⟨h19, h20⟩ := q
        have hG21 : Gc 0 M x3 := Gc_t hG18 h20
        refine bind_i (sl_Top_flees_48 v3 (0 : Int32) x3 M (⟨show (1 : Int) ≤ v3.toInt by omega, show v3.toInt ≤ (30 : Int) by omega⟩) h19 hG21 (show (0 : Int) ≤ (0 : Int32).toInt by decide) (show (0 : Int32).toInt ≤ (30 : Int) by decide)) (fun x6 _ q => ?_)
        obtain ⟨h22, h23⟩ := q
        refine bind_i (sf_Top_emptyRow x6 h22) (fun x7 _ q => ?_)
        obtain ⟨h24, h25⟩ := q
        have hG26 : Gc 0 M x7 := Gc_t h23 h25
        refine bind_i (sf_Top_noteSet (x7.2.1 151 2) x7 h24) (fun x8 _ q => ?_)
        obtain ⟨h27, h28⟩ := q
        have hG29 : Gc 0 M x8 := Gc_t hG26 h28
        refine bind_i (sf_Top_noteSet (x8.2.1 151 3) x8 h27) (fun x9 _ q => ?_)
        obtain ⟨h30, h31⟩ := q
        have hG32 : Gc 0 M x9 := Gc_t hG29 h31
        refine bind_i (sf_Thief_gone x9 h30) (fun x10 _ q => ?_)
        obtain ⟨h33, h34⟩ := q
        refine if_i (fun c => ?_) (fun c => ?_)
        · have c35 := c
          have d36 : x10.toInt = (0 : Int) := eqi.mp c35
          exact ⟨((1 : Int32), x9), rfl, h30, hG32, (show (-1 : Int) ≤ (1 : Int32).toInt by decide), (show (1 : Int32).toInt ≤ (1 : Int) by decide)⟩
        · have c37 := c
          have d38 : ¬ x10.toInt = (0 : Int) := neqi.mp c37
          exact ⟨((0 : Int32), x9), rfl, h30, hG32, (show (-1 : Int) ≤ (0 : Int32).toInt by decide), (show (0 : Int32).toInt ≤ (1 : Int) by decide)⟩
      · have c39 := c
        have d40 : (30 : Int) < v3.toInt := nlei.mp c39
        exact ⟨((-1 : Int32), M), rfl, hJ, Gc_r, (show (-1 : Int) ≤ (-1 : Int32).toInt by decide), (show (-1 : Int32).toInt ≤ (1 : Int) by decide)⟩
theorem sl_Top_lairs_26 (v1 : Int32) (a0_ : Int32) (N_ : Mem) (B_ : Mem) (hp_v1 : (1 : Int) ≤ v1.toInt ∧ v1.toInt ≤ (30 : Int)) (hN : J N_) (hG : Gc 0 B_ N_) (i2_ : (0 : Int) ≤ a0_.toInt) (i3_ : a0_.toInt ≤ (30 : Int)) : ∃ x, iter (lb_Top_lairs_26 v1) FU (a0_, N_) = some x ∧ (fun r : Mem => J r ∧ Gc 0 B_ r) x := by
  refine iter_r (fun s : Int32 × Mem => J s.2 ∧ Gc 0 B_ s.2 ∧ (0 : Int) ≤ s.1.toInt ∧ s.1.toInt ≤ (30 : Int)) (fun s : Int32 × Mem => (30 - s.1.toInt).toNat) (fun r : Mem => J r ∧ Gc 0 B_ r) ?_ FU (a0_, N_) ⟨hN, hG, i2_, i3_⟩ (by show (30 - a0_.toInt).toNat < FU; rw [FU_v]; omega)
  clear i3_ i2_ hG hN
  rintro ⟨a0_', N_'⟩ ⟨hN, hG, i2_, i3_⟩
  dsimp only at hN hG i2_ i3_
  unfold lb_Top_lairs_26
  dsimp only
  refine if_i (fun c => ?_) (fun c => ?_)
  · have c1 := c
    have d2 : v1.toInt ≤ a0_'.toInt := lei.mp c1
    exact ⟨_, rfl, hN, hG⟩
  · have c3 := c
    have d4 : a0_'.toInt < v1.toInt := nlei.mp c3
    refine bind_i (sf_Clock_pass 25 32 N_' kd_25 kd_32 hN) (fun x2 _ q => ?_)
    obtain ⟨h5, h6⟩ := q
    have hG7 : Gc 0 B_ x2 := Gc_t hG h6
    refine bind_i (sf_Scene_occupied 25 (0 : Int32) (x2.1 6 4) x2 kd_25 h5) (fun x3 _ q => ?_)
    refine bind_i (sf_Scene_occupied 25 (1 : Int32) (x2.1 6 4) x2 kd_25 h5) (fun x4 _ q => ?_)
    refine bind_i (sf_Thief_record a0_' x3 x4 x2 h5) (fun x5 _ q => ?_)
    obtain ⟨h8, h9⟩ := q
    have hG10 : Gc 0 B_ x5 := Gc_t hG7 h9
    have q11 : (a0_' + (1 : Int32)).toInt = a0_'.toInt + (1 : Int) := add_ti rfl rfl (by omega) (by omega)
    exact ⟨_, rfl, ⟨h8, hG10, (show (0 : Int) ≤ (a0_' + (1 : Int32)).toInt by omega), (show (a0_' + (1 : Int32)).toInt ≤ (30 : Int) by omega)⟩, show (30 - (a0_' + (1 : Int32)).toInt).toNat < (30 - a0_'.toInt).toNat by omega⟩
theorem sl_Top_lairs_138  (a0_ : Int32) (N_ : Mem) (B_ : Mem) (hN : J N_) (hG : Gc 0 B_ N_) (i2_ : (-1 : Int) ≤ a0_.toInt) (i3_ : a0_.toInt ≤ (29 : Int)) : ∃ x, iter (lb_Top_lairs_138) FU (a0_, N_) = some x ∧ (fun r : Mem => J r ∧ Gc 0 B_ r) x := by
  refine iter_r (fun s : Int32 × Mem => J s.2 ∧ Gc 0 B_ s.2 ∧ (-1 : Int) ≤ s.1.toInt ∧ s.1.toInt ≤ (29 : Int)) (fun s : Int32 × Mem => (s.1.toInt - (-1)).toNat) (fun r : Mem => J r ∧ Gc 0 B_ r) ?_ FU (a0_, N_) ⟨hN, hG, i2_, i3_⟩ (by show (a0_.toInt - (-1)).toNat < FU; rw [FU_v]; omega)
  clear i3_ i2_ hG hN
  rintro ⟨a0_', N_'⟩ ⟨hN, hG, i2_, i3_⟩
  dsimp only at hN hG i2_ i3_
  unfold lb_Top_lairs_138
  dsimp only
  refine if_i (fun c => ?_) (fun c => ?_)
  · have c1 := c
    have d2 : a0_'.toInt < (0 : Int) := lti.mp c1
    exact ⟨_, rfl, hN, hG⟩
  · have c3 := c
    have d4 : (0 : Int) ≤ a0_'.toInt := nlti.mp c3
    refine bind_i (sf_Thief_strike a0_' N_' hN) (fun x10 _ q => ?_)
    obtain ⟨h5, h6⟩ := q
    have hG7 : Gc 0 B_ x10 := Gc_t hG h6
    refine bind_i (sf_Thief_stir 32 x10 kd_32 h5) (fun x11 _ q => ?_)
    obtain ⟨h8, h9⟩ := q
    have hG10 : Gc 0 B_ x11 := Gc_t hG7 h9
    have q11 : (a0_' + (-1 : Int32)).toInt = a0_'.toInt + (-1 : Int) := add_ti rfl rfl (by omega) (by omega)
    exact ⟨_, rfl, ⟨h8, hG10, (show (-1 : Int) ≤ (a0_' + (-1 : Int32)).toInt by omega), (show (a0_' + (-1 : Int32)).toInt ≤ (29 : Int) by omega)⟩, show ((a0_' + (-1 : Int32)).toInt - (-1)).toNat < (a0_'.toInt - (-1)).toNat by omega⟩
theorem sf_Top_lairs (v1 : Int32) (M : Mem) (hJ : J M) : ∃ r : Int32 × Mem, f_Top_lairs v1 M = some r ∧ (J r.2 ∧ Gc 0 M r.2 ∧ (-1 : Int) ≤ r.1.toInt ∧ r.1.toInt ≤ (254 : Int)) := by
  unfold f_Top_lairs
  refine if_i (fun c => ?_) (fun c => ?_)
  · have c1 := c
    have d2 : v1.toInt < (1 : Int) := lti.mp c1
    exact ⟨((-1 : Int32), M), rfl, hJ, Gc_r, (show (-1 : Int) ≤ (-1 : Int32).toInt by decide), (show (-1 : Int32).toInt ≤ (254 : Int) by decide)⟩
  · have c3 := c
    have d4 : (1 : Int) ≤ v1.toInt := nlti.mp c3
    refine if_i (fun c => ?_) (fun c => ?_)
    · have c5 := c
      have d6 : v1.toInt ≤ (30 : Int) := lei.mp c5
      refine bind_i (sf_Scene_copy 25 11 M kd_25 kd_11 hJ) (fun x1 _ q => ?_)
      obtain ⟨h7, h8, h9⟩ := q
      have hG10 : Gc 0 M x1 := Gc_t Gc_r h8
      refine bind_i (sl_Top_lairs_26 v1 (0 : Int32) x1 M (⟨show (1 : Int) ≤ v1.toInt by omega, show v1.toInt ≤ (30 : Int) by omega⟩) h7 hG10 (show (0 : Int) ≤ (0 : Int32).toInt by decide) (show (0 : Int32).toInt ≤ (30 : Int) by decide)) (fun x7 _ q => ?_)
      obtain ⟨h11, h12⟩ := q
      refine mem_i (fun M8 e14 => ?_)
      have hJ15 : J M8 := by rw [e14]; exact Jl h11
      have hG16 : Gc 0 M M8 := Gc_l h12 e14
      clear e14
      refine mem_i (fun M9 e18 => ?_)
      have hJ19 : J M9 := by rw [e18]; exact Jl hJ15
      have hG20 : Gc 0 M M9 := Gc_l hG16 e18
      clear e18
      have q21 : (v1 - (1 : Int32)).toInt = v1.toInt - (1 : Int) := sub_ti rfl rfl (by omega) (by omega)
      refine bind_i (sl_Top_lairs_138  (v1 - (1 : Int32)) M9 M hJ19 hG20 (show (-1 : Int) ≤ (v1 - (1 : Int32)).toInt by omega) (show (v1 - (1 : Int32)).toInt ≤ (29 : Int) by omega)) (fun x13 _ q => ?_)
      obtain ⟨h22, h23⟩ := q
      refine bind_i (sf_Top_emptyRow x13 h22) (fun x14 _ q => ?_)
      obtain ⟨h24, h25⟩ := q
      have hG26 : Gc 0 M x14 := Gc_t h23 h25
      refine bind_i (sf_Top_noteSet (x14.2.1 151 2) x14 h24) (fun x15 _ q => ?_)
      obtain ⟨h27, h28⟩ := q
      have hG29 : Gc 0 M x15 := Gc_t hG26 h28
      refine bind_i (sf_Top_noteSet (x15.2.1 151 3) x15 h27) (fun x16 _ q => ?_)
      obtain ⟨h30, h31⟩ := q
      have hG32 : Gc 0 M x16 := Gc_t hG29 h31
      refine bind_i (sf_JLong_bitCount (x16.2.1 151 2)) (fun x17 _ q => ?_)
      obtain ⟨h33, h34⟩ := q
      refine bind_i (sf_JLong_bitCount (x16.2.1 151 3)) (fun x18 _ q => ?_)
      obtain ⟨h35, h36⟩ := q
      have q37 : (x17 + x18).toInt = x17.toInt + x18.toInt := add_ti rfl rfl (by omega) (by omega)
      exact ⟨((x17 + x18), x16), rfl, h30, hG32, (show (-1 : Int) ≤ (x17 + x18).toInt by omega), (show (x17 + x18).toInt ≤ (254 : Int) by omega)⟩
    · have c38 := c
      have d39 : (30 : Int) < v1.toInt := nlei.mp c38
      exact ⟨((-1 : Int32), M), rfl, hJ, Gc_r, (show (-1 : Int) ≤ (-1 : Int32).toInt by decide), (show (-1 : Int32).toInt ≤ (254 : Int) by decide)⟩
theorem sl_Top_caught_36  (a0_ : Int32) (N_ : Mem) (B_ : Mem) (hN : J N_) (hG : Gc 0 B_ N_) (i2_ : (1 : Int) ≤ a0_.toInt) (i3_ : a0_.toInt ≤ (31 : Int)) : ∃ x, iter (lb_Top_caught_36) FU (a0_, N_) = some x ∧ (SQ (fun r : Mem => J r ∧ Gc 0 B_ r) (fun r : Int32 × Mem => J r.2 ∧ Gc 0 B_ r.2 ∧ (1 : Int) ≤ r.1.toInt ∧ r.1.toInt ≤ (30 : Int))) x := by
  refine iter_r (fun s : Int32 × Mem => J s.2 ∧ Gc 0 B_ s.2 ∧ (1 : Int) ≤ s.1.toInt ∧ s.1.toInt ≤ (31 : Int)) (fun s : Int32 × Mem => (31 - s.1.toInt).toNat) (SQ (fun r : Mem => J r ∧ Gc 0 B_ r) (fun r : Int32 × Mem => J r.2 ∧ Gc 0 B_ r.2 ∧ (1 : Int) ≤ r.1.toInt ∧ r.1.toInt ≤ (30 : Int))) ?_ FU (a0_, N_) ⟨hN, hG, i2_, i3_⟩ (by show (31 - a0_.toInt).toNat < FU; rw [FU_v]; omega)
  clear i3_ i2_ hG hN
  rintro ⟨a0_', N_'⟩ ⟨hN, hG, i2_, i3_⟩
  dsimp only at hN hG i2_ i3_
  unfold lb_Top_caught_36
  dsimp only
  refine if_i (fun c => ?_) (fun c => ?_)
  · have c1 := c
    have d2 : (30 : Int) < a0_'.toInt := lti.mp c1
    exact ⟨_, rfl, hN, hG⟩
  · have c3 := c
    have d4 : a0_'.toInt ≤ (30 : Int) := nlti.mp c3
    refine bind_i (sf_Top_hunt N_' hN) (fun x4 _ q => ?_)
    obtain ⟨h5, h6⟩ := q
    have hG7 : Gc 0 B_ x4 := Gc_t hG h6
    refine bind_i (sf_Thief_gone x4 h5) (fun x5 _ q => ?_)
    obtain ⟨h8, h9⟩ := q
    refine if_i (fun c => ?_) (fun c => ?_)
    · have c10 := c
      have d11 : x5.toInt = (0 : Int) := eqi.mp c10
      have q12 : (a0_' + (1 : Int32)).toInt = a0_'.toInt + (1 : Int) := add_ti rfl rfl (by omega) (by omega)
      exact ⟨_, rfl, ⟨h5, hG7, (show (1 : Int) ≤ (a0_' + (1 : Int32)).toInt by omega), (show (a0_' + (1 : Int32)).toInt ≤ (31 : Int) by omega)⟩, show (31 - (a0_' + (1 : Int32)).toInt).toNat < (31 - a0_'.toInt).toNat by omega⟩
    · have c13 := c
      have d14 : ¬ x5.toInt = (0 : Int) := neqi.mp c13
      exact ⟨_, rfl, h5, hG7, (show (1 : Int) ≤ a0_'.toInt by omega), (show a0_'.toInt ≤ (30 : Int) by omega)⟩
theorem sf_Top_caught (v1 : Int32) (v2 : Int32) (M : Mem) (hJ : J M) : ∃ r : Int32 × Mem, f_Top_caught v1 v2 M = some r ∧ (J r.2 ∧ Gc 0 M r.2 ∧ (-2 : Int) ≤ r.1.toInt ∧ r.1.toInt ≤ (30 : Int)) := by
  unfold f_Top_caught
  refine bind_i (sf_Ground_holds v2 v1 M hJ) (fun x1 _ q => ?_)
  obtain ⟨h1, h2, h3, h4⟩ := q
  refine if_i (fun c => ?_) (fun c => ?_)
  · have c5 := c
    have d6 : x1.toInt = (0 : Int) := eqi.mp c5
    exact ⟨((-1 : Int32), M), rfl, hJ, Gc_r, (show (-2 : Int) ≤ (-1 : Int32).toInt by decide), (show (-1 : Int32).toInt ≤ (30 : Int) by decide)⟩
  · have c7 := c
    have d8 : ¬ x1.toInt = (0 : Int) := neqi.mp c7
    refine bind_i (sf_Scene_copy 25 11 M kd_25 kd_11 hJ) (fun x2 _ q => ?_)
    obtain ⟨h9, h10, h11⟩ := q
    have hG12 : Gc 0 M x2 := Gc_t Gc_r h10
    refine bind_i (sf_Thief_start v2 v1 x2 h9) (fun x3 _ q => ?_)
    obtain ⟨h13, h14⟩ := q
    have hG15 : Gc 0 M x3 := Gc_t hG12 h14
    refine bind_i (sl_Top_caught_36  (1 : Int32) x3 M h13 hG15 (show (1 : Int) ≤ (1 : Int32).toInt by decide) (show (1 : Int32).toInt ≤ (31 : Int) by decide)) (fun x16 _ q => ?_)
    rcases x16 with y | y
    · have q9 : J y ∧ Gc 0 M y := q
      dsimp only [Sum.elim_inl, Sum.elim_inr]
      obtain ⟨h18, h19⟩ := q9
      exact ⟨((-2 : Int32), y), rfl, h18, h19, (show (-2 : Int) ≤ (-2 : Int32).toInt by decide), (show (-2 : Int32).toInt ≤ (30 : Int) by decide)⟩
    · have q9 : J y.2 ∧ Gc 0 M y.2 ∧ (1 : Int) ≤ y.1.toInt ∧ y.1.toInt ≤ (30 : Int) := q
      dsimp only [Sum.elim_inl, Sum.elim_inr]
      obtain ⟨h21, h22, h23, h24⟩ := q9
      exact ⟨(y.1, y.2), rfl, h21, h22, (show (-2 : Int) ≤ y.1.toInt by omega), (show y.1.toInt ≤ (30 : Int) by omega)⟩
theorem sf_Top_slipsBy (v1 : Int32) (v2 : Int32) (v3 : Int32) (v4 : Int32) (v5 : Int32) (M : Mem) (hJ : J M) : ∃ r : Int32 × Mem, f_Top_slipsBy v1 v2 v3 v4 v5 M = some r ∧ (J r.2 ∧ Gc 0 M r.2 ∧ (0 : Int) ≤ r.1.toInt ∧ r.1.toInt ≤ (1 : Int)) := by
  unfold f_Top_slipsBy
  refine bind_i (sf_Thief_start v2 v3 M hJ) (fun x1 _ q => ?_)
  obtain ⟨h1, h2⟩ := q
  have hG3 : Gc 0 M x1 := Gc_t Gc_r h2
  refine bind_i (sf_Scene_guarded 11 (0 : Int32) v1 x1 kd_11 h1) (fun x2 _ q => ?_)
  refine bind_i (sf_Scene_guarded 11 (1 : Int32) v1 x1 kd_11 h1) (fun x3 _ q => ?_)
  refine bind_i (sf_Thief_record (0 : Int32) x2 x3 x1 h1) (fun x4 _ q => ?_)
  obtain ⟨h4, h5⟩ := q
  have hG6 : Gc 0 M x4 := Gc_t hG3 h5
  refine bind_i (sf_Thief_roam 32 x4 kd_32 h4) (fun x5 _ q => ?_)
  obtain ⟨h7, h8⟩ := q
  have hG9 : Gc 0 M x5 := Gc_t hG6 h8
  refine bind_i (sf_Thief_isIn v4 v5 x5 h7) (fun x6 _ q => ?_)
  obtain ⟨h10, h11⟩ := q
  refine c_i (bool_of (by omega) (by omega)) ?_
  exact ⟨(x6, x5), rfl, h7, hG9, (show (0 : Int) ≤ x6.toInt by omega), (show x6.toInt ≤ (1 : Int) by omega)⟩
theorem sl_Top_watch_45 (v1 : Int32) (v2 : Int32) (v3 : Int32) (v4 : Int32) (v5 : Int32) (a0_ : Int32) (N_ : Mem) (B_ : Mem) (hp_v1 : (0 : Int) ≤ v1.toInt ∧ v1.toInt ≤ (35 : Int)) (hp_v2 : (0 : Int) ≤ v2.toInt ∧ v2.toInt ≤ (1 : Int)) (hp_v3 : (0 : Int) ≤ v3.toInt ∧ v3.toInt ≤ (35 : Int)) (hp_v4 : (0 : Int) ≤ v4.toInt ∧ v4.toInt ≤ (1 : Int)) (hp_v5 : (0 : Int) ≤ v5.toInt ∧ v5.toInt ≤ (8 : Int)) (hN : J N_) (hG : Gc 0 B_ N_) (i2_ : (0 : Int) ≤ a0_.toInt) (i3_ : a0_.toInt ≤ (256 : Int)) : ∃ x, iter (lb_Top_watch_45 v1 v2 v3 v4 v5) FU (a0_, N_) = some x ∧ (SQ (fun r : Mem => J r ∧ Gc 0 B_ r) (fun r : Int32 × Mem => J r.2 ∧ Gc 0 B_ r.2 ∧ (0 : Int) ≤ r.1.toInt ∧ r.1.toInt ≤ (255 : Int))) x := by
  refine iter_r (fun s : Int32 × Mem => J s.2 ∧ Gc 0 B_ s.2 ∧ (0 : Int) ≤ s.1.toInt ∧ s.1.toInt ≤ (256 : Int)) (fun s : Int32 × Mem => (256 - s.1.toInt).toNat) (SQ (fun r : Mem => J r ∧ Gc 0 B_ r) (fun r : Int32 × Mem => J r.2 ∧ Gc 0 B_ r.2 ∧ (0 : Int) ≤ r.1.toInt ∧ r.1.toInt ≤ (255 : Int))) ?_ FU (a0_, N_) ⟨hN, hG, i2_, i3_⟩ (by show (256 - a0_.toInt).toNat < FU; rw [FU_v]; omega)
  clear i3_ i2_ hG hN
  rintro ⟨a0_', N_'⟩ ⟨hN, hG, i2_, i3_⟩
  dsimp only at hN hG i2_ i3_
  unfold lb_Top_watch_45
  dsimp only
  refine if_i (fun c => ?_) (fun c => ?_)
  · have c1 := c
    have r2 := Jr_6_4 hN
    have q3 := shl8 (s := (N_'.1 6 4)) (by omega) (by omega)
    have d4 : ((1 : Int32) <<< ((N_'.1 6 4) &&& 31)).toInt ≤ a0_'.toInt := lei.mp c1
    exact ⟨_, rfl, hN, hG⟩
  · have c5 := c
    have r6 := Jr_6_4 hN
    have q7 := shl8 (s := (N_'.1 6 4)) (by omega) (by omega)
    have d8 : a0_'.toInt < ((1 : Int32) <<< ((N_'.1 6 4) &&& 31)).toInt := nlei.mp c5
    refine bind_i (sf_JInteger_bitCount a0_') (fun x3 _ q => ?_)
    obtain ⟨h9, h10⟩ := q
    refine if_i (fun c => ?_) (fun c => ?_)
    · have c11 := c
      have d12 : x3.toInt = v5.toInt := eqi.mp c11
      refine bind_i (sf_Top_slipsBy a0_' v2 v1 v4 v3 N_' hN) (fun x4 _ q => ?_)
      obtain ⟨h13, h14, h15, h16⟩ := q
      have hG17 : Gc 0 B_ x4.2 := Gc_t hG h14
      refine if_i (fun c => ?_) (fun c => ?_)
      · have c18 := c
        have d19 : x4.1.toInt = (0 : Int) := eqi.mp c18
        exact ⟨_, rfl, h13, hG17, (show (0 : Int) ≤ a0_'.toInt by omega), (show a0_'.toInt ≤ (255 : Int) by omega)⟩
      · have c20 := c
        have d21 : ¬ x4.1.toInt = (0 : Int) := neqi.mp c20
        have q22 : (a0_' + (1 : Int32)).toInt = a0_'.toInt + (1 : Int) := add_ti rfl rfl (by omega) (by omega)
        exact ⟨_, rfl, ⟨h13, hG17, (show (0 : Int) ≤ (a0_' + (1 : Int32)).toInt by omega), (show (a0_' + (1 : Int32)).toInt ≤ (256 : Int) by omega)⟩, show (256 - (a0_' + (1 : Int32)).toInt).toNat < (256 - a0_'.toInt).toNat by omega⟩
    · have c23 := c
      have d24 : ¬ x3.toInt = v5.toInt := neqi.mp c23
      have q25 : (a0_' + (1 : Int32)).toInt = a0_'.toInt + (1 : Int) := add_ti rfl rfl (by omega) (by omega)
      exact ⟨_, rfl, ⟨hN, hG, (show (0 : Int) ≤ (a0_' + (1 : Int32)).toInt by omega), (show (a0_' + (1 : Int32)).toInt ≤ (256 : Int) by omega)⟩, show (256 - (a0_' + (1 : Int32)).toInt).toNat < (256 - a0_'.toInt).toNat by omega⟩
theorem sl_Top_watch_30 (v1 : Int32) (v2 : Int32) (v3 : Int32) (v4 : Int32) (a0_ : Int32) (N_ : Mem) (B_ : Mem) (hp_v1 : (0 : Int) ≤ v1.toInt ∧ v1.toInt ≤ (35 : Int)) (hp_v2 : (0 : Int) ≤ v2.toInt ∧ v2.toInt ≤ (1 : Int)) (hp_v3 : (0 : Int) ≤ v3.toInt ∧ v3.toInt ≤ (35 : Int)) (hp_v4 : (0 : Int) ≤ v4.toInt ∧ v4.toInt ≤ (1 : Int)) (hN : J N_) (hG : Gc 0 B_ N_) (i2_ : (0 : Int) ≤ a0_.toInt) (i3_ : a0_.toInt ≤ (9 : Int)) : ∃ x, iter (lb_Top_watch_30 v1 v2 v3 v4) FU (a0_, N_) = some x ∧ (SQ (fun r : Mem => J r ∧ Gc 0 B_ r) (fun r : Int32 × Int32 × Mem => J r.2.2 ∧ Gc 0 B_ r.2.2 ∧ (0 : Int) ≤ r.1.toInt ∧ r.1.toInt ≤ (8 : Int) ∧ (0 : Int) ≤ r.2.1.toInt ∧ r.2.1.toInt ≤ (255 : Int))) x := by
  refine iter_r (fun s : Int32 × Mem => J s.2 ∧ Gc 0 B_ s.2 ∧ (0 : Int) ≤ s.1.toInt ∧ s.1.toInt ≤ (9 : Int)) (fun s : Int32 × Mem => (9 - s.1.toInt).toNat) (SQ (fun r : Mem => J r ∧ Gc 0 B_ r) (fun r : Int32 × Int32 × Mem => J r.2.2 ∧ Gc 0 B_ r.2.2 ∧ (0 : Int) ≤ r.1.toInt ∧ r.1.toInt ≤ (8 : Int) ∧ (0 : Int) ≤ r.2.1.toInt ∧ r.2.1.toInt ≤ (255 : Int))) ?_ FU (a0_, N_) ⟨hN, hG, i2_, i3_⟩ (by show (9 - a0_.toInt).toNat < FU; rw [FU_v]; omega)
  clear i3_ i2_ hG hN
  rintro ⟨a0_', N_'⟩ ⟨hN, hG, i2_, i3_⟩
  dsimp only at hN hG i2_ i3_
  unfold lb_Top_watch_30
  dsimp only
  refine if_i (fun c => ?_) (fun c => ?_)
  · have c1 := c
    have r2 := Jr_6_4 hN
    have d3 : (N_'.1 6 4).toInt < a0_'.toInt := lti.mp c1
    exact ⟨_, rfl, hN, hG⟩
  · have c4 := c
    have r5 := Jr_6_4 hN
    have d6 : a0_'.toInt ≤ (N_'.1 6 4).toInt := nlti.mp c4
    refine bind_i (sl_Top_watch_45 v1 v2 v3 v4 a0_' (0 : Int32) N_' B_ (⟨show (0 : Int) ≤ v1.toInt by omega, show v1.toInt ≤ (35 : Int) by omega⟩) (⟨show (0 : Int) ≤ v2.toInt by omega, show v2.toInt ≤ (1 : Int) by omega⟩) (⟨show (0 : Int) ≤ v3.toInt by omega, show v3.toInt ≤ (35 : Int) by omega⟩) (⟨show (0 : Int) ≤ v4.toInt by omega, show v4.toInt ≤ (1 : Int) by omega⟩) (⟨show (0 : Int) ≤ a0_'.toInt by omega, show a0_'.toInt ≤ (8 : Int) by omega⟩) hN hG (show (0 : Int) ≤ (0 : Int32).toInt by decide) (show (0 : Int32).toInt ≤ (256 : Int) by decide)) (fun x7 _ q => ?_)
    rcases x7 with y | y
    · have q9 : J y ∧ Gc 0 B_ y := q
      dsimp only [Sum.elim_inl, Sum.elim_inr]
      obtain ⟨h9, h10⟩ := q9
      have q11 : (a0_' + (1 : Int32)).toInt = a0_'.toInt + (1 : Int) := add_ti rfl rfl (by omega) (by omega)
      exact ⟨_, rfl, ⟨h9, h10, (show (0 : Int) ≤ (a0_' + (1 : Int32)).toInt by omega), (show (a0_' + (1 : Int32)).toInt ≤ (9 : Int) by omega)⟩, show (9 - (a0_' + (1 : Int32)).toInt).toNat < (9 - a0_'.toInt).toNat by omega⟩
    · have q9 : J y.2 ∧ Gc 0 B_ y.2 ∧ (0 : Int) ≤ y.1.toInt ∧ y.1.toInt ≤ (255 : Int) := q
      dsimp only [Sum.elim_inl, Sum.elim_inr]
      obtain ⟨h13, h14, h15, h16⟩ := q9
      exact ⟨_, rfl, h13, h14, (show (0 : Int) ≤ a0_'.toInt by omega), (show a0_'.toInt ≤ (8 : Int) by omega), (show (0 : Int) ≤ y.1.toInt by omega), (show y.1.toInt ≤ (255 : Int) by omega)⟩
theorem sf_Top_watch (v1 : Int32) (v2 : Int32) (v3 : Int32) (v4 : Int32) (M : Mem) (hJ : J M) : ∃ r : Int32 × Mem, f_Top_watch v1 v2 v3 v4 M = some r ∧ (J r.2 ∧ Gc 0 M r.2 ∧ (-2 : Int) ≤ r.1.toInt ∧ r.1.toInt ≤ (8 : Int)) := by
  unfold f_Top_watch
  refine bind_i (sf_Ground_holds v2 v1 M hJ) (fun x1 _ q => ?_)
  obtain ⟨h1, h2, h3, h4⟩ := q
  refine if_i (fun c => ?_) (fun c => ?_)
  · have c5 := c
    have d6 : x1.toInt = (0 : Int) := eqi.mp c5
    exact ⟨((-1 : Int32), M), rfl, hJ, Gc_r, (show (-2 : Int) ≤ (-1 : Int32).toInt by decide), (show (-1 : Int32).toInt ≤ (8 : Int) by decide)⟩
  · have c7 := c
    have d8 : ¬ x1.toInt = (0 : Int) := neqi.mp c7
    refine bind_i (sf_Ground_holds v4 v3 M hJ) (fun x2 _ q => ?_)
    obtain ⟨h9, h10, h11, h12⟩ := q
    refine if_i (fun c => ?_) (fun c => ?_)
    · have c13 := c
      have d14 : x2.toInt = (0 : Int) := eqi.mp c13
      exact ⟨((-1 : Int32), M), rfl, hJ, Gc_r, (show (-2 : Int) ≤ (-1 : Int32).toInt by decide), (show (-1 : Int32).toInt ≤ (8 : Int) by decide)⟩
    · have c15 := c
      have d16 : ¬ x2.toInt = (0 : Int) := neqi.mp c15
      refine bind_i (sl_Top_watch_30 v1 v2 v3 v4 (0 : Int32) M M (⟨show (0 : Int) ≤ v1.toInt by omega, show v1.toInt ≤ (35 : Int) by omega⟩) (⟨show (0 : Int) ≤ v2.toInt by omega, show v2.toInt ≤ (1 : Int) by omega⟩) (⟨show (0 : Int) ≤ v3.toInt by omega, show v3.toInt ≤ (35 : Int) by omega⟩) (⟨show (0 : Int) ≤ v4.toInt by omega, show v4.toInt ≤ (1 : Int) by omega⟩) hJ Gc_r (show (0 : Int) ≤ (0 : Int32).toInt by decide) (show (0 : Int32).toInt ≤ (9 : Int) by decide)) (fun x17 _ q => ?_)
      rcases x17 with y | y
      · have q9 : J y ∧ Gc 0 M y := q
        dsimp only [Sum.elim_inl, Sum.elim_inr]
        obtain ⟨h19, h20⟩ := q9
        exact ⟨((-2 : Int32), y), rfl, h19, h20, (show (-2 : Int) ≤ (-2 : Int32).toInt by decide), (show (-2 : Int32).toInt ≤ (8 : Int) by decide)⟩
      · have q9 : J y.2.2 ∧ Gc 0 M y.2.2 ∧ (0 : Int) ≤ y.1.toInt ∧ y.1.toInt ≤ (8 : Int) ∧ (0 : Int) ≤ y.2.1.toInt ∧ y.2.1.toInt ≤ (255 : Int) := q
        dsimp only [Sum.elim_inl, Sum.elim_inr]
        obtain ⟨h22, h23, h24, h25, h26, h27⟩ := q9
        refine bind_i (sf_Top_emptyRow y.2.2 h22) (fun x15 _ q => ?_)
        obtain ⟨h28, h29⟩ := q
        have hG30 : Gc 0 M x15 := Gc_t h23 h29
        refine bind_i (sf_Top_note y.2.1 x15 h28) (fun x16 _ q => ?_)
        obtain ⟨h31, h32⟩ := q
        have hG33 : Gc 0 M x16 := Gc_t hG30 h32
        exact ⟨(y.1, x16), rfl, h31, hG33, (show (-2 : Int) ≤ y.1.toInt by omega), (show y.1.toInt ≤ (8 : Int) by omega)⟩
theorem sf_Top_keep (v1 : Int32) (M : Mem) (hJ : J M) : ∃ r : Int32 × Mem, f_Top_keep v1 M = some r ∧ (J r.2 ∧ Gc 0 M r.2 ∧ (0 : Int) ≤ r.1.toInt ∧ r.1.toInt ≤ (1 : Int)) := by
  unfold f_Top_keep
  refine bind_i (sf_History_store v1 11 M kd_11 hJ) (fun x1 _ q => ?_)
  obtain ⟨h1, h2, h3, h4⟩ := q
  have hG5 : Gc 0 M x1.2 := Gc_t Gc_r h2
  refine c_i (bool_of (by omega) (by omega)) ?_
  exact ⟨(x1.1, x1.2), rfl, h1, hG5, (show (0 : Int) ≤ x1.1.toInt by omega), (show x1.1.toInt ≤ (1 : Int) by omega)⟩
theorem sf_Top_again (v1 : Int32) (M : Mem) (hJ : J M) : ∃ r : Int32 × Mem, f_Top_again v1 M = some r ∧ (J r.2 ∧ Gc 0 M r.2 ∧ (0 : Int) ≤ r.1.toInt ∧ r.1.toInt ≤ (1 : Int)) := by
  unfold f_Top_again
  refine bind_i (sf_History_restore v1 11 M kd_11 hJ) (fun x1 _ q => ?_)
  obtain ⟨h1, h2, h3, h4⟩ := q
  have hG5 : Gc 0 M x1.2 := Gc_t Gc_r h2
  refine if_i (fun c => ?_) (fun c => ?_)
  · have c6 := c
    have d7 : x1.1.toInt = (0 : Int) := eqi.mp c6
    exact ⟨((0 : Int32), x1.2), rfl, h1, hG5, (show (0 : Int) ≤ (0 : Int32).toInt by decide), (show (0 : Int32).toInt ≤ (1 : Int) by decide)⟩
  · have c8 := c
    have d9 : ¬ x1.1.toInt = (0 : Int) := neqi.mp c8
    refine bind_i (sf_History_forget x1.2 h1) (fun x2 _ q => ?_)
    obtain ⟨h10, h11⟩ := q
    have hG12 : Gc 0 M x2 := Gc_t hG5 h11
    refine bind_i (sf_Nets_lay 32 11 (-1 : Int32) x2 kd_32 kd_11 h10) (fun x3 _ q => ?_)
    obtain ⟨h13, h14⟩ := q
    have hG15 : Gc 0 M x3 := Gc_t hG12 h14
    exact ⟨((1 : Int32), x3), rfl, h13, hG15, (show (0 : Int) ≤ (1 : Int32).toInt by decide), (show (1 : Int32).toInt ≤ (1 : Int) by decide)⟩
end
section
/-! safety of the class, 22 -/
theorem sf_Top_count (v1 : Int32) (M : Mem) (hJ : J M) : ∃ r : Int32, f_Top_count v1 M = some r ∧ (True) := by
  unfold f_Top_count
  refine if_i (fun c => ?_) (fun c => ?_)
  · have c1 := c
    have d2 : v1.toInt = (0 : Int) := eqi.mp c1
    exact ⟨(M.1 3 3), rfl, trivial⟩
  · have c3 := c
    have d4 : ¬ v1.toInt = (0 : Int) := neqi.mp c3
    refine if_i (fun c => ?_) (fun c => ?_)
    · have c5 := c
      have d6 : v1.toInt = (1 : Int) := eqi.mp c5
      exact ⟨(M.1 3 2), rfl, trivial⟩
    · have c7 := c
      have d8 : ¬ v1.toInt = (1 : Int) := neqi.mp c7
      refine if_i (fun c => ?_) (fun c => ?_)
      · have c9 := c
        have d10 : v1.toInt = (2 : Int) := eqi.mp c9
        exact ⟨(M.1 6 4), rfl, trivial⟩
      · have c11 := c
        have d12 : ¬ v1.toInt = (2 : Int) := neqi.mp c11
        refine if_i (fun c => ?_) (fun c => ?_)
        · have c13 := c
          have d14 : v1.toInt = (3 : Int) := eqi.mp c13
          exact ⟨(M.1 11 7), rfl, trivial⟩
        · have c15 := c
          have d16 : ¬ v1.toInt = (3 : Int) := neqi.mp c15
          refine if_i (fun c => ?_) (fun c => ?_)
          · have c17 := c
            have d18 : v1.toInt = (4 : Int) := eqi.mp c17
            exact ⟨(M.1 11 6), rfl, trivial⟩
          · have c19 := c
            have d20 : ¬ v1.toInt = (4 : Int) := neqi.mp c19
            refine if_i (fun c => ?_) (fun c => ?_)
            · have c21 := c
              have d22 : v1.toInt = (5 : Int) := eqi.mp c21
              exact ⟨(M.1 6 5), rfl, trivial⟩
            · have c23 := c
              have d24 : ¬ v1.toInt = (5 : Int) := neqi.mp c23
              refine if_i (fun c => ?_) (fun c => ?_)
              · have c25 := c
                have d26 : v1.toInt = (6 : Int) := eqi.mp c25
                exact ⟨(M.1 11 8), rfl, trivial⟩
              · have c27 := c
                have d28 : ¬ v1.toInt = (6 : Int) := neqi.mp c27
                refine if_i (fun c => ?_) (fun c => ?_)
                · have c29 := c
                  have d30 : v1.toInt = (7 : Int) := eqi.mp c29
                  exact ⟨(M.1 11 9), rfl, trivial⟩
                · have c31 := c
                  have d32 : ¬ v1.toInt = (7 : Int) := neqi.mp c31
                  refine if_i (fun c => ?_) (fun c => ?_)
                  · have c33 := c
                    have d34 : v1.toInt = (8 : Int) := eqi.mp c33
                    refine bind_i (sf_Scene_allMeetings 11 M kd_11 hJ) (fun x9 _ q => ?_)
                    exact ⟨x9, rfl, trivial⟩
                  · have c35 := c
                    have d36 : ¬ v1.toInt = (8 : Int) := neqi.mp c35
                    refine if_i (fun c => ?_) (fun c => ?_)
                    · have c37 := c
                      have d38 : v1.toInt = (9 : Int) := eqi.mp c37
                      exact ⟨(M.1 0 16), rfl, trivial⟩
                    · have c39 := c
                      have d40 : ¬ v1.toInt = (9 : Int) := neqi.mp c39
                      refine if_i (fun c => ?_) (fun c => ?_)
                      · have c41 := c
                        have d42 : v1.toInt = (10 : Int) := eqi.mp c41
                        exact ⟨(M.1 46 2), rfl, trivial⟩
                      · have c43 := c
                        have d44 : ¬ v1.toInt = (10 : Int) := neqi.mp c43
                        refine if_i (fun c => ?_) (fun c => ?_)
                        · have c45 := c
                          have d46 : v1.toInt = (11 : Int) := eqi.mp c45
                          exact ⟨(M.1 0 15), rfl, trivial⟩
                        · have c47 := c
                          have d48 : ¬ v1.toInt = (11 : Int) := neqi.mp c47
                          refine if_i (fun c => ?_) (fun c => ?_)
                          · have c49 := c
                            have d50 : v1.toInt = (12 : Int) := eqi.mp c49
                            exact ⟨(M.1 1 1), rfl, trivial⟩
                          · have c51 := c
                            have d52 : ¬ v1.toInt = (12 : Int) := neqi.mp c51
                            exact ⟨(-100 : Int32), rfl, trivial⟩
theorem sf_Top_cell (v1 : Int32) (v2 : Int32) (M : Mem) (hJ : J M) : ∃ r : Option (Int32), f_Top_cell v1 v2 M = some r ∧ (True) := by
  unfold f_Top_cell
  refine bind_i (sf_Ground_has v1 M hJ) (fun x1 _ q => ?_)
  obtain ⟨h1, h2, h3⟩ := q
  refine if_i (fun c => ?_) (fun c => ?_)
  · have c4 := c
    have d5 : x1.toInt = (0 : Int) := eqi.mp c4
    exact ⟨_, rfl, trivial⟩
  · have c6 := c
    have d7 : ¬ x1.toInt = (0 : Int) := neqi.mp c6
    refine if_i (fun c => ?_) (fun c => ?_)
    · have c8 := c
      have d9 : v2.toInt = (0 : Int) := eqi.mp c8
      refine inb_i (by omega) (by omega) ?_
      exact ⟨_, rfl, trivial⟩
    · have c10 := c
      have d11 : ¬ v2.toInt = (0 : Int) := neqi.mp c10
      refine if_i (fun c => ?_) (fun c => ?_)
      · have c12 := c
        have d13 : v2.toInt = (1 : Int) := eqi.mp c12
        have r14 := Jr_6_4 hJ
        refine bind_i (sf_Scene_standing 11 (0 : Int32) v1 (M.1 6 4) M kd_11 (⟨show (0 : Int) ≤ (M.1 6 4).toInt by omega, show (M.1 6 4).toInt ≤ (8 : Int) by omega⟩) hJ) (fun x3 _ q => ?_)
        exact ⟨_, rfl, trivial⟩
      · have c15 := c
        have d16 : ¬ v2.toInt = (1 : Int) := neqi.mp c15
        refine if_i (fun c => ?_) (fun c => ?_)
        · have c17 := c
          have d18 : v2.toInt = (2 : Int) := eqi.mp c17
          have r19 := Jr_6_4 hJ
          refine bind_i (sf_Scene_standing 11 (1 : Int32) v1 (M.1 6 4) M kd_11 (⟨show (0 : Int) ≤ (M.1 6 4).toInt by omega, show (M.1 6 4).toInt ≤ (8 : Int) by omega⟩) hJ) (fun x5 _ q => ?_)
          exact ⟨_, rfl, trivial⟩
        · have c20 := c
          have d21 : ¬ v2.toInt = (2 : Int) := neqi.mp c20
          refine if_i (fun c => ?_) (fun c => ?_)
          · have c22 := c
            have d23 : v2.toInt = (3 : Int) := eqi.mp c22
            refine bind_i (sf_Scene_planksAt 11 v1 M kd_11 hJ) (fun x7 _ q => ?_)
            exact ⟨_, rfl, trivial⟩
          · have c24 := c
            have d25 : ¬ v2.toInt = (3 : Int) := neqi.mp c24
            refine if_i (fun c => ?_) (fun c => ?_)
            · have c26 := c
              have d27 : v2.toInt = (4 : Int) := eqi.mp c26
              refine inb_i (by omega) (by omega) ?_
              refine bind_i (sf_JLong_bitCount (M.2.1 34 v1.toNatClampNeg)) (fun x9 _ q => ?_)
              obtain ⟨h28, h29⟩ := q
              exact ⟨_, rfl, trivial⟩
            · have c30 := c
              have d31 : ¬ v2.toInt = (4 : Int) := neqi.mp c30
              refine if_i (fun c => ?_) (fun c => ?_)
              · have c32 := c
                have d33 : v2.toInt = (5 : Int) := eqi.mp c32
                have q34 : ((36 : Int32) + v1).toInt = (36 : Int) + v1.toInt := add_ti rfl rfl (by omega) (by omega)
                refine inb_i (by omega) (by omega) ?_
                refine bind_i (sf_JLong_bitCount (M.2.1 34 ((36 : Int32) + v1).toNatClampNeg)) (fun x11 _ q => ?_)
                obtain ⟨h35, h36⟩ := q
                exact ⟨_, rfl, trivial⟩
              · have c37 := c
                have d38 : ¬ v2.toInt = (5 : Int) := neqi.mp c37
                exact ⟨_, rfl, trivial⟩
theorem sf_Top_person (v1 : Int32) (v2 : Int32) (M : Mem) (hJ : J M) : ∃ r : (Option (Int32)) × Mem, f_Top_person v1 v2 M = some r ∧ (J r.2 ∧ Gc 0 M r.2) := by
  unfold f_Top_person
  refine bind_i (sf_Crowd_has v1 M hJ) (fun x1 _ q => ?_)
  obtain ⟨h1, h2, h3⟩ := q
  refine if_i (fun c => ?_) (fun c => ?_)
  · have c4 := c
    have d5 : x1.toInt = (0 : Int) := eqi.mp c4
    exact ⟨(none, M), rfl, hJ, Gc_r⟩
  · have c6 := c
    have d7 : ¬ x1.toInt = (0 : Int) := neqi.mp c6
    refine if_i (fun c => ?_) (fun c => ?_)
    · have c8 := c
      have d9 : v2.toInt = (0 : Int) := eqi.mp c8
      refine bind_i (sf_Crowd_woman v1 M hJ) (fun x2 _ q => ?_)
      obtain ⟨h10, h11⟩ := q
      refine if_i (fun c => ?_) (fun c => ?_)
      · have c12 := c
        have d13 : x2.toInt = (0 : Int) := eqi.mp c12
        exact ⟨((some (0 : Int32)), M), rfl, hJ, Gc_r⟩
      · have c14 := c
        have d15 : ¬ x2.toInt = (0 : Int) := neqi.mp c14
        exact ⟨((some (1 : Int32)), M), rfl, hJ, Gc_r⟩
    · have c16 := c
      have d17 : ¬ v2.toInt = (0 : Int) := neqi.mp c16
      refine if_i (fun c => ?_) (fun c => ?_)
      · have c18 := c
        have d19 : v2.toInt = (1 : Int) := eqi.mp c18
        refine inb_i (by omega) (by omega) ?_
        exact ⟨((some (M.1 12 v1.toNatClampNeg)), M), rfl, hJ, Gc_r⟩
      · have c20 := c
        have d21 : ¬ v2.toInt = (1 : Int) := neqi.mp c20
        refine if_i (fun c => ?_) (fun c => ?_)
        · have c22 := c
          have d23 : v2.toInt = (2 : Int) := eqi.mp c22
          refine inb_i (by omega) (by omega) ?_
          exact ⟨((some (M.1 13 v1.toNatClampNeg)), M), rfl, hJ, Gc_r⟩
        · have c24 := c
          have d25 : ¬ v2.toInt = (2 : Int) := neqi.mp c24
          refine if_i (fun c => ?_) (fun c => ?_)
          · have c26 := c
            have d27 : v2.toInt = (3 : Int) := eqi.mp c26
            refine inb_i (by omega) (by omega) ?_
            exact ⟨((some (M.1 14 v1.toNatClampNeg)), M), rfl, hJ, Gc_r⟩
          · have c28 := c
            have d29 : ¬ v2.toInt = (3 : Int) := neqi.mp c28
            refine if_i (fun c => ?_) (fun c => ?_)
            · have c30 := c
              have d31 : v2.toInt = (4 : Int) := eqi.mp c30
              refine inb_i (by omega) (by omega) ?_
              exact ⟨((some (M.1 8 v1.toNatClampNeg)), M), rfl, hJ, Gc_r⟩
            · have c32 := c
              have d33 : ¬ v2.toInt = (4 : Int) := neqi.mp c32
              refine if_i (fun c => ?_) (fun c => ?_)
              · have c34 := c
                have d35 : v2.toInt = (5 : Int) := eqi.mp c34
                exact ⟨((some (((M.1 11 8) >>> (v1 &&& 31)) &&& (1 : Int32))), M), rfl, hJ, Gc_r⟩
              · have c36 := c
                have d37 : ¬ v2.toInt = (5 : Int) := neqi.mp c36
                refine if_i (fun c => ?_) (fun c => ?_)
                · have c38 := c
                  have d39 : v2.toInt = (6 : Int) := eqi.mp c38
                  refine bind_i (sf_Scene_meetingsOf 11 v1 M kd_11 (⟨show (0 : Int) ≤ v1.toInt by omega, show v1.toInt ≤ (7 : Int) by omega⟩) hJ) (fun x10 _ q => ?_)
                  exact ⟨((some x10), M), rfl, hJ, Gc_r⟩
                · have c40 := c
                  have d41 : ¬ v2.toInt = (6 : Int) := neqi.mp c40
                  refine if_i (fun c => ?_) (fun c => ?_)
                  · have c42 := c
                    have d43 : v2.toInt = (7 : Int) := eqi.mp c42
                    refine bind_i (sf_Law_goes v1 11 M (⟨show (0 : Int) ≤ v1.toInt by omega, show v1.toInt ≤ (7 : Int) by omega⟩) kd_11 hJ) (fun x12 _ q => ?_)
                    obtain ⟨h44, h45, h46, h47⟩ := q
                    have hG48 : Gc 0 M x12.2 := Gc_t Gc_r h45
                    refine if_i (fun c => ?_) (fun c => ?_)
                    · have c49 := c
                      have d50 : x12.1.toInt = (0 : Int) := eqi.mp c49
                      exact ⟨((some (0 : Int32)), x12.2), rfl, h44, hG48⟩
                    · have c51 := c
                      have d52 : ¬ x12.1.toInt = (0 : Int) := neqi.mp c51
                      exact ⟨((some (1 : Int32)), x12.2), rfl, h44, hG48⟩
                  · have c53 := c
                    have d54 : ¬ v2.toInt = (7 : Int) := neqi.mp c53
                    exact ⟨(none, M), rfl, hJ, Gc_r⟩
theorem sf_Top_row (v1 : Int32) (M : Mem) (hJ : J M) : ∃ r : Option (Int32), f_Top_row v1 M = some r ∧ (True) := by
  unfold f_Top_row
  refine if_i (fun c => ?_) (fun c => ?_)
  · have c1 := c
    have d2 : v1.toInt < (0 : Int) := lti.mp c1
    exact ⟨_, rfl, trivial⟩
  · have c3 := c
    have d4 : (0 : Int) ≤ v1.toInt := nlti.mp c3
    refine if_i (fun c => ?_) (fun c => ?_)
    · have c5 := c
      have d6 : (M.1 0 15).toInt ≤ v1.toInt := lei.mp c5
      exact ⟨_, rfl, trivial⟩
    · have c7 := c
      have d8 : v1.toInt < (M.1 0 15).toInt := nlei.mp c7
      refine if_i (fun c => ?_) (fun c => ?_)
      · have c9 := c
        have d10 : v1.toInt < (10 : Int) := lti.mp c9
        refine inb_i (by omega) (by omega) ?_
        exact ⟨_, rfl, trivial⟩
      · have c11 := c
        have d12 : (10 : Int) ≤ v1.toInt := nlti.mp c11
        exact ⟨_, rfl, trivial⟩
end
section
/-! the reference's reader: at, length, top, wrong; safety -/
abbrev xA (M : Mem) : Int := (M.1 162 17).toInt
abbrev xL (M : Mem) : Int := (M.1 162 15).toInt
abbrev xT (M : Mem) : Int := (M.1 162 16).toInt
abbrev xW (M : Mem) : Int := (M.1 162 18).toInt
abbrev xP (M : Mem) : Int := (M.1 162 4).toInt
def PF (M N : Mem) : Prop := (∀ k i, ¬ (k = 162 ∧ (i = 17 ∨ i = 18)) → N.1 k i = M.1 k i) ∧ N.2 = M.2
theorem PF.r {M : Mem} : PF M M := ⟨fun _ _ _ => rfl, rfl⟩
theorem PF.t {A B C : Mem} (h : PF A B) (g : PF B C) : PF A C := ⟨fun k i hk => (g.1 k i hk).trans (h.1 k i hk), g.2.trans h.2⟩
theorem PF_17 {M : Mem} (v : Int32) : PF M (s_i M 162 17 v) := ⟨fun k i hk => si_ne (fun e => hk ⟨e.1, .inl e.2⟩), rfl⟩
theorem PF_18 {M : Mem} (v : Int32) : PF M (s_i M 162 18 v) := ⟨fun k i hk => si_ne (fun e => hk ⟨e.1, .inr e.2⟩), rfl⟩
theorem PF.L {M N : Mem} (h : PF M N) : xL N = xL M := congrArg Int32.toInt (h.1 162 15 (by decide))
theorem PF.P {M N : Mem} (h : PF M N) : xP N = xP M := congrArg Int32.toInt (h.1 162 4 (by decide))
def PI (M : Mem) : Prop := J M ∧ (xW M = -1 → xA M ≤ xL M)
theorem aA {M : Mem} (h : J M) : 0 ≤ xA M ∧ xA M ≤ 81 := Jr_162_17 h
theorem aL {M : Mem} (h : J M) : 0 ≤ xL M ∧ xL M ≤ 80 := Jr_162_15 h
theorem aT {M : Mem} (h : J M) : 0 ≤ xT M ∧ xT M ≤ 80 := Jr_162_16 h
theorem aP {M : Mem} (h : J M) : 0 ≤ xP M ∧ xP M ≤ 8 := Jr_162_4 h
theorem m1i : (-1 : Int32).toInt = -1 := rfl
theorem z0i : (0 : Int32).toInt = 0 := rfl
theorem o1i : (1 : Int32).toInt = 1 := rfl
/-- reading: a sign is there only below length -/
theorem sp_here {M : Mem} (h : J M) : ∃ r, f_Mod_here M = some r ∧ (r.toInt ≠ -1 → xA M < xL M ∧ xA M < xT M) := by
  have a1 := Jr_162_17 h
  have a2 := Jr_162_15 h
  unfold f_Mod_here
  refine if_i (fun c => ⟨_, rfl, fun h => absurd m1i h⟩) (fun c => ?_)
  refine if_i (fun c => ⟨_, rfl, fun h => absurd m1i h⟩) (fun c2 => ?_)
  have d1 := nlei.mp c
  have d2 := nlei.mp c2
  rcases h.2.2.2.1 with e | ⟨e, e2⟩ | ⟨e, e2⟩
  · rw [e, Option.bind_some]
    refine c_i (show kd 167 = 2 by decide +kernel) ?_
    refine inb_i (by omega) (by have : ln 167 = 80 := by decide +kernel
                                omega) ?_
    exact ⟨_, rfl, fun _ => ⟨d1, d2⟩⟩
  · rw [e, Option.bind_some]
    refine c_i (show kd 172 = 2 by decide +kernel) ?_
    refine inb_i (by omega) (by have : ln 172 = 40 := by decide +kernel
                                omega) ?_
    exact ⟨_, rfl, fun _ => ⟨d1, d2⟩⟩
  · omega
theorem sp_fine (M : Mem) : ∃ r, f_Mod_fine M = some r ∧ ((xW M = -1 ∧ r = 1) ∨ (xW M ≠ -1 ∧ r = 0)) := by
  unfold f_Mod_fine
  refine if_i (fun c => ⟨_, rfl, .inl ⟨eqi.mp c, rfl⟩⟩) (fun c => ⟨_, rfl, .inr ⟨neqi.mp c, rfl⟩⟩)
theorem sp_fault {M : Mem} (h : J M) (v : Int32) (hv : v.toInt ≠ -1) : ∃ r, f_Mod_fault v M = some r ∧ J r ∧ PF M r ∧ xA r = xA M ∧ xW r ≠ -1 := by
  unfold f_Mod_fault
  refine bind_i (sp_fine M) (fun x _ q => ?_)
  rcases q with ⟨q1, rfl⟩ | ⟨q1, rfl⟩
  · refine if_i (fun c => absurd c (by decide)) (fun c => ?_)
    refine mem_i (fun m e => ⟨_, rfl, ?_⟩)
    subst e
    refine ⟨Jw_fld okf_162_18 h v, PF_18 v, congrArg Int32.toInt (si_ne (by decide)), ?_⟩
    rw [xW, si_eq]; exact hv
  · refine if_i (fun c => ?_) (fun c => absurd rfl c)
    exact ⟨_, rfl, h, PF.r, rfl, q1⟩
theorem PI_of_bad {M : Mem} (h : J M) (hw : xW M ≠ -1) : PI M := ⟨h, fun e => absurd e hw⟩
theorem sp_faultA {M : Mem} (h : J M) : ∃ r, f_Mod_fault (M.1 162 17) M = some r ∧ PI r ∧ PF M r ∧ xA r = xA M ∧ xW r ≠ -1 := by
  have a1 := Jr_162_17 h
  obtain ⟨r, e, h1, h2, h3, h4⟩ := sp_fault h (M.1 162 17) (by omega)
  exact ⟨r, e, PI_of_bad h1 h4, h2, h3, h4⟩
theorem at1 {M : Mem} (h : J M) (hl : xA M ≤ 80) : J (s_i M 162 17 ((M.1 162 17) + (1 : Int32))) ∧ xA (s_i M 162 17 ((M.1 162 17) + (1 : Int32))) = xA M + 1 := by
  have a1 := Jr_162_17 h
  have e : ((M.1 162 17) + (1 : Int32)).toInt = (M.1 162 17).toInt + 1 := add_ti rfl rfl (by omega) (by omega)
  refine ⟨Jw_162_17 h _ (by omega) (by have : xA M = (M.1 162 17).toInt := rfl; omega), ?_⟩
  rw [xA, si_eq, e]
theorem at1W {M : Mem} (v : Int32) : xW (s_i M 162 17 v) = xW M := congrArg Int32.toInt (si_ne (by decide))
theorem at1L {M : Mem} (v : Int32) : xL (s_i M 162 17 v) = xL M := congrArg Int32.toInt (si_ne (by decide))
theorem sp_passes {M : Mem} (h : PI M) (c : Int32) (hc : c.toInt ≠ -1) : ∃ r, f_Mod_passes c M = some r ∧ PI r.2 ∧ PF M r.2 ∧ ((r.1 = 0 ∧ r.2 = M) ∨ (r.1 = 1 ∧ xA r.2 = xA M + 1 ∧ xW r.2 = -1 ∧ xW M = -1 ∧ xA M < xL M)) := by
  have a2 := Jr_162_15 h.1
  unfold f_Mod_passes
  refine bind_i (sp_fine M) (fun x _ q => ?_)
  rcases q with ⟨q1, rfl⟩ | ⟨q1, rfl⟩
  · refine if_i (fun c => absurd c (by decide)) (fun _ => ?_)
    refine bind_i (sp_here h.1) (fun y _ hy => ?_)
    refine if_i (fun e => ?_) (fun e => ⟨_, rfl, h, PF.r, .inl ⟨rfl, rfl⟩⟩)
    subst e
    have hl := hy hc
    have hx : xL M = (M.1 162 15).toInt := rfl
    obtain ⟨g1, g2⟩ := at1 h.1 (by omega)
    refine mem_i (fun m e => ⟨_, rfl, ?_⟩)
    subst e
    refine ⟨⟨g1, fun _ => ?_⟩, PF_17 _, .inr ⟨rfl, g2, (at1W _).trans q1, q1, hl.1⟩⟩
    rw [g2, at1L]; omega
  · refine if_i (fun c => ⟨_, rfl, h, PF.r, .inl ⟨rfl, rfl⟩⟩) (fun c => absurd rfl c)
theorem sp_need {M : Mem} (h : PI M) (c : Int32) (hc : c.toInt ≠ -1) : ∃ r, f_Mod_need c M = some r ∧ PI r ∧ PF M r ∧ xA M ≤ xA r ∧ xA r ≤ xA M + 1 ∧ (xW r = -1 → xW M = -1 ∧ xA r = xA M + 1 ∧ xA M < xL M) := by
  unfold f_Mod_need
  refine bind_i (sp_passes h c hc) (fun x _ q => ?_)
  obtain ⟨q1, q2, q3⟩ := q
  rcases q3 with ⟨e1, e2⟩ | ⟨e1, e2, e3, e4, e5⟩
  · rw [e1]
    refine if_i (fun _ => ?_) (fun c => absurd rfl c)
    rw [e2]
    refine bind_i (sp_faultA h.1) (fun y _ q => ⟨_, rfl, q.1, q.2.1, ?_⟩)
    obtain ⟨-, -, w3, w4⟩ := q
    exact ⟨by omega, by omega, fun e => absurd e w4⟩
  · rw [e1]
    refine if_i (fun c => absurd c (by decide)) (fun _ => ⟨_, rfl, q1, q2, by omega, by omega, fun _ => ⟨e4, e2, e5⟩⟩)
theorem sp_in (a lo hi : Int32) : ∃ r, f_Mod_in a lo hi = some r ∧ ((r = 1 ∧ lo.toInt ≤ a.toInt ∧ a.toInt ≤ hi.toInt) ∨ (r = 0 ∧ ¬ (lo.toInt ≤ a.toInt ∧ a.toInt ≤ hi.toInt))) := by
  unfold f_Mod_in
  refine if_i (fun c => ⟨_, rfl, .inr ⟨rfl, by have := lti.mp c; omega⟩⟩) (fun c => ?_)
  have d := nlti.mp c
  refine if_i (fun c => ⟨_, rfl, .inr ⟨rfl, by have := lti.mp c; omega⟩⟩) (fun c => ⟨_, rfl, .inl ⟨rfl, d, nlti.mp c⟩⟩)
theorem sl_number (v1 v2 : Int32) (M0_ : Mem) (hd0 : 0 ≤ v1.toInt) (hd : v1.toInt ≤ 3) (h0 : PI M0_) (hv2 : v2 = M0_.1 162 17) (hf : xW M0_ = -1) :
    ∃ x, iter (lb_Mod_number_16 v1 v2) FU ((0 : Int32), M0_) = some x ∧ (PI x.2 ∧ PF M0_ x.2 ∧ xW x.2 = -1 ∧ xA M0_ ≤ xA x.2 ∧ xA x.2 ≤ xA M0_ + 3 ∧ 0 ≤ x.1.toInt ∧ x.1.toInt ≤ 999 ∧ (v1.toInt = 2 → x.1.toInt ≤ 99)) := by
  have w2 : v2.toInt = xA M0_ := by rw [hv2]
  have z0 := aA h0.1
  have zl := aL h0.1
  refine iter_r (fun s : Int32 × Mem => PI s.2 ∧ PF M0_ s.2 ∧ xW s.2 = -1 ∧ xA M0_ ≤ xA s.2 ∧ xA s.2 ≤ xA M0_ + v1.toInt ∧ 0 ≤ s.1.toInt ∧ (xA s.2 = xA M0_ → s.1.toInt = 0) ∧ (xA s.2 = xA M0_ + 1 → s.1.toInt ≤ 9) ∧ (xA s.2 = xA M0_ + 2 → s.1.toInt ≤ 99) ∧ (xA s.2 = xA M0_ + 3 → s.1.toInt ≤ 999)) (fun s : Int32 × Mem => (xA M0_ + 3 - xA s.2).toNat) _ ?_ FU _ ⟨h0, PF.r, hf, Int.le_refl _, (by show xA M0_ ≤ _; omega), (by show (0 : Int) ≤ (0 : Int32).toInt; decide), fun _ => rfl, (fun _ => by show (0 : Int32).toInt ≤ 9; decide), (fun _ => by show (0 : Int32).toInt ≤ 99; decide), (fun _ => by show (0 : Int32).toInt ≤ 999; decide)⟩ (by show (xA M0_ + 3 - xA M0_).toNat < FU; rw [FU_v]; omega)
  rintro ⟨v, N⟩ ⟨i1, i2, i3, i4, i5, i6, i7, i8, i9, i10⟩
  dsimp only at i1 i2 i3 i4 i5 i6 i7 i8 i9 i10
  have a1 := aA i1.1
  have al := i2.L
  have al2 := aL i1.1
  have ai := i1.2 i3
  have hx : xA N = (N.1 162 17).toInt := rfl
  have hxl : xL N = (N.1 162 15).toInt := rfl
  unfold lb_Mod_number_16
  dsimp only
  have ex : (v2 + v1).toInt = v2.toInt + v1.toInt := add_ti rfl rfl (by omega) (by omega)
  refine if_i (fun c => ⟨_, rfl, i1, i2, i3, i4, ?_, i6, ?_, ?_⟩) (fun c => ?_)
  · show xA N ≤ _; omega
  · show v.toInt ≤ 999; omega
  · intro e2; show v.toInt ≤ 99; omega
  have d := nlei.mp c
  rw [ex] at d
  refine bind_i (sp_here i1.1) (fun x2 ex2 q2 => ?_)
  refine bind_i (sp_in x2 48 57) (fun x3 _ q3 => ?_)
  rcases q3 with ⟨rfl, q31, q32⟩ | ⟨rfl, q3⟩
  · refine if_i (fun c => absurd c (by decide)) (fun _ => ?_)
    have k48 : (48 : Int32).toInt = 48 := rfl
    have k57 : (57 : Int32).toInt = 57 := rfl
    have hl := q2 (by omega)
    refine bind_i (Q := fun _ => True) ⟨x2, ex2, trivial⟩ (fun x4 ex4 _ => ?_)
    have e4 : x4 = x2 := Option.some.inj (ex4.symm.trans ex2)
    subst e4
    obtain ⟨g1, g2⟩ := at1 i1.1 (by omega)
    refine mem_i (fun m e => ⟨_, rfl, ?_⟩)
    subst e
    have t1 : ((10 : Int32) * v).toInt = 10 * v.toInt := mul_ti rfl rfl (by omega) (by omega)
    have t2 : (((10 : Int32) * v) + x4).toInt = 10 * v.toInt + x4.toInt := add_ti t1 rfl (by omega) (by omega)
    have t3 : ((((10 : Int32) * v) + x4) - (48 : Int32)).toInt = 10 * v.toInt + x4.toInt - 48 := sub_ti t2 rfl (by omega) (by omega)
    refine ⟨⟨⟨g1, fun _ => ?_⟩, i2.t (PF_17 _), (at1W _).trans i3, ?_, ?_, ?_, ?_, ?_, ?_, ?_⟩, ?_⟩
    · rw [g2, at1L]; omega
    all_goals (try dsimp only) <;> (try rw [g2]) <;> (try rw [t3]) <;> omega
  · refine if_i (fun _ => ⟨_, rfl, i1, i2, i3, i4, ?_, i6, ?_, ?_⟩) (fun c => absurd rfl c)
    · show xA N ≤ _; omega
    · show v.toInt ≤ 999; omega
    · intro e2; show v.toInt ≤ 99; omega
theorem sp_number {M : Mem} (h : PI M) (d : Int32) (hd0 : 0 ≤ d.toInt) (hd : d.toInt ≤ 3) : ∃ r, f_Mod_number d M = some r ∧ PI r.2 ∧ PF M r.2 ∧ xA M ≤ xA r.2 ∧ xA r.2 ≤ xA M + 3 ∧ 0 ≤ r.1.toInt ∧ r.1.toInt ≤ 999 ∧ (xW r.2 = -1 → xW M = -1 ∧ xA M < xA r.2) := by
  unfold f_Mod_number
  refine bind_i (sp_fine M) (fun x _ q => ?_)
  rcases q with ⟨q1, rfl⟩ | ⟨q1, rfl⟩
  · refine if_i (fun c => absurd c (by decide)) (fun _ => ?_)
    refine bind_i (sl_number d _ M hd0 hd h rfl q1) (fun x _ q => ?_)
    obtain ⟨w1, w2, w3, w4, w5, w6, w7, -⟩ := q
    unfold j_Mod_number_66
    refine if_i (fun c => ?_) (fun c => ⟨_, rfl, w1, w2, w4, w5, w6, w7, fun _ => ⟨q1, ?_⟩⟩)
    · refine bind_i (sp_faultA w1.1) (fun y _ q => ⟨_, rfl, q.1, w2.t q.2.1, ?_⟩)
      obtain ⟨-, -, e3, e4⟩ := q
      exact ⟨by show xA M ≤ xA y; omega, by show xA y ≤ _; omega, w6, w7, fun e => absurd e e4⟩
    · have := neqi.mp c
      show xA M < xA x.2
      have h1 : xA M = (M.1 162 17).toInt := rfl
      have h2 : xA x.2 = (x.2.1 162 17).toInt := rfl
      omega
  · refine if_i (fun _ => ⟨_, rfl, h, PF.r, Int.le_refl _, by show xA M ≤ _; omega, (by show (0 : Int) ≤ (0 : Int32).toInt; decide), (by show (0 : Int32).toInt ≤ 999; decide), fun e => absurd e q1⟩) (fun c => absurd rfl c)
/-! the reference: begin, routes, people that come; safety -/
def Fr (W : Nat → Nat → Prop) (M N : Mem) : Prop := ∀ k i, ¬ W k i → N.1 k i = M.1 k i
theorem Fr.r {W : Nat → Nat → Prop} {M : Mem} : Fr W M M := fun _ _ _ => rfl
theorem Fr.t {W : Nat → Nat → Prop} {A B C : Mem} (h : Fr W A B) (g : Fr W B C) : Fr W A C := fun k i hk => (g k i hk).trans (h k i hk)
theorem Fr.m {W V : Nat → Nat → Prop} {A B : Mem} (h : Fr W A B) (g : ∀ k i, W k i → V k i) : Fr V A B := fun k i hk => h k i (fun w => hk (g k i w))
theorem Fr.i {W : Nat → Nat → Prop} {A B : Mem} (h : Fr W A B) {k i : Nat} {v : Int32} (hw : W k i) : Fr W A (s_i B k i v) := fun a b hk => (si_ne (fun e => hk (by rw [e.1, e.2]; exact hw))).trans (h a b hk)
theorem PF.fr {W : Nat → Nat → Prop} {M N : Mem} (h : PF M N) (g1 : W 162 17) (g2 : W 162 18) : Fr W M N := fun k i hk => h.1 k i (fun e => hk (by rcases e with ⟨rfl, rfl | rfl⟩ <;> assumption))
theorem Fr.ti {W : Nat → Nat → Prop} {M N : Mem} (h : Fr W M N) {k i : Nat} (hk : ¬ W k i) : (N.1 k i).toInt = (M.1 k i).toInt := congrArg Int32.toInt (h k i hk)
abbrev W18 (k i : Nat) : Prop := k = 162 ∧ 14 ≤ i ∧ i ≤ 18
theorem sp_begin {M : Mem} (h : J M) (v1 : Nat) (n top : Int32) (hv : (v1 = 167 ∧ 0 ≤ n.toInt ∧ n.toInt ≤ 80 ∧ 0 ≤ top.toInt ∧ top.toInt ≤ 80) ∨ (v1 = 172 ∧ 0 ≤ n.toInt ∧ n.toInt ≤ 40 ∧ 0 ≤ top.toInt ∧ top.toInt ≤ 40)) :
    ∃ r, f_Mod_begin v1 n top M = some r ∧ PI r ∧ Fr W18 M r ∧ xA r = 0 ∧ xW r = -1 ∧ xL r = n.toInt ∧ xT r = top.toInt := by
  unfold f_Mod_begin
  refine c_i (by rcases hv with ⟨rfl, _⟩ | ⟨rfl, _⟩ <;> decide +kernel) ?_
  refine mem_i (fun M1 e1 => mem_i (fun M2 e2 => mem_i (fun M3 e3 => mem_i (fun M4 e4 => mem_i (fun M5 e5 => ⟨_, rfl, ?_⟩)))))
  have j1 : Jr M1 := by rw [e1]; exact h.1
  have j2 : Jr M2 := by rw [e2]; exact Jr_si j1 (show (0 : Int) ≤ n.toInt by rcases hv with hv | hv <;> omega) (show n.toInt ≤ 80 by rcases hv with hv | hv <;> omega)
  have j3 : Jr M3 := by rw [e3]; exact Jr_si j2 (show (0 : Int) ≤ top.toInt by rcases hv with hv | hv <;> omega) (show top.toInt ≤ 80 by rcases hv with hv | hv <;> omega)
  have j4 : Jr M4 := by rw [e4]; exact Jr_si j3 (show (0 : Int) ≤ (0 : Int32).toInt by decide) (show (0 : Int32).toInt ≤ 81 by decide)
  have j5 : Jr M5 := by rw [e5]; exact Jr_si j4 (i32lo _) (i32hi _)
  have f1 : Fr W18 M M1 := by rw [e1]; exact fun _ _ _ => rfl
  have f2 : Fr W18 M M2 := by rw [e2]; exact f1.i ⟨rfl, by decide, by decide⟩
  have f3 : Fr W18 M M3 := by rw [e3]; exact f2.i ⟨rfl, by decide, by decide⟩
  have f4 : Fr W18 M M4 := by rw [e4]; exact f3.i ⟨rfl, by decide, by decide⟩
  have f5 : Fr W18 M M5 := by rw [e5]; exact f4.i ⟨rfl, by decide, by decide⟩
  have q5 : M5.2.2 = M1.2.2 := by rw [e5, e4, e3, e2]; rfl
  have q14 : M5.2.2 162 14 = some v1 := by rw [q5, e1]; simp [s_q]
  have qo : ∀ k i, ¬ (k = 162 ∧ i = 14) → M5.2.2 k i = M.2.2 k i := by
    intro k i hk; rw [q5, e1]; simp only [s_q, if_neg hk]
  have t16 : xT M5 = top.toInt := by rw [xT, e5, si_ne (by decide), e4, si_ne (by decide), e3, si_eq]
  have t15 : xL M5 = n.toInt := by rw [xL, e5, si_ne (by decide), e4, si_ne (by decide), e3, si_ne (by decide), e2, si_eq]
  have t17 : xA M5 = 0 := by rw [xA, e5, si_ne (by decide), e4, si_eq]; rfl
  have t18 : xW M5 = -1 := by rw [xW, e5, si_eq]; rfl
  have hJ : J M5 := by
    refine ⟨j5, ?_, ?_, ?_, ?_, ?_⟩
    · obtain ⟨z, hz⟩ := h.2.1
      exact ⟨z, by rw [f5 3 3 (by decide), f5 3 2 (by decide), hz]⟩
    · refine ⟨fun i hi => ?_, fun i hi => ?_⟩
      · rw [qo 47 i (by omega)]; exact h.2.2.1.1 i hi
      · rw [qo 48 i (by omega)]; exact h.2.2.1.2 i hi
    · rcases hv with ⟨rfl, _⟩ | ⟨rfl, _, _, _, _⟩
      · exact .inl q14
      · exact .inr (.inl ⟨q14, by have : xT M5 ≤ 40 := by omega
                                  exact this⟩)
    · rw [qo 162 24 (by decide)]; exact h.2.2.2.2.1
    · intro p hp
      rw [f5 162 4 (by decide)] at hp
      rw [f5 166 p (by intro e; exact absurd e.1 (by decide))]
      exact h.2.2.2.2.2 p hp
  exact ⟨⟨hJ, fun _ => by rcases hv with hv | hv <;> omega⟩, f5, t17, t18, t15, t16⟩
theorem sp_stepOf (c : Int32) : ∃ r, f_Mod_stepOf c = some r ∧ (r = -1 ∨ (c.toInt ≠ -1 ∧ 0 ≤ r.toInt ∧ r.toInt ≤ 4)) := by
  unfold f_Mod_stepOf
  refine if_i (fun c => ⟨_, rfl, .inr ?_⟩) (fun _ => if_i (fun c => ⟨_, rfl, .inr ?_⟩) (fun _ => if_i (fun c => ⟨_, rfl, .inr ?_⟩) (fun _ => if_i (fun c => ⟨_, rfl, .inr ?_⟩) (fun _ => if_i (fun c => ⟨_, rfl, .inr ?_⟩) (fun _ => ⟨_, rfl, .inl rfl⟩)))))
  all_goals (subst c; decide)
theorem sp_kindOf (c : Int32) : ∃ r, f_Mod_kindOf c = some r ∧ (r = -1 ∨ (c.toInt ≠ -1 ∧ 0 ≤ r.toInt ∧ r.toInt ≤ 3)) := by
  unfold f_Mod_kindOf
  refine if_i (fun c => ⟨_, rfl, .inr ?_⟩) (fun _ => if_i (fun c => ⟨_, rfl, .inr ?_⟩) (fun _ => if_i (fun c => ⟨_, rfl, .inr ?_⟩) (fun _ => if_i (fun c => ⟨_, rfl, .inr ?_⟩) (fun _ => ⟨_, rfl, .inl rfl⟩))))
  all_goals (subst c; decide)
/-- where readRoute writes: at, wrong, nine of the row -/
abbrev WR (a : Nat) (b : Int) (k i : Nat) : Prop := (k = 162 ∧ (i = 17 ∨ i = 18)) ∨ (k = a ∧ b ≤ i ∧ i < b + 9)
theorem tcn' (i : Int32) : i.toNatClampNeg = i.toInt.toNat := rfl
theorem sl_readRoute {M : Mem} (h : PI M) (a : Nat) (ha : a = 170 ∨ a = 171) (b : Int32) (hb : 0 ≤ b.toInt) (hl : b.toInt + 9 ≤ ln a) (hln : ln a ≤ 96) :
    ∃ x, iter (lb_Mod_readRoute_2 a b) FU ((0 : Int32), M) = some x ∧ (PI x.2 ∧ Fr (WR a b.toInt) M x.2 ∧ x.2.2 = M.2 ∧ xA M ≤ xA x.2 ∧ 0 ≤ x.1.toInt ∧ x.1.toInt ≤ 9 ∧ (xW x.2 = -1 → xW M = -1) ∧ (xW x.2 = -1 → xA x.2 = xA M + x.1.toInt)) := by
  refine iter_r (fun s : Int32 × Mem => PI s.2 ∧ Fr (WR a b.toInt) M s.2 ∧ s.2.2 = M.2 ∧ xA M ≤ xA s.2 ∧ 0 ≤ s.1.toInt ∧ s.1.toInt ≤ 9 ∧ (xW s.2 = -1 → xW M = -1) ∧ (xW s.2 = -1 → xA s.2 = xA M + s.1.toInt)) (fun s : Int32 × Mem => (2 * (82 - xA s.2) + (if xW s.2 = -1 then 1 else 0)).toNat) _ ?_ FU _ ⟨h, Fr.r, rfl, Int.le_refl _, (by show (0 : Int) ≤ (0 : Int32).toInt; decide), (by show (0 : Int32).toInt ≤ 9; decide), fun e => e, fun _ => (by show xA M = xA M + 0; omega)⟩ (by have := aA h.1; show (2 * (82 - xA M) + (if xW M = -1 then 1 else 0)).toNat < FU; rw [FU_v]; split <;> omega)
  rintro ⟨n, N⟩ ⟨i1, i2, i3, i4, i5, i6, i7, i8⟩
  dsimp only at i1 i2 i3 i4 i5 i6 i7 i8
  have z1 := aA i1.1
  have z2 := aL i1.1
  unfold lb_Mod_readRoute_2
  dsimp only
  refine bind_i (sp_fine N) (fun x1 _ q1 => ?_)
  rcases q1 with ⟨q1, rfl⟩ | ⟨q1, rfl⟩
  · refine if_i (fun c => absurd c (by decide)) (fun _ => ?_)
    refine bind_i (sp_here i1.1) (fun x2 ex2 q2 => ?_)
    refine bind_i (sp_stepOf x2) (fun x3 ex3 q3 => ?_)
    refine if_i (fun c => ⟨_, rfl, i1, i2, i3, i4, i5, i6, i7, i8⟩) (fun c => ?_)
    rcases q3 with q3 | ⟨q3, q4, q5⟩
    · exact absurd q3 c
    have hl2 := q2 q3
    refine if_i (fun c9 => ?_) (fun c9 => ?_)
    · refine bind_i (sp_faultA i1.1) (fun y _ q => ⟨_, rfl, ⟨q.1, i2.t (q.2.1.fr (.inl ⟨rfl, .inl rfl⟩) (.inl ⟨rfl, .inr rfl⟩)), q.2.1.2.trans i3, ?_, i5, i6, fun e => absurd e q.2.2.2, fun e => absurd e q.2.2.2⟩, ?_⟩)
      · show xA M ≤ xA y; have := q.2.2.1; omega
      · show (2 * (82 - xA y) + (if xW y = -1 then 1 else 0)).toNat < (2 * (82 - xA N) + (if xW N = -1 then 1 else 0)).toNat
        rw [if_neg q.2.2.2, if_pos q1, q.2.2.1]; omega
    · have d9 := neqi.mp c9
      have k9 : (9 : Int32).toInt = 9 := rfl
      rw [k9] at d9
      refine bind_i (Q := fun y => y = x2) ⟨x2, ex2, rfl⟩ (fun x4 _ e4 => ?_)
      subst e4
      refine bind_i (Q := fun y => y = x3) ⟨x3, ex3, rfl⟩ (fun x5 _ e5 => ?_)
      subst e5
      have es : (b + n).toInt = b.toInt + n.toInt := add_ti rfl rfl (by omega) (by omega)
      refine inb_i (by omega) (by omega) ?_
      refine mem_i (fun M6 e6 => mem_i (fun M7 e7 => ⟨_, rfl, ?_⟩))
      have j6 : J M6 := by rw [e6]; exact Jw_any (by rcases ha with rfl | rfl <;> decide +kernel) i1.1 _ _
      have hne : a ≠ 162 := by rcases ha with rfl | rfl <;> decide
      have A6 : xA M6 = xA N := by rw [xA, e6, si_ne (fun e => hne e.1.symm)]
      have W6 : xW M6 = xW N := by rw [xW, e6, si_ne (fun e => hne e.1.symm)]
      have L6 : xL M6 = xL N := by rw [xL, e6, si_ne (fun e => hne e.1.symm)]
      obtain ⟨g1, g2⟩ := at1 j6 (by omega)
      rw [← e7] at g1 g2
      have W7 : xW M7 = xW N := by rw [e7]; exact (at1W _).trans W6
      have L7 : xL M7 = xL N := by rw [e7]; exact (at1L _).trans L6
      have en : (n + (1 : Int32)).toInt = n.toInt + 1 := add_ti rfl rfl (by omega) (by omega)
      have f6 : Fr (WR a b.toInt) M M6 := by
        rw [e6]; refine i2.i (.inr ⟨rfl, ?_, ?_⟩) <;> rw [tcn', es] <;> omega
      refine ⟨⟨⟨g1, fun _ => by show xA M7 ≤ xL M7; omega⟩, ?_, ?_, ?_, ?_, ?_, ?_, ?_⟩, ?_⟩
      · show Fr _ M M7; rw [e7]; exact f6.i (.inl ⟨rfl, .inl rfl⟩)
      · show M7.2 = M.2; rw [e7, e6]; exact i3
      · show xA M ≤ xA M7; omega
      · show 0 ≤ (n + (1 : Int32)).toInt; omega
      · show (n + (1 : Int32)).toInt ≤ 9; omega
      · intro _; exact i7 q1
      · intro _; show xA M7 = xA M + (n + (1 : Int32)).toInt; have := i8 q1; omega
      · show (2 * (82 - xA M7) + (if xW M7 = -1 then 1 else 0)).toNat < (2 * (82 - xA N) + (if xW N = -1 then 1 else 0)).toNat
        rw [W7, if_pos q1, g2, A6]; omega
  · refine if_i (fun _ => ⟨_, rfl, i1, i2, i3, i4, i5, i6, i7, i8⟩) (fun c => absurd rfl c)
theorem sp_readRoute {M : Mem} (h : PI M) (a : Nat) (ha : a = 170 ∨ a = 171) (b : Int32) (hb : 0 ≤ b.toInt) (hl : b.toInt + 9 ≤ ln a) (hln : ln a ≤ 96) :
    ∃ r, f_Mod_readRoute a b M = some r ∧ PI r.2 ∧ Fr (WR a b.toInt) M r.2 ∧ r.2.2 = M.2 ∧ xA M ≤ xA r.2 ∧ 0 ≤ r.1.toInt ∧ r.1.toInt ≤ 9 ∧ (xW r.2 = -1 → xW M = -1 ∧ 1 ≤ r.1.toInt ∧ xA r.2 = xA M + r.1.toInt) := by
  unfold f_Mod_readRoute
  refine c_i (by rcases ha with rfl | rfl <;> decide +kernel) ?_
  refine bind_i (sl_readRoute h a ha b hb hl hln) (fun x _ q => ?_)
  obtain ⟨q1, q2, q3, q4, q5, q6, q7, q8⟩ := q
  unfold j_Mod_readRoute_65
  refine if_i (fun c => ?_) (fun c => ⟨_, rfl, q1, q2, q3, q4, q5, q6, fun e => ⟨q7 e, ?_, q8 e⟩⟩)
  · refine bind_i (sp_faultA q1.1) (fun y _ q => ⟨_, rfl, q.1, q2.t (q.2.1.fr (.inl ⟨rfl, .inl rfl⟩) (.inl ⟨rfl, .inr rfl⟩)), q.2.1.2.trans q3, ?_, q5, q6, fun e => absurd e q.2.2.2⟩)
    show xA M ≤ xA y; have := q.2.2.1; omega
  · have := neqi.mp c
    have z : (0 : Int32).toInt = 0 := rfl
    show 1 ≤ x.1.toInt
    omega
/-! the reference: cells, a LINE of THE FOLK; safety -/
abbrev xw (M : Mem) : Int := (M.1 162 2).toInt
abbrev xh (M : Mem) : Int := (M.1 162 3).toInt
theorem aw {M : Mem} (h : J M) : 1 ≤ xw M ∧ xw M ≤ 6 := Jr_162_2 h
theorem ah {M : Mem} (h : J M) : 1 ≤ xh M ∧ xh M ≤ 6 := Jr_162_3 h
theorem mul66 {a b : Int} (h1 : 1 ≤ a) (h2 : a ≤ 6) (h3 : 1 ≤ b) (h4 : b ≤ 6) : 1 ≤ a * b ∧ a * b ≤ 36 := by
  have : b = 1 ∨ b = 2 ∨ b = 3 ∨ b = 4 ∨ b = 5 ∨ b = 6 := by omega
  rcases this with rfl | rfl | rfl | rfl | rfl | rfl <;> omega
theorem awh {M : Mem} (h : J M) : 1 ≤ xw M * xh M ∧ xw M * xh M ≤ 36 := mul66 (aw h).1 (aw h).2 (ah h).1 (ah h).2
theorem wh_ti {M : Mem} (h : J M) : ((M.1 162 2) * (M.1 162 3)).toInt = xw M * xh M := mul_ti rfl rfl (by have := awh h; show -2147483648 ≤ xw M * xh M; omega) (by have := awh h; show xw M * xh M ≤ 2147483647; omega)
theorem sp_isCell {M : Mem} (h : J M) (v : Int32) : ∃ r, f_Mod_isCell v M = some r ∧ ((r = 1 ∧ 0 ≤ v.toInt ∧ v.toInt ≤ 35 ∧ v.toInt < xw M * xh M) ∨ (r = 0 ∧ ¬ (0 ≤ v.toInt ∧ v.toInt < xw M * xh M))) := by
  have a := awh h
  unfold f_Mod_isCell f_Mod_cells
  rw [Option.bind_some]
  have e : ((M.1 162 2) * (M.1 162 3) - (1 : Int32)).toInt = xw M * xh M - 1 := sub_ti (wh_ti h) rfl (by omega) (by omega)
  refine bind_i (sp_in v 0 _) (fun x _ q => ?_)
  have z : (0 : Int32).toInt = 0 := rfl
  rcases q with ⟨rfl, q1, q2⟩ | ⟨rfl, q⟩
  · refine c_i (.inr rfl) ⟨_, rfl, .inl ⟨rfl, ?_⟩⟩
    omega
  · refine c_i (.inl rfl) ⟨_, rfl, .inr ⟨rfl, ?_⟩⟩
    omega
theorem sp_isOf {M : Mem} (h : J M) (l v : Int32) : ∃ r, f_Mod_isOf l v M = some r ∧ ((r = 1 ∧ 0 ≤ v.toInt ∧ v.toInt ≤ 35 ∧ v.toInt < xw M * xh M) ∨ r = 0) := by
  unfold f_Mod_isOf
  refine bind_i (sp_isCell h v) (fun x _ q => ?_)
  rcases q with ⟨rfl, q1, q2, q3⟩ | ⟨rfl, q⟩
  · refine if_i (fun c => absurd c (by decide)) (fun _ => ?_)
    refine if_i (fun _ => ?_) (fun _ => ?_)
    all_goals
      refine inb_i q1 (by omega) ?_
      refine if_i (fun _ => ⟨_, rfl, .inl ⟨rfl, q1, q2, q3⟩⟩) (fun _ => ?_)
      refine inb_i q1 (by omega) ?_
      refine if_i (fun _ => ⟨_, rfl, .inl ⟨rfl, q1, q2, q3⟩⟩) (fun _ => ⟨_, rfl, .inr rfl⟩)
  · exact if_i (fun _ => ⟨_, rfl, .inr rfl⟩) (fun c => absurd rfl c)
abbrev WO (b : Int) (k i : Nat) : Prop := (k = 162 ∧ (i = 17 ∨ i = 18)) ∨ (k = 170 ∧ b ≤ i ∧ i < b + 12)
theorem tc_add {v c : Int32} {n : Nat} (hc : c.toInt = n) (h1 : 0 ≤ v.toInt) (h2 : v.toInt ≤ 2000) (hn : n ≤ 2000) : (v + c).toNatClampNeg = v.toInt.toNat + n := by
  have e : (v + c).toInt = v.toInt + n := add_ti rfl hc (by omega) (by omega)
  rw [tcn', e]; omega
/-- what a LINE left in 'comes' at b -/
def Cm (M : Mem) (b : Nat) : Prop := (0 ≤ (M.1 170 b).toInt ∧ (M.1 170 b).toInt ≤ 1) ∧ (0 ≤ (M.1 170 (b + 1)).toInt ∧ (M.1 170 (b + 1)).toInt ≤ 35) ∧ (1 ≤ (M.1 170 (b + 2)).toInt ∧ (M.1 170 (b + 2)).toInt ≤ 9)
theorem sp_readOne107 {M : Mem} (h : PI M) (v : Int32) (hv : 0 ≤ v.toInt) (hv2 : v.toInt ≤ 84) : ∃ r, j_Mod_readOne_107 v M = some r ∧ PI r ∧ Fr (WO v.toInt) M r ∧ r.2 = M.2 ∧ xA M ≤ xA r ∧ (∀ i, i < v.toInt.toNat + 2 → r.1 170 i = M.1 170 i) ∧ (xW r = -1 → xW M = -1 ∧ 1 ≤ (r.1 170 (v.toInt.toNat + 2)).toInt ∧ (r.1 170 (v.toInt.toNat + 2)).toInt ≤ 9) := by
  unfold j_Mod_readOne_107
  refine bind_i (sp_need h 58 (by decide)) (fun x8 _ q => ?_)
  obtain ⟨a1, a2, a3, a4, a5⟩ := q
  have e3 : (v + (3 : Int32)).toInt = v.toInt + 3 := add_ti rfl rfl (by omega) (by omega)
  have l170 : ln 170 = 96 := by decide +kernel
  refine bind_i (sp_readRoute a1 170 (.inl rfl) (v + (3 : Int32)) (by omega) (by omega) (by omega)) (fun x9 _ q => ?_)
  obtain ⟨b1, b2, b3, b4, b5, b6, b7⟩ := q
  have e2 : (v + (2 : Int32)).toInt = v.toInt + 2 := add_ti rfl rfl (by omega) (by omega)
  refine inb_i (by omega) (by omega) ?_
  refine mem_i (fun m e => ⟨_, rfl, ?_⟩)
  have t2 : (v + (2 : Int32)).toNatClampNeg = v.toInt.toNat + 2 := tc_add rfl hv (by omega) (by omega)
  have A : xA m = xA x9.2 := by rw [xA, e, si_ne (by intro e; exact absurd e.1 (by decide))]
  have Wm : xW m = xW x9.2 := by rw [xW, e, si_ne (by intro e; exact absurd e.1 (by decide))]
  have L : xL m = xL x9.2 := by rw [xL, e, si_ne (by intro e; exact absurd e.1 (by decide))]
  have f9 : Fr (WO v.toInt) M x9.2 := (a2.fr (.inl ⟨rfl, .inl rfl⟩) (.inl ⟨rfl, .inr rfl⟩)).t (b2.m (fun k i w => by
    rcases w with w | ⟨rfl, w1, w2⟩
    · exact .inl w
    · exact .inr ⟨rfl, by omega, by omega⟩))
  refine ⟨⟨by rw [e]; exact Jw_any ok_170 b1.1 _ _, fun w => by rw [A, L]; exact b1.2 (Wm ▸ w)⟩, ?_, ?_, by omega, ?_, ?_⟩
  · rw [e]; exact f9.i (.inr ⟨rfl, by rw [t2]; omega, by rw [t2]; omega⟩)
  · rw [e]; show x9.2.2 = _; rw [b3]; exact a2.2
  · intro i hi
    rw [e, si_ne (by rw [t2]; intro w; omega)]
    rw [b2 170 i (by rintro (w | w) <;> omega)]
    exact a2.1 170 i (by omega)
  · intro w
    obtain ⟨w1, w2, w3⟩ := b7 (Wm ▸ w)
    obtain ⟨w4, w5⟩ := a5 w1
    refine ⟨w4, ?_⟩
    rw [e, t2, si_eq]
    exact ⟨w2, b6⟩
theorem sp_readOne46 {M : Mem} (h : J M) (v : Int32) (hv : 0 ≤ v.toInt) (hv2 : v.toInt ≤ 84) (ha : xW M = -1 → xA M < xL M) (hA : xA M ≤ 80) : ∃ r, j_Mod_readOne_46 v M = some r ∧ PI r ∧ Fr (WO v.toInt) M r ∧ r.2 = M.2 ∧ xA M < xA r ∧ r.1 170 v.toInt.toNat = M.1 170 v.toInt.toNat ∧ (xW r = -1 → xW M = -1 ∧ (0 ≤ (r.1 170 (v.toInt.toNat + 1)).toInt ∧ (r.1 170 (v.toInt.toNat + 1)).toInt ≤ 35) ∧ 1 ≤ (r.1 170 (v.toInt.toNat + 2)).toInt ∧ (r.1 170 (v.toInt.toNat + 2)).toInt ≤ 9) := by
  have t0 : v.toNatClampNeg = v.toInt.toNat := rfl
  have t1 : (v + (1 : Int32)).toNatClampNeg = v.toInt.toNat + 1 := tc_add rfl hv (by omega) (by omega)
  have e1 : (v + (1 : Int32)).toInt = v.toInt + 1 := add_ti rfl rfl (by omega) (by omega)
  unfold j_Mod_readOne_46
  refine mem_i (fun M4 e4 => ?_)
  obtain ⟨g1, g2⟩ := at1 h hA
  rw [← e4] at g1 g2
  have W4 : xW M4 = xW M := by rw [e4]; exact at1W _
  have L4 : xL M4 = xL M := by rw [e4]; exact at1L _
  have h4 : PI M4 := ⟨g1, fun w => by have := ha (W4 ▸ w); omega⟩
  have f4 : Fr (WO v.toInt) M M4 := by rw [e4]; exact Fr.r.i (.inl ⟨rfl, .inl rfl⟩)
  have q4 : M4.2 = M.2 := by rw [e4]; rfl
  refine bind_i (sp_number h4 2 (by decide) (by decide)) (fun x5 _ q => ?_)
  obtain ⟨a1, a2, a3, a4, a5, a6, a7⟩ := q
  refine inb_i (by omega) (by omega) ?_
  refine mem_i (fun M6 e6 => ?_)
  have A6 : xA M6 = xA x5.2 := by rw [xA, e6, si_ne (by intro e; exact absurd e.1 (by decide))]
  have W6 : xW M6 = xW x5.2 := by rw [xW, e6, si_ne (by intro e; exact absurd e.1 (by decide))]
  have L6 : xL M6 = xL x5.2 := by rw [xL, e6, si_ne (by intro e; exact absurd e.1 (by decide))]
  have h6 : PI M6 := ⟨by rw [e6]; exact Jw_any ok_170 a1.1 _ _, fun w => by rw [A6, L6]; exact a1.2 (W6 ▸ w)⟩
  have f6 : Fr (WO v.toInt) M M6 := by
    rw [e6]
    exact (f4.t (a2.fr (.inl ⟨rfl, .inl rfl⟩) (.inl ⟨rfl, .inr rfl⟩))).i (.inr ⟨rfl, by rw [t1]; omega, by rw [t1]; omega⟩)
  have q6 : M6.2 = M.2 := by rw [e6]; show x5.2.2 = _; rw [a2.2, q4]
  have c0 : M6.1 170 v.toInt.toNat = M.1 170 v.toInt.toNat := by
    rw [e6, si_ne (by rw [t1]; intro w; omega), a2.1 170 _ (by omega), e4, si_ne (by intro e; exact absurd e.1 (by decide))]
  have c1 : M6.1 170 (v.toInt.toNat + 1) = x5.1 := by rw [e6, t1, si_eq]
  have fin : ∀ N, PI N → Fr (WO v.toInt) M N → N.2 = M.2 → xA M < xA N → N.1 170 v.toInt.toNat = M.1 170 v.toInt.toNat → (xW N = -1 → xW M = -1 ∧ (0 ≤ (N.1 170 (v.toInt.toNat + 1)).toInt ∧ (N.1 170 (v.toInt.toNat + 1)).toInt ≤ 35)) → ∃ r, j_Mod_readOne_107 v N = some r ∧ PI r ∧ Fr (WO v.toInt) M r ∧ r.2 = M.2 ∧ xA M < xA r ∧ r.1 170 v.toInt.toNat = M.1 170 v.toInt.toNat ∧ (xW r = -1 → xW M = -1 ∧ (0 ≤ (r.1 170 (v.toInt.toNat + 1)).toInt ∧ (r.1 170 (v.toInt.toNat + 1)).toInt ≤ 35) ∧ 1 ≤ (r.1 170 (v.toInt.toNat + 2)).toInt ∧ (r.1 170 (v.toInt.toNat + 2)).toInt ≤ 9) := by
    intro N n1 n2 n3 n4 n5 n6
    obtain ⟨r, er, b1, b2, b3, b4, b5, b6⟩ := sp_readOne107 n1 v hv hv2
    refine ⟨r, er, b1, n2.t b2, b3.trans n3, by omega, (b5 _ (by omega)).trans n5, fun w => ?_⟩
    obtain ⟨w1, w2⟩ := b6 w
    rw [b5 (v.toInt.toNat + 1) (by omega)]
    exact ⟨(n6 w1).1, (n6 w1).2, w2⟩
  refine bind_i (sp_fine M6) (fun x7 _ q => ?_)
  rcases q with ⟨q1, rfl⟩ | ⟨q1, rfl⟩
  · refine if_i (fun c => absurd c (by decide)) (fun _ => ?_)
    refine inb_i hv (by omega) ?_
    refine inb_i (by omega) (by omega) ?_
    refine bind_i (sp_isOf h6.1 _ _) (fun x11 _ q => ?_)
    rw [t1, c1] at q
    rcases q with ⟨rfl, s1, s2, s3⟩ | rfl
    · refine if_i (fun c => absurd c (by decide)) (fun _ => ?_)
      exact fin M6 h6 f6 q6 (by omega) c0 (fun _ => ⟨W4 ▸ (a7 (W6 ▸ q1)).1, by rw [c1]; exact ⟨s1, s2⟩⟩)
    · refine if_i (fun _ => ?_) (fun c => absurd rfl c)
      have zA := aA h6.1
      have es : ((M6.1 162 17) - (1 : Int32)).toInt = xA M6 - 1 := sub_ti rfl rfl (by show -2147483648 ≤ xA M6 - 1; omega) (by show xA M6 - 1 ≤ _; omega)
      refine bind_i (sp_fault h6.1 ((M6.1 162 17) - (1 : Int32)) (by have := aA h; omega)) (fun y _ q => ?_)
      obtain ⟨s1, s2, s3, s4⟩ := q
      exact fin y (PI_of_bad s1 s4) (f6.t (s2.fr (.inl ⟨rfl, .inl rfl⟩) (.inl ⟨rfl, .inr rfl⟩))) (s2.2.trans q6) (by omega) ((s2.1 170 _ (by omega)).trans c0) (fun w => absurd w s4)
  · refine if_i (fun _ => fin M6 h6 f6 q6 (by omega) c0 (fun w => absurd w q1)) (fun c => absurd rfl c)
theorem sp_readOne {M : Mem} (h : PI M) (v : Int32) (hv : 0 ≤ v.toInt) (hv2 : v.toInt ≤ 84) (hw : xW M = -1) : ∃ r, f_Mod_readOne v M = some r ∧ PI r ∧ Fr (WO v.toInt) M r ∧ r.2 = M.2 ∧ xA M < xA r ∧ (xW r = -1 → Cm r v.toInt.toNat) := by
  have t0 : v.toNatClampNeg = v.toInt.toNat := rfl
  have zl := aL h.1
  have za := h.2 hw
  have key : ∀ w0 : Int32, 0 ≤ w0.toInt → w0.toInt ≤ 1 → ∃ r, j_Mod_readOne_19 v w0 v M = some r ∧ PI r ∧ Fr (WO v.toInt) M r ∧ r.2 = M.2 ∧ xA M < xA r ∧ (xW r = -1 → Cm r v.toInt.toNat) := by
    intro w0 u1 u2
    unfold j_Mod_readOne_19
    refine inb_i hv (by omega) ?_
    refine mem_i (fun M2 e2 => ?_)
    have A2 : xA M2 = xA M := by rw [xA, e2, si_ne (by intro e; exact absurd e.1 (by decide))]
    have W2 : xW M2 = xW M := by rw [xW, e2, si_ne (by intro e; exact absurd e.1 (by decide))]
    have L2 : xL M2 = xL M := by rw [xL, e2, si_ne (by intro e; exact absurd e.1 (by decide))]
    have h2 : J M2 := by rw [e2]; exact Jw_any ok_170 h.1 _ _
    have f2 : Fr (WO v.toInt) M M2 := by rw [e2]; exact Fr.r.i (.inr ⟨rfl, by rw [t0]; omega, by rw [t0]; omega⟩)
    have q2 : M2.2 = M.2 := by rw [e2]; rfl
    have c0 : M2.1 170 v.toInt.toNat = w0 := by rw [e2, t0, si_eq]
    have fin : ∀ N, J N → Fr (WO v.toInt) M N → N.2 = M.2 → xA N = xA M → (xW N = -1 → xA N < xL N) → N.1 170 v.toInt.toNat = w0 → ∃ r, j_Mod_readOne_46 v N = some r ∧ PI r ∧ Fr (WO v.toInt) M r ∧ r.2 = M.2 ∧ xA M < xA r ∧ (xW r = -1 → Cm r v.toInt.toNat) := by
      intro N n1 n2 n3 n4 n5 n6
      obtain ⟨r, er, b1, b2, b3, b4, b5, b6⟩ := sp_readOne46 n1 v hv hv2 n5 (by omega)
      refine ⟨r, er, b1, n2.t b2, b3.trans n3, by omega, fun w => ?_⟩
      obtain ⟨w1, w2, w3⟩ := b6 w
      exact ⟨by rw [b5, n6]; exact ⟨u1, u2⟩, w2, w3⟩
    refine bind_i (sp_here h2) (fun x3 _ s3 => ?_)
    refine if_i (fun c => fin M2 h2 f2 q2 A2 (fun _ => (s3 (by subst c; decide)).1) c0) (fun _ => ?_)
    refine bind_i (sp_here h2) (fun x15 _ s15 => ?_)
    refine if_i (fun c => fin M2 h2 f2 q2 A2 (fun _ => (s15 (by subst c; decide)).1) c0) (fun _ => ?_)
    refine bind_i (sp_faultA h2) (fun y _ q => ?_)
    obtain ⟨s1, s2, s3, s4⟩ := q
    exact fin y s1.1 (f2.t (s2.fr (.inl ⟨rfl, .inl rfl⟩) (.inl ⟨rfl, .inr rfl⟩))) (s2.2.trans q2) (by omega) (fun w => absurd w s4) ((s2.1 170 _ (by omega)).trans c0)
  unfold f_Mod_readOne
  refine bind_i (sp_here h.1) (fun x1 _ _ => ?_)
  exact if_i (fun _ => key 1 (by decide) (by decide)) (fun _ => key 0 (by decide) (by decide))
end
section
/-! the reference: town; safety -/
theorem J166 {M : Mem} (h : J M) (i : Nat) (v : Int32) (h1 : 1 ≤ v.toInt) (h2 : v.toInt ≤ 9) : J (s_i M 166 i v) := by
  refine ⟨Jr_si h.1 (show (0 : Int) ≤ v.toInt by omega) h2, K1_si h.2.1 (by decide), h.2.2.1, ?_, h.2.2.2.2.1, fun p hp => ?_⟩
  · rw [si_ne (by intro e; exact absurd e.1 (by decide)), si_ne (by intro e; exact absurd e.1 (by decide))]; exact h.2.2.2.1
  · rw [si_ne (by intro e; exact absurd e.1 (by decide))] at hp
    by_cases e : p = i
    · rw [e, si_eq]; exact h1
    · rw [si_ne (fun w => e w.2)]; exact h.2.2.2.2.2 p hp
theorem JP {M : Mem} (h : J M) (v : Int32) (h1 : 0 ≤ v.toInt) (h2 : v.toInt ≤ 8) (hr : ∀ p : Nat, (p : Int) < v.toInt → 1 ≤ (M.1 166 p).toInt) : J (s_i M 162 4 v) := by
  refine ⟨Jr_si h.1 h1 h2, K1_si h.2.1 (by decide), h.2.2.1, ?_, h.2.2.2.2.1, fun p hp => ?_⟩
  · rw [si_ne (by decide), si_ne (by decide)]; exact h.2.2.2.1
  · rw [si_eq] at hp
    rw [si_ne (by intro e; exact absurd e.1 (by decide))]
    exact hr p hp
theorem reg_has0 (i : Nat) : (reg i).1 ≤ 0 ∧ 0 ≤ (reg i).2 := by
  unfold reg FUL
  split
  · decide
  split
  · decide
  split
  · decide
  split
  · decide
  split
  · decide
  split <;> decide
theorem Jst_0 {M : Mem} (h : J M) {k : Nat} (hs : stb k = true) (i : Nat) : J (s_i M k i 0) := Jwreg h hs i 0 (reg_has0 _).1 (reg_has0 _).2
theorem cnt_r {X : Type} {f : Int32 × Mem → Option ((Int32 × Mem) ⊕ X)} (Q : X → Prop) (I : Int → Mem → Prop) (n : Int) (hn2 : n ≤ 1000000) (hs : ∀ (k : Int32) (N : Mem), 0 ≤ k.toInt → k.toInt ≤ n → I k.toInt N → ∃ r, f (k, N) = some r ∧ ((∃ x, r = .inr x ∧ Q x) ∨ (k.toInt < n ∧ ∃ N', r = .inl (k + (1 : Int32), N') ∧ I (k.toInt + 1) N'))) (M : Mem) (h0 : I 0 M) (hn : 0 ≤ n) : ∃ x, iter f FU ((0 : Int32), M) = some x ∧ Q x := by
  refine iter_r (fun s : Int32 × Mem => 0 ≤ s.1.toInt ∧ s.1.toInt ≤ n ∧ I s.1.toInt s.2) (fun s : Int32 × Mem => (n - s.1.toInt).toNat) Q ?_ FU _ ⟨by show (0 : Int) ≤ (0 : Int32).toInt; decide, hn, h0⟩ (by show (n - 0).toNat < FU; rw [FU_v]; omega)
  rintro ⟨k, N⟩ ⟨i1, i2, i3⟩
  obtain ⟨r, e, hr⟩ := hs k N i1 i2 i3
  refine ⟨r, e, ?_⟩
  rcases hr with ⟨x, rfl, hx⟩ | ⟨h1, N', rfl, h2⟩
  · exact hx
  · have i1' : (0 : Int) ≤ k.toInt := i1
    have ek : (k + (1 : Int32)).toInt = k.toInt + 1 := add_ti rfl rfl (by omega) (by omega)
    refine ⟨⟨?_, ?_, ?_⟩, ?_⟩
    · show 0 ≤ (k + (1 : Int32)).toInt; omega
    · show (k + (1 : Int32)).toInt ≤ n; omega
    · show I (k + (1 : Int32)).toInt N'; rw [ek]; exact h2
    · show (n - (k + (1 : Int32)).toInt).toNat < (n - k.toInt).toNat; omega
abbrev WT (k i : Nat) : Prop := (k = 162 ∧ (i = 17 ∨ i = 18)) ∨ k = 169
theorem PF.wt {M N : Mem} (h : PF M N) : Fr WT M N := h.fr (.inl ⟨rfl, .inl rfl⟩) (.inl ⟨rfl, .inr rfl⟩)
def mE (M : Mem) : Int := 2 * (82 - xA M) + (if xW M = -1 then 1 else 0)
theorem mE_lt {M N : Mem} (h : (xW M = -1 ∧ xW N ≠ -1 ∧ xA N = xA M) ∨ xA N = xA M + 1) (ha : xA M ≤ 81) (hn : xA N ≤ 81) : (mE N).toNat < (mE M).toNat := by
  unfold mE
  rcases h with ⟨h1, h2, h3⟩ | h
  · rw [if_pos h1, if_neg h2, h3]; omega
  · rw [h]; split <;> split <;> omega
theorem sl_town58 {M : Mem} (h : PI M) (w y : Int32) (hw : 0 ≤ w.toInt ∧ w.toInt ≤ 6) (hy : 0 ≤ y.toInt) (hf : xW M = -1 → y.toInt ≤ 5 ∧ (0 < y.toInt → 1 ≤ w.toInt)) :
    ∃ x, iter (lb_Mod_town_58 w y) FU ((0 : Int32), M) = some x ∧ (PI x.2 ∧ Fr WT M x.2 ∧ x.2.2 = M.2 ∧ 0 ≤ x.1.toInt ∧ x.1.toInt ≤ 6 ∧ (xW x.2 = -1 → xW M = -1)) := by
  refine iter_r (fun s : Int32 × Mem => PI s.2 ∧ Fr WT M s.2 ∧ s.2.2 = M.2 ∧ 0 ≤ s.1.toInt ∧ s.1.toInt ≤ 6 ∧ (xW s.2 = -1 → xW M = -1) ∧ (y.toInt ≠ 0 → s.1.toInt ≤ w.toInt)) (fun s : Int32 × Mem => (mE s.2).toNat) _ ?_ FU _ ⟨h, Fr.r, rfl, (by show (0 : Int) ≤ (0 : Int32).toInt; decide), (by show (0 : Int32).toInt ≤ 6; decide), fun e => e, fun _ => hw.1⟩ (by have := aA h.1; show (mE M).toNat < FU; rw [FU_v]; unfold mE; split <;> omega)
  rintro ⟨n, N⟩ ⟨i1, i2, i3, i4, i5, i6, i7⟩
  dsimp only at i1 i2 i3 i4 i5 i6 i7
  have z1 := aA i1.1
  have z2 := aL i1.1
  unfold lb_Mod_town_58
  dsimp only
  refine bind_i (sp_fine N) (fun x1 _ q1 => ?_)
  rcases q1 with ⟨q1, rfl⟩ | ⟨q1, rfl⟩
  · refine if_i (fun c => absurd c (by decide)) (fun _ => ?_)
    refine bind_i (sp_here i1.1) (fun x2 ex2 q2 => ?_)
    refine bind_i (sp_kindOf x2) (fun x3 ex3 q3 => ?_)
    refine if_i (fun c => ⟨_, rfl, i1, i2, i3, i4, i5, i6⟩) (fun c => ?_)
    rcases q3 with q3 | ⟨q3, q4, q5⟩
    · exact absurd q3 c
    have hl := q2 q3
    have hlt := i1.2 q1
    obtain ⟨y5, yw⟩ := hf (i6 q1)
    have key : ∀ lim : Int32, lim.toInt ≤ 6 → n.toInt ≤ lim.toInt → (y.toInt ≠ 0 → lim.toInt = w.toInt) → ∃ r, j_Mod_town_88_58 w y n lim n N = some r ∧ LPq (fun s : Int32 × Mem => PI s.2 ∧ Fr WT M s.2 ∧ s.2.2 = M.2 ∧ 0 ≤ s.1.toInt ∧ s.1.toInt ≤ 6 ∧ (xW s.2 = -1 → xW M = -1) ∧ (y.toInt ≠ 0 → s.1.toInt ≤ w.toInt)) (fun s : Int32 × Mem => (mE s.2).toNat) (fun x : Int32 × Mem => PI x.2 ∧ Fr WT M x.2 ∧ x.2.2 = M.2 ∧ 0 ≤ x.1.toInt ∧ x.1.toInt ≤ 6 ∧ (xW x.2 = -1 → xW M = -1)) (mE N).toNat r := by
      intro lim l1 l2 l3
      unfold j_Mod_town_88_58
      refine if_i (fun c9 => ?_) (fun c9 => ?_)
      · refine bind_i (sp_faultA i1.1) (fun u _ q => ⟨_, rfl, ⟨q.1, i2.t q.2.1.wt, q.2.1.2.trans i3, i4, i5, fun e => absurd e q.2.2.2, i7⟩, ?_⟩)
        exact mE_lt (.inl ⟨q1, q.2.2.2, q.2.2.1⟩) z1.2 (by have := q.2.2.1; show xA u ≤ 81; omega)
      · have d9 := neqi.mp c9
        refine bind_i (Q := fun u => u = x2) ⟨x2, ex2, rfl⟩ (fun x4 _ e4 => ?_)
        subst e4
        refine bind_i (Q := fun u => u = x3) ⟨x3, ex3, rfl⟩ (fun x5 _ e5 => ?_)
        subst e5
        have hm : 0 ≤ w.toInt * y.toInt ∧ w.toInt * y.toInt + n.toInt < 36 := by
          have : y.toInt = 0 ∨ y.toInt = 1 ∨ y.toInt = 2 ∨ y.toInt = 3 ∨ y.toInt = 4 ∨ y.toInt = 5 := by omega
          rcases this with e | e | e | e | e | e <;> rw [e] at l3 ⊢ <;> omega
        have e1 : (w * y).toInt = w.toInt * y.toInt := mul_ti rfl rfl (by omega) (by omega)
        have e2 : ((w * y) + n).toInt = w.toInt * y.toInt + n.toInt := add_ti e1 rfl (by omega) (by omega)
        refine inb_i (by omega) (by omega) ?_
        refine mem_i (fun M6 e6 => mem_i (fun M7 e7 => ⟨_, rfl, ?_⟩))
        have j6 : J M6 := by rw [e6]; exact Jw_any ok_169 i1.1 _ _
        have A6 : xA M6 = xA N := by rw [xA, e6, si_ne (by intro e; exact absurd e.1 (by decide))]
        have W6 : xW M6 = xW N := by rw [xW, e6, si_ne (by intro e; exact absurd e.1 (by decide))]
        have L6 : xL M6 = xL N := by rw [xL, e6, si_ne (by intro e; exact absurd e.1 (by decide))]
        obtain ⟨g1, g2⟩ := at1 j6 (by omega)
        rw [← e7] at g1 g2
        have W7 : xW M7 = xW N := by rw [e7]; exact (at1W _).trans W6
        have L7 : xL M7 = xL N := by rw [e7]; exact (at1L _).trans L6
        have en : (n + (1 : Int32)).toInt = n.toInt + 1 := add_ti rfl rfl (by omega) (by omega)
        have f6 : Fr WT M M6 := by rw [e6]; exact i2.i (.inr rfl)
        refine ⟨⟨⟨g1, fun _ => by show xA M7 ≤ xL M7; omega⟩, ?_, ?_, ?_, ?_, ?_, ?_⟩, ?_⟩
        · show Fr _ M M7; rw [e7]; exact f6.i (.inl ⟨rfl, .inl rfl⟩)
        · show M7.2 = M.2; rw [e7, e6]; exact i3
        · show 0 ≤ (n + (1 : Int32)).toInt; omega
        · show (n + (1 : Int32)).toInt ≤ 6; omega
        · intro _; exact i6 q1
        · intro e; show (n + (1 : Int32)).toInt ≤ w.toInt; have := l3 e; omega
        · exact mE_lt (.inr (by show xA M7 = xA N + 1; omega)) z1.2 (by show xA M7 ≤ 81; omega)
    refine if_i (fun c0 => ?_) (fun c0 => ?_)
    · have d0 : y.toInt = 0 := eqi.mp c0
      exact key 6 (by decide) (by have : (6 : Int32).toInt = 6 := rfl; omega) (fun e => absurd d0 e)
    · have d0 : ¬ y.toInt = 0 := neqi.mp c0
      exact key w hw.2 (i7 d0) (fun _ => rfl)
  · refine if_i (fun _ => ⟨_, rfl, i1, i2, i3, i4, i5, i6⟩) (fun c => absurd rfl c)
/-- one turn of town's outer loop keeps this -/
def TI (M0_ : Mem) (s : Int32 × Int32 × Int32 × Mem) : Prop := PI s.2.2.2 ∧ Fr WT M0_ s.2.2.2 ∧ s.2.2.2.2 = M0_.2 ∧ (0 ≤ s.1.toInt ∧ s.1.toInt ≤ 6) ∧ (0 ≤ s.2.1.toInt ∧ s.2.1.toInt ≤ 7) ∧ (xW s.2.2.2 = -1 → s.2.1.toInt ≤ 6 ∧ (0 < s.2.1.toInt → 1 ≤ s.1.toInt)) ∧ (s.2.2.1 = 0 → xW s.2.2.2 = -1 → 0 < s.2.1.toInt)
def TQ (M0_ : Mem) (x : Int32 × Int32 × Mem) : Prop := PI x.2.2 ∧ Fr WT M0_ x.2.2 ∧ x.2.2.2 = M0_.2 ∧ (xW x.2.2 = -1 → (1 ≤ x.1.toInt ∧ x.1.toInt ≤ 6) ∧ (1 ≤ x.2.1.toInt ∧ x.2.1.toInt ≤ 6))
theorem sp_town166 {M0_ M : Mem} (h : PI M) (f : Fr WT M0_ M) (q : M.2 = M0_.2) (w y : Int32) (m0 : Nat) (hw : 0 ≤ w.toInt ∧ w.toInt ≤ 6) (hy : 0 ≤ y.toInt ∧ y.toInt ≤ 6) (hf : xW M = -1 → y.toInt ≤ 5 ∧ 1 ≤ w.toInt) (hm : (6 - y.toInt).toNat < m0) : ∃ r, j_Mod_town_166_30 w y M = some r ∧ LPq (TI M0_) (fun s => (7 - s.2.1.toInt).toNat) (TQ M0_) m0 r := by
  unfold j_Mod_town_166_30
  refine bind_i (sp_passes h 47 (by decide)) (fun x _ p => ⟨_, rfl, ?_⟩)
  obtain ⟨p1, p2, p3⟩ := p
  have ey : (y + (1 : Int32)).toInt = y.toInt + 1 := add_ti rfl rfl (by omega) (by omega)
  have hx : xW x.2 = -1 → xW M = -1 := by
    rcases p3 with ⟨_, e⟩ | ⟨_, _, _, e, _⟩
    · rw [e]; exact fun e => e
    · exact fun _ => e
  refine ⟨⟨p1, f.t p2.wt, p2.2.trans q, hw, ?_, fun e => ?_, fun _ e => ?_⟩, ?_⟩
  · show 0 ≤ (y + (1 : Int32)).toInt ∧ (y + (1 : Int32)).toInt ≤ 7; omega
  · have := hf (hx e); show (y + (1 : Int32)).toInt ≤ 6 ∧ (0 < (y + (1 : Int32)).toInt → 1 ≤ w.toInt); omega
  · show 0 < (y + (1 : Int32)).toInt; omega
  · show (7 - (y + (1 : Int32)).toInt).toNat < m0; rw [ey]; omega
theorem sp_town136 {M0_ M : Mem} (h : PI M) (f : Fr WT M0_ M) (q : M.2 = M0_.2) (w y n : Int32) (m0 : Nat) (hw : 0 ≤ w.toInt ∧ w.toInt ≤ 6) (hy : 0 ≤ y.toInt ∧ y.toInt ≤ 6) (hn : 0 ≤ n.toInt ∧ n.toInt ≤ 6) (hf : xW M = -1 → y.toInt ≤ 5 ∧ (0 < y.toInt → 1 ≤ w.toInt)) (hm : (6 - y.toInt).toNat < m0) : ∃ r, j_Mod_town_136_30 w y n M = some r ∧ LPq (TI M0_) (fun s => (7 - s.2.1.toInt).toNat) (TQ M0_) m0 r := by
  have k159 : ∀ N : Mem, PI N → Fr WT M0_ N → N.2 = M0_.2 → (xW N = -1 → y.toInt ≤ 5 ∧ (0 < y.toInt → 1 ≤ w.toInt) ∧ 1 ≤ n.toInt) → ∃ r, j_Mod_town_159_30 w y n N = some r ∧ LPq (TI M0_) (fun s => (7 - s.2.1.toInt).toNat) (TQ M0_) m0 r := by
    intro N n1 n2 n3 n4
    unfold j_Mod_town_159_30
    refine if_i (fun c => sp_town166 n1 n2 n3 n y m0 hn hy (fun e => ?_) hm) (fun c => sp_town166 n1 n2 n3 w y m0 hw hy (fun e => ?_) hm)
    · have := n4 e; omega
    · have d : ¬ y.toInt = 0 := neqi.mp c
      have := n4 e; omega
  have k151 : ∃ r, j_Mod_town_151_30 w y n M = some r ∧ LPq (TI M0_) (fun s => (7 - s.2.1.toInt).toNat) (TQ M0_) m0 r := by
    unfold j_Mod_town_151_30
    refine bind_i (sp_faultA h.1) (fun x _ p => k159 x p.1 (f.t p.2.1.wt) (p.2.1.2.trans q) (fun e => absurd e p.2.2.2))
  unfold j_Mod_town_136_30
  refine if_i (fun c => k151) (fun c => ?_)
  have d : ¬ n.toInt = 0 := neqi.mp c
  refine if_i (fun c => k159 M h f q (fun e => ?_)) (fun c => if_i (fun c => k159 M h f q (fun e => ?_)) (fun c => k151))
  all_goals (have := hf e; omega)
theorem sl_town30 {M : Mem} (h : PI M) : ∃ x, iter lb_Mod_town_30 FU ((0 : Int32), (0 : Int32), (1 : Int32), M) = some x ∧ TQ M x := by
  refine iter_r (TI M) (fun s => (7 - s.2.1.toInt).toNat) (TQ M) ?_ FU _ ⟨h, Fr.r, rfl, (by show (0 : Int) ≤ (0 : Int32).toInt ∧ (0 : Int32).toInt ≤ 6; decide), (by show (0 : Int) ≤ (0 : Int32).toInt ∧ (0 : Int32).toInt ≤ 7; decide), fun _ => (by show (0 : Int32).toInt ≤ 6 ∧ (0 < (0 : Int32).toInt → (1 : Int) ≤ (0 : Int32).toInt); decide), fun e => absurd (show (1 : Int32) = 0 from e) (by decide)⟩ (by show (7 - (0 : Int)).toNat < FU; rw [FU_v]; decide)
  rintro ⟨w, y, m, N⟩ ⟨i1, i2, i3, i4, i5, i6, i7⟩
  dsimp only at i1 i2 i3 i4 i5 i6 i7
  unfold lb_Mod_town_30
  dsimp only
  refine if_i (fun c => ⟨_, rfl, i1, i2, i3, fun e => ?_⟩) (fun c => ?_)
  · have a1 := i7 c e
    have a2 := i6 e
    show (1 ≤ w.toInt ∧ w.toInt ≤ 6) ∧ (1 ≤ y.toInt ∧ y.toInt ≤ 6)
    omega
  refine bind_i (sp_fine N) (fun x1 _ q1 => ?_)
  rcases q1 with ⟨q1, rfl⟩ | ⟨q1, rfl⟩
  · refine if_i (fun c => absurd c (by decide)) (fun _ => ?_)
    have a2 := i6 q1
    refine if_i (fun c => ?_) (fun c => ?_)
    · have d : y.toInt = 6 := eqi.mp c
      refine bind_i (sp_faultA i1.1) (fun x24 _ p => ?_)
      refine bind_i (sl_town58 p.1 w y i4 i5.1 (fun e => absurd e p.2.2.2)) (fun x25 _ q => ?_)
      obtain ⟨b1, b2, b3, b4, b5, b6⟩ := q
      refine sp_town136 b1 (i2.t (p.2.1.wt.t b2)) (b3.trans (p.2.1.2.trans i3)) w y x25.1 _ i4 (by omega) ⟨b4, b5⟩ (fun e => absurd (b6 e) p.2.2.2) ?_
      show (6 - y.toInt).toNat < (7 - y.toInt).toNat; omega
    · have d : ¬ y.toInt = 6 := neqi.mp c
      refine bind_i (sl_town58 i1 w y i4 i5.1 (fun _ => ⟨by omega, a2.2⟩)) (fun x25 _ q => ?_)
      obtain ⟨b1, b2, b3, b4, b5, b6⟩ := q
      refine sp_town136 b1 (i2.t b2) (b3.trans i3) w y x25.1 _ i4 (by omega) ⟨b4, b5⟩ (fun e => ⟨by omega, a2.2⟩) ?_
      show (6 - y.toInt).toNat < (7 - y.toInt).toNat; omega
  · refine if_i (fun _ => ⟨_, rfl, i1, i2, i3, fun e => absurd e q1⟩) (fun c => absurd rfl c)
/-! the reference: town, folk, route; safety -/
theorem sl_town225 (w y : Int32) {M : Mem} (h : J M) : ∃ x, iter (lb_Mod_town_225 w y) FU ((0 : Int32), M) = some x ∧ (J x ∧ Fr (fun k _ => k = 164) M x ∧ x.2 = M.2) := by
  refine cnt_r _ (fun _ N => J N ∧ Fr (fun k _ => k = 164) M N ∧ N.2 = M.2) 36 (by decide) ?_ M ⟨h, Fr.r, rfl⟩ (by decide)
  intro k N k0 k1 hI
  have c36 : (36 : Int32).toInt = 36 := rfl
  unfold lb_Mod_town_225
  dsimp only
  refine if_i (fun c => ⟨_, rfl, .inl ⟨_, rfl, hI⟩⟩) (fun c => ?_)
  have d := nlei.mp c
  refine if_i (fun c => ?_) (fun c => ?_)
  · refine inb_i k0 (by omega) ?_
    refine mem_i (fun m e => ⟨_, rfl, .inr ⟨by omega, m, rfl, ?_⟩⟩)
    rw [e]; exact ⟨Jw_any ok_164 hI.1 _ _, hI.2.1.i rfl, hI.2.2⟩
  · refine inb_i k0 (by omega) (inb_i k0 (by omega) ?_)
    refine mem_i (fun m e => ⟨_, rfl, .inr ⟨by omega, m, rfl, ?_⟩⟩)
    rw [e]; exact ⟨Jw_any ok_164 hI.1 _ _, hI.2.1.i rfl, hI.2.2⟩
theorem sl_town282 (w y : Int32) {M : Mem} (h : J M) : ∃ x, iter (lb_Mod_town_282 w y) FU ((0 : Int32), M) = some x ∧ (J x ∧ Fr (fun k _ => k = 163) M x ∧ x.2 = M.2 ∧ ∀ i : Nat, (i : Int) < 96 → x.1 163 i = 0) := by
  refine cnt_r _ (fun c N => J N ∧ Fr (fun k _ => k = 163) M N ∧ N.2 = M.2 ∧ ∀ i : Nat, (i : Int) < c → N.1 163 i = 0) 96 (by decide) ?_ M ⟨h, Fr.r, rfl, fun i hi => absurd hi (by omega)⟩ (by decide)
  intro k N k0 k1 hI
  have c36 : (96 : Int32).toInt = 96 := rfl
  unfold lb_Mod_town_282
  dsimp only
  refine if_i (fun c => ⟨_, rfl, .inl ⟨_, rfl, hI.1, hI.2.1, hI.2.2.1, fun i hi => hI.2.2.2 i (by have := lei.mp c; omega)⟩⟩) (fun c => ?_)
  have d := nlei.mp c
  refine inb_i k0 (by omega) ?_
  refine mem_i (fun m e => ⟨_, rfl, .inr ⟨by omega, m, rfl, ?_⟩⟩)
  rw [e]; refine ⟨Jst_0 hI.1 (St_b St_163) _, hI.2.1.i rfl, hI.2.2.1, fun i hi => ?_⟩
  by_cases w : i = k.toNatClampNeg
  · rw [w, si_eq]
  · rw [si_ne (fun z => w z.2)]
    rw [tcn'] at w
    exact hI.2.2.2 i (by omega)
theorem narb0 : vp_nar .boolean (0 : Int32) = 0 := by decide +kernel
theorem narb1 : vp_nar .boolean (1 : Int32) = 1 := by decide +kernel
theorem sl_town311 (w y : Int32) {M : Mem} (h : J M) : ∃ x, iter (lb_Mod_town_311 w y) FU ((0 : Int32), M) = some x ∧ (J x ∧ Fr (fun k _ => k = 190) M x ∧ x.2 = M.2 ∧ ∀ i : Nat, (i : Int) < 2 → x.1 190 i = 0) := by
  refine cnt_r _ (fun c N => J N ∧ Fr (fun k _ => k = 190) M N ∧ N.2 = M.2 ∧ ∀ i : Nat, (i : Int) < c → N.1 190 i = 0) 2 (by decide) ?_ M ⟨h, Fr.r, rfl, fun i hi => absurd hi (by omega)⟩ (by decide)
  intro k N k0 k1 hI
  have c36 : (2 : Int32).toInt = 2 := rfl
  unfold lb_Mod_town_311
  dsimp only
  refine if_i (fun c => ⟨_, rfl, .inl ⟨_, rfl, hI.1, hI.2.1, hI.2.2.1, fun i hi => hI.2.2.2 i (by have := lei.mp c; omega)⟩⟩) (fun c => ?_)
  have d := nlei.mp c
  refine inb_i k0 (by omega) ?_
  refine mem_i (fun m e => ⟨_, rfl, .inr ⟨by omega, m, rfl, ?_⟩⟩)
  rw [e, narb0]; refine ⟨Jw_190 hI.1 _ _ (by decide) (by decide), hI.2.1.i rfl, hI.2.2.1, fun i hi => ?_⟩
  by_cases w : i = k.toNatClampNeg
  · rw [w, si_eq]
  · rw [si_ne (fun z => w z.2)]
    rw [tcn'] at w
    exact hI.2.2.2 i (by omega)
/-- where a call that reads THE TEXT leaves it empty -/
def kq (k i : Nat) : Bool := (k == 162 && (i == 2 || (i == 3 || (i == 27 || i == 48)))) || (k == 163 || (k == 164 || (k == 173 || (k == 189 || (k == 190 || k == 191)))))
/-- all that PLANKS, what can be undone and what is kept rest on is as it was, or cleared -/
def KC (M N : Mem) : Prop := (∀ k i, kq k i = true → N.1 k i = M.1 k i) ∨ (N.1 163 92 = 0 ∧ N.1 162 27 = 0 ∧ (∀ t : Nat, (t : Int) < 2 → N.1 190 t = 0) ∧ (∀ i, N.1 191 i = M.1 191 i) ∧ N.1 162 48 = M.1 162 48)
theorem sp_town198 {M : Mem} (h : J M) (w y : Int32) (hq : xW M = -1 → (1 ≤ w.toInt ∧ w.toInt ≤ 6) ∧ (1 ≤ y.toInt ∧ y.toInt ≤ 6)) : ∃ r, j_Mod_town_198 w y M = some r ∧ J r.2 ∧ (∀ k i, k < 162 → r.2.1 k i = M.1 k i) ∧ r.2.1 162 10 = M.1 162 10 ∧ KC M r.2 := by
  unfold j_Mod_town_198
  refine bind_i (sp_fine M) (fun x _ q => ?_)
  rcases q with ⟨q1, rfl⟩ | ⟨q1, rfl⟩
  · refine if_i (fun c => absurd c (by decide)) (fun _ => ?_)
    obtain ⟨⟨a1, a2⟩, a3, a4⟩ := hq q1
    refine mem_i (fun M31 e31 => mem_i (fun M32 e32 => ?_))
    have j31 : J M31 := by rw [e31]; exact Jw_162_2 h _ a1 a2
    have j32 : J M32 := by rw [e32]; exact Jw_162_3 j31 _ a3 a4
    refine bind_i (sl_town225 w y j32) (fun x37 _ q => ?_)
    obtain ⟨j37, f37, -⟩ := q
    refine mem_i (fun M38 e38 => mem_i (fun M39 e39 => mem_i (fun M40 e40 => ?_)))
    have j38 : J M38 := by rw [e38]; exact JP j37 _ (by decide) (by decide) (fun p hp => absurd hp (by have z : (0 : Int32).toInt = 0 := rfl; omega))
    have j39 : J M39 := by rw [e39]; exact Jw_fld okf_162_5 j38 _
    have j40 : J M40 := by rw [e40]; exact Jw_162_8 j39 _ (by decide) (by decide)
    refine bind_i (sl_town282 w y j40) (fun x43 _ q => ?_)
    obtain ⟨j43, f43, -, z43⟩ := q
    refine mem_i (fun M44 e44 => ?_)
    have j44 : J M44 := by rw [e44]; exact Jw_162_27 j43 _ (by decide) (by decide)
    refine bind_i (sl_town311 w y j44) (fun x47 _ q => ?_)
    obtain ⟨j47, f47, -, z47⟩ := q
    have fin : ∀ k i, k ≠ 163 → k ≠ 164 → k ≠ 190 → ¬ (k = 162 ∧ (i = 2 ∨ i = 3 ∨ i = 4 ∨ i = 5 ∨ i = 8 ∨ i = 27)) → x47.1 k i = M.1 k i := by
      intro k i n1 n2 n3 n4
      rw [f47 k i n3, e44, si_ne (fun e => n4 ⟨e.1, by omega⟩), f43 k i n1, e40, si_ne (fun e => n4 ⟨e.1, by omega⟩), e39, si_ne (fun e => n4 ⟨e.1, by omega⟩), e38, si_ne (fun e => n4 ⟨e.1, by omega⟩), f37 k i n2, e32, si_ne (fun e => n4 ⟨e.1, by omega⟩), e31, si_ne (fun e => n4 ⟨e.1, by omega⟩)]
    refine ⟨_, rfl, j47, fun k i hk => fin k i (by omega) (by omega) (by omega) (by omega), fin 162 10 (by decide) (by decide) (by decide) (by decide), .inr ⟨?_, ?_, z47, fun i => fin 191 i (by decide) (by decide) (by decide) (by omega), fin 162 48 (by decide) (by decide) (by decide) (by decide)⟩⟩
    · show x47.1 163 92 = 0
      rw [f47 163 92 (by decide), e44, si_ne (by decide)]; exact z43 92 (by decide)
    · show x47.1 162 27 = 0
      rw [f47 162 27 (by decide), e44, si_eq]
  · refine if_i (fun _ => ⟨_, rfl, h, fun _ _ _ => rfl, rfl, .inl (fun _ _ _ => rfl)⟩) (fun c => absurd rfl c)
theorem sf_Mod_town (M : Mem) (hJ : J M) : ∃ r : Int32 × Mem, f_Mod_town M = some r ∧ (J r.2 ∧ (∀ k i, k < 162 → r.2.1 k i = M.1 k i) ∧ r.2.1 162 10 = 0 ∧ KC M r.2) := by
  unfold f_Mod_town
  refine mem_i (fun M1 e1 => ?_)
  have j1 : J M1 := by rw [e1]; exact Jw_fld okf_162_13 hJ _
  have t1 := Jr_162_10 j1
  refine bind_i (sp_begin j1 167 (M1.1 162 10) 80 (.inl ⟨rfl, t1.1, t1.2, by decide, by decide⟩)) (fun x2 _ q => ?_)
  obtain ⟨b1, b2, b3, b4, b5, -⟩ := q
  refine mem_i (fun M3 e3 => ?_)
  have j3 : J M3 := by rw [e3]; exact Jw_162_10 b1.1 _ (by decide) (by decide)
  have A3 : xA M3 = xA x2 := by rw [xA, e3, si_ne (by decide)]
  have W3 : xW M3 = xW x2 := by rw [xW, e3, si_ne (by decide)]
  have L3 : xL M3 = xL x2 := by rw [xL, e3, si_ne (by decide)]
  have p3 : PI M3 := ⟨j3, fun e => by rw [A3, L3]; exact b1.2 (W3 ▸ e)⟩
  refine bind_i (sl_town30 p3) (fun x29 _ q => ?_)
  obtain ⟨c1, c2, c3, c4⟩ := q
  have kc0 : ∀ (N r : Mem), (∀ k i, ¬ WT k i → N.1 k i = x29.2.2.1 k i) → KC N r → KC M r := by
    intro N r hN hr
    have a : ∀ k i, kq k i = true → N.1 k i = M.1 k i := by
      intro k i hk
      have nw : ¬ WT k i ∧ ¬ (k = 162 ∧ i = 10) ∧ ¬ W18 k i ∧ ¬ (k = 162 ∧ i = 13) := by
        simp only [kq, Bool.or_eq_true, Bool.and_eq_true, beq_iff_eq] at hk
        refine ⟨?_, ?_, ?_, ?_⟩ <;> intro w <;> omega
      rw [hN k i nw.1, c2 k i nw.1, e3, si_ne nw.2.1, b2 k i nw.2.2.1, e1, si_ne nw.2.2.2]
    rcases hr with hr | ⟨r1, r2, r3, r4, r5⟩
    · exact .inl (fun k i hk => (hr k i hk).trans (a k i hk))
    · exact .inr ⟨r1, r2, r3, fun i => (r4 i).trans (a 191 i rfl), r5.trans (a 162 48 (by decide))⟩
  have fin0 : ∀ N : Mem, (∀ k i, ¬ WT k i → N.1 k i = x29.2.2.1 k i) → (∀ k i, k < 162 → N.1 k i = M.1 k i) ∧ N.1 162 10 = 0 := by
    intro N hN
    refine ⟨fun k i hk => ?_, ?_⟩
    · rw [hN k i (by intro w; rcases w with w | w <;> omega), c2 k i (by intro w; rcases w with w | w <;> omega), e3, si_ne (by intro w; omega), b2 k i (by intro w; omega), e1, si_ne (by intro w; omega)]
    · rw [hN 162 10 (by decide), c2 162 10 (by decide), e3, si_eq]
  unfold j_Mod_town_179
  refine if_i (fun _ => ?_) (fun _ => ?_)
  · obtain ⟨r, er, r1, r2, r3, r4⟩ := sp_town198 c1.1 x29.1 x29.2.1 c4
    obtain ⟨g1, g2⟩ := fin0 x29.2.2 (fun _ _ _ => rfl)
    exact ⟨r, er, r1, fun k i hk => (r2 k i hk).trans (g1 k i hk), r3.trans g2, kc0 x29.2.2 r.2 (fun _ _ _ => rfl) r4⟩
  · refine bind_i (sp_faultA c1.1) (fun y _ q => ?_)
    obtain ⟨r, er, r1, r2, r3, r4⟩ := sp_town198 q.1.1 x29.1 x29.2.1 (fun e => absurd e q.2.2.2)
    obtain ⟨g1, g2⟩ := fin0 y (fun k i hk => q.2.1.wt k i hk)
    exact ⟨r, er, r1, fun k i hk => (r2 k i hk).trans (g1 k i hk), r3.trans g2, kc0 y r.2 (fun k i hk => q.2.1.wt k i hk) r4⟩
end
section
/-! the reference: folk, route; safety -/
abbrev WC (k i : Nat) : Prop := (k = 163 ∧ i < 80) ∨ k = 165 ∨ k = 166 ∨ (k = 162 ∧ (i = 4 ∨ i = 5))
theorem sl_come57 (v1 v2 : Int32) {M : Mem} (h : J M) (h2 : 0 ≤ v2.toInt ∧ v2.toInt ≤ 7) : ∃ x, iter (lb_Mod_come_57 v1 v2) FU ((0 : Int32), M) = some x ∧ (J x ∧ Fr (fun k i => k = 163 ∧ i < 80) M x ∧ x.2 = M.2) := by
  refine cnt_r _ (fun _ N => J N ∧ Fr (fun k i => k = 163 ∧ i < 80) M N ∧ N.2 = M.2) 8 (by decide) ?_ M ⟨h, Fr.r, rfl⟩ (by decide)
  intro k N k0 k1 hI
  have c36 : (8 : Int32).toInt = 8 := rfl
  unfold lb_Mod_come_57
  dsimp only
  refine if_i (fun c => ⟨_, rfl, .inl ⟨_, rfl, hI⟩⟩) (fun c => ?_)
  have d := nlei.mp c
  have m1 : ((8 : Int32) * v2).toInt = 8 * v2.toInt := mul_ti rfl rfl (by omega) (by omega)
  have m2 : ((16 : Int32) + ((8 : Int32) * v2)).toInt = 16 + 8 * v2.toInt := add_ti rfl m1 (by omega) (by omega)
  have m3 : (((16 : Int32) + ((8 : Int32) * v2)) + k).toInt = 16 + 8 * v2.toInt + k.toInt := add_ti m2 rfl (by omega) (by omega)
  have n1 : ((8 : Int32) * k).toInt = 8 * k.toInt := mul_ti rfl rfl (by omega) (by omega)
  have n2 : ((16 : Int32) + ((8 : Int32) * k)).toInt = 16 + 8 * k.toInt := add_ti rfl n1 (by omega) (by omega)
  have n3 : (((16 : Int32) + ((8 : Int32) * k)) + v2).toInt = 16 + 8 * k.toInt + v2.toInt := add_ti n2 rfl (by omega) (by omega)
  refine inb_i (by omega) (by omega) ?_
  refine mem_i (fun M5 e5 => ?_)
  refine inb_i (by omega) (by omega) ?_
  refine mem_i (fun m e => ⟨_, rfl, .inr ⟨by omega, m, rfl, ?_⟩⟩)
  have j5 : J M5 := by rw [e5]; exact Jst_0 hI.1 (St_b St_163) _
  rw [e, e5]; exact ⟨by rw [← e5]; exact Jst_0 j5 (St_b St_163) _, (hI.2.1.i ⟨rfl, by rw [tcn', m3]; omega⟩).i ⟨rfl, by rw [tcn', n3]; omega⟩, hI.2.2⟩
theorem sl_come115 (v1 v2 : Int32) {M : Mem} (h : J M) (h1 : 0 ≤ v1.toInt ∧ v1.toInt ≤ 84) (h2 : 0 ≤ v2.toInt ∧ v2.toInt ≤ 7) (hc : 0 ≤ (M.1 170 (v1.toInt.toNat + 2)).toInt ∧ (M.1 170 (v1.toInt.toNat + 2)).toInt ≤ 9) : ∃ x, iter (lb_Mod_come_115 v1 v2) FU ((0 : Int32), M) = some x ∧ (J x ∧ Fr (fun k _ => k = 165) M x ∧ x.2 = M.2) := by
  refine cnt_r _ (fun _ N => J N ∧ Fr (fun k _ => k = 165) M N ∧ N.2 = M.2) 9 (by decide) ?_ M ⟨h, Fr.r, rfl⟩ (by decide)
  intro k N k0 k1 hI
  unfold lb_Mod_come_115
  dsimp only
  have t2 : (v1 + (2 : Int32)).toNatClampNeg = v1.toInt.toNat + 2 := tc_add rfl h1.1 (by omega) (by omega)
  have e2 : (v1 + (2 : Int32)).toInt = v1.toInt + 2 := add_ti rfl rfl (by omega) (by omega)
  have e3 : (v1 + (3 : Int32)).toInt = v1.toInt + 3 := add_ti rfl rfl (by omega) (by omega)
  have e4 : ((v1 + (3 : Int32)) + k).toInt = v1.toInt + 3 + k.toInt := add_ti e3 rfl (by omega) (by omega)
  have m1 : ((9 : Int32) * v2).toInt = 9 * v2.toInt := mul_ti rfl rfl (by omega) (by omega)
  have m2 : (((9 : Int32) * v2) + k).toInt = 9 * v2.toInt + k.toInt := add_ti m1 rfl (by omega) (by omega)
  refine inb_i (by omega) (by omega) ?_
  refine if_i (fun c => ⟨_, rfl, .inl ⟨_, rfl, hI⟩⟩) (fun c => ?_)
  have d := nlei.mp c
  rw [t2, hI.2.1 170 _ (by intro w; exact absurd w (by decide))] at d
  refine inb_i (by omega) (by omega) (inb_i (by omega) (by omega) ?_)
  refine mem_i (fun m e => ⟨_, rfl, .inr ⟨by omega, m, rfl, ?_⟩⟩)
  rw [e]; exact ⟨Jw_any ok_165 hI.1 _ _, hI.2.1.i rfl, hI.2.2⟩
theorem sp_come {M : Mem} (h : J M) (v : Int32) (h1 : 0 ≤ v.toInt ∧ v.toInt ≤ 84) (hp : xP M ≤ 7) (hc : Cm M v.toInt.toNat) : ∃ r, f_Mod_come v M = some r ∧ J r ∧ Fr WC M r ∧ r.2 = M.2 ∧ xP r = xP M + 1 := by
  have zp := aP h
  obtain ⟨⟨c1, c2⟩, ⟨c3, c4⟩, c5, c6⟩ := hc
  have t0 : v.toNatClampNeg = v.toInt.toNat := rfl
  have t1 : (v + (1 : Int32)).toNatClampNeg = v.toInt.toNat + 1 := tc_add rfl h1.1 (by omega) (by omega)
  have t2 : (v + (2 : Int32)).toNatClampNeg = v.toInt.toNat + 2 := tc_add rfl h1.1 (by omega) (by omega)
  have e1 : (v + (1 : Int32)).toInt = v.toInt + 1 := add_ti rfl rfl (by omega) (by omega)
  have e2 : (v + (2 : Int32)).toInt = v.toInt + 2 := add_ti rfl rfl (by omega) (by omega)
  have pe : (M.1 162 4).toInt = xP M := rfl
  have e8 : ((8 : Int32) + (M.1 162 4)).toInt = 8 + xP M := add_ti rfl pe (by omega) (by omega)
  unfold f_Mod_come f_Mod_placeOf
  refine inb_i h1.1 (by omega) (inb_i (by omega) (by omega) ?_)
  rw [Option.bind_some]
  have p1 : ((36 : Int32) * (M.1 170 v.toNatClampNeg)).toInt = 36 * (M.1 170 v.toInt.toNat).toInt := mul_ti rfl rfl (by omega) (by omega)
  have p2 : (((36 : Int32) * (M.1 170 v.toNatClampNeg)) + (M.1 170 (v + (1 : Int32)).toNatClampNeg)).toInt = 36 * (M.1 170 v.toInt.toNat).toInt + (M.1 170 (v.toInt.toNat + 1)).toInt := add_ti p1 (by rw [t1]) (by omega) (by omega)
  refine inb_i (by omega) (by omega) ?_
  refine mem_i (fun M2 q2 => inb_i h1.1 (by omega) (mem_i (fun M3 q3 => inb_i (by omega) (by omega) (mem_i (fun M4 q4 => ?_)))))
  have j2 : J M2 := by rw [q2]; exact Jws0 h St_163 (by omega) (by omega) _ (by omega) (by omega)
  have j3 : J M3 := by rw [q3]; exact Jw_fld okf_162_5 j2 _
  have j4 : J M4 := by rw [q4]; exact Jst_0 j3 (St_b St_163) _
  have f4 : Fr WC M M4 := by
    rw [q4, q3, q2]
    exact ((Fr.r.i (.inl ⟨rfl, by rw [tcn', pe]; omega⟩)).i (.inr (.inr (.inr ⟨rfl, .inr rfl⟩)))).i (.inl ⟨rfl, by rw [tcn', e8]; omega⟩)
  have s4 : M4.2 = M.2 := by rw [q4, q3, q2]; rfl
  refine bind_i (sl_come57 v _ j4 ⟨zp.1, hp⟩) (fun x8 _ q => ?_)
  obtain ⟨j8, f8, s8⟩ := q
  have F8 : Fr WC M x8 := f4.t (f8.m (fun k i w => .inl w))
  have c8 : x8.1 170 (v.toInt.toNat + 2) = M.1 170 (v.toInt.toNat + 2) := F8 170 _ (by omega)
  refine inb_i (by omega) (by omega) (inb_i (by omega) (by omega) (mem_i (fun M9 q9 => ?_)))
  rw [t2, c8] at q9
  have j9 : J M9 := by rw [q9]; exact J166 j8 _ _ c5 c6
  have F9 : Fr WC M M9 := by rw [q9]; exact F8.i (.inr (.inr (.inl rfl)))
  refine bind_i (sl_come115 v _ j9 h1 ⟨zp.1, hp⟩ (by rw [F9 170 _ (by omega)]; omega)) (fun x12 _ q => ?_)
  obtain ⟨j12, f12, s12⟩ := q
  have F12 : Fr WC M x12 := F9.t (f12.m (fun k i w => .inr (.inl w)))
  have P12 : x12.1 162 4 = M.1 162 4 := by
    rw [f12 162 4 (by decide), q9, si_ne (by intro e; exact absurd e.1 (by decide)), f8 162 4 (by intro w; exact absurd w.1 (by decide)), q4, si_ne (by intro e; exact absurd e.1 (by decide)), q3, si_ne (by decide), q2, si_ne (by intro e; exact absurd e.1 (by decide))]
  have e13 : ((x12.1 162 4) + (1 : Int32)).toInt = xP M + 1 := add_ti (by rw [P12]) rfl (by omega) (by omega)
  have r166 : ∀ p : Nat, (p : Int) < xP M + 1 → 1 ≤ (x12.1 166 p).toInt := by
    intro p hp
    rw [f12 166 p (by intro w; exact absurd w (by decide)), q9]
    by_cases w : p = (M.1 162 4).toNatClampNeg
    · rw [w, si_eq]; exact c5
    · rw [si_ne (fun z => w z.2)]
      have : xP x8 = xP M := by rw [xP, f8 162 4 (by intro w; exact absurd w.1 (by decide)), q4, si_ne (by intro e; exact absurd e.1 (by decide)), q3, si_ne (by decide), q2, si_ne (by intro e; exact absurd e.1 (by decide))]
      refine j8.2.2.2.2.2 p ?_
      show (p : Int) < xP x8
      rw [tcn', pe] at w
      omega
  refine mem_i (fun M13 q13 => ⟨_, rfl, ?_, ?_, ?_, ?_⟩)
  · rw [q13]; exact JP j12 _ (by omega) (by omega) (fun p hp => r166 p (by omega))
  · rw [q13]; exact F12.i (.inr (.inr (.inr ⟨rfl, .inl rfl⟩)))
  · rw [q13]; show x12.2 = _; rw [s12, q9]; show x8.2 = _; rw [s8, s4]
  · rw [xP, q13, si_eq, e13]
abbrev WF (k i : Nat) : Prop := (k = 162 ∧ (i = 17 ∨ i = 18)) ∨ k = 170
theorem PF.wf {M N : Mem} (h : PF M N) : Fr WF M N := h.fr (.inl ⟨rfl, .inl rfl⟩) (.inl ⟨rfl, .inr rfl⟩)
def Cms (M : Mem) (n : Int) : Prop := ∀ j : Nat, (j : Int) < n → Cm M (12 * j)
theorem Cms.t {M N : Mem} {n : Int} (h : Cms M n) (g : ∀ i : Nat, (i : Int) < 12 * n → N.1 170 i = M.1 170 i) : Cms N n := by
  intro j hj
  obtain ⟨a, b, c⟩ := h j hj
  refine ⟨?_, ?_, ?_⟩
  · rw [g _ (by omega)]; exact a
  · rw [g _ (by omega)]; exact b
  · rw [g _ (by omega)]; exact c
def FI (M0_ : Mem) (s : Int32 × Int32 × Mem) : Prop := PI s.2.2 ∧ Fr WF M0_ s.2.2 ∧ s.2.2.2 = M0_.2 ∧ (0 ≤ s.1.toInt ∧ s.1.toInt ≤ 9) ∧ (xW s.2.2 = -1 → xP M0_ + s.1.toInt ≤ 8 ∧ Cms s.2.2 s.1.toInt)
def FQ (M0_ : Mem) (x : Int32 × Mem) : Prop := PI x.2 ∧ Fr WF M0_ x.2 ∧ x.2.2 = M0_.2 ∧ (xW x.2 = -1 → 0 ≤ x.1.toInt ∧ xP M0_ + x.1.toInt ≤ 8 ∧ Cms x.2 x.1.toInt)
theorem sl_folk37 {M : Mem} (h : PI M) : ∃ x, iter lb_Mod_folk_37 FU ((0 : Int32), (1 : Int32), M) = some x ∧ FQ M x := by
  have zp := aP h.1
  refine iter_r (FI M) (fun s => (9 - s.1.toInt).toNat) (FQ M) ?_ FU _ ⟨h, Fr.r, rfl, (by show (0 : Int) ≤ (0 : Int32).toInt ∧ (0 : Int32).toInt ≤ 9; decide), fun _ => ⟨(by show xP M + (0 : Int) ≤ 8; omega), fun j hj => absurd (show (j : Int) < 0 from hj) (by omega)⟩⟩ (by show (9 - (0 : Int)).toNat < FU; rw [FU_v]; decide)
  rintro ⟨n, m, N⟩ ⟨i1, i2, i3, i4, i5⟩
  dsimp only at i1 i2 i3 i4 i5
  unfold lb_Mod_folk_37
  dsimp only
  refine if_i (fun c => ⟨_, rfl, i1, i2, i3, fun e => ⟨i4.1, i5 e⟩⟩) (fun c => ?_)
  refine bind_i (sp_fine N) (fun x1 _ q1 => ?_)
  rcases q1 with ⟨q1, rfl⟩ | ⟨q1, rfl⟩
  · refine if_i (fun c => absurd c (by decide)) (fun _ => ?_)
    obtain ⟨a1, a2⟩ := i5 q1
    have pn : xP N = xP M := congrArg Int32.toInt (i2 162 4 (by decide))
    have en : (n + (1 : Int32)).toInt = n.toInt + 1 := add_ti rfl rfl (by omega) (by omega)
    have es : ((N.1 162 4) + n).toInt = xP M + n.toInt := add_ti pn rfl (by omega) (by omega)
    have key : ∀ K : Mem, PI K → Fr WF M K → K.2 = M.2 → (xW K = -1 → xP M + n.toInt + 1 ≤ 8 ∧ Cms K (n.toInt + 1)) → n.toInt ≤ 8 → ∃ r, j_Mod_folk_78_37 n K = some r ∧ LPq (FI M) (fun s => (9 - s.1.toInt).toNat) (FQ M) (9 - n.toInt).toNat r := by
      intro K k1 k2 k3 k4 k5
      unfold j_Mod_folk_78_37
      refine bind_i (sp_passes k1 59 (by decide)) (fun x _ p => ⟨_, rfl, ?_⟩)
      obtain ⟨p1, p2, p3⟩ := p
      have hx : xW x.2 = -1 → xW K = -1 := by
        rcases p3 with ⟨_, e⟩ | ⟨_, _, _, e, _⟩
        · rw [e]; exact fun e => e
        · exact fun _ => e
      refine ⟨⟨p1, k2.t p2.wf, p2.2.trans k3, ?_, fun e => ?_⟩, ?_⟩
      · show 0 ≤ (n + (1 : Int32)).toInt ∧ (n + (1 : Int32)).toInt ≤ 9; omega
      · obtain ⟨b1, b2⟩ := k4 (hx e)
        show xP M + (n + (1 : Int32)).toInt ≤ 8 ∧ Cms x.2 (n + (1 : Int32)).toInt
        rw [en]
        exact ⟨by omega, b2.t (fun i _ => p2.1 170 i (by omega))⟩
      · show (9 - (n + (1 : Int32)).toInt).toNat < (9 - n.toInt).toNat; rw [en]; omega
    refine if_i (fun c => ?_) (fun c => ?_)
    · have d : xP M + n.toInt = 8 := by rw [← es]; exact eqi.mp c
      refine bind_i (sp_faultA i1.1) (fun x7 _ p => ?_)
      exact key x7 p.1 (i2.t p.2.1.wf) (p.2.1.2.trans i3) (fun e => absurd e p.2.2.2) (by omega)
    · have d : ¬ xP M + n.toInt = 8 := by rw [← es]; exact neqi.mp c
      have e12 : ((12 : Int32) * n).toInt = 12 * n.toInt := mul_ti rfl rfl (by omega) (by omega)
      refine bind_i (sp_readOne i1 ((12 : Int32) * n) (by omega) (by omega) q1) (fun x5 _ p => ?_)
      obtain ⟨p1, p2, p3, p4, p5⟩ := p
      rw [e12] at p2 p5
      refine key x5 p1 (i2.t (p2.m (fun k i w => by rcases w with w | ⟨w, _⟩; exact .inl w; exact .inr w))) (p3.trans i3) (fun e => ⟨by omega, ?_⟩) (by omega)
      intro j hj
      by_cases ej : (j : Int) < n.toInt
      · exact (a2.t (N := x5) (fun i hi => p2 170 i (by rintro (w | w) <;> omega))) j ej
      · have : (12 * n.toInt).toNat = 12 * j := by omega
        rw [this] at p5
        exact p5 e
  · refine if_i (fun _ => ⟨_, rfl, i1, i2, i3, fun e => absurd e q1⟩) (fun c => absurd rfl c)
theorem sl_folk126 (v1 : Int32) {M : Mem} (h : J M) (hv : 0 ≤ v1.toInt) (hp : xP M + v1.toInt ≤ 8) (hc : Cms M v1.toInt) : ∃ x, iter (lb_Mod_folk_126 v1) FU ((0 : Int32), M) = some x ∧ (J x ∧ Fr WC M x ∧ x.2 = M.2 ∧ xP x = xP M + v1.toInt) := by
  have zp := aP h
  refine cnt_r _ (fun i N => J N ∧ Fr WC M N ∧ N.2 = M.2 ∧ xP N = xP M + i) v1.toInt (by omega) ?_ M ⟨h, Fr.r, rfl, by omega⟩ hv
  intro k N k0 k1 hI
  obtain ⟨i1, i2, i3, i4⟩ := hI
  unfold lb_Mod_folk_126
  dsimp only
  refine if_i (fun c => ⟨_, rfl, .inl ⟨_, rfl, i1, i2, i3, ?_⟩⟩) (fun c => ?_)
  · have := lei.mp c; omega
  have d := nlei.mp c
  have e12 : ((12 : Int32) * k).toInt = 12 * k.toInt := mul_ti rfl rfl (by omega) (by omega)
  have hc2 : Cm N ((12 : Int32) * k).toInt.toNat := by
    have := (hc.t (N := N) (fun i _ => i2 170 i (by omega))) k.toInt.toNat (by omega)
    rw [e12]
    have e : (12 * k.toInt).toNat = 12 * k.toInt.toNat := by omega
    rw [e]; exact this
  refine bind_i (sp_come i1 _ (by omega) (by omega) hc2) (fun x _ p => ⟨_, rfl, .inr ⟨d, x, rfl, p.1, i2.t p.2.1, p.2.2.1.trans i3, ?_⟩⟩)
  have := p.2.2.2; omega
/-- as it was, or one came, and what can be undone is forgotten -/
def KB (M N : Mem) : Prop := (∀ k i, kq k i = true → N.1 k i = M.1 k i) ∨ ((∀ k i, kq k i = true → ¬ (k = 163 ∧ i < 80) → ¬ (k = 162 ∧ (i = 27 ∨ i = 48)) → N.1 k i = M.1 k i) ∧ N.1 162 27 = 0 ∧ N.1 162 48 = M.1 162 48 + 1)
theorem sf_Mod_folk (M : Mem) (hJ : J M) : ∃ r : Int32 × Mem, f_Mod_folk M = some r ∧ (J r.2 ∧ (∀ k i, k < 162 → r.2.1 k i = M.1 k i) ∧ r.2.1 162 10 = 0 ∧ KB M r.2) := by
  unfold f_Mod_folk
  refine mem_i (fun M1 e1 => ?_)
  have j1 : J M1 := by rw [e1]; exact Jw_fld okf_162_13 hJ _
  have t1 := Jr_162_10 j1
  refine bind_i (sp_begin j1 167 (M1.1 162 10) 76 (.inl ⟨rfl, t1.1, t1.2, by decide, by decide⟩)) (fun x2 _ q => ?_)
  obtain ⟨b1, b2, b3, b4, b5, -⟩ := q
  refine mem_i (fun M3 e3 => ?_)
  have j3 : J M3 := by rw [e3]; exact Jw_162_10 b1.1 _ (by decide) (by decide)
  have A3 : xA M3 = xA x2 := by rw [xA, e3, si_ne (by decide)]
  have W3 : xW M3 = xW x2 := by rw [xW, e3, si_ne (by decide)]
  have L3 : xL M3 = xL x2 := by rw [xL, e3, si_ne (by decide)]
  have p3 : PI M3 := ⟨j3, fun e => by rw [A3, L3]; exact b1.2 (W3 ▸ e)⟩
  have g3 : (∀ k i, k < 162 → M3.1 k i = M.1 k i) ∧ M3.1 162 10 = 0 := by
    refine ⟨fun k i hk => ?_, by rw [e3, si_eq]⟩
    rw [e3, si_ne (by intro w; omega), b2 k i (by intro w; omega), e1, si_ne (by intro w; omega)]
  have q3 : ∀ k i, kq k i = true → M3.1 k i = M.1 k i := by
    intro k i hk
    have nw : ¬ (k = 162 ∧ i = 10) ∧ ¬ W18 k i ∧ ¬ (k = 162 ∧ i = 13) := by
      simp only [kq, Bool.or_eq_true, Bool.and_eq_true, beq_iff_eq] at hk
      refine ⟨?_, ?_, ?_⟩ <;> intro w <;> omega
    rw [e3, si_ne nw.1, b2 k i nw.2.1, e1, si_ne nw.2.2]
  refine if_i (fun _ => ⟨_, rfl, j3, g3.1, g3.2, .inl q3⟩) (fun _ => ?_)
  refine bind_i (sl_folk37 p3) (fun x11 _ q => ?_)
  obtain ⟨c1, c2, c3, c4⟩ := q
  have P11 : xP x11.2 = xP M3 := congrArg Int32.toInt (c2 162 4 (by decide))
  have k110 : ∀ N : Mem, J N → Fr WF M3 N → (xW N = -1 → 0 ≤ x11.1.toInt ∧ xP M3 + x11.1.toInt ≤ 8 ∧ Cms N x11.1.toInt) → ∃ r, j_Mod_folk_110 x11.1 N = some r ∧ (J r.2 ∧ (∀ k i, k < 162 → r.2.1 k i = M.1 k i) ∧ r.2.1 162 10 = 0 ∧ KB M r.2) := by
    intro N n1 n2 n3
    have qN : ∀ k i, kq k i = true → N.1 k i = M.1 k i := fun k i hk => (n2 k i (by
      simp only [kq, Bool.or_eq_true, Bool.and_eq_true, beq_iff_eq] at hk
      intro w; omega)).trans (q3 k i hk)
    have g : (∀ k i, k < 162 → N.1 k i = M.1 k i) ∧ N.1 162 10 = 0 := ⟨fun k i hk => (n2 k i (by intro w; rcases w with w | w <;> omega)).trans (g3.1 k i hk), (n2 162 10 (by decide)).trans g3.2⟩
    unfold j_Mod_folk_110
    refine bind_i (sp_fine N) (fun x _ q => ?_)
    rcases q with ⟨q1, rfl⟩ | ⟨q1, rfl⟩
    · refine if_i (fun c => absurd c (by decide)) (fun _ => ?_)
      obtain ⟨a1, a2, a3⟩ := n3 q1
      have PN : xP N = xP M3 := congrArg Int32.toInt (n2 162 4 (by decide))
      refine bind_i (sl_folk126 x11.1 n1 a1 (by omega) a3) (fun x15 _ p => ?_)
      obtain ⟨p1, p2, p3, p4⟩ := p
      refine mem_i (fun M16 e16 => mem_i (fun M17 e17 => ⟨_, rfl, ?_, fun k i hk => ?_, ?_, .inr ⟨fun k i hk n1 n2 => ?_, ?_, ?_⟩⟩))
      · rw [e17]; refine Jw_fld okf_162_48 ?_ _; rw [e16]; exact Jw_162_27 p1 _ (by decide) (by decide)
      · rw [e17, si_ne (by intro w; omega), e16, si_ne (by intro w; omega), p2 k i (by intro w; omega)]; exact g.1 k i hk
      · rw [e17, si_ne (by decide), e16, si_ne (by decide), p2 162 10 (by decide)]; exact g.2
      · show M17.1 k i = _
        rw [e17, si_ne (fun w => n2 ⟨w.1, .inr w.2⟩), e16, si_ne (fun w => n2 ⟨w.1, .inl w.2⟩), p2 k i (by
          simp only [kq, Bool.or_eq_true, Bool.and_eq_true, beq_iff_eq] at hk
          intro w; omega)]
        exact qN k i hk
      · show M17.1 162 27 = 0
        rw [e17, si_ne (by decide), e16, si_eq]
      · show M17.1 162 48 = _
        rw [e17, si_eq, e16, si_ne (by decide), p2 162 48 (by decide), qN 162 48 (by decide)]
    · refine if_i (fun _ => ⟨_, rfl, n1, g.1, g.2, .inl qN⟩) (fun c => absurd rfl c)
  unfold j_Mod_folk_91
  refine if_i (fun _ => k110 x11.2 c1.1 c2 c4) (fun _ => ?_)
  refine bind_i (sp_faultA c1.1) (fun y _ q => k110 y q.1.1 (c2.t q.2.1.wf) (fun e => absurd e q.2.2.2))
theorem sp_isOne {M : Mem} (h : J M) (v : Int32) : ∃ r, f_Mod_isOne v M = some r ∧ ((r = 1 ∧ 0 ≤ v.toInt ∧ v.toInt < xP M ∧ v.toInt ≤ 7) ∨ (r = 0 ∧ ¬ (0 ≤ v.toInt ∧ v.toInt < xP M))) := by
  have a := aP h
  unfold f_Mod_isOne
  have e : ((M.1 162 4) - (1 : Int32)).toInt = xP M - 1 := sub_ti rfl rfl (by show _ ≤ xP M - 1; omega) (by show xP M - 1 ≤ _; omega)
  refine bind_i (sp_in v 0 _) (fun x _ q => ?_)
  have z : (0 : Int32).toInt = 0 := rfl
  rcases q with ⟨rfl, q1, q2⟩ | ⟨rfl, q⟩
  · refine c_i (.inr rfl) ⟨_, rfl, .inl ⟨rfl, ?_⟩⟩
    omega
  · refine c_i (.inl rfl) ⟨_, rfl, .inr ⟨rfl, ?_⟩⟩
    omega
theorem sl_route87 (v1 v2 : Int32) {M : Mem} (h : J M) (h1 : 0 ≤ v1.toInt ∧ v1.toInt ≤ 7) (h2 : 0 ≤ v2.toInt ∧ v2.toInt ≤ 9) : ∃ x, iter (lb_Mod_route_87 v1 v2) FU ((0 : Int32), M) = some x ∧ (J x ∧ Fr (fun k _ => k = 165) M x ∧ x.2 = M.2) := by
  refine cnt_r _ (fun _ N => J N ∧ Fr (fun k _ => k = 165) M N ∧ N.2 = M.2) v2.toInt (by omega) ?_ M ⟨h, Fr.r, rfl⟩ h2.1
  intro k N k0 k1 hI
  unfold lb_Mod_route_87
  dsimp only
  have m1 : ((9 : Int32) * v1).toInt = 9 * v1.toInt := mul_ti rfl rfl (by omega) (by omega)
  have m2 : (((9 : Int32) * v1) + k).toInt = 9 * v1.toInt + k.toInt := add_ti m1 rfl (by omega) (by omega)
  refine if_i (fun c => ⟨_, rfl, .inl ⟨_, rfl, hI⟩⟩) (fun c => ?_)
  have d := nlei.mp c
  refine inb_i k0 (by omega) (inb_i (by omega) (by omega) ?_)
  refine mem_i (fun m e => ⟨_, rfl, .inr ⟨by omega, m, rfl, ?_⟩⟩)
  rw [e]; exact ⟨Jw_any ok_165 hI.1 _ _, hI.2.1.i rfl, hI.2.2⟩
theorem sf_Mod_route (v1 : Int32) (M : Mem) (hJ : J M) : ∃ r : Int32 × Mem, f_Mod_route v1 M = some r ∧ (J r.2 ∧ (∀ k i, k < 162 → r.2.1 k i = M.1 k i) ∧ r.2.1 162 10 = 0 ∧ KB M r.2) := by
  unfold f_Mod_route
  refine mem_i (fun M1 e1 => ?_)
  have j1 : J M1 := by rw [e1]; exact Jw_fld okf_162_13 hJ _
  have t1 := Jr_162_10 j1
  refine bind_i (sp_begin j1 167 (M1.1 162 10) 80 (.inl ⟨rfl, t1.1, t1.2, by decide, by decide⟩)) (fun x2 _ q => ?_)
  obtain ⟨b1, b2, b3, b4, b5, -⟩ := q
  refine mem_i (fun M3 e3 => ?_)
  have j3 : J M3 := by rw [e3]; exact Jw_162_10 b1.1 _ (by decide) (by decide)
  have A3 : xA M3 = xA x2 := by rw [xA, e3, si_ne (by decide)]
  have W3 : xW M3 = xW x2 := by rw [xW, e3, si_ne (by decide)]
  have L3 : xL M3 = xL x2 := by rw [xL, e3, si_ne (by decide)]
  have p3 : PI M3 := ⟨j3, fun e => by rw [A3, L3]; exact b1.2 (W3 ▸ e)⟩
  have g3 : (∀ k i, k < 162 → M3.1 k i = M.1 k i) ∧ M3.1 162 10 = 0 := by
    refine ⟨fun k i hk => ?_, by rw [e3, si_eq]⟩
    rw [e3, si_ne (by intro w; omega), b2 k i (by intro w; omega), e1, si_ne (by intro w; omega)]
  have q3 : ∀ k i, kq k i = true → M3.1 k i = M.1 k i := by
    intro k i hk
    have nw : ¬ (k = 162 ∧ i = 10) ∧ ¬ W18 k i ∧ ¬ (k = 162 ∧ i = 13) := by
      simp only [kq, Bool.or_eq_true, Bool.and_eq_true, beq_iff_eq] at hk
      refine ⟨?_, ?_, ?_⟩ <;> intro w <;> omega
    rw [e3, si_ne nw.1, b2 k i nw.2.1, e1, si_ne nw.2.2]
  refine bind_i (sp_isOne j3 v1) (fun x4 _ q4 => ?_)
  rcases q4 with ⟨rfl, u1, u2, u3⟩ | ⟨rfl, -⟩
  · refine if_i (fun c => absurd c (by decide)) (fun _ => ?_)
    have l171 : ln 171 = 9 := by decide +kernel
    refine bind_i (sp_readRoute p3 171 (.inr rfl) 0 (by decide) (by rw [l171]; decide) (by rw [l171]; decide)) (fun x5 _ q => ?_)
    obtain ⟨c1, c2, c3, c4, c5, c6, c7⟩ := q
    have W5 : ∀ k i, k ≠ 171 → ¬ (k = 162 ∧ (i = 17 ∨ i = 18)) → x5.2.1 k i = M3.1 k i := fun k i n1 n2 => c2 k i (by rintro (w | w); exact n2 w; exact n1 w.1)
    have k64 : ∀ N : Mem, J N → (∀ k i, ¬ (k = 162 ∧ (i = 17 ∨ i = 18)) → N.1 k i = x5.2.1 k i) → (xW N = -1 → xW x5.2 = -1) → ∃ r, j_Mod_route_64 v1 x5.1 N = some r ∧ (J r.2 ∧ (∀ k i, k < 162 → r.2.1 k i = M.1 k i) ∧ r.2.1 162 10 = 0 ∧ KB M r.2) := by
      intro N n1 n2 n3
      have qN : ∀ k i, kq k i = true → N.1 k i = M.1 k i := fun k i hk => by
        have nw : k ≠ 171 ∧ ¬ (k = 162 ∧ (i = 17 ∨ i = 18)) := by
          simp only [kq, Bool.or_eq_true, Bool.and_eq_true, beq_iff_eq] at hk
          refine ⟨?_, ?_⟩ <;> intro w <;> omega
        exact (n2 k i nw.2).trans ((W5 k i nw.1 nw.2).trans (q3 k i hk))
      have g : (∀ k i, k < 162 → N.1 k i = M.1 k i) ∧ N.1 162 10 = 0 := ⟨fun k i hk => (n2 k i (by omega)).trans ((W5 k i (by omega) (by omega)).trans (g3.1 k i hk)), (n2 162 10 (by decide)).trans ((W5 162 10 (by decide) (by decide)).trans g3.2)⟩
      unfold j_Mod_route_64
      refine bind_i (sp_fine N) (fun x _ q => ?_)
      rcases q with ⟨q1, rfl⟩ | ⟨q1, rfl⟩
      · refine if_i (fun c => absurd c (by decide)) (fun _ => ?_)
        obtain ⟨-, a2, -⟩ := c7 (n3 q1)
        refine inb_i u1 (by omega) (mem_i (fun M7 e7 => ?_))
        have j7 : J M7 := by rw [e7]; exact J166 n1 _ _ a2 c6
        refine bind_i (sl_route87 v1 x5.1 j7 ⟨u1, u3⟩ ⟨c5, c6⟩) (fun x10 _ p => ?_)
        obtain ⟨p1, p2, p3⟩ := p
        have e8 : ((8 : Int32) + v1).toInt = 8 + v1.toInt := add_ti rfl rfl (by omega) (by omega)
        refine inb_i (by omega) (by omega) (mem_i (fun M11 e11 => mem_i (fun M12 e12 => mem_i (fun M13 e13 => ⟨_, rfl, ?_, fun k i hk => ?_, ?_, .inr ⟨fun k i hk m1 m2 => ?_, ?_, ?_⟩⟩))))
        · rw [e13]; refine Jw_fld okf_162_48 ?_ _; rw [e12]; refine Jw_162_27 ?_ _ (by decide) (by decide); rw [e11]; exact Jst_0 p1 (St_b St_163) _
        · rw [e13, si_ne (by intro w; omega), e12, si_ne (by intro w; omega), e11, si_ne (by intro w; omega), p2 k i (by omega), e7, si_ne (by intro w; omega)]; exact g.1 k i hk
        · rw [e13, si_ne (by decide), e12, si_ne (by decide), e11, si_ne (by intro w; omega), p2 162 10 (by decide), e7, si_ne (by intro w; omega)]; exact g.2
        · have nw : k ≠ 165 ∧ k ≠ 166 := by
            simp only [kq, Bool.or_eq_true, Bool.and_eq_true, beq_iff_eq] at hk
            refine ⟨?_, ?_⟩ <;> intro w <;> omega
          show M13.1 k i = _
          rw [e13, si_ne (fun w => m2 ⟨w.1, .inr w.2⟩), e12, si_ne (fun w => m2 ⟨w.1, .inl w.2⟩), e11, si_ne (fun w => m1 ⟨w.1, by rw [w.2, tcn', e8]; omega⟩), p2 k i nw.1, e7, si_ne (fun w => nw.2 w.1)]
          exact qN k i hk
        · show M13.1 162 27 = 0
          rw [e13, si_ne (by decide), e12, si_eq]
        · show M13.1 162 48 = _
          rw [e13, si_eq, e12, si_ne (by decide), e11, si_ne (by intro w; omega), p2 162 48 (by decide), e7, si_ne (by intro w; omega), qN 162 48 (by decide)]
      · refine if_i (fun _ => ⟨_, rfl, n1, g.1, g.2, .inl qN⟩) (fun c => absurd rfl c)
    refine if_i (fun _ => k64 x5.2 c1.1 (fun _ _ _ => rfl) (fun e => e)) (fun _ => ?_)
    refine bind_i (sp_faultA c1.1) (fun y _ q => k64 y q.1.1 q.2.1.1 (fun e => absurd e q.2.2.2))
  · refine if_i (fun _ => ⟨_, rfl, j3, g3.1, g3.2, .inl q3⟩) (fun c => absurd rfl c)
end
section
/-! the reference: THE RULE read and asked; safety -/
theorem sl_letter156 (v2 : Nat) (v3 : Int32) {M : Mem} (h : J M) (hs : St v2) (h3 : 0 ≤ v3.toInt ∧ v3.toInt ≤ 7) : ∃ x, iter (lb_Mod_letter_156 v2 v3 M) FU ((0 : Int32), (0 : Int32)) = some x ∧ True := by
  have l := St_ln hs
  have zp := aP h
  refine iter_r (fun s : Int32 × Int32 => 0 ≤ s.2.toInt ∧ s.2.toInt ≤ 8) (fun s : Int32 × Int32 => (8 - s.2.toInt).toNat) (fun _ => True) ?_ FU _ (by show (0 : Int) ≤ (0 : Int32).toInt ∧ (0 : Int32).toInt ≤ 8; decide) (by show (8 - (0 : Int)).toNat < FU; rw [FU_v]; decide)
  rintro ⟨a, k⟩ ⟨i1, i2⟩
  dsimp only at i1 i2
  unfold lb_Mod_letter_156
  dsimp only
  refine if_i (fun c => ⟨_, rfl, trivial⟩) (fun c => ?_)
  have d : k.toInt < xP M := nlei.mp c
  have ek : (k + (1 : Int32)).toInt = k.toInt + 1 := add_ti rfl rfl (by omega) (by omega)
  have fin : ∀ b : Int32, LPq (fun s : Int32 × Int32 => 0 ≤ s.2.toInt ∧ s.2.toInt ≤ 8) (fun s : Int32 × Int32 => (8 - s.2.toInt).toNat) (fun _ : Int32 => True) (8 - k.toInt).toNat (.inl (b, k + (1 : Int32))) := by
    intro b
    refine ⟨⟨?_, ?_⟩, ?_⟩
    · show 0 ≤ (k + (1 : Int32)).toInt; omega
    · show (k + (1 : Int32)).toInt ≤ 8; omega
    · show (8 - (k + (1 : Int32)).toInt).toNat < (8 - k.toInt).toNat; omega
  refine if_i (fun c => ⟨_, rfl, fin _⟩) (fun c => ?_)
  refine inb_i i1 (by rw [l]; omega) (inb_i h3.1 (by rw [l]; omega) ?_)
  exact if_i (fun c => ⟨_, rfl, fin _⟩) (fun c => ⟨_, rfl, fin _⟩)
theorem sp_letter (c : Int32) (v2 : Nat) (v3 : Int32) {M : Mem} (h : J M) (hs : St v2) (h3 : 0 ≤ v3.toInt ∧ v3.toInt ≤ 7) : ∃ x, f_Mod_letter c v2 v3 M = some x ∧ True := by
  have l := St_ln hs
  have w := aw h
  have r := Jst0 h hs h3.1 h3.2
  have rm : ((M.1 v2 v3.toNatClampNeg) - (M.1 v2 v3.toNatClampNeg) / (36 : Int32) * (36 : Int32)).toInt = (M.1 v2 v3.toNatClampNeg).toInt % 36 := rem_ti rfl rfl r.1 (by decide)
  have wn : ¬ (M.1 162 2) = 0 := nz_of (by have : xw M = (M.1 162 2).toInt := rfl; omega)
  have i93 : inb (93 : Int32) (ln v2) = true := by rw [l]; decide
  have i95 : inb (95 : Int32) (ln v2) = true := by rw [l]; decide
  unfold f_Mod_letter f_Mod_cellOf
  refine c_i (St_kd hs) (inb_i h3.1 (by rw [l]; omega) ?_)
  rw [Option.bind_some]
  refine if_i (fun _ => ⟨_, rfl, trivial⟩) (fun _ => ?_)
  refine if_i (fun _ => c_i i93 ⟨_, rfl, trivial⟩) (fun _ => ?_)
  refine if_i (fun _ => c_i i95 ⟨_, rfl, trivial⟩) (fun _ => ?_)
  refine if_i (fun _ => inb_i (by omega) (by omega) (if_i (fun _ => ⟨_, rfl, trivial⟩) (fun _ => ⟨_, rfl, trivial⟩))) (fun _ => ?_)
  refine if_i (fun _ => ⟨_, rfl, trivial⟩) (fun _ => ?_)
  refine if_i (fun _ => z_i wn ⟨_, rfl, trivial⟩) (fun _ => ?_)
  refine if_i (fun _ => z_i wn ⟨_, rfl, trivial⟩) (fun _ => ?_)
  exact bind_i (sl_letter156 v2 v3 h hs h3) (fun x _ _ => ⟨_, rfl, trivial⟩)
def PE (M : Mem) : Prop := PI M ∧ xA M ≤ 40 ∧ xT M ≤ 40
theorem PF.T {M N : Mem} (h : PF M N) : xT N = xT M := congrArg Int32.toInt (h.1 162 16 (by decide))
/-- one step on, behind a sign that is there -/
theorem pe_at1 {M : Mem} (h : PE M) (hl : xA M < xL M ∧ xA M < xT M) : PE (s_i M 162 17 ((M.1 162 17) + (1 : Int32))) ∧ xA (s_i M 162 17 ((M.1 162 17) + (1 : Int32))) = xA M + 1 := by
  obtain ⟨g1, g2⟩ := at1 h.1.1 (by have := h.2.1; omega)
  refine ⟨⟨⟨g1, fun _ => ?_⟩, ?_, ?_⟩, g2⟩
  · rw [g2, at1L]; omega
  · have := h.2.2; omega
  · rw [(PF_17 _).T]; exact h.2.2
theorem pe_passes {M : Mem} (h : PE M) (c : Int32) (hc : c.toInt ≠ -1) : ∃ r, f_Mod_passes c M = some r ∧ PE r.2 ∧ PF M r.2 ∧ ((r.1 = 0 ∧ r.2 = M) ∨ (r.1 = 1 ∧ xA r.2 = xA M + 1)) := by
  unfold f_Mod_passes
  refine bind_i (sp_fine M) (fun x _ q => ?_)
  rcases q with ⟨q1, rfl⟩ | ⟨q1, rfl⟩
  · refine if_i (fun c => absurd c (by decide)) (fun _ => ?_)
    refine bind_i (sp_here h.1.1) (fun y _ hy => ?_)
    refine if_i (fun e => ?_) (fun e => ⟨_, rfl, h, PF.r, .inl ⟨rfl, rfl⟩⟩)
    subst e
    obtain ⟨g1, g2⟩ := pe_at1 h (hy hc)
    refine mem_i (fun m e => ⟨_, rfl, ?_⟩)
    subst e
    exact ⟨g1, PF_17 _, .inr ⟨rfl, g2⟩⟩
  · refine if_i (fun c => ⟨_, rfl, h, PF.r, .inl ⟨rfl, rfl⟩⟩) (fun c => absurd rfl c)
theorem PE.f {M N : Mem} (h : PE M) (j : PI N) (f : PF M N) (ha : xA N ≤ 40) : PE N := ⟨j, ha, by rw [f.T]; exact h.2.2⟩
theorem pe_number {M : Mem} (h : PE M) : ∃ r, f_Mod_number 3 M = some r ∧ PE r.2 ∧ PF M r.2 ∧ xA M ≤ xA r.2 := by
  unfold f_Mod_number
  refine bind_i (sp_fine M) (fun x _ q => ?_)
  rcases q with ⟨q1, rfl⟩ | ⟨q1, rfl⟩
  · refine if_i (fun c => absurd c (by decide)) (fun _ => ?_)
    have hl : ∃ x, iter (lb_Mod_number_16 3 (M.1 162 17)) FU ((0 : Int32), M) = some x ∧ (PE x.2 ∧ PF M x.2 ∧ xA M ≤ xA x.2) := by
      refine iter_r (fun s : Int32 × Mem => PE s.2 ∧ PF M s.2 ∧ xA M ≤ xA s.2) (fun s : Int32 × Mem => (41 - xA s.2).toNat) _ ?_ FU _ ⟨h, PF.r, Int.le_refl _⟩ (by have := aA h.1.1; show (41 - xA M).toNat < FU; rw [FU_v]; omega)
      rintro ⟨v, N⟩ ⟨i1, i2, i3⟩
      dsimp only at i1 i2 i3
      unfold lb_Mod_number_16
      dsimp only
      refine if_i (fun _ => ⟨_, rfl, i1, i2, i3⟩) (fun _ => ?_)
      refine bind_i (sp_here i1.1.1) (fun x2 ex2 q2 => ?_)
      refine bind_i (sp_in x2 48 57) (fun x3 _ q3 => ?_)
      rcases q3 with ⟨rfl, q31, q32⟩ | ⟨rfl, q3⟩
      · refine if_i (fun c => absurd c (by decide)) (fun _ => ?_)
        have k48 : (48 : Int32).toInt = 48 := rfl
        obtain ⟨g1, g2⟩ := pe_at1 i1 (q2 (by omega))
        refine bind_i (Q := fun y => y = x2) ⟨x2, ex2, rfl⟩ (fun x4 _ _ => ?_)
        refine mem_i (fun m e => ⟨_, rfl, ?_⟩)
        subst e
        refine ⟨⟨g1, i2.t (PF_17 _), ?_⟩, ?_⟩
        · show xA M ≤ xA (s_i N 162 17 ((N.1 162 17) + (1 : Int32))); omega
        · have := i1.2.1; show (41 - xA (s_i N 162 17 ((N.1 162 17) + (1 : Int32)))).toNat < (41 - xA N).toNat; omega
      · exact if_i (fun _ => ⟨_, rfl, i1, i2, i3⟩) (fun c => absurd rfl c)
    refine bind_i hl (fun x _ q => ?_)
    obtain ⟨w1, w2, w3⟩ := q
    unfold j_Mod_number_66
    refine if_i (fun c => ?_) (fun c => ⟨_, rfl, w1, w2, w3⟩)
    refine bind_i (sp_faultA w1.1.1) (fun y _ q => ⟨_, rfl, w1.f q.1 q.2.1 ?_, w2.t q.2.1, ?_⟩)
    · have := w1.2.1; have := q.2.2.1; show xA y ≤ 40; omega
    · have := q.2.2.1; show xA M ≤ xA y; omega
  · refine if_i (fun _ => ⟨_, rfl, h, PF.r, Int.le_refl _⟩) (fun c => absurd rfl c)
/-- what a reading function of THE RULE leaves -/
def XQ (M : Mem) (r : Int32 × Mem) : Prop := PE r.2 ∧ PF M r.2 ∧ xA M ≤ xA r.2
def RcOk (rc : Nat → Int32 → Mem → Option (Int32 × Mem)) (n : Int) : Prop := ∀ (w : Nat) (d : Int32) (M : Mem), PE M → 0 ≤ d.toInt → d.toInt ≤ 4 → 56 - xA M - 3 * d.toInt - (if w = 0 then 0 else if w = 1 then 1 else if w = 2 then 2 else 3) ≤ n → ∃ r, rc w d M = some r ∧ XQ M r
theorem sp_thing142 (rc : Nat → Int32 → Mem → Option (Int32 × Mem)) (c : Int32) {M : Mem} (h : PE M) (hl : xA M < xL M ∧ xA M < xT M) : ∃ r, j_Mod_thing_142 rc c M = some r ∧ XQ M r := by
  unfold j_Mod_thing_142
  obtain ⟨g1, g2⟩ := pe_at1 h hl
  refine mem_i (fun M5 e5 => ?_)
  subst e5
  refine if_i (fun _ => ⟨_, rfl, g1, PF_17 _, ?_⟩) (fun hn => ?_)
  · show xA M ≤ xA (s_i M 162 17 ((M.1 162 17) + (1 : Int32))); omega
  rcases g1.1.1.2.2.2.2.1 with e | ⟨k, e, hs⟩
  · exact absurd e hn
  · rw [e, Option.bind_some]
    refine c_i (St_kd hs) ?_
    have a := Jr_162_25 g1.1.1
    refine bind_i (sp_letter c k _ g1.1.1 hs a) (fun x _ _ => ⟨_, rfl, g1, PF_17 _, ?_⟩)
    show xA M ≤ xA (s_i M 162 17 ((M.1 162 17) + (1 : Int32))); omega
theorem sp_thing67 (rc : Nat → Int32 → Mem → Option (Int32 × Mem)) (c : Int32) {M : Mem} (h : PE M) (hc : c.toInt ≠ -1 → xA M < xL M ∧ xA M < xT M) : ∃ r, j_Mod_thing_67 rc c M = some r ∧ XQ M r := by
  unfold j_Mod_thing_67
  refine bind_i (sp_in c 48 57) (fun x4 _ q => ?_)
  rcases q with ⟨rfl, q1, q2⟩ | ⟨rfl, q⟩
  · refine if_i (fun c => absurd c (by decide)) (fun _ => ?_)
    exact bind_i (pe_number h) (fun x _ q => ⟨_, rfl, q.1, q.2.1, q.2.2⟩)
  · refine if_i (fun _ => ?_) (fun c => absurd rfl c)
    have k := fun (e : c.toInt ≠ -1) => sp_thing142 rc c h (hc e)
    refine if_i (fun e => k (by subst e; decide)) (fun _ => if_i (fun e => k (by subst e; decide)) (fun _ => if_i (fun e => k (by subst e; decide)) (fun _ => if_i (fun e => k (by subst e; decide)) (fun _ => if_i (fun e => k (by subst e; decide)) (fun _ => if_i (fun e => k (by subst e; decide)) (fun _ => if_i (fun e => k (by subst e; decide)) (fun _ => if_i (fun e => k (by subst e; decide)) (fun _ => ?_))))))))
    refine bind_i (sp_faultA h.1.1) (fun y _ q => ⟨_, rfl, h.f q.1 q.2.1 ?_, q.2.1, ?_⟩)
    · have := h.2.1; have := q.2.2.1; show xA y ≤ 40; omega
    · have := q.2.2.1; show xA M ≤ xA y; omega
theorem sp_fbthing (rc : Nat → Int32 → Mem → Option (Int32 × Mem)) (n : Int) (hr : RcOk rc n) (d : Int32) {M : Mem} (h : PE M) (h0 : 0 ≤ d.toInt) (h4 : d.toInt ≤ 4) (hn : 56 - xA M - 3 * d.toInt - 3 ≤ n + 1) : ∃ r, fb_Mod_thing rc d M = some r ∧ XQ M r := by
  unfold fb_Mod_thing
  refine bind_i (pe_passes h 45 (by decide)) (fun x1 _ q => ?_)
  obtain ⟨q1, q2, q3⟩ := q
  rcases q3 with ⟨e1, e2⟩ | ⟨e1, e2⟩
  · rw [e1, e2]
    refine if_i (fun _ => ?_) (fun c => absurd rfl c)
    refine bind_i (sp_fine M) (fun x2 _ q => ?_)
    rcases q with ⟨p1, rfl⟩ | ⟨p1, rfl⟩
    · refine if_i (fun c => absurd c (by decide)) (fun _ => ?_)
      refine bind_i (sp_here h.1.1) (fun x3 _ q => ?_)
      refine if_i (fun e => ?_) (fun _ => sp_thing67 rc x3 h q)
      refine if_i (fun _ => sp_thing67 rc x3 h q) (fun c => ?_)
      have d4 : d.toInt < 4 := nlei.mp c
      obtain ⟨g1, g2⟩ := pe_at1 h (q (by subst e; decide))
      refine mem_i (fun M20 e20 => ?_)
      rw [← e20] at g1 g2
      have f20 : PF M M20 := by rw [e20]; exact PF_17 _
      have ed : (d + (1 : Int32)).toInt = d.toInt + 1 := add_ti rfl rfl (by omega) (by omega)
      refine bind_i (hr 0 (d + (1 : Int32)) M20 g1 (by omega) (by omega) (by rw [if_pos rfl]; omega)) (fun x21 _ p => ?_)
      obtain ⟨p1, p2, p3⟩ := p
      refine bind_i (sp_need p1.1 41 (by decide)) (fun x22 _ s => ⟨_, rfl, ?_, (f20.t p2).t s.2.1, ?_⟩)
      · refine p1.f s.1 s.2.1 ?_
        obtain ⟨s1, s2, s3, s4, s5⟩ := s
        by_cases hw : xW x22 = -1
        · obtain ⟨u1, u2, u3⟩ := s5 hw
          have := s1.2 hw
          have l1 := p1.2.1
          have t1 := p1.2.2
          -- the sign ')' stood below top
          obtain ⟨r, er, k1, k2, k3⟩ := pe_passes p1 41 (by decide)
          have : f_Mod_need 41 x21.2 = some x22 := by assumption
          unfold f_Mod_need at this
          rw [er, Option.bind_some] at this
          rcases k3 with ⟨k4, k5⟩ | ⟨k4, k5⟩
          · rw [k4, if_pos rfl, k5] at this
            obtain ⟨y, ey, -, -, y3, y4⟩ := sp_faultA p1.1.1
            rw [ey, Option.bind_some] at this
            have := Option.some.inj this
            subst this
            exact absurd hw y4
          · rw [k4, if_neg (by decide)] at this
            have := Option.some.inj this
            rw [← this]; exact k1.2.1
        · have : f_Mod_need 41 x21.2 = some x22 := by assumption
          obtain ⟨r, er, k1, k2, k3⟩ := pe_passes p1 41 (by decide)
          unfold f_Mod_need at this
          rw [er, Option.bind_some] at this
          rcases k3 with ⟨k4, k5⟩ | ⟨k4, k5⟩
          · rw [k4, if_pos rfl, k5] at this
            obtain ⟨y, ey, -, -, y3, y4⟩ := sp_faultA p1.1.1
            rw [ey, Option.bind_some] at this
            have := Option.some.inj this
            subst this
            have := p1.2.1; show xA y ≤ 40; omega
          · rw [k4, if_neg (by decide)] at this
            have := Option.some.inj this
            rw [← this]; exact k1.2.1
      · have := s.2.2.1; show xA M ≤ xA x22; omega
    · exact if_i (fun _ => ⟨_, rfl, h, PF.r, Int.le_refl _⟩) (fun c => absurd rfl c)
  · rw [e1]
    refine if_i (fun c => absurd c (by decide)) (fun _ => ?_)
    refine bind_i (hr 3 d x1.2 q1 h0 h4 (by show _ - (3 : Int) ≤ n; omega)) (fun x26 _ p => ⟨_, rfl, p.1, q2.t p.2.1, ?_⟩)
    have := p.2.2; show xA M ≤ xA x26.2; omega
theorem sp_fbprod (rc : Nat → Int32 → Mem → Option (Int32 × Mem)) (n : Int) (hr : RcOk rc n) (d : Int32) {M : Mem} (h : PE M) (h0 : 0 ≤ d.toInt) (h4 : d.toInt ≤ 4) (hn : 56 - xA M - 3 * d.toInt - 2 ≤ n + 1) : ∃ r, fb_Mod_product rc d M = some r ∧ XQ M r := by
  unfold fb_Mod_product
  refine bind_i (hr 3 d M h h0 h4 (by show _ - (3 : Int) ≤ n; omega)) (fun x1 _ p => ?_)
  obtain ⟨p1, p2, p3⟩ := p
  have hl : ∃ x, iter (lb_Mod_product_6 rc d) FU (x1.1, x1.2) = some x ∧ XQ M x := by
    refine iter_r (fun s : Int32 × Mem => XQ M s) (fun s : Int32 × Mem => (41 - xA s.2).toNat) _ ?_ FU _ ⟨p1, p2, p3⟩ (by have := aA p1.1.1; show (41 - xA x1.2).toNat < FU; rw [FU_v]; omega)
    rintro ⟨v, N⟩ ⟨i1, i2, i3⟩
    dsimp only at i1 i2 i3
    unfold lb_Mod_product_6
    dsimp only
    refine bind_i (sp_fine N) (fun x2 _ q => ?_)
    rcases q with ⟨q1, rfl⟩ | ⟨q1, rfl⟩
    · refine if_i (fun c => absurd c (by decide)) (fun _ => ?_)
      have key : xA N < xL N ∧ xA N < xT N → ∃ r, j_Mod_product_31_6 rc d v N = some r ∧ LPq (fun s : Int32 × Mem => XQ M s) (fun s : Int32 × Mem => (41 - xA s.2).toNat) (XQ M) (41 - xA N).toNat r := by
        intro hh
        have k45 : ∀ w0 : Int32, ∃ r, j_Mod_product_45_6 rc d v w0 N = some r ∧ LPq (fun s : Int32 × Mem => XQ M s) (fun s : Int32 × Mem => (41 - xA s.2).toNat) (XQ M) (41 - xA N).toNat r := by
          intro w0
          unfold j_Mod_product_45_6
          obtain ⟨g1, g2⟩ := pe_at1 i1 hh
          refine mem_i (fun M5 e5 => ?_)
          rw [← e5] at g1 g2
          have f5 : PF N M5 := by rw [e5]; exact PF_17 _
          refine bind_i (hr 3 d M5 g1 h0 h4 (by show _ - (3 : Int) ≤ n; omega)) (fun x6 _ p => ?_)
          obtain ⟨t1, t2, t3⟩ := p
          have fin : ∀ b : Int32, LPq (fun s : Int32 × Mem => XQ M s) (fun s : Int32 × Mem => (41 - xA s.2).toNat) (XQ M) (41 - xA N).toNat (.inl (b, x6.2)) := by
            intro b
            refine ⟨⟨t1, (i2.t f5).t t2, ?_⟩, ?_⟩
            · show xA M ≤ xA x6.2; omega
            · have := i1.2.1; show (41 - xA x6.2).toNat < (41 - xA N).toNat; omega
          refine if_i (fun _ => ?_) (fun _ => ⟨_, rfl, fin _⟩)
          refine if_i (fun _ => ⟨_, rfl, fin _⟩) (fun c => z_i c ⟨_, rfl, fin _⟩)
        unfold j_Mod_product_31_6
        exact bind_i (sp_here i1.1.1) (fun x4 _ _ => if_i (fun _ => k45 1) (fun _ => k45 0))
      refine bind_i (sp_here i1.1.1) (fun x3 _ q => ?_)
      refine if_i (fun e => key (q (by subst e; decide))) (fun _ => ?_)
      refine bind_i (sp_here i1.1.1) (fun x10 _ q => ?_)
      exact if_i (fun e => key (q (by subst e; decide))) (fun _ => ⟨_, rfl, i1, i2, i3⟩)
    · exact if_i (fun _ => ⟨_, rfl, i1, i2, i3⟩) (fun c => absurd rfl c)
  exact bind_i hl (fun x _ q => ⟨_, rfl, q⟩)
theorem sp_fbsum (rc : Nat → Int32 → Mem → Option (Int32 × Mem)) (n : Int) (hr : RcOk rc n) (d : Int32) {M : Mem} (h : PE M) (h0 : 0 ≤ d.toInt) (h4 : d.toInt ≤ 4) (hn : 56 - xA M - 3 * d.toInt - 1 ≤ n + 1) : ∃ r, fb_Mod_sum rc d M = some r ∧ XQ M r := by
  unfold fb_Mod_sum
  refine bind_i (hr 2 d M h h0 h4 (by show _ - (2 : Int) ≤ n; omega)) (fun x1 _ p => ?_)
  obtain ⟨p1, p2, p3⟩ := p
  have hl : ∃ x, iter (lb_Mod_sum_6 rc d) FU (x1.1, x1.2) = some x ∧ XQ M x := by
    refine iter_r (fun s : Int32 × Mem => XQ M s) (fun s : Int32 × Mem => (41 - xA s.2).toNat) _ ?_ FU _ ⟨p1, p2, p3⟩ (by have := aA p1.1.1; show (41 - xA x1.2).toNat < FU; rw [FU_v]; omega)
    rintro ⟨v, N⟩ ⟨i1, i2, i3⟩
    dsimp only at i1 i2 i3
    unfold lb_Mod_sum_6
    dsimp only
    refine bind_i (sp_fine N) (fun x2 _ q => ?_)
    rcases q with ⟨q1, rfl⟩ | ⟨q1, rfl⟩
    · refine if_i (fun c => absurd c (by decide)) (fun _ => ?_)
      have key : xA N < xL N ∧ xA N < xT N → ∃ r, j_Mod_sum_31_6 rc d v N = some r ∧ LPq (fun s : Int32 × Mem => XQ M s) (fun s : Int32 × Mem => (41 - xA s.2).toNat) (XQ M) (41 - xA N).toNat r := by
        intro hh
        have k45 : ∀ w0 : Int32, ∃ r, j_Mod_sum_45_6 rc d v w0 N = some r ∧ LPq (fun s : Int32 × Mem => XQ M s) (fun s : Int32 × Mem => (41 - xA s.2).toNat) (XQ M) (41 - xA N).toNat r := by
          intro w0
          unfold j_Mod_sum_45_6
          obtain ⟨g1, g2⟩ := pe_at1 i1 hh
          refine mem_i (fun M5 e5 => ?_)
          rw [← e5] at g1 g2
          have f5 : PF N M5 := by rw [e5]; exact PF_17 _
          refine bind_i (hr 2 d M5 g1 h0 h4 (by show _ - (2 : Int) ≤ n; omega)) (fun x6 _ p => ?_)
          obtain ⟨t1, t2, t3⟩ := p
          have fin : ∀ b : Int32, LPq (fun s : Int32 × Mem => XQ M s) (fun s : Int32 × Mem => (41 - xA s.2).toNat) (XQ M) (41 - xA N).toNat (.inl (b, x6.2)) := by
            intro b
            refine ⟨⟨t1, (i2.t f5).t t2, ?_⟩, ?_⟩
            · show xA M ≤ xA x6.2; omega
            · have := i1.2.1; show (41 - xA x6.2).toNat < (41 - xA N).toNat; omega
          exact if_i (fun _ => ⟨_, rfl, fin _⟩) (fun _ => ⟨_, rfl, fin _⟩)
        unfold j_Mod_sum_31_6
        exact bind_i (sp_here i1.1.1) (fun x4 _ _ => if_i (fun _ => k45 1) (fun _ => k45 0))
      refine bind_i (sp_here i1.1.1) (fun x3 _ q => ?_)
      refine if_i (fun e => key (q (by subst e; decide))) (fun _ => ?_)
      refine bind_i (sp_here i1.1.1) (fun x10 _ q => ?_)
      exact if_i (fun e => key (q (by subst e; decide))) (fun _ => ⟨_, rfl, i1, i2, i3⟩)
    · exact if_i (fun _ => ⟨_, rfl, i1, i2, i3⟩) (fun c => absurd rfl c)
  exact bind_i hl (fun x _ q => ⟨_, rfl, q⟩)
theorem sp_fbheld (rc : Nat → Int32 → Mem → Option (Int32 × Mem)) (n : Int) (hr : RcOk rc n) (d : Int32) {M : Mem} (h : PE M) (h0 : 0 ≤ d.toInt) (h4 : d.toInt ≤ 4) (hn : 56 - xA M - 3 * d.toInt ≤ n + 1) : ∃ r, fb_Mod_held rc d M = some r ∧ XQ M r := by
  have rs : ∀ N : Mem, PE N → xA M ≤ xA N → ∃ r, rc 1 d N = some r ∧ XQ N r := fun N hN hle => hr 1 d N hN h0 h4 (by show _ - (1 : Int) ≤ n; omega)
  unfold fb_Mod_held
  refine bind_i (rs M h (Int.le_refl _)) (fun x1 _ p => ?_)
  obtain ⟨p1, p2, p3⟩ := p
  have fin : ∀ N : Mem, PE N → PF M N → xA M ≤ xA N → ∀ r : Int32 × Mem, XQ N r → ∀ b : Int32, XQ M (b, r.2) := by
    intro N n1 n2 n3 r hr b
    exact ⟨hr.1, n2.t hr.2.1, by have := hr.2.2; show xA M ≤ xA r.2; omega⟩
  refine bind_i (pe_passes p1 60 (by decide)) (fun x2 _ q => ?_)
  obtain ⟨a1, a2, a3⟩ := q
  have A2 : xA M ≤ xA x2.2 := by rcases a3 with ⟨_, e⟩ | ⟨_, e⟩; rw [e]; exact p3; omega
  refine if_i (fun _ => ?_) (fun _ => ?_)
  · refine bind_i (pe_passes a1 62 (by decide)) (fun x3 _ q => ?_)
    obtain ⟨b1, b2, b3⟩ := q
    have A3 : xA M ≤ xA x3.2 := by rcases b3 with ⟨_, e⟩ | ⟨_, e⟩; rw [e]; exact A2; omega
    refine if_i (fun _ => ?_) (fun _ => ?_)
    · refine bind_i (pe_passes b1 61 (by decide)) (fun x4 _ q => ?_)
      obtain ⟨c1, c2, c3⟩ := q
      have A4 : xA M ≤ xA x4.2 := by rcases c3 with ⟨_, e⟩ | ⟨_, e⟩; rw [e]; exact A3; omega
      refine if_i (fun _ => ⟨_, rfl, c1, ((p2.t a2).t b2).t c2, A4⟩) (fun _ => ?_)
      refine bind_i (rs x4.2 c1 A4) (fun x5 _ p => ?_)
      exact if_i (fun _ => ⟨_, rfl, fin x4.2 c1 (((p2.t a2).t b2).t c2) A4 x5 p _⟩) (fun _ => ⟨_, rfl, fin x4.2 c1 (((p2.t a2).t b2).t c2) A4 x5 p _⟩)
    · refine bind_i (rs x3.2 b1 A3) (fun x5 _ p => ?_)
      exact if_i (fun _ => ⟨_, rfl, fin x3.2 b1 ((p2.t a2).t b2) A3 x5 p _⟩) (fun _ => ⟨_, rfl, fin x3.2 b1 ((p2.t a2).t b2) A3 x5 p _⟩)
  · refine bind_i (rs x2.2 a1 A2) (fun x5 _ p => ?_)
    exact if_i (fun _ => ⟨_, rfl, fin x2.2 a1 (p2.t a2) A2 x5 p _⟩) (fun _ => ⟨_, rfl, fin x2.2 a1 (p2.t a2) A2 x5 p _⟩)
theorem sp_expr : ∀ n : Nat, RcOk (fr_expr n) n := by
  intro n
  induction n with
  | zero =>
    intro w d M h h0 h4 hn
    exfalso
    have := h.2.1
    revert hn
    split
    · omega
    split
    · omega
    split <;> omega
  | succ n ih =>
    intro w d M h h0 h4 hn
    show ∃ r, (if w = 0 then fb_Mod_held (fr_expr n) d M else if w = 1 then fb_Mod_sum (fr_expr n) d M else if w = 2 then fb_Mod_product (fr_expr n) d M else fb_Mod_thing (fr_expr n) d M) = some r ∧ XQ M r
    refine if_i (fun e => ?_) (fun e => if_i (fun e1 => ?_) (fun e1 => if_i (fun e2 => ?_) (fun e2 => ?_)))
    · rw [if_pos e] at hn
      exact sp_fbheld _ n ih d h h0 h4 (by omega)
    · rw [if_neg e, if_pos e1] at hn
      exact sp_fbsum _ n ih d h h0 h4 (by omega)
    · rw [if_neg e, if_neg e1, if_pos e2] at hn
      exact sp_fbprod _ n ih d h h0 h4 (by omega)
    · rw [if_neg e, if_neg e1, if_neg e2] at hn
      exact sp_fbthing _ n ih d h h0 h4 (by omega)
theorem sp_held {M : Mem} (h : PE M) : ∃ r, f_Mod_held 0 M = some r ∧ XQ M r := by
  have := aA h.1.1
  exact sp_expr 100 0 0 M h (by decide) (by decide) (by rw [if_pos rfl]; have z : (0 : Int32).toInt = 0 := rfl; omega)
/-! the reference: rule, goes; safety -/
theorem Jq24 {M : Mem} (h : J M) {z : Option Nat} (hz : z = none ∨ ∃ k, z = some k ∧ St k) : J (s_q M 162 24 z) := by
  refine ⟨h.1, h.2.1, ⟨fun i hi => ?_, fun i hi => ?_⟩, ?_, ?_, h.2.2.2.2.2⟩
  · have := h.2.2.1.1 i hi
    simp only [s_q, if_neg (show ¬ (47 = 162 ∧ i = 24) by omega)]; exact this
  · have := h.2.2.1.2 i hi
    simp only [s_q, if_neg (show ¬ (48 = 162 ∧ i = 24) by omega)]; exact this
  · have := h.2.2.2.1
    simp only [s_q, if_neg (show ¬ (162 = 162 ∧ 14 = 24) by decide)]; exact this
  · simp only [s_q, if_pos (show (162 = 162 ∧ 24 = 24) by decide)]; exact hz
theorem PIq24 {M : Mem} (h : PI M) {z : Option Nat} (hz : z = none ∨ ∃ k, z = some k ∧ St k) : PI (s_q M 162 24 z) := ⟨Jq24 h.1 hz, h.2⟩
theorem sl_rule73 (v1 : Int32) {M : Mem} (h : J M) (hv : v1.toInt ≤ 40) : ∃ x, iter (lb_Mod_rule_73 v1) FU ((0 : Int32), M) = some x ∧ (J x ∧ Fr (fun k _ => k = 172) M x ∧ x.2 = M.2) := by
  refine cnt_r _ (fun _ N => J N ∧ Fr (fun k _ => k = 172) M N ∧ N.2 = M.2) 40 (by decide) ?_ M ⟨h, Fr.r, rfl⟩ (by decide)
  intro k N k0 k1 hI
  unfold lb_Mod_rule_73
  dsimp only
  refine if_i (fun c => ⟨_, rfl, .inl ⟨_, rfl, hI⟩⟩) (fun c => ?_)
  have d := nlei.mp c
  refine inb_i k0 (by omega) (inb_i k0 (by omega) ?_)
  refine mem_i (fun m e => ⟨_, rfl, .inr ⟨by omega, m, rfl, ?_⟩⟩)
  rw [e]; exact ⟨Jw_any ok_172 hI.1 _ _, hI.2.1.i rfl, hI.2.2⟩
abbrev WG (k i : Nat) : Prop := k = 162 ∧ ((14 ≤ i ∧ i ≤ 18) ∨ i = 25)
theorem sp_goes31 {M : Mem} (h : J M) (v1 : Nat) (v2 : Int32) (hs : St v1) (h2 : 0 ≤ v2.toInt ∧ v2.toInt ≤ 7) : ∃ r, j_Mod_goes_31 v1 v2 M = some r ∧ J r.2 ∧ (r.1 = 0 ∨ r.1 = 1) ∧ Fr WG M r.2 := by
  have z := Jr_162_23 h
  unfold j_Mod_goes_31
  refine if_i (fun _ => ⟨_, rfl, h, .inr rfl, Fr.r⟩) (fun _ => ?_)
  refine bind_i (sp_begin h 172 (M.1 162 23) 40 (.inr ⟨rfl, z.1, z.2, by decide, by decide⟩)) (fun x1 _ q => ?_)
  obtain ⟨b1, b2, b3, b4, b5, b6⟩ := q
  refine mem_i (fun M2 e2 => mem_i (fun M3 e3 => ?_))
  have p2 : PI M2 := by rw [e2]; exact PIq24 b1 (.inr ⟨v1, rfl, hs⟩)
  have j3 : J M3 := by rw [e3]; exact Jw_162_25 p2.1 _ h2.1 h2.2
  have A3 : xA M3 = 0 := by rw [xA, e3, si_ne (by decide), e2]; exact b3
  have W3 : xL M3 = xL M2 := by rw [xL, e3, si_ne (by decide)]
  have T3 : xT M3 = 40 := by rw [xT, e3, si_ne (by decide), e2]; exact b6
  have L3 := aL j3
  have pe : PE M3 := ⟨⟨j3, fun _ => by omega⟩, by omega, by omega⟩
  have f3 : Fr WG M M3 := by
    rw [e3, e2]
    exact (show Fr WG M (s_q x1 162 24 (some v1)) from b2.m (fun k i w => ⟨w.1, .inl w.2⟩)).i ⟨rfl, .inr rfl⟩
  refine bind_i (sp_held pe) (fun x4 _ p => ?_)
  obtain ⟨p1, p2, p3⟩ := p
  have f4 : Fr WG M x4.2 := f3.t (p2.fr ⟨rfl, .inl ⟨by decide, by decide⟩⟩ ⟨rfl, .inl ⟨by decide, by decide⟩⟩)
  exact if_i (fun _ => ⟨_, rfl, p1.1.1, .inl rfl, f4⟩) (fun _ => ⟨_, rfl, p1.1.1, .inr rfl, f4⟩)
theorem sp_goes {M : Mem} (h : J M) (v1 : Nat) (v2 : Int32) (hs : St v1) (h2 : 0 ≤ v2.toInt ∧ v2.toInt ≤ 7) : ∃ r, f_Mod_goes v1 v2 M = some r ∧ J r.2 ∧ (r.1 = 0 ∨ r.1 = 1) ∧ Fr WG M r.2 := by
  have l := St_ln hs
  unfold f_Mod_goes
  refine c_i (St_kd hs) (c_i (by rw [l]; decide) ?_)
  refine if_i (fun _ => ?_) (fun _ => sp_goes31 h v1 v2 hs h2)
  have hh : ∃ r, f_Mod_has (M.1 162 5) v2 = some r ∧ True := by
    unfold f_Mod_has; exact if_i (fun _ => ⟨_, rfl, trivial⟩) (fun _ => ⟨_, rfl, trivial⟩)
  refine bind_i hh (fun x7 _ _ => ?_)
  refine if_i (fun _ => sp_goes31 h v1 v2 hs h2) (fun _ => ?_)
  refine inb_i h2.1 (by rw [l]; omega) ?_
  unfold f_Mod_levelOf
  rw [Option.bind_some]
  exact if_i (fun _ => ⟨_, rfl, h, .inl rfl, Fr.r⟩) (fun _ => sp_goes31 h v1 v2 hs h2)
theorem sf_Mod_rule (M : Mem) (hJ : J M) : ∃ r : Int32 × Mem, f_Mod_rule M = some r ∧ (J r.2 ∧ (∀ k i, k < 162 → r.2.1 k i = M.1 k i) ∧ r.2.1 162 10 = 0 ∧ (∀ k i, kq k i = true → r.2.1 k i = M.1 k i)) := by
  unfold f_Mod_rule
  refine mem_i (fun M1 e1 => ?_)
  have j1 : J M1 := by rw [e1]; exact Jw_fld okf_162_13 hJ _
  have t1 := Jr_162_10 j1
  refine bind_i (sp_begin j1 167 (M1.1 162 10) 40 (.inl ⟨rfl, t1.1, t1.2, by decide, by decide⟩)) (fun x2 _ q => ?_)
  obtain ⟨b1, b2, b3, b4, b5, b6⟩ := q
  refine mem_i (fun M3 e3 => mem_i (fun M4 e4 => ?_))
  have j3 : J M3 := by rw [e3]; exact Jw_162_10 b1.1 _ (by decide) (by decide)
  have A3 : xA M3 = xA x2 := by rw [xA, e3, si_ne (by decide)]
  have W3 : xW M3 = xW x2 := by rw [xW, e3, si_ne (by decide)]
  have L3 : xL M3 = xL x2 := by rw [xL, e3, si_ne (by decide)]
  have T3 : xT M3 = xT x2 := by rw [xT, e3, si_ne (by decide)]
  have p3 : PI M3 := ⟨j3, fun e => by rw [A3, L3]; exact b1.2 (W3 ▸ e)⟩
  have p4 : PI M4 := by rw [e4]; exact PIq24 p3 (.inl rfl)
  have g4 : (∀ k i, k < 162 → M4.1 k i = M.1 k i) ∧ M4.1 162 10 = 0 := by
    have e41 : M4.1 = M3.1 := by rw [e4]; rfl
    rw [e41]
    refine ⟨fun k i hk => ?_, by rw [e3, si_eq]⟩
    rw [e3, si_ne (by intro w; omega), b2 k i (by intro w; omega), e1, si_ne (by intro w; omega)]
  have q4 : ∀ k i, kq k i = true → M4.1 k i = M.1 k i := by
    intro k i hk
    have nw : ¬ (k = 162 ∧ i = 10) ∧ ¬ W18 k i ∧ ¬ (k = 162 ∧ i = 13) := by
      simp only [kq, Bool.or_eq_true, Bool.and_eq_true, beq_iff_eq] at hk
      refine ⟨?_, ?_, ?_⟩ <;> intro w <;> omega
    have e41 : M4.1 = M3.1 := by rw [e4]; rfl
    rw [e41, e3, si_ne nw.1, b2 k i nw.2.1, e1, si_ne nw.2.2]
  have fin : ∀ (v : Int32) (N : Mem), v = M1.1 162 10 → J N → (∀ k i, k < 162 → N.1 k i = M.1 k i) → N.1 162 10 = 0 → (∀ k i, kq k i = true → N.1 k i = M.1 k i) → v.toInt ≤ 40 → ∃ r, (Option.bind (iter (lb_Mod_rule_73 v) FU ((0 : Int32), N)) fun x7 => mem_ (s_i x7 162 23 v) fun M8 => some ((0 : Int32), M8)) = some r ∧ (J r.2 ∧ (∀ k i, k < 162 → r.2.1 k i = M.1 k i) ∧ r.2.1 162 10 = 0 ∧ (∀ k i, kq k i = true → r.2.1 k i = M.1 k i)) := by
    intro v N hv n1 n2 n3 nq n4
    refine bind_i (sl_rule73 v n1 n4) (fun x7 _ p => mem_i (fun M8 e8 => ⟨_, rfl, ?_, fun k i hk => ?_, ?_, fun k i hk => ?_⟩))
    · rw [e8]; exact Jw_162_23 p.1 _ (by rw [hv]; exact t1.1) n4
    · rw [e8, si_ne (by intro w; omega), p.2.1 k i (by omega)]; exact n2 k i hk
    · rw [e8, si_ne (by decide), p.2.1 162 10 (by decide)]; exact n3
    · have nw : k ≠ 172 ∧ ¬ (k = 162 ∧ i = 23) := by
        simp only [kq, Bool.or_eq_true, Bool.and_eq_true, beq_iff_eq] at hk
        refine ⟨?_, ?_⟩ <;> intro w <;> omega
      show M8.1 k i = _
      rw [e8, si_ne nw.2, p.2.1 k i nw.1]; exact nq k i hk
  refine if_i (fun c => fin _ M4 rfl p4.1 g4.1 g4.2 q4 (by have := lei.mp c; have z : (0 : Int32).toInt = 0 := rfl; omega)) (fun _ => ?_)
  have A4 : xA M4 = xA M3 := by rw [e4]; rfl
  have T4 : xT M4 = xT M3 := by rw [e4]; rfl
  have L4 : xL M4 = xL M3 := by rw [e4]; rfl
  have t40 : (40 : Int32).toInt = 40 := rfl
  refine bind_i (sp_held (M := M4) ⟨p4, by omega, by omega⟩) (fun x9 _ p => ?_)
  obtain ⟨p1, p2, -⟩ := p
  have k57 : ∀ N : Mem, J N → PF M4 N → (xW N = -1 → (M1.1 162 10).toInt ≤ xA N ∧ xA N ≤ 40) → ∃ r, j_Mod_rule_57 (M1.1 162 10) N = some r ∧ (J r.2 ∧ (∀ k i, k < 162 → r.2.1 k i = M.1 k i) ∧ r.2.1 162 10 = 0 ∧ (∀ k i, kq k i = true → r.2.1 k i = M.1 k i)) := by
    intro N n1 n2 n3
    have g : (∀ k i, k < 162 → N.1 k i = M.1 k i) ∧ N.1 162 10 = 0 := ⟨fun k i hk => (n2.1 k i (by omega)).trans (g4.1 k i hk), (n2.1 162 10 (by decide)).trans g4.2⟩
    have qN : ∀ k i, kq k i = true → N.1 k i = M.1 k i := fun k i hk => (n2.1 k i (by
      simp only [kq, Bool.or_eq_true, Bool.and_eq_true, beq_iff_eq] at hk
      intro w; omega)).trans (q4 k i hk)
    unfold j_Mod_rule_57
    refine bind_i (sp_fine N) (fun x _ q => ?_)
    rcases q with ⟨q1, rfl⟩ | ⟨q1, rfl⟩
    · refine if_i (fun c => absurd c (by decide)) (fun _ => ?_)
      exact fin _ N rfl n1 g.1 g.2 qN (by have := n3 q1; omega)
    · exact if_i (fun _ => ⟨_, rfl, n1, g.1, g.2, qN⟩) (fun c => absurd rfl c)
  refine if_i (fun c => k57 x9.2 p1.1.1 p2 (fun _ => ⟨lei.mp c, p1.2.1⟩)) (fun _ => ?_)
  exact bind_i (sp_faultA p1.1.1) (fun y _ q => k57 y q.1.1 (p2.t q.2.1) (fun e => absurd e q.2.2.2))
end
