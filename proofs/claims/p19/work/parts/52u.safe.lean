/-! safety of the class, 21 -/
theorem sl_Top_flees_48 (v3 : Int32) (a0_ : Int32) (N_ : Mem) (B_ : Mem) (hp_v3 : (1 : Int) ≤ v3.toInt ∧ v3.toInt ≤ (30 : Int)) (hN : J N_) (hG : Gc 0 B_ N_) (i2_ : (0 : Int) ≤ a0_.toInt) (i3_ : a0_.toInt ≤ (30 : Int)) : ∃ x, iter (lb_Top_flees_48 v3) FU (a0_, N_) = some x ∧ (fun r : Mem => J r ∧ Gc 0 B_ r) x := by
  refine iter_r (fun s : Int32 × Mem => J s.2 ∧ Gc 0 B_ s.2 ∧ (0 : Int) ≤ s.1.toInt ∧ s.1.toInt ≤ (30 : Int)) (fun s : Int32 × Mem => (30 - s.1.toInt).toNat) (fun r : Mem => J r ∧ Gc 0 B_ r) ?_ FU (a0_, N_) ⟨hN, hG, i2_, i3_⟩ (by show (30 - a0_.toInt).toNat < FU; rw [FU_v]; omega)
  clear i3_ i2_ hG hN
  rintro ⟨a0_', N_'⟩ ⟨hN, hG, i2_, i3_⟩
  dsimp only at hN hG i2_ i3_
  unfold lb_Top_flees_48
  dsimp only
  refine if_i (fun c => ?_) (fun c => ?_)
  · have c1 := c
    have d2 : v3.toInt ≤ a0_'.toInt := lei.mp c1
    exact ⟨_, rfl, hN, hG⟩
  · have c3 := c
    have d4 : a0_'.toInt < v3.toInt := nlei.mp c3
    refine bind_i (sf_Top_hunt N_' hN) (fun x4 _ q => ?_)
    obtain ⟨h5, h6⟩ := q
    have hG7 : Gc 0 B_ x4 := Gc_t hG h6
    have q8 : (a0_' + (1 : Int32)).toInt = a0_'.toInt + (1 : Int) := add_ti rfl rfl (by omega) (by omega)
    exact ⟨_, rfl, ⟨h5, hG7, (show (0 : Int) ≤ (a0_' + (1 : Int32)).toInt by omega), (show (a0_' + (1 : Int32)).toInt ≤ (30 : Int) by omega)⟩, show (30 - (a0_' + (1 : Int32)).toInt).toNat < (30 - a0_'.toInt).toNat by omega⟩
theorem sf_Top_flees (v1 : Int32) (v2 : Int32) (v3 : Int32) (M : Mem) (hJ : J M) : ∃ r : Int32 × Mem, f_Top_flees v1 v2 v3 M = some r ∧ (J r.2 ∧ Gc 0 M r.2 ∧ (-1 : Int) ≤ r.1.toInt ∧ r.1.toInt ≤ (1 : Int)) := by
  unfold f_Top_flees
  refine bind_i (sf_Ground_holds v2 v1 M hJ) (fun x1 _ q => ?_)
  obtain ⟨h1, h2, h3, h4⟩ := q
  refine if_i (fun c => ?_) (fun c => ?_)
  · have c5 := c
    have d6 : x1.toInt = (0 : Int) := eqi.mp c5
    exact ⟨((-1 : Int32), M), rfl, hJ, Gc_r, (show (-1 : Int) ≤ (-1 : Int32).toInt by decide), (show (-1 : Int32).toInt ≤ (1 : Int) by decide)⟩
  · have c7 := c
    have d8 : ¬ x1.toInt = (0 : Int) := neqi.mp c7
    refine if_i (fun c => ?_) (fun c => ?_)
    · have c9 := c
      have d10 : v3.toInt < (1 : Int) := lti.mp c9
      exact ⟨((-1 : Int32), M), rfl, hJ, Gc_r, (show (-1 : Int) ≤ (-1 : Int32).toInt by decide), (show (-1 : Int32).toInt ≤ (1 : Int) by decide)⟩
    · have c11 := c
      have d12 : (1 : Int) ≤ v3.toInt := nlti.mp c11
      refine if_i (fun c => ?_) (fun c => ?_)
      · have c13 := c
        have d14 : v3.toInt ≤ (30 : Int) := lei.mp c13
        refine bind_i (sf_Scene_copy 25 11 M kd_25 kd_11 hJ) (fun x2 _ q => ?_)
        obtain ⟨h15, h16, h17⟩ := q
        have hG18 : Gc 0 M x2 := Gc_t Gc_r h16
        refine bind_i (sf_Thief_start v2 v1 x2 h15) (fun x3 _ q => ?_)
        obtain ⟨h19, h20⟩ := q
        have hG21 : Gc 0 M x3 := Gc_t hG18 h20
        refine bind_i (sl_Top_flees_48 v3 (0 : Int32) x3 M (⟨show (1 : Int) ≤ v3.toInt by omega, show v3.toInt ≤ (30 : Int) by omega⟩) h19 hG21 (show (0 : Int) ≤ (0 : Int32).toInt by decide) (show (0 : Int32).toInt ≤ (30 : Int) by decide)) (fun x6 _ q => ?_)
        obtain ⟨h22, h23⟩ := q
        refine bind_i (sf_Top_emptyRow x6 h22) (fun x7 _ q => ?_)
        obtain ⟨h24, h25⟩ := q
        have hG26 : Gc 0 M x7 := Gc_t h23 h25
        refine bind_i (sf_Top_noteSet (x7.2.1 151 2) x7 h24) (fun x8 _ q => ?_)
        obtain ⟨h27, h28⟩ := q
        have hG29 : Gc 0 M x8 := Gc_t hG26 h28
        refine bind_i (sf_Top_noteSet (x8.2.1 151 3) x8 h27) (fun x9 _ q => ?_)
        obtain ⟨h30, h31⟩ := q
        have hG32 : Gc 0 M x9 := Gc_t hG29 h31
        refine bind_i (sf_Thief_gone x9 h30) (fun x10 _ q => ?_)
        obtain ⟨h33, h34⟩ := q
        refine if_i (fun c => ?_) (fun c => ?_)
        · have c35 := c
          have d36 : x10.toInt = (0 : Int) := eqi.mp c35
          exact ⟨((1 : Int32), x9), rfl, h30, hG32, (show (-1 : Int) ≤ (1 : Int32).toInt by decide), (show (1 : Int32).toInt ≤ (1 : Int) by decide)⟩
        · have c37 := c
          have d38 : ¬ x10.toInt = (0 : Int) := neqi.mp c37
          exact ⟨((0 : Int32), x9), rfl, h30, hG32, (show (-1 : Int) ≤ (0 : Int32).toInt by decide), (show (0 : Int32).toInt ≤ (1 : Int) by decide)⟩
      · have c39 := c
        have d40 : (30 : Int) < v3.toInt := nlei.mp c39
        exact ⟨((-1 : Int32), M), rfl, hJ, Gc_r, (show (-1 : Int) ≤ (-1 : Int32).toInt by decide), (show (-1 : Int32).toInt ≤ (1 : Int) by decide)⟩
theorem sl_Top_lairs_26 (v1 : Int32) (a0_ : Int32) (N_ : Mem) (B_ : Mem) (hp_v1 : (1 : Int) ≤ v1.toInt ∧ v1.toInt ≤ (30 : Int)) (hN : J N_) (hG : Gc 0 B_ N_) (i2_ : (0 : Int) ≤ a0_.toInt) (i3_ : a0_.toInt ≤ (30 : Int)) : ∃ x, iter (lb_Top_lairs_26 v1) FU (a0_, N_) = some x ∧ (fun r : Mem => J r ∧ Gc 0 B_ r) x := by
  refine iter_r (fun s : Int32 × Mem => J s.2 ∧ Gc 0 B_ s.2 ∧ (0 : Int) ≤ s.1.toInt ∧ s.1.toInt ≤ (30 : Int)) (fun s : Int32 × Mem => (30 - s.1.toInt).toNat) (fun r : Mem => J r ∧ Gc 0 B_ r) ?_ FU (a0_, N_) ⟨hN, hG, i2_, i3_⟩ (by show (30 - a0_.toInt).toNat < FU; rw [FU_v]; omega)
  clear i3_ i2_ hG hN
  rintro ⟨a0_', N_'⟩ ⟨hN, hG, i2_, i3_⟩
  dsimp only at hN hG i2_ i3_
  unfold lb_Top_lairs_26
  dsimp only
  refine if_i (fun c => ?_) (fun c => ?_)
  · have c1 := c
    have d2 : v1.toInt ≤ a0_'.toInt := lei.mp c1
    exact ⟨_, rfl, hN, hG⟩
  · have c3 := c
    have d4 : a0_'.toInt < v1.toInt := nlei.mp c3
    refine bind_i (sf_Clock_pass 25 32 N_' kd_25 kd_32 hN) (fun x2 _ q => ?_)
    obtain ⟨h5, h6⟩ := q
    have hG7 : Gc 0 B_ x2 := Gc_t hG h6
    refine bind_i (sf_Scene_occupied 25 (0 : Int32) (x2.1 6 4) x2 kd_25 h5) (fun x3 _ q => ?_)
    refine bind_i (sf_Scene_occupied 25 (1 : Int32) (x2.1 6 4) x2 kd_25 h5) (fun x4 _ q => ?_)
    refine bind_i (sf_Thief_record a0_' x3 x4 x2 h5) (fun x5 _ q => ?_)
    obtain ⟨h8, h9⟩ := q
    have hG10 : Gc 0 B_ x5 := Gc_t hG7 h9
    have q11 : (a0_' + (1 : Int32)).toInt = a0_'.toInt + (1 : Int) := add_ti rfl rfl (by omega) (by omega)
    exact ⟨_, rfl, ⟨h8, hG10, (show (0 : Int) ≤ (a0_' + (1 : Int32)).toInt by omega), (show (a0_' + (1 : Int32)).toInt ≤ (30 : Int) by omega)⟩, show (30 - (a0_' + (1 : Int32)).toInt).toNat < (30 - a0_'.toInt).toNat by omega⟩
theorem sl_Top_lairs_138  (a0_ : Int32) (N_ : Mem) (B_ : Mem) (hN : J N_) (hG : Gc 0 B_ N_) (i2_ : (-1 : Int) ≤ a0_.toInt) (i3_ : a0_.toInt ≤ (29 : Int)) : ∃ x, iter (lb_Top_lairs_138) FU (a0_, N_) = some x ∧ (fun r : Mem => J r ∧ Gc 0 B_ r) x := by
  refine iter_r (fun s : Int32 × Mem => J s.2 ∧ Gc 0 B_ s.2 ∧ (-1 : Int) ≤ s.1.toInt ∧ s.1.toInt ≤ (29 : Int)) (fun s : Int32 × Mem => (s.1.toInt - (-1)).toNat) (fun r : Mem => J r ∧ Gc 0 B_ r) ?_ FU (a0_, N_) ⟨hN, hG, i2_, i3_⟩ (by show (a0_.toInt - (-1)).toNat < FU; rw [FU_v]; omega)
  clear i3_ i2_ hG hN
  rintro ⟨a0_', N_'⟩ ⟨hN, hG, i2_, i3_⟩
  dsimp only at hN hG i2_ i3_
  unfold lb_Top_lairs_138
  dsimp only
  refine if_i (fun c => ?_) (fun c => ?_)
  · have c1 := c
    have d2 : a0_'.toInt < (0 : Int) := lti.mp c1
    exact ⟨_, rfl, hN, hG⟩
  · have c3 := c
    have d4 : (0 : Int) ≤ a0_'.toInt := nlti.mp c3
    refine bind_i (sf_Thief_strike a0_' N_' hN) (fun x10 _ q => ?_)
    obtain ⟨h5, h6⟩ := q
    have hG7 : Gc 0 B_ x10 := Gc_t hG h6
    refine bind_i (sf_Thief_stir 32 x10 kd_32 h5) (fun x11 _ q => ?_)
    obtain ⟨h8, h9⟩ := q
    have hG10 : Gc 0 B_ x11 := Gc_t hG7 h9
    have q11 : (a0_' + (-1 : Int32)).toInt = a0_'.toInt + (-1 : Int) := add_ti rfl rfl (by omega) (by omega)
    exact ⟨_, rfl, ⟨h8, hG10, (show (-1 : Int) ≤ (a0_' + (-1 : Int32)).toInt by omega), (show (a0_' + (-1 : Int32)).toInt ≤ (29 : Int) by omega)⟩, show ((a0_' + (-1 : Int32)).toInt - (-1)).toNat < (a0_'.toInt - (-1)).toNat by omega⟩
theorem sf_Top_lairs (v1 : Int32) (M : Mem) (hJ : J M) : ∃ r : Int32 × Mem, f_Top_lairs v1 M = some r ∧ (J r.2 ∧ Gc 0 M r.2 ∧ (-1 : Int) ≤ r.1.toInt ∧ r.1.toInt ≤ (254 : Int)) := by
  unfold f_Top_lairs
  refine if_i (fun c => ?_) (fun c => ?_)
  · have c1 := c
    have d2 : v1.toInt < (1 : Int) := lti.mp c1
    exact ⟨((-1 : Int32), M), rfl, hJ, Gc_r, (show (-1 : Int) ≤ (-1 : Int32).toInt by decide), (show (-1 : Int32).toInt ≤ (254 : Int) by decide)⟩
  · have c3 := c
    have d4 : (1 : Int) ≤ v1.toInt := nlti.mp c3
    refine if_i (fun c => ?_) (fun c => ?_)
    · have c5 := c
      have d6 : v1.toInt ≤ (30 : Int) := lei.mp c5
      refine bind_i (sf_Scene_copy 25 11 M kd_25 kd_11 hJ) (fun x1 _ q => ?_)
      obtain ⟨h7, h8, h9⟩ := q
      have hG10 : Gc 0 M x1 := Gc_t Gc_r h8
      refine bind_i (sl_Top_lairs_26 v1 (0 : Int32) x1 M (⟨show (1 : Int) ≤ v1.toInt by omega, show v1.toInt ≤ (30 : Int) by omega⟩) h7 hG10 (show (0 : Int) ≤ (0 : Int32).toInt by decide) (show (0 : Int32).toInt ≤ (30 : Int) by decide)) (fun x7 _ q => ?_)
      obtain ⟨h11, h12⟩ := q
      refine mem_i (fun M8 e14 => ?_)
      have hJ15 : J M8 := by rw [e14]; exact Jl h11
      have hG16 : Gc 0 M M8 := Gc_l h12 e14
      clear e14
      refine mem_i (fun M9 e18 => ?_)
      have hJ19 : J M9 := by rw [e18]; exact Jl hJ15
      have hG20 : Gc 0 M M9 := Gc_l hG16 e18
      clear e18
      have q21 : (v1 - (1 : Int32)).toInt = v1.toInt - (1 : Int) := sub_ti rfl rfl (by omega) (by omega)
      refine bind_i (sl_Top_lairs_138  (v1 - (1 : Int32)) M9 M hJ19 hG20 (show (-1 : Int) ≤ (v1 - (1 : Int32)).toInt by omega) (show (v1 - (1 : Int32)).toInt ≤ (29 : Int) by omega)) (fun x13 _ q => ?_)
      obtain ⟨h22, h23⟩ := q
      refine bind_i (sf_Top_emptyRow x13 h22) (fun x14 _ q => ?_)
      obtain ⟨h24, h25⟩ := q
      have hG26 : Gc 0 M x14 := Gc_t h23 h25
      refine bind_i (sf_Top_noteSet (x14.2.1 151 2) x14 h24) (fun x15 _ q => ?_)
      obtain ⟨h27, h28⟩ := q
      have hG29 : Gc 0 M x15 := Gc_t hG26 h28
      refine bind_i (sf_Top_noteSet (x15.2.1 151 3) x15 h27) (fun x16 _ q => ?_)
      obtain ⟨h30, h31⟩ := q
      have hG32 : Gc 0 M x16 := Gc_t hG29 h31
      refine bind_i (sf_JLong_bitCount (x16.2.1 151 2)) (fun x17 _ q => ?_)
      obtain ⟨h33, h34⟩ := q
      refine bind_i (sf_JLong_bitCount (x16.2.1 151 3)) (fun x18 _ q => ?_)
      obtain ⟨h35, h36⟩ := q
      have q37 : (x17 + x18).toInt = x17.toInt + x18.toInt := add_ti rfl rfl (by omega) (by omega)
      exact ⟨((x17 + x18), x16), rfl, h30, hG32, (show (-1 : Int) ≤ (x17 + x18).toInt by omega), (show (x17 + x18).toInt ≤ (254 : Int) by omega)⟩
    · have c38 := c
      have d39 : (30 : Int) < v1.toInt := nlei.mp c38
      exact ⟨((-1 : Int32), M), rfl, hJ, Gc_r, (show (-1 : Int) ≤ (-1 : Int32).toInt by decide), (show (-1 : Int32).toInt ≤ (254 : Int) by decide)⟩
theorem sl_Top_caught_36  (a0_ : Int32) (N_ : Mem) (B_ : Mem) (hN : J N_) (hG : Gc 0 B_ N_) (i2_ : (1 : Int) ≤ a0_.toInt) (i3_ : a0_.toInt ≤ (31 : Int)) : ∃ x, iter (lb_Top_caught_36) FU (a0_, N_) = some x ∧ (SQ (fun r : Mem => J r ∧ Gc 0 B_ r) (fun r : Int32 × Mem => J r.2 ∧ Gc 0 B_ r.2 ∧ (1 : Int) ≤ r.1.toInt ∧ r.1.toInt ≤ (30 : Int))) x := by
  refine iter_r (fun s : Int32 × Mem => J s.2 ∧ Gc 0 B_ s.2 ∧ (1 : Int) ≤ s.1.toInt ∧ s.1.toInt ≤ (31 : Int)) (fun s : Int32 × Mem => (31 - s.1.toInt).toNat) (SQ (fun r : Mem => J r ∧ Gc 0 B_ r) (fun r : Int32 × Mem => J r.2 ∧ Gc 0 B_ r.2 ∧ (1 : Int) ≤ r.1.toInt ∧ r.1.toInt ≤ (30 : Int))) ?_ FU (a0_, N_) ⟨hN, hG, i2_, i3_⟩ (by show (31 - a0_.toInt).toNat < FU; rw [FU_v]; omega)
  clear i3_ i2_ hG hN
  rintro ⟨a0_', N_'⟩ ⟨hN, hG, i2_, i3_⟩
  dsimp only at hN hG i2_ i3_
  unfold lb_Top_caught_36
  dsimp only
  refine if_i (fun c => ?_) (fun c => ?_)
  · have c1 := c
    have d2 : (30 : Int) < a0_'.toInt := lti.mp c1
    exact ⟨_, rfl, hN, hG⟩
  · have c3 := c
    have d4 : a0_'.toInt ≤ (30 : Int) := nlti.mp c3
    refine bind_i (sf_Top_hunt N_' hN) (fun x4 _ q => ?_)
    obtain ⟨h5, h6⟩ := q
    have hG7 : Gc 0 B_ x4 := Gc_t hG h6
    refine bind_i (sf_Thief_gone x4 h5) (fun x5 _ q => ?_)
    obtain ⟨h8, h9⟩ := q
    refine if_i (fun c => ?_) (fun c => ?_)
    · have c10 := c
      have d11 : x5.toInt = (0 : Int) := eqi.mp c10
      have q12 : (a0_' + (1 : Int32)).toInt = a0_'.toInt + (1 : Int) := add_ti rfl rfl (by omega) (by omega)
      exact ⟨_, rfl, ⟨h5, hG7, (show (1 : Int) ≤ (a0_' + (1 : Int32)).toInt by omega), (show (a0_' + (1 : Int32)).toInt ≤ (31 : Int) by omega)⟩, show (31 - (a0_' + (1 : Int32)).toInt).toNat < (31 - a0_'.toInt).toNat by omega⟩
    · have c13 := c
      have d14 : ¬ x5.toInt = (0 : Int) := neqi.mp c13
      exact ⟨_, rfl, h5, hG7, (show (1 : Int) ≤ a0_'.toInt by omega), (show a0_'.toInt ≤ (30 : Int) by omega)⟩
theorem sf_Top_caught (v1 : Int32) (v2 : Int32) (M : Mem) (hJ : J M) : ∃ r : Int32 × Mem, f_Top_caught v1 v2 M = some r ∧ (J r.2 ∧ Gc 0 M r.2 ∧ (-2 : Int) ≤ r.1.toInt ∧ r.1.toInt ≤ (30 : Int)) := by
  unfold f_Top_caught
  refine bind_i (sf_Ground_holds v2 v1 M hJ) (fun x1 _ q => ?_)
  obtain ⟨h1, h2, h3, h4⟩ := q
  refine if_i (fun c => ?_) (fun c => ?_)
  · have c5 := c
    have d6 : x1.toInt = (0 : Int) := eqi.mp c5
    exact ⟨((-1 : Int32), M), rfl, hJ, Gc_r, (show (-2 : Int) ≤ (-1 : Int32).toInt by decide), (show (-1 : Int32).toInt ≤ (30 : Int) by decide)⟩
  · have c7 := c
    have d8 : ¬ x1.toInt = (0 : Int) := neqi.mp c7
    refine bind_i (sf_Scene_copy 25 11 M kd_25 kd_11 hJ) (fun x2 _ q => ?_)
    obtain ⟨h9, h10, h11⟩ := q
    have hG12 : Gc 0 M x2 := Gc_t Gc_r h10
    refine bind_i (sf_Thief_start v2 v1 x2 h9) (fun x3 _ q => ?_)
    obtain ⟨h13, h14⟩ := q
    have hG15 : Gc 0 M x3 := Gc_t hG12 h14
    refine bind_i (sl_Top_caught_36  (1 : Int32) x3 M h13 hG15 (show (1 : Int) ≤ (1 : Int32).toInt by decide) (show (1 : Int32).toInt ≤ (31 : Int) by decide)) (fun x16 _ q => ?_)
    rcases x16 with y | y
    · have q9 : J y ∧ Gc 0 M y := q
      dsimp only [Sum.elim_inl, Sum.elim_inr]
      obtain ⟨h18, h19⟩ := q9
      exact ⟨((-2 : Int32), y), rfl, h18, h19, (show (-2 : Int) ≤ (-2 : Int32).toInt by decide), (show (-2 : Int32).toInt ≤ (30 : Int) by decide)⟩
    · have q9 : J y.2 ∧ Gc 0 M y.2 ∧ (1 : Int) ≤ y.1.toInt ∧ y.1.toInt ≤ (30 : Int) := q
      dsimp only [Sum.elim_inl, Sum.elim_inr]
      obtain ⟨h21, h22, h23, h24⟩ := q9
      exact ⟨(y.1, y.2), rfl, h21, h22, (show (-2 : Int) ≤ y.1.toInt by omega), (show y.1.toInt ≤ (30 : Int) by omega)⟩
theorem sf_Top_slipsBy (v1 : Int32) (v2 : Int32) (v3 : Int32) (v4 : Int32) (v5 : Int32) (M : Mem) (hJ : J M) : ∃ r : Int32 × Mem, f_Top_slipsBy v1 v2 v3 v4 v5 M = some r ∧ (J r.2 ∧ Gc 0 M r.2 ∧ (0 : Int) ≤ r.1.toInt ∧ r.1.toInt ≤ (1 : Int)) := by
  unfold f_Top_slipsBy
  refine bind_i (sf_Thief_start v2 v3 M hJ) (fun x1 _ q => ?_)
  obtain ⟨h1, h2⟩ := q
  have hG3 : Gc 0 M x1 := Gc_t Gc_r h2
  refine bind_i (sf_Scene_guarded 11 (0 : Int32) v1 x1 kd_11 h1) (fun x2 _ q => ?_)
  refine bind_i (sf_Scene_guarded 11 (1 : Int32) v1 x1 kd_11 h1) (fun x3 _ q => ?_)
  refine bind_i (sf_Thief_record (0 : Int32) x2 x3 x1 h1) (fun x4 _ q => ?_)
  obtain ⟨h4, h5⟩ := q
  have hG6 : Gc 0 M x4 := Gc_t hG3 h5
  refine bind_i (sf_Thief_roam 32 x4 kd_32 h4) (fun x5 _ q => ?_)
  obtain ⟨h7, h8⟩ := q
  have hG9 : Gc 0 M x5 := Gc_t hG6 h8
  refine bind_i (sf_Thief_isIn v4 v5 x5 h7) (fun x6 _ q => ?_)
  obtain ⟨h10, h11⟩ := q
  refine c_i (bool_of (by omega) (by omega)) ?_
  exact ⟨(x6, x5), rfl, h7, hG9, (show (0 : Int) ≤ x6.toInt by omega), (show x6.toInt ≤ (1 : Int) by omega)⟩
theorem sl_Top_watch_45 (v1 : Int32) (v2 : Int32) (v3 : Int32) (v4 : Int32) (v5 : Int32) (a0_ : Int32) (N_ : Mem) (B_ : Mem) (hp_v1 : (0 : Int) ≤ v1.toInt ∧ v1.toInt ≤ (35 : Int)) (hp_v2 : (0 : Int) ≤ v2.toInt ∧ v2.toInt ≤ (1 : Int)) (hp_v3 : (0 : Int) ≤ v3.toInt ∧ v3.toInt ≤ (35 : Int)) (hp_v4 : (0 : Int) ≤ v4.toInt ∧ v4.toInt ≤ (1 : Int)) (hp_v5 : (0 : Int) ≤ v5.toInt ∧ v5.toInt ≤ (8 : Int)) (hN : J N_) (hG : Gc 0 B_ N_) (i2_ : (0 : Int) ≤ a0_.toInt) (i3_ : a0_.toInt ≤ (256 : Int)) : ∃ x, iter (lb_Top_watch_45 v1 v2 v3 v4 v5) FU (a0_, N_) = some x ∧ (SQ (fun r : Mem => J r ∧ Gc 0 B_ r) (fun r : Int32 × Mem => J r.2 ∧ Gc 0 B_ r.2 ∧ (0 : Int) ≤ r.1.toInt ∧ r.1.toInt ≤ (255 : Int))) x := by
  refine iter_r (fun s : Int32 × Mem => J s.2 ∧ Gc 0 B_ s.2 ∧ (0 : Int) ≤ s.1.toInt ∧ s.1.toInt ≤ (256 : Int)) (fun s : Int32 × Mem => (256 - s.1.toInt).toNat) (SQ (fun r : Mem => J r ∧ Gc 0 B_ r) (fun r : Int32 × Mem => J r.2 ∧ Gc 0 B_ r.2 ∧ (0 : Int) ≤ r.1.toInt ∧ r.1.toInt ≤ (255 : Int))) ?_ FU (a0_, N_) ⟨hN, hG, i2_, i3_⟩ (by show (256 - a0_.toInt).toNat < FU; rw [FU_v]; omega)
  clear i3_ i2_ hG hN
  rintro ⟨a0_', N_'⟩ ⟨hN, hG, i2_, i3_⟩
  dsimp only at hN hG i2_ i3_
  unfold lb_Top_watch_45
  dsimp only
  refine if_i (fun c => ?_) (fun c => ?_)
  · have c1 := c
    have r2 := Jr_6_4 hN
    have q3 := shl8 (s := (N_'.1 6 4)) (by omega) (by omega)
    have d4 : ((1 : Int32) <<< ((N_'.1 6 4) &&& 31)).toInt ≤ a0_'.toInt := lei.mp c1
    exact ⟨_, rfl, hN, hG⟩
  · have c5 := c
    have r6 := Jr_6_4 hN
    have q7 := shl8 (s := (N_'.1 6 4)) (by omega) (by omega)
    have d8 : a0_'.toInt < ((1 : Int32) <<< ((N_'.1 6 4) &&& 31)).toInt := nlei.mp c5
    refine bind_i (sf_JInteger_bitCount a0_') (fun x3 _ q => ?_)
    obtain ⟨h9, h10⟩ := q
    refine if_i (fun c => ?_) (fun c => ?_)
    · have c11 := c
      have d12 : x3.toInt = v5.toInt := eqi.mp c11
      refine bind_i (sf_Top_slipsBy a0_' v2 v1 v4 v3 N_' hN) (fun x4 _ q => ?_)
      obtain ⟨h13, h14, h15, h16⟩ := q
      have hG17 : Gc 0 B_ x4.2 := Gc_t hG h14
      refine if_i (fun c => ?_) (fun c => ?_)
      · have c18 := c
        have d19 : x4.1.toInt = (0 : Int) := eqi.mp c18
        exact ⟨_, rfl, h13, hG17, (show (0 : Int) ≤ a0_'.toInt by omega), (show a0_'.toInt ≤ (255 : Int) by omega)⟩
      · have c20 := c
        have d21 : ¬ x4.1.toInt = (0 : Int) := neqi.mp c20
        have q22 : (a0_' + (1 : Int32)).toInt = a0_'.toInt + (1 : Int) := add_ti rfl rfl (by omega) (by omega)
        exact ⟨_, rfl, ⟨h13, hG17, (show (0 : Int) ≤ (a0_' + (1 : Int32)).toInt by omega), (show (a0_' + (1 : Int32)).toInt ≤ (256 : Int) by omega)⟩, show (256 - (a0_' + (1 : Int32)).toInt).toNat < (256 - a0_'.toInt).toNat by omega⟩
    · have c23 := c
      have d24 : ¬ x3.toInt = v5.toInt := neqi.mp c23
      have q25 : (a0_' + (1 : Int32)).toInt = a0_'.toInt + (1 : Int) := add_ti rfl rfl (by omega) (by omega)
      exact ⟨_, rfl, ⟨hN, hG, (show (0 : Int) ≤ (a0_' + (1 : Int32)).toInt by omega), (show (a0_' + (1 : Int32)).toInt ≤ (256 : Int) by omega)⟩, show (256 - (a0_' + (1 : Int32)).toInt).toNat < (256 - a0_'.toInt).toNat by omega⟩
theorem sl_Top_watch_30 (v1 : Int32) (v2 : Int32) (v3 : Int32) (v4 : Int32) (a0_ : Int32) (N_ : Mem) (B_ : Mem) (hp_v1 : (0 : Int) ≤ v1.toInt ∧ v1.toInt ≤ (35 : Int)) (hp_v2 : (0 : Int) ≤ v2.toInt ∧ v2.toInt ≤ (1 : Int)) (hp_v3 : (0 : Int) ≤ v3.toInt ∧ v3.toInt ≤ (35 : Int)) (hp_v4 : (0 : Int) ≤ v4.toInt ∧ v4.toInt ≤ (1 : Int)) (hN : J N_) (hG : Gc 0 B_ N_) (i2_ : (0 : Int) ≤ a0_.toInt) (i3_ : a0_.toInt ≤ (9 : Int)) : ∃ x, iter (lb_Top_watch_30 v1 v2 v3 v4) FU (a0_, N_) = some x ∧ (SQ (fun r : Mem => J r ∧ Gc 0 B_ r) (fun r : Int32 × Int32 × Mem => J r.2.2 ∧ Gc 0 B_ r.2.2 ∧ (0 : Int) ≤ r.1.toInt ∧ r.1.toInt ≤ (8 : Int) ∧ (0 : Int) ≤ r.2.1.toInt ∧ r.2.1.toInt ≤ (255 : Int))) x := by
  refine iter_r (fun s : Int32 × Mem => J s.2 ∧ Gc 0 B_ s.2 ∧ (0 : Int) ≤ s.1.toInt ∧ s.1.toInt ≤ (9 : Int)) (fun s : Int32 × Mem => (9 - s.1.toInt).toNat) (SQ (fun r : Mem => J r ∧ Gc 0 B_ r) (fun r : Int32 × Int32 × Mem => J r.2.2 ∧ Gc 0 B_ r.2.2 ∧ (0 : Int) ≤ r.1.toInt ∧ r.1.toInt ≤ (8 : Int) ∧ (0 : Int) ≤ r.2.1.toInt ∧ r.2.1.toInt ≤ (255 : Int))) ?_ FU (a0_, N_) ⟨hN, hG, i2_, i3_⟩ (by show (9 - a0_.toInt).toNat < FU; rw [FU_v]; omega)
  clear i3_ i2_ hG hN
  rintro ⟨a0_', N_'⟩ ⟨hN, hG, i2_, i3_⟩
  dsimp only at hN hG i2_ i3_
  unfold lb_Top_watch_30
  dsimp only
  refine if_i (fun c => ?_) (fun c => ?_)
  · have c1 := c
    have r2 := Jr_6_4 hN
    have d3 : (N_'.1 6 4).toInt < a0_'.toInt := lti.mp c1
    exact ⟨_, rfl, hN, hG⟩
  · have c4 := c
    have r5 := Jr_6_4 hN
    have d6 : a0_'.toInt ≤ (N_'.1 6 4).toInt := nlti.mp c4
    refine bind_i (sl_Top_watch_45 v1 v2 v3 v4 a0_' (0 : Int32) N_' B_ (⟨show (0 : Int) ≤ v1.toInt by omega, show v1.toInt ≤ (35 : Int) by omega⟩) (⟨show (0 : Int) ≤ v2.toInt by omega, show v2.toInt ≤ (1 : Int) by omega⟩) (⟨show (0 : Int) ≤ v3.toInt by omega, show v3.toInt ≤ (35 : Int) by omega⟩) (⟨show (0 : Int) ≤ v4.toInt by omega, show v4.toInt ≤ (1 : Int) by omega⟩) (⟨show (0 : Int) ≤ a0_'.toInt by omega, show a0_'.toInt ≤ (8 : Int) by omega⟩) hN hG (show (0 : Int) ≤ (0 : Int32).toInt by decide) (show (0 : Int32).toInt ≤ (256 : Int) by decide)) (fun x7 _ q => ?_)
    rcases x7 with y | y
    · have q9 : J y ∧ Gc 0 B_ y := q
      dsimp only [Sum.elim_inl, Sum.elim_inr]
      obtain ⟨h9, h10⟩ := q9
      have q11 : (a0_' + (1 : Int32)).toInt = a0_'.toInt + (1 : Int) := add_ti rfl rfl (by omega) (by omega)
      exact ⟨_, rfl, ⟨h9, h10, (show (0 : Int) ≤ (a0_' + (1 : Int32)).toInt by omega), (show (a0_' + (1 : Int32)).toInt ≤ (9 : Int) by omega)⟩, show (9 - (a0_' + (1 : Int32)).toInt).toNat < (9 - a0_'.toInt).toNat by omega⟩
    · have q9 : J y.2 ∧ Gc 0 B_ y.2 ∧ (0 : Int) ≤ y.1.toInt ∧ y.1.toInt ≤ (255 : Int) := q
      dsimp only [Sum.elim_inl, Sum.elim_inr]
      obtain ⟨h13, h14, h15, h16⟩ := q9
      exact ⟨_, rfl, h13, h14, (show (0 : Int) ≤ a0_'.toInt by omega), (show a0_'.toInt ≤ (8 : Int) by omega), (show (0 : Int) ≤ y.1.toInt by omega), (show y.1.toInt ≤ (255 : Int) by omega)⟩
theorem sf_Top_watch (v1 : Int32) (v2 : Int32) (v3 : Int32) (v4 : Int32) (M : Mem) (hJ : J M) : ∃ r : Int32 × Mem, f_Top_watch v1 v2 v3 v4 M = some r ∧ (J r.2 ∧ Gc 0 M r.2 ∧ (-2 : Int) ≤ r.1.toInt ∧ r.1.toInt ≤ (8 : Int)) := by
  unfold f_Top_watch
  refine bind_i (sf_Ground_holds v2 v1 M hJ) (fun x1 _ q => ?_)
  obtain ⟨h1, h2, h3, h4⟩ := q
  refine if_i (fun c => ?_) (fun c => ?_)
  · have c5 := c
    have d6 : x1.toInt = (0 : Int) := eqi.mp c5
    exact ⟨((-1 : Int32), M), rfl, hJ, Gc_r, (show (-2 : Int) ≤ (-1 : Int32).toInt by decide), (show (-1 : Int32).toInt ≤ (8 : Int) by decide)⟩
  · have c7 := c
    have d8 : ¬ x1.toInt = (0 : Int) := neqi.mp c7
    refine bind_i (sf_Ground_holds v4 v3 M hJ) (fun x2 _ q => ?_)
    obtain ⟨h9, h10, h11, h12⟩ := q
    refine if_i (fun c => ?_) (fun c => ?_)
    · have c13 := c
      have d14 : x2.toInt = (0 : Int) := eqi.mp c13
      exact ⟨((-1 : Int32), M), rfl, hJ, Gc_r, (show (-2 : Int) ≤ (-1 : Int32).toInt by decide), (show (-1 : Int32).toInt ≤ (8 : Int) by decide)⟩
    · have c15 := c
      have d16 : ¬ x2.toInt = (0 : Int) := neqi.mp c15
      refine bind_i (sl_Top_watch_30 v1 v2 v3 v4 (0 : Int32) M M (⟨show (0 : Int) ≤ v1.toInt by omega, show v1.toInt ≤ (35 : Int) by omega⟩) (⟨show (0 : Int) ≤ v2.toInt by omega, show v2.toInt ≤ (1 : Int) by omega⟩) (⟨show (0 : Int) ≤ v3.toInt by omega, show v3.toInt ≤ (35 : Int) by omega⟩) (⟨show (0 : Int) ≤ v4.toInt by omega, show v4.toInt ≤ (1 : Int) by omega⟩) hJ Gc_r (show (0 : Int) ≤ (0 : Int32).toInt by decide) (show (0 : Int32).toInt ≤ (9 : Int) by decide)) (fun x17 _ q => ?_)
      rcases x17 with y | y
      · have q9 : J y ∧ Gc 0 M y := q
        dsimp only [Sum.elim_inl, Sum.elim_inr]
        obtain ⟨h19, h20⟩ := q9
        exact ⟨((-2 : Int32), y), rfl, h19, h20, (show (-2 : Int) ≤ (-2 : Int32).toInt by decide), (show (-2 : Int32).toInt ≤ (8 : Int) by decide)⟩
      · have q9 : J y.2.2 ∧ Gc 0 M y.2.2 ∧ (0 : Int) ≤ y.1.toInt ∧ y.1.toInt ≤ (8 : Int) ∧ (0 : Int) ≤ y.2.1.toInt ∧ y.2.1.toInt ≤ (255 : Int) := q
        dsimp only [Sum.elim_inl, Sum.elim_inr]
        obtain ⟨h22, h23, h24, h25, h26, h27⟩ := q9
        refine bind_i (sf_Top_emptyRow y.2.2 h22) (fun x15 _ q => ?_)
        obtain ⟨h28, h29⟩ := q
        have hG30 : Gc 0 M x15 := Gc_t h23 h29
        refine bind_i (sf_Top_note y.2.1 x15 h28) (fun x16 _ q => ?_)
        obtain ⟨h31, h32⟩ := q
        have hG33 : Gc 0 M x16 := Gc_t hG30 h32
        exact ⟨(y.1, x16), rfl, h31, hG33, (show (-2 : Int) ≤ y.1.toInt by omega), (show y.1.toInt ≤ (8 : Int) by omega)⟩
theorem sf_Top_keep (v1 : Int32) (M : Mem) (hJ : J M) : ∃ r : Int32 × Mem, f_Top_keep v1 M = some r ∧ (J r.2 ∧ Gc 0 M r.2 ∧ (0 : Int) ≤ r.1.toInt ∧ r.1.toInt ≤ (1 : Int)) := by
  unfold f_Top_keep
  refine bind_i (sf_History_store v1 11 M kd_11 hJ) (fun x1 _ q => ?_)
  obtain ⟨h1, h2, h3, h4⟩ := q
  have hG5 : Gc 0 M x1.2 := Gc_t Gc_r h2
  refine c_i (bool_of (by omega) (by omega)) ?_
  exact ⟨(x1.1, x1.2), rfl, h1, hG5, (show (0 : Int) ≤ x1.1.toInt by omega), (show x1.1.toInt ≤ (1 : Int) by omega)⟩
theorem sf_Top_again (v1 : Int32) (M : Mem) (hJ : J M) : ∃ r : Int32 × Mem, f_Top_again v1 M = some r ∧ (J r.2 ∧ Gc 0 M r.2 ∧ (0 : Int) ≤ r.1.toInt ∧ r.1.toInt ≤ (1 : Int)) := by
  unfold f_Top_again
  refine bind_i (sf_History_restore v1 11 M kd_11 hJ) (fun x1 _ q => ?_)
  obtain ⟨h1, h2, h3, h4⟩ := q
  have hG5 : Gc 0 M x1.2 := Gc_t Gc_r h2
  refine if_i (fun c => ?_) (fun c => ?_)
  · have c6 := c
    have d7 : x1.1.toInt = (0 : Int) := eqi.mp c6
    exact ⟨((0 : Int32), x1.2), rfl, h1, hG5, (show (0 : Int) ≤ (0 : Int32).toInt by decide), (show (0 : Int32).toInt ≤ (1 : Int) by decide)⟩
  · have c8 := c
    have d9 : ¬ x1.1.toInt = (0 : Int) := neqi.mp c8
    refine bind_i (sf_History_forget x1.2 h1) (fun x2 _ q => ?_)
    obtain ⟨h10, h11⟩ := q
    have hG12 : Gc 0 M x2 := Gc_t hG5 h11
    refine bind_i (sf_Nets_lay 32 11 (-1 : Int32) x2 kd_32 kd_11 h10) (fun x3 _ q => ?_)
    obtain ⟨h13, h14⟩ := q
    have hG15 : Gc 0 M x3 := Gc_t hG12 h14
    exact ⟨((1 : Int32), x3), rfl, h13, hG15, (show (0 : Int) ≤ (1 : Int32).toInt by decide), (show (1 : Int32).toInt ≤ (1 : Int) by decide)⟩
