/-! safety of the class, 17 -/
theorem sl_Top_ahead_76  (a0_ : Int32) (N_ : Mem) (B_ : Mem) (hN : J N_) (hG : Gc 0 B_ N_) (i2_ : (0 : Int) ≤ a0_.toInt) (i3_ : a0_.toInt ≤ (8 : Int)) : ∃ x, iter (lb_Top_ahead_76) FU (a0_, N_) = some x ∧ (fun r : Mem => J r ∧ Gc 0 B_ r) x := by
  refine iter_r (fun s : Int32 × Mem => J s.2 ∧ Gc 0 B_ s.2 ∧ (0 : Int) ≤ s.1.toInt ∧ s.1.toInt ≤ (8 : Int)) (fun s : Int32 × Mem => (8 - s.1.toInt).toNat) (fun r : Mem => J r ∧ Gc 0 B_ r) ?_ FU (a0_, N_) ⟨hN, hG, i2_, i3_⟩ (by show (8 - a0_.toInt).toNat < FU; rw [FU_v]; omega)
  clear i3_ i2_ hG hN
  rintro ⟨a0_', N_'⟩ ⟨hN, hG, i2_, i3_⟩
  dsimp only at hN hG i2_ i3_
  unfold lb_Top_ahead_76
  dsimp only
  refine if_i (fun c => ?_) (fun c => ?_)
  · have c1 := c
    have r2 := Jr_6_4 hN
    have d3 : (N_'.1 6 4).toInt ≤ a0_'.toInt := lei.mp c1
    exact ⟨_, rfl, hN, hG⟩
  · have c4 := c
    have r5 := Jr_6_4 hN
    have d6 : a0_'.toInt < (N_'.1 6 4).toInt := nlei.mp c4
    refine inb_i (by omega) (by omega) ?_
    refine bind_i (sf_Top_note (N_'.1 26 a0_'.toNatClampNeg) N_' hN) (fun x7 _ q => ?_)
    obtain ⟨h7, h8⟩ := q
    have hG9 : Gc 0 B_ x7 := Gc_t hG h8
    have q10 : (a0_' + (1 : Int32)).toInt = a0_'.toInt + (1 : Int) := add_ti rfl rfl (by omega) (by omega)
    exact ⟨_, rfl, ⟨h7, hG9, (show (0 : Int) ≤ (a0_' + (1 : Int32)).toInt by omega), (show (a0_' + (1 : Int32)).toInt ≤ (8 : Int) by omega)⟩, show (8 - (a0_' + (1 : Int32)).toInt).toNat < (8 - a0_'.toInt).toNat by omega⟩
theorem sf_Top_ahead (v1 : Int32) (M : Mem) (hJ : J M) : ∃ r : Int32 × Mem, f_Top_ahead v1 M = some r ∧ (J r.2 ∧ Gc 0 M r.2) := by
  unfold f_Top_ahead
  refine if_i (fun c => ?_) (fun c => ?_)
  · have c1 := c
    have d2 : v1.toInt < (0 : Int) := lti.mp c1
    exact ⟨((-1 : Int32), M), rfl, hJ, Gc_r⟩
  · have c3 := c
    have d4 : (0 : Int) ≤ v1.toInt := nlti.mp c3
    refine if_i (fun c => ?_) (fun c => ?_)
    · have c5 := c
      have d6 : v1.toInt ≤ (60 : Int) := lei.mp c5
      refine bind_i (sf_Scene_copy 25 11 M kd_25 kd_11 hJ) (fun x1 _ q => ?_)
      obtain ⟨h7, h8, h9⟩ := q
      have hG10 : Gc 0 M x1 := Gc_t Gc_r h8
      refine bind_i (sf_Clock_reset x1 h7) (fun x2 _ q => ?_)
      obtain ⟨h11, h12⟩ := q
      have hG13 : Gc 0 M x2 := Gc_t hG10 h12
      refine bind_i (sl_Top_ahead_32 v1 (0 : Int32) x2 M (⟨show (0 : Int) ≤ v1.toInt by omega, show v1.toInt ≤ (60 : Int) by omega⟩) h11 hG13 (show (0 : Int) ≤ (0 : Int32).toInt by decide) (show (0 : Int32).toInt ≤ (60 : Int) by decide)) (fun x5 _ q => ?_)
      obtain ⟨h14, h15⟩ := q
      refine bind_i (sf_Top_emptyRow x5 h14) (fun x6 _ q => ?_)
      obtain ⟨h16, h17⟩ := q
      have hG18 : Gc 0 M x6 := Gc_t h15 h17
      refine bind_i (sl_Top_ahead_76  (0 : Int32) x6 M h16 hG18 (show (0 : Int) ≤ (0 : Int32).toInt by decide) (show (0 : Int32).toInt ≤ (8 : Int) by decide)) (fun x9 _ q => ?_)
      obtain ⟨h19, h20⟩ := q
      exact ⟨((x9.1 45 4), x9), rfl, h19, h20⟩
    · have c21 := c
      have d22 : (60 : Int) < v1.toInt := nlei.mp c21
      exact ⟨((-1 : Int32), M), rfl, hJ, Gc_r⟩
theorem sl_Top_meet_46 (v1 : Int32) (v2 : Int32) (a0_ : Int32) (N_ : Mem) (B_ : Mem) (hp_v1 : (0 : Int) ≤ v1.toInt ∧ v1.toInt ≤ (7 : Int)) (hp_v2 : (0 : Int) ≤ v2.toInt ∧ v2.toInt ≤ (7 : Int)) (hN : J N_) (hG : Gc 0 B_ N_) (i2_ : (1 : Int) ≤ a0_.toInt) (i3_ : a0_.toInt ≤ (61 : Int)) : ∃ x, iter (lb_Top_meet_46 v1 v2) FU (a0_, N_) = some x ∧ (SQ (fun r : Mem => J r ∧ Gc 0 B_ r) (fun r : Int32 × Int32 × Mem => J r.2.2 ∧ Gc 0 B_ r.2.2 ∧ (1 : Int) ≤ r.1.toInt ∧ r.1.toInt ≤ (60 : Int) ∧ (0 : Int) ≤ r.2.1.toInt ∧ r.2.1.toInt ≤ (35 : Int))) x := by
  refine iter_r (fun s : Int32 × Mem => J s.2 ∧ Gc 0 B_ s.2 ∧ (1 : Int) ≤ s.1.toInt ∧ s.1.toInt ≤ (61 : Int)) (fun s : Int32 × Mem => (61 - s.1.toInt).toNat) (SQ (fun r : Mem => J r ∧ Gc 0 B_ r) (fun r : Int32 × Int32 × Mem => J r.2.2 ∧ Gc 0 B_ r.2.2 ∧ (1 : Int) ≤ r.1.toInt ∧ r.1.toInt ≤ (60 : Int) ∧ (0 : Int) ≤ r.2.1.toInt ∧ r.2.1.toInt ≤ (35 : Int))) ?_ FU (a0_, N_) ⟨hN, hG, i2_, i3_⟩ (by show (61 - a0_.toInt).toNat < FU; rw [FU_v]; omega)
  clear i3_ i2_ hG hN
  rintro ⟨a0_', N_'⟩ ⟨hN, hG, i2_, i3_⟩
  dsimp only at hN hG i2_ i3_
  unfold lb_Top_meet_46
  dsimp only
  refine if_i (fun c => ?_) (fun c => ?_)
  · have c1 := c
    have d2 : (60 : Int) < a0_'.toInt := lti.mp c1
    exact ⟨_, rfl, hN, hG⟩
  · have c3 := c
    have d4 : a0_'.toInt ≤ (60 : Int) := nlti.mp c3
    refine bind_i (sf_Clock_pass 25 32 N_' kd_25 kd_32 hN) (fun x5 _ q => ?_)
    obtain ⟨h5, h6⟩ := q
    have hG7 : Gc 0 B_ x5 := Gc_t hG h6
    refine inb_i (by omega) (by omega) ?_
    refine inb_i (by omega) (by omega) ?_
    refine if_i (fun c => ?_) (fun c => ?_)
    · have c8 := c
      have r9 := Jr_26 h5 v1.toNatClampNeg
      have r10 := Jr_26 h5 v2.toNatClampNeg
      have d11 : (x5.1 26 v1.toNatClampNeg).toInt = (x5.1 26 v2.toNatClampNeg).toInt := eqi.mp c8
      refine bind_i (sf_Ground_isStair (x5.1 26 v1.toNatClampNeg) x5 h5) (fun x6 _ q => ?_)
      obtain ⟨h12, h13, h14⟩ := q
      refine if_i (fun c => ?_) (fun c => ?_)
      · have c15 := c
        have d16 : x6.toInt = (0 : Int) := eqi.mp c15
        have q17 : (a0_' + (1 : Int32)).toInt = a0_'.toInt + (1 : Int) := add_ti rfl rfl (by omega) (by omega)
        exact ⟨_, rfl, ⟨h5, hG7, (show (1 : Int) ≤ (a0_' + (1 : Int32)).toInt by omega), (show (a0_' + (1 : Int32)).toInt ≤ (61 : Int) by omega)⟩, show (61 - (a0_' + (1 : Int32)).toInt).toNat < (61 - a0_'.toInt).toNat by omega⟩
      · have c18 := c
        have d19 : ¬ x6.toInt = (0 : Int) := neqi.mp c18
        exact ⟨_, rfl, h5, hG7, (show (1 : Int) ≤ a0_'.toInt by omega), (show a0_'.toInt ≤ (60 : Int) by omega), (show (0 : Int) ≤ (x5.1 26 v1.toNatClampNeg).toInt by omega), (show (x5.1 26 v1.toNatClampNeg).toInt ≤ (35 : Int) by omega)⟩
    · have c20 := c
      have r21 := Jr_26 h5 v1.toNatClampNeg
      have r22 := Jr_26 h5 v2.toNatClampNeg
      have d23 : ¬ (x5.1 26 v1.toNatClampNeg).toInt = (x5.1 26 v2.toNatClampNeg).toInt := neqi.mp c20
      have q24 : (a0_' + (1 : Int32)).toInt = a0_'.toInt + (1 : Int) := add_ti rfl rfl (by omega) (by omega)
      exact ⟨_, rfl, ⟨h5, hG7, (show (1 : Int) ≤ (a0_' + (1 : Int32)).toInt by omega), (show (a0_' + (1 : Int32)).toInt ≤ (61 : Int) by omega)⟩, show (61 - (a0_' + (1 : Int32)).toInt).toNat < (61 - a0_'.toInt).toNat by omega⟩
theorem sf_Top_meet (v1 : Int32) (v2 : Int32) (M : Mem) (hJ : J M) : ∃ r : Int32 × Mem, f_Top_meet v1 v2 M = some r ∧ (J r.2 ∧ Gc 0 M r.2 ∧ (-2 : Int) ≤ r.1.toInt ∧ r.1.toInt ≤ (60 : Int)) := by
  unfold f_Top_meet
  refine bind_i (sf_Top_areTwo v1 v2 M hJ) (fun x1 _ q => ?_)
  obtain ⟨h1, h2, h3, h4⟩ := q
  refine if_i (fun c => ?_) (fun c => ?_)
  · have c5 := c
    have d6 : x1.toInt = (0 : Int) := eqi.mp c5
    exact ⟨((-1 : Int32), M), rfl, hJ, Gc_r, (show (-2 : Int) ≤ (-1 : Int32).toInt by decide), (show (-1 : Int32).toInt ≤ (60 : Int) by decide)⟩
  · have c7 := c
    have d8 : ¬ x1.toInt = (0 : Int) := neqi.mp c7
    refine bind_i (sf_Crowd_woman v1 M hJ) (fun x2 _ q => ?_)
    obtain ⟨h9, h10⟩ := q
    refine bind_i (sf_Crowd_woman v2 M hJ) (fun x3 _ q => ?_)
    obtain ⟨h11, h12⟩ := q
    refine if_i (fun c => ?_) (fun c => ?_)
    · have c13 := c
      have d14 : x2.toInt = x3.toInt := eqi.mp c13
      exact ⟨((-2 : Int32), M), rfl, hJ, Gc_r, (show (-2 : Int) ≤ (-2 : Int32).toInt by decide), (show (-2 : Int32).toInt ≤ (60 : Int) by decide)⟩
    · have c15 := c
      have d16 : ¬ x2.toInt = x3.toInt := neqi.mp c15
      refine bind_i (sf_Scene_copy 25 11 M kd_25 kd_11 hJ) (fun x4 _ q => ?_)
      obtain ⟨h17, h18, h19⟩ := q
      have hG20 : Gc 0 M x4 := Gc_t Gc_r h18
      refine bind_i (sl_Top_meet_46 v1 v2 (1 : Int32) x4 M (⟨show (0 : Int) ≤ v1.toInt by omega, show v1.toInt ≤ (7 : Int) by omega⟩) (⟨show (0 : Int) ≤ v2.toInt by omega, show v2.toInt ≤ (7 : Int) by omega⟩) h17 hG20 (show (1 : Int) ≤ (1 : Int32).toInt by decide) (show (1 : Int32).toInt ≤ (61 : Int) by decide)) (fun x21 _ q => ?_)
      rcases x21 with y | y
      · have q9 : J y ∧ Gc 0 M y := q
        dsimp only [Sum.elim_inl, Sum.elim_inr]
        obtain ⟨h23, h24⟩ := q9
        exact ⟨((-2 : Int32), y), rfl, h23, h24, (show (-2 : Int) ≤ (-2 : Int32).toInt by decide), (show (-2 : Int32).toInt ≤ (60 : Int) by decide)⟩
      · have q9 : J y.2.2 ∧ Gc 0 M y.2.2 ∧ (1 : Int) ≤ y.1.toInt ∧ y.1.toInt ≤ (60 : Int) ∧ (0 : Int) ≤ y.2.1.toInt ∧ y.2.1.toInt ≤ (35 : Int) := q
        dsimp only [Sum.elim_inl, Sum.elim_inr]
        obtain ⟨h26, h27, h28, h29, h30, h31⟩ := q9
        refine bind_i (sf_Top_emptyRow y.2.2 h26) (fun x13 _ q => ?_)
        obtain ⟨h32, h33⟩ := q
        have hG34 : Gc 0 M x13 := Gc_t h27 h33
        refine bind_i (sf_Top_note y.2.1 x13 h32) (fun x14 _ q => ?_)
        obtain ⟨h35, h36⟩ := q
        have hG37 : Gc 0 M x14 := Gc_t hG34 h36
        exact ⟨(y.1, x14), rfl, h35, hG37, (show (-2 : Int) ≤ y.1.toInt by omega), (show y.1.toInt ≤ (60 : Int) by omega)⟩
theorem sl_Top_known_27 (v1 : Int32) (a0_ : Int32) (a1_ : Int32) (N_ : Mem) (B_ : Mem) (hp_v1 : (0 : Int) ≤ v1.toInt ∧ v1.toInt ≤ (255 : Int)) (hN : J N_) (hG : Gc 0 B_ N_) (i2_ : (0 : Int) ≤ a1_.toInt) (i3_ : a1_.toInt ≤ (60 : Int)) : ∃ x, iter (lb_Top_known_27 v1) FU (a0_, a1_, N_) = some x ∧ (fun r : Int32 × Mem => J r.2 ∧ Gc 0 B_ r.2) x := by
  refine iter_r (fun s : Int32 × Int32 × Mem => J s.2.2 ∧ Gc 0 B_ s.2.2 ∧ (0 : Int) ≤ s.2.1.toInt ∧ s.2.1.toInt ≤ (60 : Int)) (fun s : Int32 × Int32 × Mem => (60 - s.2.1.toInt).toNat) (fun r : Int32 × Mem => J r.2 ∧ Gc 0 B_ r.2) ?_ FU (a0_, a1_, N_) ⟨hN, hG, i2_, i3_⟩ (by show (60 - a1_.toInt).toNat < FU; rw [FU_v]; omega)
  clear i3_ i2_ hG hN
  rintro ⟨a0_', a1_', N_'⟩ ⟨hN, hG, i2_, i3_⟩
  dsimp only at hN hG i2_ i3_
  unfold lb_Top_known_27
  dsimp only
  refine if_i (fun c => ?_) (fun c => ?_)
  · have c1 := c
    have d2 : (60 : Int) ≤ a1_'.toInt := lei.mp c1
    exact ⟨_, rfl, hN, hG⟩
  · have c3 := c
    have d4 : a1_'.toInt < (60 : Int) := nlei.mp c3
    refine if_i (fun c => ?_) (fun c => ?_)
    · have c5 := c
      have d6 : (N_'.1 25 8).toInt = v1.toInt := eqi.mp c5
      exact ⟨_, rfl, hN, hG⟩
    · have c7 := c
      have d8 : ¬ (N_'.1 25 8).toInt = v1.toInt := neqi.mp c7
      refine bind_i (sf_Clock_pass 25 32 N_' kd_25 kd_32 hN) (fun x2 _ q => ?_)
      obtain ⟨h9, h10⟩ := q
      have hG11 : Gc 0 B_ x2 := Gc_t hG h10
      have q12 : (a1_' + (1 : Int32)).toInt = a1_'.toInt + (1 : Int) := add_ti rfl rfl (by omega) (by omega)
      exact ⟨_, rfl, ⟨h9, hG11, (show (0 : Int) ≤ (a1_' + (1 : Int32)).toInt by omega), (show (a1_' + (1 : Int32)).toInt ≤ (60 : Int) by omega)⟩, show (60 - (a1_' + (1 : Int32)).toInt).toNat < (60 - a1_'.toInt).toNat by omega⟩
theorem sf_Top_known (M : Mem) (hJ : J M) : ∃ r : Int32 × Mem, f_Top_known M = some r ∧ (J r.2 ∧ Gc 0 M r.2) := by
  unfold f_Top_known
  refine bind_i (sf_Scene_copy 25 11 M kd_25 kd_11 hJ) (fun x1 _ q => ?_)
  obtain ⟨h1, h2, h3⟩ := q
  have hG4 : Gc 0 M x1 := Gc_t Gc_r h2
  have r5 := Jr_6_4 hJ
  have q6 := shl8 (s := (M.1 6 4)) (by omega) (by omega)
  have q7 : (((1 : Int32) <<< ((M.1 6 4) &&& 31)) - (1 : Int32)).toInt = ((1 : Int32) <<< ((M.1 6 4) &&& 31)).toInt - (1 : Int) := sub_ti rfl rfl (by omega) (by omega)
  refine bind_i (sl_Top_known_27 (((1 : Int32) <<< ((M.1 6 4) &&& 31)) - (1 : Int32)) (0 : Int32) (0 : Int32) x1 M (⟨show (0 : Int) ≤ (((1 : Int32) <<< ((M.1 6 4) &&& 31)) - (1 : Int32)).toInt by omega, show (((1 : Int32) <<< ((M.1 6 4) &&& 31)) - (1 : Int32)).toInt ≤ (255 : Int) by omega⟩) h1 hG4 (show (0 : Int) ≤ (0 : Int32).toInt by decide) (show (0 : Int32).toInt ≤ (60 : Int) by decide)) (fun x5 _ q => ?_)
  obtain ⟨h8, h9⟩ := q
  unfold j_Top_known_80
  refine bind_i (sf_Top_emptyRow x5.2 h8) (fun x6 _ q => ?_)
  obtain ⟨h10, h11⟩ := q
  have hG12 : Gc 0 M x6 := Gc_t h9 h11
  refine bind_i (sf_Top_note (x6.1 25 8) x6 h10) (fun x7 _ q => ?_)
  obtain ⟨h13, h14⟩ := q
  have hG15 : Gc 0 M x7 := Gc_t hG12 h14
  refine if_i (fun c => ?_) (fun c => ?_)
  · have c16 := c
    have d17 : (x7.1 25 8).toInt = (((1 : Int32) <<< ((M.1 6 4) &&& 31)) - (1 : Int32)).toInt := eqi.mp c16
    exact ⟨(x5.1, x7), rfl, h13, hG15⟩
  · have c18 := c
    have d19 : ¬ (x7.1 25 8).toInt = (((1 : Int32) <<< ((M.1 6 4) &&& 31)) - (1 : Int32)).toInt := neqi.mp c18
    exact ⟨((-2 : Int32), x7), rfl, h13, hG15⟩
theorem sl_Top_hearers_26 (v1 : Int32) (a0_ : Int32) (N_ : Mem) (B_ : Mem) (hp_v1 : (0 : Int) ≤ v1.toInt ∧ v1.toInt ≤ (60 : Int)) (hN : J N_) (hG : Gc 0 B_ N_) (i2_ : (0 : Int) ≤ a0_.toInt) (i3_ : a0_.toInt ≤ (60 : Int)) : ∃ x, iter (lb_Top_hearers_26 v1) FU (a0_, N_) = some x ∧ (fun r : Mem => J r ∧ Gc 0 B_ r) x := by
  refine iter_r (fun s : Int32 × Mem => J s.2 ∧ Gc 0 B_ s.2 ∧ (0 : Int) ≤ s.1.toInt ∧ s.1.toInt ≤ (60 : Int)) (fun s : Int32 × Mem => (60 - s.1.toInt).toNat) (fun r : Mem => J r ∧ Gc 0 B_ r) ?_ FU (a0_, N_) ⟨hN, hG, i2_, i3_⟩ (by show (60 - a0_.toInt).toNat < FU; rw [FU_v]; omega)
  clear i3_ i2_ hG hN
  rintro ⟨a0_', N_'⟩ ⟨hN, hG, i2_, i3_⟩
  dsimp only at hN hG i2_ i3_
  unfold lb_Top_hearers_26
  dsimp only
  refine if_i (fun c => ?_) (fun c => ?_)
  · have c1 := c
    have d2 : v1.toInt ≤ a0_'.toInt := lei.mp c1
    exact ⟨_, rfl, hN, hG⟩
  · have c3 := c
    have d4 : a0_'.toInt < v1.toInt := nlei.mp c3
    refine bind_i (sf_Clock_pass 25 32 N_' kd_25 kd_32 hN) (fun x3 _ q => ?_)
    obtain ⟨h5, h6⟩ := q
    have hG7 : Gc 0 B_ x3 := Gc_t hG h6
    have q8 : (a0_' + (1 : Int32)).toInt = a0_'.toInt + (1 : Int) := add_ti rfl rfl (by omega) (by omega)
    exact ⟨_, rfl, ⟨h5, hG7, (show (0 : Int) ≤ (a0_' + (1 : Int32)).toInt by omega), (show (a0_' + (1 : Int32)).toInt ≤ (60 : Int) by omega)⟩, show (60 - (a0_' + (1 : Int32)).toInt).toNat < (60 - a0_'.toInt).toNat by omega⟩
theorem sf_Top_hearers (v1 : Int32) (v2 : Int32) (M : Mem) (hp_v1 : (0 : Int) ≤ v1.toInt ∧ v1.toInt ≤ (60 : Int)) (hJ : J M) : ∃ r : Int32 × Mem, f_Top_hearers v1 v2 M = some r ∧ (J r.2 ∧ Gc 0 M r.2 ∧ (0 : Int) ≤ r.1.toInt ∧ r.1.toInt ≤ (63 : Int)) := by
  unfold f_Top_hearers
  refine bind_i (sf_Scene_copy 25 11 M kd_25 kd_11 hJ) (fun x1 _ q => ?_)
  obtain ⟨h1, h2, h3⟩ := q
  have hG4 : Gc 0 M x1 := Gc_t Gc_r h2
  refine mem_i (fun M2 e6 => ?_)
  have hJ7 : J M2 := by rw [e6]; exact Jw_any ok_25 h1 8 ((x1.1 25 8) ||| v2)
  have hG8 : Gc 0 M M2 := Gc_i hG4 e6 (by decide)
  clear e6
  refine bind_i (sl_Top_hearers_26 v1 (0 : Int32) M2 M (⟨show (0 : Int) ≤ v1.toInt by omega, show v1.toInt ≤ (60 : Int) by omega⟩) hJ7 hG8 (show (0 : Int) ≤ (0 : Int32).toInt by decide) (show (0 : Int32).toInt ≤ (60 : Int) by decide)) (fun x5 _ q => ?_)
  obtain ⟨h9, h10⟩ := q
  refine bind_i (sf_JInteger_bitCount (x5.1 25 8)) (fun x6 _ q => ?_)
  obtain ⟨h11, h12⟩ := q
  exact ⟨(x6, x5), rfl, h9, h10, (show (0 : Int) ≤ x6.toInt by omega), (show x6.toInt ≤ (63 : Int) by omega)⟩
theorem sl_Top_gossip_25 (v1 : Int32) (a0_ : Int32) (a1_ : Int32) (a2_ : Int32) (N_ : Mem) (B_ : Mem) (hp_v1 : (0 : Int) ≤ v1.toInt ∧ v1.toInt ≤ (60 : Int)) (hN : J N_) (hG : Gc 0 B_ N_) (i2_ : (-1 : Int) ≤ a0_.toInt) (i3_ : a0_.toInt ≤ (7 : Int)) (i4_ : (0 : Int) ≤ a1_.toInt) (i5_ : a1_.toInt ≤ (63 : Int)) (i6_ : (0 : Int) ≤ a2_.toInt) (i7_ : a2_.toInt ≤ (8 : Int)) : ∃ x, iter (lb_Top_gossip_25 v1) FU (a0_, a1_, a2_, N_) = some x ∧ (fun r : Int32 × Int32 × Mem => J r.2.2 ∧ Gc 0 B_ r.2.2 ∧ (-1 : Int) ≤ r.1.toInt ∧ r.1.toInt ≤ (7 : Int) ∧ (0 : Int) ≤ r.2.1.toInt ∧ r.2.1.toInt ≤ (63 : Int)) x := by
  refine iter_r (fun s : Int32 × Int32 × Int32 × Mem => J s.2.2.2 ∧ Gc 0 B_ s.2.2.2 ∧ (-1 : Int) ≤ s.1.toInt ∧ s.1.toInt ≤ (7 : Int) ∧ (0 : Int) ≤ s.2.1.toInt ∧ s.2.1.toInt ≤ (63 : Int) ∧ (0 : Int) ≤ s.2.2.1.toInt ∧ s.2.2.1.toInt ≤ (8 : Int)) (fun s : Int32 × Int32 × Int32 × Mem => (8 - s.2.2.1.toInt).toNat) (fun r : Int32 × Int32 × Mem => J r.2.2 ∧ Gc 0 B_ r.2.2 ∧ (-1 : Int) ≤ r.1.toInt ∧ r.1.toInt ≤ (7 : Int) ∧ (0 : Int) ≤ r.2.1.toInt ∧ r.2.1.toInt ≤ (63 : Int)) ?_ FU (a0_, a1_, a2_, N_) ⟨hN, hG, i2_, i3_, i4_, i5_, i6_, i7_⟩ (by show (8 - a2_.toInt).toNat < FU; rw [FU_v]; omega)
  clear i7_ i6_ i5_ i4_ i3_ i2_ hG hN
  rintro ⟨a0_', a1_', a2_', N_'⟩ ⟨hN, hG, i2_, i3_, i4_, i5_, i6_, i7_⟩
  dsimp only at hN hG i2_ i3_ i4_ i5_ i6_ i7_
  unfold lb_Top_gossip_25
  dsimp only
  refine if_i (fun c => ?_) (fun c => ?_)
  · have c1 := c
    have r2 := Jr_6_4 hN
    have d3 : (N_'.1 6 4).toInt ≤ a2_'.toInt := lei.mp c1
    exact ⟨_, rfl, hN, hG, (show (-1 : Int) ≤ a0_'.toInt by omega), (show a0_'.toInt ≤ (7 : Int) by omega), (show (0 : Int) ≤ a1_'.toInt by omega), (show a1_'.toInt ≤ (63 : Int) by omega)⟩
  · have c4 := c
    have r5 := Jr_6_4 hN
    have d6 : a2_'.toInt < (N_'.1 6 4).toInt := nlei.mp c4
    refine if_i (fun c => ?_) (fun c => ?_)
    · have c7 := c
      have q8 : (0 : Int) ≤ (((N_'.1 11 8) >>> (a2_' &&& 31)) &&& (1 : Int32)).toInt ∧ (((N_'.1 11 8) >>> (a2_' &&& 31)) &&& (1 : Int32)).toInt ≤ 1 := and_rng (by decide)
      have d9 : (((N_'.1 11 8) >>> (a2_' &&& 31)) &&& (1 : Int32)).toInt = (0 : Int) := eqi.mp c7
      unfold j_Top_gossip_57_25
      refine if_i (fun c => ?_) (fun c => ?_)
      · have c10 := c
        have d11 : (1 : Int) = (0 : Int) := eqi.mp c10
        exfalso; omega
      · have c12 := c
        have d13 : ¬ (1 : Int) = (0 : Int) := neqi.mp c12
        refine bind_i (sf_Top_hearers v1 ((1 : Int32) <<< (a2_' &&& 31)) N_' (⟨show (0 : Int) ≤ v1.toInt by omega, show v1.toInt ≤ (60 : Int) by omega⟩) hN) (fun x3 _ q => ?_)
        obtain ⟨h14, h15, h16, h17⟩ := q
        have hG18 : Gc 0 B_ x3.2 := Gc_t hG h15
        unfold j_Top_gossip_77_25
        refine if_i (fun c => ?_) (fun c => ?_)
        · have c19 := c
          have d20 : x3.1.toInt ≤ a1_'.toInt := lei.mp c19
          have q21 : (a2_' + (1 : Int32)).toInt = a2_'.toInt + (1 : Int) := add_ti rfl rfl (by omega) (by omega)
          exact ⟨_, rfl, ⟨h14, hG18, (show (-1 : Int) ≤ a0_'.toInt by omega), (show a0_'.toInt ≤ (7 : Int) by omega), (show (0 : Int) ≤ a1_'.toInt by omega), (show a1_'.toInt ≤ (63 : Int) by omega), (show (0 : Int) ≤ (a2_' + (1 : Int32)).toInt by omega), (show (a2_' + (1 : Int32)).toInt ≤ (8 : Int) by omega)⟩, show (8 - (a2_' + (1 : Int32)).toInt).toNat < (8 - a2_'.toInt).toNat by omega⟩
        · have c22 := c
          have d23 : a1_'.toInt < x3.1.toInt := nlei.mp c22
          have q24 : (a2_' + (1 : Int32)).toInt = a2_'.toInt + (1 : Int) := add_ti rfl rfl (by omega) (by omega)
          exact ⟨_, rfl, ⟨h14, hG18, (show (-1 : Int) ≤ a2_'.toInt by omega), (show a2_'.toInt ≤ (7 : Int) by omega), (show (0 : Int) ≤ x3.1.toInt by omega), (show x3.1.toInt ≤ (63 : Int) by omega), (show (0 : Int) ≤ (a2_' + (1 : Int32)).toInt by omega), (show (a2_' + (1 : Int32)).toInt ≤ (8 : Int) by omega)⟩, show (8 - (a2_' + (1 : Int32)).toInt).toNat < (8 - a2_'.toInt).toNat by omega⟩
    · have c25 := c
      have q26 : (0 : Int) ≤ (((N_'.1 11 8) >>> (a2_' &&& 31)) &&& (1 : Int32)).toInt ∧ (((N_'.1 11 8) >>> (a2_' &&& 31)) &&& (1 : Int32)).toInt ≤ 1 := and_rng (by decide)
      have d27 : ¬ (((N_'.1 11 8) >>> (a2_' &&& 31)) &&& (1 : Int32)).toInt = (0 : Int) := neqi.mp c25
      unfold j_Top_gossip_57_25
      refine if_i (fun c => ?_) (fun c => ?_)
      · have c28 := c
        have d29 : (0 : Int) = (0 : Int) := eqi.mp c28
        unfold j_Top_gossip_77_25
        refine if_i (fun c => ?_) (fun c => ?_)
        · have c30 := c
          have d31 : (0 : Int) ≤ a1_'.toInt := lei.mp c30
          have q32 : (a2_' + (1 : Int32)).toInt = a2_'.toInt + (1 : Int) := add_ti rfl rfl (by omega) (by omega)
          exact ⟨_, rfl, ⟨hN, hG, (show (-1 : Int) ≤ a0_'.toInt by omega), (show a0_'.toInt ≤ (7 : Int) by omega), (show (0 : Int) ≤ a1_'.toInt by omega), (show a1_'.toInt ≤ (63 : Int) by omega), (show (0 : Int) ≤ (a2_' + (1 : Int32)).toInt by omega), (show (a2_' + (1 : Int32)).toInt ≤ (8 : Int) by omega)⟩, show (8 - (a2_' + (1 : Int32)).toInt).toNat < (8 - a2_'.toInt).toNat by omega⟩
        · have c33 := c
          have d34 : a1_'.toInt < (0 : Int) := nlei.mp c33
          exfalso; omega
      · have c35 := c
        have d36 : ¬ (0 : Int) = (0 : Int) := neqi.mp c35
        exfalso; omega
theorem sf_Top_gossip (v1 : Int32) (M : Mem) (hJ : J M) : ∃ r : Int32 × Mem, f_Top_gossip v1 M = some r ∧ (J r.2 ∧ Gc 0 M r.2 ∧ (-2 : Int) ≤ r.1.toInt ∧ r.1.toInt ≤ (7 : Int)) := by
  unfold f_Top_gossip
  refine if_i (fun c => ?_) (fun c => ?_)
  · have c1 := c
    have d2 : v1.toInt < (0 : Int) := lti.mp c1
    exact ⟨((-2 : Int32), M), rfl, hJ, Gc_r, (show (-2 : Int) ≤ (-2 : Int32).toInt by decide), (show (-2 : Int32).toInt ≤ (7 : Int) by decide)⟩
  · have c3 := c
    have d4 : (0 : Int) ≤ v1.toInt := nlti.mp c3
    refine if_i (fun c => ?_) (fun c => ?_)
    · have c5 := c
      have d6 : v1.toInt ≤ (60 : Int) := lei.mp c5
      refine bind_i (sf_Top_hearers v1 (0 : Int32) M (⟨show (0 : Int) ≤ v1.toInt by omega, show v1.toInt ≤ (60 : Int) by omega⟩) hJ) (fun x1 _ q => ?_)
      obtain ⟨h7, h8, h9, h10⟩ := q
      have hG11 : Gc 0 M x1.2 := Gc_t Gc_r h8
      refine bind_i (sl_Top_gossip_25 v1 (-1 : Int32) x1.1 (0 : Int32) x1.2 M (⟨show (0 : Int) ≤ v1.toInt by omega, show v1.toInt ≤ (60 : Int) by omega⟩) h7 hG11 (show (-1 : Int) ≤ (-1 : Int32).toInt by decide) (show (-1 : Int32).toInt ≤ (7 : Int) by decide) (show (0 : Int) ≤ x1.1.toInt by omega) (show x1.1.toInt ≤ (63 : Int) by omega) (show (0 : Int) ≤ (0 : Int32).toInt by decide) (show (0 : Int32).toInt ≤ (8 : Int) by decide)) (fun x7 _ q => ?_)
      obtain ⟨h12, h13, h14, h15, h16, h17⟩ := q
      refine bind_i (sf_Top_emptyRow x7.2.2 h12) (fun x8 _ q => ?_)
      obtain ⟨h18, h19⟩ := q
      have hG20 : Gc 0 M x8 := Gc_t h13 h19
      refine bind_i (sf_Top_note x7.2.1 x8 h18) (fun x9 _ q => ?_)
      obtain ⟨h21, h22⟩ := q
      have hG23 : Gc 0 M x9 := Gc_t hG20 h22
      exact ⟨(x7.1, x9), rfl, h21, hG23, (show (-2 : Int) ≤ x7.1.toInt by omega), (show x7.1.toInt ≤ (7 : Int) by omega)⟩
    · have c24 := c
      have d25 : (60 : Int) < v1.toInt := nlei.mp c24
      exact ⟨((-2 : Int32), M), rfl, hJ, Gc_r, (show (-2 : Int) ≤ (-2 : Int32).toInt by decide), (show (-2 : Int32).toInt ≤ (7 : Int) by decide)⟩
theorem sl_Top_pieces_33 (v1 : Int32) (M : Mem) (a0_ : Int64) (a1_ : Int32) (a2_ : Int32) (a3_ : Int32) (a4_ : Int32) (hp_v1 : (0 : Int) ≤ v1.toInt ∧ v1.toInt ≤ (1 : Int)) (hJ_M : J M) (i0_ : (0 : Int) ≤ a2_.toInt) (i1_ : a2_.toInt ≤ (127 : Int)) (i2_ : (-1 : Int) ≤ a3_.toInt) (i3_ : a3_.toInt ≤ (35 : Int)) (i4_ : (0 : Int) ≤ a4_.toInt) (i5_ : a4_.toInt ≤ (36 : Int)) : ∃ x, iter (lb_Top_pieces_33 v1 M) FU (a0_, a1_, a2_, a3_, a4_) = some x ∧ (fun r : Int32 × Int32 × Int32 => (0 : Int) ≤ r.2.1.toInt ∧ r.2.1.toInt ≤ (127 : Int) ∧ (-1 : Int) ≤ r.2.2.toInt ∧ r.2.2.toInt ≤ (35 : Int)) x := by
  refine iter_r (fun s : Int64 × Int32 × Int32 × Int32 × Int32 => (0 : Int) ≤ s.2.2.1.toInt ∧ s.2.2.1.toInt ≤ (127 : Int) ∧ (-1 : Int) ≤ s.2.2.2.1.toInt ∧ s.2.2.2.1.toInt ≤ (35 : Int) ∧ (0 : Int) ≤ s.2.2.2.2.toInt ∧ s.2.2.2.2.toInt ≤ (36 : Int)) (fun s : Int64 × Int32 × Int32 × Int32 × Int32 => (36 - s.2.2.2.2.toInt).toNat) (fun r : Int32 × Int32 × Int32 => (0 : Int) ≤ r.2.1.toInt ∧ r.2.1.toInt ≤ (127 : Int) ∧ (-1 : Int) ≤ r.2.2.toInt ∧ r.2.2.toInt ≤ (35 : Int)) ?_ FU (a0_, a1_, a2_, a3_, a4_) ⟨i0_, i1_, i2_, i3_, i4_, i5_⟩ (by show (36 - a4_.toInt).toNat < FU; rw [FU_v]; omega)
  clear i5_ i4_ i3_ i2_ i1_ i0_
  rintro ⟨a0_', a1_', a2_', a3_', a4_'⟩ ⟨i0_, i1_, i2_, i3_, i4_, i5_⟩
  dsimp only at i0_ i1_ i2_ i3_ i4_ i5_
  unfold lb_Top_pieces_33
  dsimp only
  refine if_i (fun c => ?_) (fun c => ?_)
  · have c1 := c
    have d2 : (36 : Int) ≤ a4_'.toInt := lei.mp c1
    exact ⟨_, rfl, (show (0 : Int) ≤ a2_'.toInt by omega), (show a2_'.toInt ≤ (127 : Int) by omega), (show (-1 : Int) ≤ a3_'.toInt by omega), (show a3_'.toInt ≤ (35 : Int) by omega)⟩
  · have c3 := c
    have d4 : a4_'.toInt < (36 : Int) := nlei.mp c3
    refine if_i (fun c => ?_) (fun c => ?_)
    · have c5 := c
      have d6 : (lg_cmp ((a0_' >>> (a4_'.toInt64 &&& 63)) &&& (1 : Int64)) (0 : Int64)).toInt = (0 : Int) := eqi.mp c5
      have q7 : (a4_' + (1 : Int32)).toInt = a4_'.toInt + (1 : Int) := add_ti rfl rfl (by omega) (by omega)
      exact ⟨_, rfl, ⟨(show (0 : Int) ≤ a2_'.toInt by omega), (show a2_'.toInt ≤ (127 : Int) by omega), (show (-1 : Int) ≤ a3_'.toInt by omega), (show a3_'.toInt ≤ (35 : Int) by omega), (show (0 : Int) ≤ (a4_' + (1 : Int32)).toInt by omega), (show (a4_' + (1 : Int32)).toInt ≤ (36 : Int) by omega)⟩, show (36 - (a4_' + (1 : Int32)).toInt).toNat < (36 - a4_'.toInt).toNat by omega⟩
    · have c8 := c
      have d9 : ¬ (lg_cmp ((a0_' >>> (a4_'.toInt64 &&& 63)) &&& (1 : Int64)) (0 : Int64)).toInt = (0 : Int) := neqi.mp c8
      refine bind_i (sf_Nets_flood 32 v1 a4_' (0 : Int64) M kd_32 (⟨show (0 : Int) ≤ v1.toInt by omega, show v1.toInt ≤ (1 : Int) by omega⟩) hJ_M) (fun x1 _ q => ?_)
      refine bind_i (sf_JLong_bitCount x1) (fun x2 _ q => ?_)
      obtain ⟨h10, h11⟩ := q
      refine if_i (fun c => ?_) (fun c => ?_)
      · have c12 := c
        have d13 : x2.toInt ≤ a2_'.toInt := lei.mp c12
        have q14 : (a4_' + (1 : Int32)).toInt = a4_'.toInt + (1 : Int) := add_ti rfl rfl (by omega) (by omega)
        exact ⟨_, rfl, ⟨(show (0 : Int) ≤ a2_'.toInt by omega), (show a2_'.toInt ≤ (127 : Int) by omega), (show (-1 : Int) ≤ a3_'.toInt by omega), (show a3_'.toInt ≤ (35 : Int) by omega), (show (0 : Int) ≤ (a4_' + (1 : Int32)).toInt by omega), (show (a4_' + (1 : Int32)).toInt ≤ (36 : Int) by omega)⟩, show (36 - (a4_' + (1 : Int32)).toInt).toNat < (36 - a4_'.toInt).toNat by omega⟩
      · have c15 := c
        have d16 : a2_'.toInt < x2.toInt := nlei.mp c15
        refine bind_i (sf_JLong_bitCount x1) (fun x3 _ q => ?_)
        obtain ⟨h17, h18⟩ := q
        have q19 : (a4_' + (1 : Int32)).toInt = a4_'.toInt + (1 : Int) := add_ti rfl rfl (by omega) (by omega)
        exact ⟨_, rfl, ⟨(show (0 : Int) ≤ x3.toInt by omega), (show x3.toInt ≤ (127 : Int) by omega), (show (-1 : Int) ≤ a4_'.toInt by omega), (show a4_'.toInt ≤ (35 : Int) by omega), (show (0 : Int) ≤ (a4_' + (1 : Int32)).toInt by omega), (show (a4_' + (1 : Int32)).toInt ≤ (36 : Int) by omega)⟩, show (36 - (a4_' + (1 : Int32)).toInt).toNat < (36 - a4_'.toInt).toNat by omega⟩
theorem sf_Top_pieces (v1 : Int32) (M : Mem) (hJ : J M) : ∃ r : Int32 × Mem, f_Top_pieces v1 M = some r ∧ (J r.2 ∧ Gc 0 M r.2) := by
  unfold f_Top_pieces
  refine if_i (fun c => ?_) (fun c => ?_)
  · have c1 := c
    have d2 : v1.toInt < (0 : Int) := lti.mp c1
    exact ⟨((-1 : Int32), M), rfl, hJ, Gc_r⟩
  · have c3 := c
    have d4 : (0 : Int) ≤ v1.toInt := nlti.mp c3
    refine if_i (fun c => ?_) (fun c => ?_)
    · have c5 := c
      have d6 : v1.toInt ≤ (1 : Int) := lei.mp c5
      refine inb_i (by omega) (by omega) ?_
      refine bind_i (sl_Top_pieces_33 v1 M (M.2.1 33 v1.toNatClampNeg) (0 : Int32) (0 : Int32) (-1 : Int32) (0 : Int32) (⟨show (0 : Int) ≤ v1.toInt by omega, show v1.toInt ≤ (1 : Int) by omega⟩) hJ (show (0 : Int) ≤ (0 : Int32).toInt by decide) (show (0 : Int32).toInt ≤ (127 : Int) by decide) (show (-1 : Int) ≤ (-1 : Int32).toInt by decide) (show (-1 : Int32).toInt ≤ (35 : Int) by decide) (show (0 : Int) ≤ (0 : Int32).toInt by decide) (show (0 : Int32).toInt ≤ (36 : Int) by decide)) (fun x7 _ q => ?_)
      obtain ⟨h7, h8, h9, h10⟩ := q
      refine bind_i (sf_Top_emptyRow M hJ) (fun x8 _ q => ?_)
      obtain ⟨h11, h12⟩ := q
      have hG13 : Gc 0 M x8 := Gc_t Gc_r h12
      refine bind_i (sf_Top_note x7.2.1 x8 h11) (fun x9 _ q => ?_)
      obtain ⟨h14, h15⟩ := q
      have hG16 : Gc 0 M x9 := Gc_t hG13 h15
      refine bind_i (sf_Top_note x7.2.2 x9 h14) (fun x10 _ q => ?_)
      obtain ⟨h17, h18⟩ := q
      have hG19 : Gc 0 M x10 := Gc_t hG16 h18
      exact ⟨(x7.1, x10), rfl, h17, hG19⟩
    · have c20 := c
      have d21 : (1 : Int) < v1.toInt := nlei.mp c20
      exact ⟨((-1 : Int32), M), rfl, hJ, Gc_r⟩
