/-! safety of the class, 16 -/
theorem sf_Top_minute (M : Mem) (hJ : J M) : ∃ r : Int32 × Mem, f_Top_minute M = some r ∧ (J r.2 ∧ Gc 0 M r.2) := by
  unfold f_Top_minute
  refine bind_i (sf_Scene_copy 18 11 M kd_18 kd_11 hJ) (fun x1 _ q => ?_)
  obtain ⟨h1, h2, h3⟩ := q
  have hG4 : Gc 0 M x1 := Gc_t Gc_r h2
  refine bind_i (sf_Clock_pass 11 32 x1 kd_11 kd_32 h1) (fun x2 _ q => ?_)
  obtain ⟨h5, h6⟩ := q
  have hG7 : Gc 0 M x2 := Gc_t hG4 h6
  refine bind_i (sf_History_add 18 x2 kd_18 h5) (fun x3 _ q => ?_)
  obtain ⟨h8, h9⟩ := q
  have hG10 : Gc 0 M x3 := Gc_t hG7 h9
  refine bind_i (sf_Top_emptyRow x3 h8) (fun x4 _ q => ?_)
  obtain ⟨h11, h12⟩ := q
  have hG13 : Gc 0 M x4 := Gc_t hG10 h12
  refine bind_i (sf_Top_note (x4.1 45 0) x4 h11) (fun x5 _ q => ?_)
  obtain ⟨h14, h15⟩ := q
  have hG16 : Gc 0 M x5 := Gc_t hG13 h15
  refine bind_i (sf_Top_note (x5.1 45 1) x5 h14) (fun x6 _ q => ?_)
  obtain ⟨h17, h18⟩ := q
  have hG19 : Gc 0 M x6 := Gc_t hG16 h18
  exact ⟨((x6.1 45 2), x6), rfl, h17, hG19⟩
theorem sl_Top_minutes_32 (v1 : Int32) (a0_ : Int32) (N_ : Mem) (B_ : Mem) (hp_v1 : (0 : Int) ≤ v1.toInt ∧ v1.toInt ≤ (60 : Int)) (hN : J N_) (hG : Gc 0 B_ N_) (i2_ : (0 : Int) ≤ a0_.toInt) (i3_ : a0_.toInt ≤ (60 : Int)) : ∃ x, iter (lb_Top_minutes_32 v1) FU (a0_, N_) = some x ∧ (fun r : Mem => J r ∧ Gc 0 B_ r) x := by
  refine iter_r (fun s : Int32 × Mem => J s.2 ∧ Gc 0 B_ s.2 ∧ (0 : Int) ≤ s.1.toInt ∧ s.1.toInt ≤ (60 : Int)) (fun s : Int32 × Mem => (60 - s.1.toInt).toNat) (fun r : Mem => J r ∧ Gc 0 B_ r) ?_ FU (a0_, N_) ⟨hN, hG, i2_, i3_⟩ (by show (60 - a0_.toInt).toNat < FU; rw [FU_v]; omega)
  clear i3_ i2_ hG hN
  rintro ⟨a0_', N_'⟩ ⟨hN, hG, i2_, i3_⟩
  dsimp only at hN hG i2_ i3_
  unfold lb_Top_minutes_32
  dsimp only
  refine if_i (fun c => ?_) (fun c => ?_)
  · have c1 := c
    have d2 : v1.toInt ≤ a0_'.toInt := lei.mp c1
    exact ⟨_, rfl, hN, hG⟩
  · have c3 := c
    have d4 : a0_'.toInt < v1.toInt := nlei.mp c3
    refine bind_i (sf_Clock_pass 11 32 N_' kd_11 kd_32 hN) (fun x3 _ q => ?_)
    obtain ⟨h5, h6⟩ := q
    have hG7 : Gc 0 B_ x3 := Gc_t hG h6
    have q8 : (a0_' + (1 : Int32)).toInt = a0_'.toInt + (1 : Int) := add_ti rfl rfl (by omega) (by omega)
    exact ⟨_, rfl, ⟨h5, hG7, (show (0 : Int) ≤ (a0_' + (1 : Int32)).toInt by omega), (show (a0_' + (1 : Int32)).toInt ≤ (60 : Int) by omega)⟩, show (60 - (a0_' + (1 : Int32)).toInt).toNat < (60 - a0_'.toInt).toNat by omega⟩
theorem sf_Top_minutes (v1 : Int32) (M : Mem) (hJ : J M) : ∃ r : Int32 × Mem, f_Top_minutes v1 M = some r ∧ (J r.2 ∧ Gc 0 M r.2) := by
  unfold f_Top_minutes
  refine if_i (fun c => ?_) (fun c => ?_)
  · have c1 := c
    have d2 : v1.toInt < (0 : Int) := lti.mp c1
    exact ⟨((-1 : Int32), M), rfl, hJ, Gc_r⟩
  · have c3 := c
    have d4 : (0 : Int) ≤ v1.toInt := nlti.mp c3
    refine if_i (fun c => ?_) (fun c => ?_)
    · have c5 := c
      have d6 : v1.toInt ≤ (60 : Int) := lei.mp c5
      refine bind_i (sf_Scene_copy 18 11 M kd_18 kd_11 hJ) (fun x1 _ q => ?_)
      obtain ⟨h7, h8, h9⟩ := q
      have hG10 : Gc 0 M x1 := Gc_t Gc_r h8
      refine bind_i (sf_Clock_reset x1 h7) (fun x2 _ q => ?_)
      obtain ⟨h11, h12⟩ := q
      have hG13 : Gc 0 M x2 := Gc_t hG10 h12
      refine bind_i (sl_Top_minutes_32 v1 (0 : Int32) x2 M (⟨show (0 : Int) ≤ v1.toInt by omega, show v1.toInt ≤ (60 : Int) by omega⟩) h11 hG13 (show (0 : Int) ≤ (0 : Int32).toInt by decide) (show (0 : Int32).toInt ≤ (60 : Int) by decide)) (fun x5 _ q => ?_)
      obtain ⟨h14, h15⟩ := q
      refine if_i (fun c => ?_) (fun c => ?_)
      · have c16 := c
        have d17 : v1.toInt ≤ (0 : Int) := lei.mp c16
        unfold j_Top_minutes_85
        refine bind_i (sf_Top_emptyRow x5 h14) (fun x6 _ q => ?_)
        obtain ⟨h18, h19⟩ := q
        have hG20 : Gc 0 M x6 := Gc_t h15 h19
        refine bind_i (sf_Top_note (x6.1 45 3) x6 h18) (fun x7 _ q => ?_)
        obtain ⟨h21, h22⟩ := q
        have hG23 : Gc 0 M x7 := Gc_t hG20 h22
        refine bind_i (sf_Top_note (x7.1 11 8) x7 h21) (fun x8 _ q => ?_)
        obtain ⟨h24, h25⟩ := q
        have hG26 : Gc 0 M x8 := Gc_t hG23 h25
        exact ⟨((x8.1 45 4), x8), rfl, h24, hG26⟩
      · have c27 := c
        have d28 : (0 : Int) < v1.toInt := nlei.mp c27
        refine bind_i (sf_History_add 18 x5 kd_18 h14) (fun x9 _ q => ?_)
        obtain ⟨h29, h30⟩ := q
        have hG31 : Gc 0 M x9 := Gc_t h15 h30
        unfold j_Top_minutes_85
        refine bind_i (sf_Top_emptyRow x9 h29) (fun x6 _ q => ?_)
        obtain ⟨h32, h33⟩ := q
        have hG34 : Gc 0 M x6 := Gc_t hG31 h33
        refine bind_i (sf_Top_note (x6.1 45 3) x6 h32) (fun x7 _ q => ?_)
        obtain ⟨h35, h36⟩ := q
        have hG37 : Gc 0 M x7 := Gc_t hG34 h36
        refine bind_i (sf_Top_note (x7.1 11 8) x7 h35) (fun x8 _ q => ?_)
        obtain ⟨h38, h39⟩ := q
        have hG40 : Gc 0 M x8 := Gc_t hG37 h39
        exact ⟨((x8.1 45 4), x8), rfl, h38, hG40⟩
    · have c41 := c
      have d42 : (60 : Int) < v1.toInt := nlei.mp c41
      exact ⟨((-1 : Int32), M), rfl, hJ, Gc_r⟩
theorem sl_Top_lasts_10 (v1 : Int32) (a0_ : Int32) (N_ : Mem) (B_ : Mem) (hp_v1 : v1.toInt ≤ (60 : Int)) (hN : J N_) (hG : Gc 0 B_ N_) (i2_ : (0 : Int) ≤ a0_.toInt) (i3_ : a0_.toInt ≤ (60 : Int)) : ∃ x, iter (lb_Top_lasts_10 v1) FU (a0_, N_) = some x ∧ (fun r : Mem => J r ∧ Gc 0 B_ r) x := by
  refine iter_r (fun s : Int32 × Mem => J s.2 ∧ Gc 0 B_ s.2 ∧ (0 : Int) ≤ s.1.toInt ∧ s.1.toInt ≤ (60 : Int)) (fun s : Int32 × Mem => (60 - s.1.toInt).toNat) (fun r : Mem => J r ∧ Gc 0 B_ r) ?_ FU (a0_, N_) ⟨hN, hG, i2_, i3_⟩ (by show (60 - a0_.toInt).toNat < FU; rw [FU_v]; omega)
  clear i3_ i2_ hG hN
  rintro ⟨a0_', N_'⟩ ⟨hN, hG, i2_, i3_⟩
  dsimp only at hN hG i2_ i3_
  unfold lb_Top_lasts_10
  dsimp only
  refine if_i (fun c => ?_) (fun c => ?_)
  · have c1 := c
    have d2 : v1.toInt ≤ a0_'.toInt := lei.mp c1
    exact ⟨_, rfl, hN, hG⟩
  · have c3 := c
    have d4 : a0_'.toInt < v1.toInt := nlei.mp c3
    refine bind_i (sf_Clock_pass 11 32 N_' kd_11 kd_32 hN) (fun x1 _ q => ?_)
    obtain ⟨h5, h6⟩ := q
    have hG7 : Gc 0 B_ x1 := Gc_t hG h6
    have q8 : (a0_' + (1 : Int32)).toInt = a0_'.toInt + (1 : Int) := add_ti rfl rfl (by omega) (by omega)
    exact ⟨_, rfl, ⟨h5, hG7, (show (0 : Int) ≤ (a0_' + (1 : Int32)).toInt by omega), (show (a0_' + (1 : Int32)).toInt ≤ (60 : Int) by omega)⟩, show (60 - (a0_' + (1 : Int32)).toInt).toNat < (60 - a0_'.toInt).toNat by omega⟩
theorem sf_Top_lasts (v1 : Int32) (M : Mem) (hJ : J M) : ∃ r : Int32 × Mem, f_Top_lasts v1 M = some r ∧ (J r.2 ∧ Gc 0 M r.2 ∧ (0 : Int) ≤ r.1.toInt ∧ r.1.toInt ≤ (1 : Int)) := by
  unfold f_Top_lasts
  refine if_i (fun c => ?_) (fun c => ?_)
  · have c1 := c
    have d2 : v1.toInt ≤ (60 : Int) := lei.mp c1
    refine bind_i (sl_Top_lasts_10 v1 (0 : Int32) M M (show v1.toInt ≤ (60 : Int) by omega) hJ Gc_r (show (0 : Int) ≤ (0 : Int32).toInt by decide) (show (0 : Int32).toInt ≤ (60 : Int) by decide)) (fun x3 _ q => ?_)
    obtain ⟨h3, h4⟩ := q
    exact ⟨((1 : Int32), x3), rfl, h3, h4, (show (0 : Int) ≤ (1 : Int32).toInt by decide), (show (1 : Int32).toInt ≤ (1 : Int) by decide)⟩
  · have c5 := c
    have d6 : (60 : Int) < v1.toInt := nlei.mp c5
    exact ⟨((0 : Int32), M), rfl, hJ, Gc_r, (show (0 : Int) ≤ (0 : Int32).toInt by decide), (show (0 : Int32).toInt ≤ (1 : Int) by decide)⟩
theorem sf_Top_does (v1 : Int32) (M : Mem) (hJ : J M) : ∃ r : Int32 × Mem, f_Top_does v1 M = some r ∧ (J r.2 ∧ Gc 0 M r.2 ∧ (0 : Int) ≤ r.1.toInt ∧ r.1.toInt ≤ (1 : Int)) := by
  unfold f_Top_does
  refine if_i (fun c => ?_) (fun c => ?_)
  · have c1 := c
    have d2 : v1.toInt < (0 : Int) := lti.mp c1
    exact ⟨((0 : Int32), M), rfl, hJ, Gc_r, (show (0 : Int) ≤ (0 : Int32).toInt by decide), (show (0 : Int32).toInt ≤ (1 : Int) by decide)⟩
  · have c3 := c
    have d4 : (0 : Int) ≤ v1.toInt := nlti.mp c3
    refine if_i (fun c => ?_) (fun c => ?_)
    · have c5 := c
      have d6 : v1.toInt < (32 : Int) := lti.mp c5
      refine inb_i (by omega) (by omega) ?_
      refine if_i (fun c => ?_) (fun c => ?_)
      · have c7 := c
        have d8 : (M.1 148 v1.toNatClampNeg).toInt = (102 : Int) := eqi.mp c7
        refine bind_i (sf_Top_celebrate ((1 : Int32) - (M.1 11 9)) M hJ) (fun x1 _ q => ?_)
        obtain ⟨h9, h10, h11, h12⟩ := q
        have hG13 : Gc 0 M x1.2 := Gc_t Gc_r h10
        refine c_i (bool_of (by omega) (by omega)) ?_
        exact ⟨(x1.1, x1.2), rfl, h9, hG13, (show (0 : Int) ≤ x1.1.toInt by omega), (show x1.1.toInt ≤ (1 : Int) by omega)⟩
      · have c14 := c
        have d15 : ¬ (M.1 148 v1.toNatClampNeg).toInt = (102 : Int) := neqi.mp c14
        refine if_i (fun c => ?_) (fun c => ?_)
        · have c16 := c
          have d17 : (M.1 148 v1.toNatClampNeg).toInt = (109 : Int) := eqi.mp c16
          refine inb_i (by omega) (by omega) ?_
          refine bind_i (sf_Top_lasts (M.1 149 v1.toNatClampNeg) M hJ) (fun x3 _ q => ?_)
          obtain ⟨h18, h19, h20, h21⟩ := q
          have hG22 : Gc 0 M x3.2 := Gc_t Gc_r h19
          refine c_i (bool_of (by omega) (by omega)) ?_
          exact ⟨(x3.1, x3.2), rfl, h18, hG22, (show (0 : Int) ≤ x3.1.toInt by omega), (show x3.1.toInt ≤ (1 : Int) by omega)⟩
        · have c23 := c
          have d24 : ¬ (M.1 148 v1.toNatClampNeg).toInt = (109 : Int) := neqi.mp c23
          refine if_i (fun c => ?_) (fun c => ?_)
          · have c25 := c
            have d26 : (M.1 148 v1.toNatClampNeg).toInt = (110 : Int) := eqi.mp c25
            refine inb_i (by omega) (by omega) ?_
            refine bind_i (sf_Top_give (M.1 149 v1.toNatClampNeg) M hJ) (fun x5 _ q => ?_)
            obtain ⟨h27, h28, h29, h30⟩ := q
            have hG31 : Gc 0 M x5.2 := Gc_t Gc_r h28
            refine c_i (bool_of (by omega) (by omega)) ?_
            exact ⟨(x5.1, x5.2), rfl, h27, hG31, (show (0 : Int) ≤ x5.1.toInt by omega), (show x5.1.toInt ≤ (1 : Int) by omega)⟩
          · have c32 := c
            have d33 : ¬ (M.1 148 v1.toNatClampNeg).toInt = (110 : Int) := neqi.mp c32
            refine if_i (fun c => ?_) (fun c => ?_)
            · have c34 := c
              have d35 : (M.1 148 v1.toNatClampNeg).toInt = (112 : Int) := eqi.mp c34
              refine inb_i (by omega) (by omega) ?_
              refine inb_i (by omega) (by omega) ?_
              refine bind_i (sf_Top_lay (M.1 149 v1.toNatClampNeg) (M.1 150 v1.toNatClampNeg) M hJ) (fun x7 _ q => ?_)
              obtain ⟨h36, h37⟩ := q
              have hG38 : Gc 0 M x7.2 := Gc_t Gc_r h37
              refine if_i (fun c => ?_) (fun c => ?_)
              · have c39 := c
                have d40 : x7.1.toInt < (0 : Int) := lti.mp c39
                exact ⟨((0 : Int32), x7.2), rfl, h36, hG38, (show (0 : Int) ≤ (0 : Int32).toInt by decide), (show (0 : Int32).toInt ≤ (1 : Int) by decide)⟩
              · have c41 := c
                have d42 : (0 : Int) ≤ x7.1.toInt := nlti.mp c41
                exact ⟨((1 : Int32), x7.2), rfl, h36, hG38, (show (0 : Int) ≤ (1 : Int32).toInt by decide), (show (1 : Int32).toInt ≤ (1 : Int) by decide)⟩
            · have c43 := c
              have d44 : ¬ (M.1 148 v1.toNatClampNeg).toInt = (112 : Int) := neqi.mp c43
              refine if_i (fun c => ?_) (fun c => ?_)
              · have c45 := c
                have d46 : (M.1 148 v1.toNatClampNeg).toInt = (120 : Int) := eqi.mp c45
                refine bind_i (sf_Top_lift M hJ) (fun x10 _ q => ?_)
                obtain ⟨h47, h48, h49, h50⟩ := q
                have hG51 : Gc 0 M x10.2 := Gc_t Gc_r h48
                refine c_i (bool_of (by omega) (by omega)) ?_
                exact ⟨(x10.1, x10.2), rfl, h47, hG51, (show (0 : Int) ≤ x10.1.toInt by omega), (show x10.1.toInt ≤ (1 : Int) by omega)⟩
              · have c52 := c
                have d53 : ¬ (M.1 148 v1.toNatClampNeg).toInt = (120 : Int) := neqi.mp c52
                exact ⟨((0 : Int32), M), rfl, hJ, Gc_r, (show (0 : Int) ≤ (0 : Int32).toInt by decide), (show (0 : Int32).toInt ≤ (1 : Int) by decide)⟩
    · have c54 := c
      have d55 : (32 : Int) ≤ v1.toInt := nlti.mp c54
      exact ⟨((0 : Int32), M), rfl, hJ, Gc_r, (show (0 : Int) ≤ (0 : Int32).toInt by decide), (show (0 : Int32).toInt ≤ (1 : Int) by decide)⟩
theorem sl_Top_evening_48 (v1 : Int32) (a0_ : Int32) (a1_ : Int32) (N_ : Mem) (B_ : Mem) (hp_v1 : (0 : Int) ≤ v1.toInt ∧ v1.toInt ≤ (32 : Int)) (hN : J N_) (hG : Gc 0 B_ N_) (i2_ : (0 : Int) ≤ a0_.toInt) (i3_ : a0_.toInt ≤ (32 : Int)) (i4_ : (0 : Int) ≤ a1_.toInt) (i5_ : a1_.toInt ≤ (32 : Int)) : ∃ x, iter (lb_Top_evening_48 v1) FU (a0_, a1_, N_) = some x ∧ (fun r : Int32 × Mem => J r.2 ∧ Gc 0 B_ r.2 ∧ (0 : Int) ≤ r.1.toInt ∧ r.1.toInt ≤ (32 : Int)) x := by
  refine iter_r (fun s : Int32 × Int32 × Mem => J s.2.2 ∧ Gc 0 B_ s.2.2 ∧ (0 : Int) ≤ s.1.toInt ∧ s.1.toInt ≤ (32 : Int) ∧ (0 : Int) ≤ s.2.1.toInt ∧ s.2.1.toInt ≤ (32 : Int)) (fun s : Int32 × Int32 × Mem => (32 - s.2.1.toInt).toNat) (fun r : Int32 × Mem => J r.2 ∧ Gc 0 B_ r.2 ∧ (0 : Int) ≤ r.1.toInt ∧ r.1.toInt ≤ (32 : Int)) ?_ FU (a0_, a1_, N_) ⟨hN, hG, i2_, i3_, i4_, i5_⟩ (by show (32 - a1_.toInt).toNat < FU; rw [FU_v]; omega)
  clear i5_ i4_ i3_ i2_ hG hN
  rintro ⟨a0_', a1_', N_'⟩ ⟨hN, hG, i2_, i3_, i4_, i5_⟩
  dsimp only at hN hG i2_ i3_ i4_ i5_
  unfold lb_Top_evening_48
  dsimp only
  refine if_i (fun c => ?_) (fun c => ?_)
  · have c1 := c
    have d2 : v1.toInt ≤ a1_'.toInt := lei.mp c1
    exact ⟨_, rfl, hN, hG, (show (0 : Int) ≤ a0_'.toInt by omega), (show a0_'.toInt ≤ (32 : Int) by omega)⟩
  · have c3 := c
    have d4 : a1_'.toInt < v1.toInt := nlei.mp c3
    refine if_i (fun c => ?_) (fun c => ?_)
    · have c5 := c
      have d6 : a0_'.toInt = a1_'.toInt := eqi.mp c5
      refine bind_i (sf_Top_does a1_' N_' hN) (fun x5 _ q => ?_)
      obtain ⟨h7, h8, h9, h10⟩ := q
      have hG11 : Gc 0 B_ x5.2 := Gc_t hG h8
      refine if_i (fun c => ?_) (fun c => ?_)
      · have c12 := c
        have d13 : x5.1.toInt = (0 : Int) := eqi.mp c12
        have q14 : (a1_' + (1 : Int32)).toInt = a1_'.toInt + (1 : Int) := add_ti rfl rfl (by omega) (by omega)
        exact ⟨_, rfl, ⟨h7, hG11, (show (0 : Int) ≤ a0_'.toInt by omega), (show a0_'.toInt ≤ (32 : Int) by omega), (show (0 : Int) ≤ (a1_' + (1 : Int32)).toInt by omega), (show (a1_' + (1 : Int32)).toInt ≤ (32 : Int) by omega)⟩, show (32 - (a1_' + (1 : Int32)).toInt).toNat < (32 - a1_'.toInt).toNat by omega⟩
      · have c15 := c
        have d16 : ¬ x5.1.toInt = (0 : Int) := neqi.mp c15
        have q17 : (a0_' + (1 : Int32)).toInt = a0_'.toInt + (1 : Int) := add_ti rfl rfl (by omega) (by omega)
        have q18 : (a1_' + (1 : Int32)).toInt = a1_'.toInt + (1 : Int) := add_ti rfl rfl (by omega) (by omega)
        exact ⟨_, rfl, ⟨h7, hG11, (show (0 : Int) ≤ (a0_' + (1 : Int32)).toInt by omega), (show (a0_' + (1 : Int32)).toInt ≤ (32 : Int) by omega), (show (0 : Int) ≤ (a1_' + (1 : Int32)).toInt by omega), (show (a1_' + (1 : Int32)).toInt ≤ (32 : Int) by omega)⟩, show (32 - (a1_' + (1 : Int32)).toInt).toNat < (32 - a1_'.toInt).toNat by omega⟩
    · have c19 := c
      have d20 : ¬ a0_'.toInt = a1_'.toInt := neqi.mp c19
      exact ⟨_, rfl, hN, hG, (show (0 : Int) ≤ a0_'.toInt by omega), (show a0_'.toInt ≤ (32 : Int) by omega)⟩
theorem sf_Top_evening (M : Mem) (hJ : J M) : ∃ r : Int32 × Mem, f_Top_evening M = some r ∧ (J r.2 ∧ Gc 1 M r.2 ∧ r.1.toInt ≤ (32 : Int) ∧ (r.2.1 1 1).toInt = 0) := by
  unfold f_Top_evening
  refine bind_i (sf_Acts_read M hJ) (fun x1 _ q => ?_)
  obtain ⟨h1, h2, h3⟩ := q
  have hG4 : Gc 1 M x1.2 := Gc_t Gc_r (Gc_up h2)
  refine mem_i (fun M2 e6 => ?_)
  have hJ7 : J M2 := by rw [e6]; exact Jw_1_1 h1 (0 : Int32) (show (0 : Int) ≤ (0 : Int32).toInt by decide) (show (0 : Int32).toInt ≤ (80 : Int) by decide)
  have hG8 : Gc 1 M M2 := Gc_1 hG4 e6 (by decide)
  have f9 : (M2.1 1 1).toInt = (0 : Int) := by rw [e6, si_eq]; rfl
  clear e6
  refine if_i (fun c => ?_) (fun c => ?_)
  · have c10 := c
    have d11 : (0 : Int) ≤ x1.1.toInt := lei.mp c10
    refine bind_i (sf_Scene_copy 18 11 M2 kd_18 kd_11 hJ7) (fun x3 _ q => ?_)
    obtain ⟨h12, h13, h14⟩ := q
    have f15 : (x3.1 1 1).toInt = (M2.1 1 1).toInt := congrArg Int32.toInt (h13 1 1 (.inr ⟨rfl, rfl, rfl⟩))
    have hG16 : Gc 1 M x3 := Gc_t hG8 (Gc_up h13)
    refine bind_i (sf_Clock_reset x3 h12) (fun x4 _ q => ?_)
    obtain ⟨h17, h18⟩ := q
    have f19 : (x4.1 1 1).toInt = (x3.1 1 1).toInt := congrArg Int32.toInt (h18 1 1 (.inr ⟨rfl, rfl, rfl⟩))
    have hG20 : Gc 1 M x4 := Gc_t hG16 (Gc_up h18)
    refine bind_i (sl_Top_evening_48 x1.1 (0 : Int32) (0 : Int32) x4 x4 (⟨show (0 : Int) ≤ x1.1.toInt by omega, show x1.1.toInt ≤ (32 : Int) by omega⟩) h17 Gc_r (show (0 : Int) ≤ (0 : Int32).toInt by decide) (show (0 : Int32).toInt ≤ (32 : Int) by decide) (show (0 : Int) ≤ (0 : Int32).toInt by decide) (show (0 : Int32).toInt ≤ (32 : Int) by decide)) (fun x9 _ q => ?_)
    obtain ⟨h21, h22, h23, h24⟩ := q
    have f25 : (x9.2.1 1 1).toInt = (x4.1 1 1).toInt := congrArg Int32.toInt (h22 1 1 (.inr ⟨rfl, rfl, rfl⟩))
    have hG26 : Gc 1 M x9.2 := Gc_t hG20 (Gc_up h22)
    unfold j_Top_evening_75
    refine if_i (fun c => ?_) (fun c => ?_)
    · have c27 := c
      have d28 : x9.1.toInt ≤ (0 : Int) := lei.mp c27
      unfold j_Top_evening_90
      refine bind_i (sf_Top_emptyRow x9.2 h21) (fun x10 _ q => ?_)
      obtain ⟨h29, h30⟩ := q
      have f31 : (x10.1 1 1).toInt = (x9.2.1 1 1).toInt := congrArg Int32.toInt (h30 1 1 (.inr ⟨rfl, rfl, rfl⟩))
      have hG32 : Gc 1 M x10 := Gc_t hG26 (Gc_up h30)
      refine if_i (fun c => ?_) (fun c => ?_)
      · have c33 := c
        have d34 : x1.1.toInt ≤ x9.1.toInt := lei.mp c33
        unfold j_Top_evening_105
        refine bind_i (sf_Top_note (0 : Int32) x10 h29) (fun x11 _ q => ?_)
        obtain ⟨h35, h36⟩ := q
        have f37 : (x11.1 1 1).toInt = (x10.1 1 1).toInt := congrArg Int32.toInt (h36 1 1 (.inr ⟨rfl, rfl, rfl⟩))
        have hG38 : Gc 1 M x11 := Gc_t hG32 (Gc_up h36)
        refine bind_i (sf_Top_note (x11.1 45 4) x11 h35) (fun x12 _ q => ?_)
        obtain ⟨h39, h40⟩ := q
        have f41 : (x12.1 1 1).toInt = (x11.1 1 1).toInt := congrArg Int32.toInt (h40 1 1 (.inr ⟨rfl, rfl, rfl⟩))
        have hG42 : Gc 1 M x12 := Gc_t hG38 (Gc_up h40)
        exact ⟨(x9.1, x12), rfl, h39, hG42, (show x9.1.toInt ≤ (32 : Int) by omega), (show (x12.1 1 1).toInt = 0 by omega)⟩
      · have c43 := c
        have d44 : x9.1.toInt < x1.1.toInt := nlei.mp c43
        unfold j_Top_evening_105
        refine bind_i (sf_Top_note (1 : Int32) x10 h29) (fun x11 _ q => ?_)
        obtain ⟨h45, h46⟩ := q
        have f47 : (x11.1 1 1).toInt = (x10.1 1 1).toInt := congrArg Int32.toInt (h46 1 1 (.inr ⟨rfl, rfl, rfl⟩))
        have hG48 : Gc 1 M x11 := Gc_t hG32 (Gc_up h46)
        refine bind_i (sf_Top_note (x11.1 45 4) x11 h45) (fun x12 _ q => ?_)
        obtain ⟨h49, h50⟩ := q
        have f51 : (x12.1 1 1).toInt = (x11.1 1 1).toInt := congrArg Int32.toInt (h50 1 1 (.inr ⟨rfl, rfl, rfl⟩))
        have hG52 : Gc 1 M x12 := Gc_t hG48 (Gc_up h50)
        exact ⟨(x9.1, x12), rfl, h49, hG52, (show x9.1.toInt ≤ (32 : Int) by omega), (show (x12.1 1 1).toInt = 0 by omega)⟩
    · have c53 := c
      have d54 : (0 : Int) < x9.1.toInt := nlei.mp c53
      refine bind_i (sf_History_add 18 x9.2 kd_18 h21) (fun x14 _ q => ?_)
      obtain ⟨h55, h56⟩ := q
      have f57 : (x14.1 1 1).toInt = (x9.2.1 1 1).toInt := congrArg Int32.toInt (h56 1 1 (.inr ⟨rfl, rfl, rfl⟩))
      have hG58 : Gc 1 M x14 := Gc_t hG26 (Gc_up h56)
      unfold j_Top_evening_90
      refine bind_i (sf_Top_emptyRow x14 h55) (fun x10 _ q => ?_)
      obtain ⟨h59, h60⟩ := q
      have f61 : (x10.1 1 1).toInt = (x14.1 1 1).toInt := congrArg Int32.toInt (h60 1 1 (.inr ⟨rfl, rfl, rfl⟩))
      have hG62 : Gc 1 M x10 := Gc_t hG58 (Gc_up h60)
      refine if_i (fun c => ?_) (fun c => ?_)
      · have c63 := c
        have d64 : x1.1.toInt ≤ x9.1.toInt := lei.mp c63
        unfold j_Top_evening_105
        refine bind_i (sf_Top_note (0 : Int32) x10 h59) (fun x11 _ q => ?_)
        obtain ⟨h65, h66⟩ := q
        have f67 : (x11.1 1 1).toInt = (x10.1 1 1).toInt := congrArg Int32.toInt (h66 1 1 (.inr ⟨rfl, rfl, rfl⟩))
        have hG68 : Gc 1 M x11 := Gc_t hG62 (Gc_up h66)
        refine bind_i (sf_Top_note (x11.1 45 4) x11 h65) (fun x12 _ q => ?_)
        obtain ⟨h69, h70⟩ := q
        have f71 : (x12.1 1 1).toInt = (x11.1 1 1).toInt := congrArg Int32.toInt (h70 1 1 (.inr ⟨rfl, rfl, rfl⟩))
        have hG72 : Gc 1 M x12 := Gc_t hG68 (Gc_up h70)
        exact ⟨(x9.1, x12), rfl, h69, hG72, (show x9.1.toInt ≤ (32 : Int) by omega), (show (x12.1 1 1).toInt = 0 by omega)⟩
      · have c73 := c
        have d74 : x9.1.toInt < x1.1.toInt := nlei.mp c73
        unfold j_Top_evening_105
        refine bind_i (sf_Top_note (1 : Int32) x10 h59) (fun x11 _ q => ?_)
        obtain ⟨h75, h76⟩ := q
        have f77 : (x11.1 1 1).toInt = (x10.1 1 1).toInt := congrArg Int32.toInt (h76 1 1 (.inr ⟨rfl, rfl, rfl⟩))
        have hG78 : Gc 1 M x11 := Gc_t hG62 (Gc_up h76)
        refine bind_i (sf_Top_note (x11.1 45 4) x11 h75) (fun x12 _ q => ?_)
        obtain ⟨h79, h80⟩ := q
        have f81 : (x12.1 1 1).toInt = (x11.1 1 1).toInt := congrArg Int32.toInt (h80 1 1 (.inr ⟨rfl, rfl, rfl⟩))
        have hG82 : Gc 1 M x12 := Gc_t hG78 (Gc_up h80)
        exact ⟨(x9.1, x12), rfl, h79, hG82, (show x9.1.toInt ≤ (32 : Int) by omega), (show (x12.1 1 1).toInt = 0 by omega)⟩
  · have c83 := c
    have d84 : x1.1.toInt < (0 : Int) := nlei.mp c83
    exact ⟨(x1.1, M2), rfl, hJ7, hG8, (show x1.1.toInt ≤ (32 : Int) by omega), (show (M2.1 1 1).toInt = 0 by omega)⟩
theorem sf_Top_undo (M : Mem) (hJ : J M) : ∃ r : Int32 × Mem, f_Top_undo M = some r ∧ (J r.2 ∧ Gc 0 M r.2 ∧ (-1 : Int) ≤ r.1.toInt ∧ r.1.toInt ≤ (12 : Int)) := by
  unfold f_Top_undo
  refine bind_i (sf_History_back 11 M kd_11 hJ) (fun x1 _ q => ?_)
  obtain ⟨h1, h2, h3, h4⟩ := q
  have hG5 : Gc 0 M x1.2 := Gc_t Gc_r h2
  refine if_i (fun c => ?_) (fun c => ?_)
  · have c6 := c
    have d7 : x1.1.toInt = (0 : Int) := eqi.mp c6
    exact ⟨((-1 : Int32), x1.2), rfl, h1, hG5, (show (-1 : Int) ≤ (-1 : Int32).toInt by decide), (show (-1 : Int32).toInt ≤ (12 : Int) by decide)⟩
  · have c8 := c
    have d9 : ¬ x1.1.toInt = (0 : Int) := neqi.mp c8
    refine bind_i (sf_Nets_lay 32 11 (-1 : Int32) x1.2 kd_32 kd_11 h1) (fun x2 _ q => ?_)
    obtain ⟨h10, h11⟩ := q
    have hG12 : Gc 0 M x2 := Gc_t hG5 h11
    have r13 := Jr_46_2 h10
    exact ⟨((x2.1 46 2), x2), rfl, h10, hG12, (show (-1 : Int) ≤ (x2.1 46 2).toInt by omega), (show (x2.1 46 2).toInt ≤ (12 : Int) by omega)⟩
theorem sf_Top_areTwo (v1 : Int32) (v2 : Int32) (M : Mem) (hJ : J M) : ∃ r : Int32, f_Top_areTwo v1 v2 M = some r ∧ ((0 : Int) ≤ r.toInt ∧ r.toInt ≤ (1 : Int) ∧ (¬ r.toInt = 0 → (0 : Int) ≤ v1.toInt ∧ v1.toInt ≤ (7 : Int)) ∧ (¬ r.toInt = 0 → (0 : Int) ≤ v2.toInt ∧ v2.toInt ≤ (7 : Int))) := by
  unfold f_Top_areTwo
  refine bind_i (sf_Crowd_has v1 M hJ) (fun x1 _ q => ?_)
  obtain ⟨h1, h2, h3⟩ := q
  refine if_i (fun c => ?_) (fun c => ?_)
  · have c4 := c
    have d5 : x1.toInt = (0 : Int) := eqi.mp c4
    exact ⟨(0 : Int32), rfl, (show (0 : Int) ≤ (0 : Int32).toInt by decide), (show (0 : Int32).toInt ≤ (1 : Int) by decide), (fun hh => by have hh : ¬ (0 : Int32).toInt = 0 := hh; have zz : (0 : Int32).toInt = 0 := rfl; omega), (fun hh => by have hh : ¬ (0 : Int32).toInt = 0 := hh; have zz : (0 : Int32).toInt = 0 := rfl; omega)⟩
  · have c6 := c
    have d7 : ¬ x1.toInt = (0 : Int) := neqi.mp c6
    refine bind_i (sf_Crowd_has v2 M hJ) (fun x2 _ q => ?_)
    obtain ⟨h8, h9, h10⟩ := q
    refine if_i (fun c => ?_) (fun c => ?_)
    · have c11 := c
      have d12 : x2.toInt = (0 : Int) := eqi.mp c11
      exact ⟨(0 : Int32), rfl, (show (0 : Int) ≤ (0 : Int32).toInt by decide), (show (0 : Int32).toInt ≤ (1 : Int) by decide), (fun hh => by have hh : ¬ (0 : Int32).toInt = 0 := hh; have zz : (0 : Int32).toInt = 0 := rfl; omega), (fun hh => by have hh : ¬ (0 : Int32).toInt = 0 := hh; have zz : (0 : Int32).toInt = 0 := rfl; omega)⟩
    · have c13 := c
      have d14 : ¬ x2.toInt = (0 : Int) := neqi.mp c13
      refine if_i (fun c => ?_) (fun c => ?_)
      · have c15 := c
        have d16 : v1.toInt = v2.toInt := eqi.mp c15
        exact ⟨(0 : Int32), rfl, (show (0 : Int) ≤ (0 : Int32).toInt by decide), (show (0 : Int32).toInt ≤ (1 : Int) by decide), (fun hh => by have hh : ¬ (0 : Int32).toInt = 0 := hh; have zz : (0 : Int32).toInt = 0 := rfl; omega), (fun hh => by have hh : ¬ (0 : Int32).toInt = 0 := hh; have zz : (0 : Int32).toInt = 0 := rfl; omega)⟩
      · have c17 := c
        have d18 : ¬ v1.toInt = v2.toInt := neqi.mp c17
        exact ⟨(1 : Int32), rfl, (show (0 : Int) ≤ (1 : Int32).toInt by decide), (show (1 : Int32).toInt ≤ (1 : Int) by decide), (fun hh => by have hh : ¬ (1 : Int32).toInt = 0 := hh; have zz : (1 : Int32).toInt = 1 := rfl; omega), (fun hh => by have hh : ¬ (1 : Int32).toInt = 0 := hh; have zz : (1 : Int32).toInt = 1 := rfl; omega)⟩
theorem sf_Top_met (v1 : Int32) (v2 : Int32) (M : Mem) (hJ : J M) : ∃ r : Int32, f_Top_met v1 v2 M = some r ∧ (True) := by
  unfold f_Top_met
  refine bind_i (sf_Top_areTwo v1 v2 M hJ) (fun x1 _ q => ?_)
  obtain ⟨h1, h2, h3, h4⟩ := q
  refine if_i (fun c => ?_) (fun c => ?_)
  · have c5 := c
    have d6 : x1.toInt = (0 : Int) := eqi.mp c5
    exact ⟨(-1 : Int32), rfl, trivial⟩
  · have c7 := c
    have d8 : ¬ x1.toInt = (0 : Int) := neqi.mp c7
    refine bind_i (sf_Scene_meetingsOfTwo 11 v1 v2 M kd_11 (⟨show (0 : Int) ≤ v1.toInt by omega, show v1.toInt ≤ (7 : Int) by omega⟩) (⟨show (0 : Int) ≤ v2.toInt by omega, show v2.toInt ≤ (7 : Int) by omega⟩) hJ) (fun x2 _ q => ?_)
    exact ⟨x2, rfl, trivial⟩
theorem sl_Top_ahead_32 (v1 : Int32) (a0_ : Int32) (N_ : Mem) (B_ : Mem) (hp_v1 : (0 : Int) ≤ v1.toInt ∧ v1.toInt ≤ (60 : Int)) (hN : J N_) (hG : Gc 0 B_ N_) (i2_ : (0 : Int) ≤ a0_.toInt) (i3_ : a0_.toInt ≤ (60 : Int)) : ∃ x, iter (lb_Top_ahead_32 v1) FU (a0_, N_) = some x ∧ (fun r : Mem => J r ∧ Gc 0 B_ r) x := by
  refine iter_r (fun s : Int32 × Mem => J s.2 ∧ Gc 0 B_ s.2 ∧ (0 : Int) ≤ s.1.toInt ∧ s.1.toInt ≤ (60 : Int)) (fun s : Int32 × Mem => (60 - s.1.toInt).toNat) (fun r : Mem => J r ∧ Gc 0 B_ r) ?_ FU (a0_, N_) ⟨hN, hG, i2_, i3_⟩ (by show (60 - a0_.toInt).toNat < FU; rw [FU_v]; omega)
  clear i3_ i2_ hG hN
  rintro ⟨a0_', N_'⟩ ⟨hN, hG, i2_, i3_⟩
  dsimp only at hN hG i2_ i3_
  unfold lb_Top_ahead_32
  dsimp only
  refine if_i (fun c => ?_) (fun c => ?_)
  · have c1 := c
    have d2 : v1.toInt ≤ a0_'.toInt := lei.mp c1
    exact ⟨_, rfl, hN, hG⟩
  · have c3 := c
    have d4 : a0_'.toInt < v1.toInt := nlei.mp c3
    refine bind_i (sf_Clock_pass 25 32 N_' kd_25 kd_32 hN) (fun x3 _ q => ?_)
    obtain ⟨h5, h6⟩ := q
    have hG7 : Gc 0 B_ x3 := Gc_t hG h6
    have q8 : (a0_' + (1 : Int32)).toInt = a0_'.toInt + (1 : Int) := add_ti rfl rfl (by omega) (by omega)
    exact ⟨_, rfl, ⟨h5, hG7, (show (0 : Int) ≤ (a0_' + (1 : Int32)).toInt by omega), (show (a0_' + (1 : Int32)).toInt ≤ (60 : Int) by omega)⟩, show (60 - (a0_' + (1 : Int32)).toInt).toNat < (60 - a0_'.toInt).toNat by omega⟩
