section
/-! safety of the class, 16 -/
theorem sf_Top_minute (M : Mem) (hJ : J M) : ∃ r : Int32 × Mem, f_Top_minute M = some r ∧ (J r.2 ∧ Gc 0 M r.2) := by
  unfold f_Top_minute
  refine bind_i (sf_Scene_copy 18 11 M kd_18 kd_11 hJ) (fun x1 _ q => ?_)
  obtain ⟨h1, h2, h3⟩ := q
  have hG4 : Gc 0 M x1 := Gc_t Gc_r h2
  refine bind_i (sf_Clock_pass 11 32 x1 kd_11 kd_32 h1) (fun x2 _ q => ?_)
  obtain ⟨h5, h6⟩ := q
  have hG7 : Gc 0 M x2 := Gc_t hG4 h6
  refine bind_i (sf_History_add 18 x2 kd_18 h5) (fun x3 _ q => ?_)
  obtain ⟨h8, h9⟩ := q
  have hG10 : Gc 0 M x3 := Gc_t hG7 h9
  refine bind_i (sf_Top_emptyRow x3 h8) (fun x4 _ q => ?_)
  obtain ⟨h11, h12⟩ := q
  have hG13 : Gc 0 M x4 := Gc_t hG10 h12
  refine bind_i (sf_Top_note (x4.1 45 0) x4 h11) (fun x5 _ q => ?_)
  obtain ⟨h14, h15⟩ := q
  have hG16 : Gc 0 M x5 := Gc_t hG13 h15
  refine bind_i (sf_Top_note (x5.1 45 1) x5 h14) (fun x6 _ q => ?_)
  obtain ⟨h17, h18⟩ := q
  have hG19 : Gc 0 M x6 := Gc_t hG16 h18
  exact ⟨((x6.1 45 2), x6), rfl, h17, hG19⟩
theorem sl_Top_minutes_32 (v1 : Int32) (a0_ : Int32) (N_ : Mem) (B_ : Mem) (hp_v1 : (0 : Int) ≤ v1.toInt ∧ v1.toInt ≤ (60 : Int)) (hN : J N_) (hG : Gc 0 B_ N_) (i2_ : (0 : Int) ≤ a0_.toInt) (i3_ : a0_.toInt ≤ (60 : Int)) : ∃ x, iter (lb_Top_minutes_32 v1) FU (a0_, N_) = some x ∧ (fun r : Mem => J r ∧ Gc 0 B_ r) x := by
  refine iter_r (fun s : Int32 × Mem => J s.2 ∧ Gc 0 B_ s.2 ∧ (0 : Int) ≤ s.1.toInt ∧ s.1.toInt ≤ (60 : Int)) (fun s : Int32 × Mem => (60 - s.1.toInt).toNat) (fun r : Mem => J r ∧ Gc 0 B_ r) ?_ FU (a0_, N_) ⟨hN, hG, i2_, i3_⟩ (by show (60 - a0_.toInt).toNat < FU; rw [FU_v]; omega)
  clear i3_ i2_ hG hN
  rintro ⟨a0_', N_'⟩ ⟨hN, hG, i2_, i3_⟩
  dsimp only at hN hG i2_ i3_
  unfold lb_Top_minutes_32
  dsimp only
  refine if_i (fun c => ?_) (fun c => ?_)
  · have c1 := c
    have d2 : v1.toInt ≤ a0_'.toInt := lei.mp c1
    exact ⟨_, rfl, hN, hG⟩
  · have c3 := c
    have d4 : a0_'.toInt < v1.toInt := nlei.mp c3
    refine bind_i (sf_Clock_pass 11 32 N_' kd_11 kd_32 hN) (fun x3 _ q => ?_)
    obtain ⟨h5, h6⟩ := q
    have hG7 : Gc 0 B_ x3 := Gc_t hG h6
    have q8 : (a0_' + (1 : Int32)).toInt = a0_'.toInt + (1 : Int) := add_ti rfl rfl (by omega) (by omega)
    exact ⟨_, rfl, ⟨h5, hG7, (show (0 : Int) ≤ (a0_' + (1 : Int32)).toInt by omega), (show (a0_' + (1 : Int32)).toInt ≤ (60 : Int) by omega)⟩, show (60 - (a0_' + (1 : Int32)).toInt).toNat < (60 - a0_'.toInt).toNat by omega⟩
theorem sf_Top_minutes (v1 : Int32) (M : Mem) (hJ : J M) : ∃ r : Int32 × Mem, f_Top_minutes v1 M = some r ∧ (J r.2 ∧ Gc 0 M r.2) := by
  unfold f_Top_minutes
  refine if_i (fun c => ?_) (fun c => ?_)
  · have c1 := c
    have d2 : v1.toInt < (0 : Int) := lti.mp c1
    exact ⟨((-1 : Int32), M), rfl, hJ, Gc_r⟩
  · have c3 := c
    have d4 : (0 : Int) ≤ v1.toInt := nlti.mp c3
    refine if_i (fun c => ?_) (fun c => ?_)
    · have c5 := c
      have d6 : v1.toInt ≤ (60 : Int) := lei.mp c5
      refine bind_i (sf_Scene_copy 18 11 M kd_18 kd_11 hJ) (fun x1 _ q => ?_)
      obtain ⟨h7, h8, h9⟩ := q
      have hG10 : Gc 0 M x1 := Gc_t Gc_r h8
      refine bind_i (sf_Clock_reset x1 h7) (fun x2 _ q => ?_)
      obtain ⟨h11, h12⟩ := q
      have hG13 : Gc 0 M x2 := Gc_t hG10 h12
      refine bind_i (sl_Top_minutes_32 v1 (0 : Int32) x2 M (⟨show (0 : Int) ≤ v1.toInt by omega, show v1.toInt ≤ (60 : Int) by omega⟩) h11 hG13 (show (0 : Int) ≤ (0 : Int32).toInt by decide) (show (0 : Int32).toInt ≤ (60 : Int) by decide)) (fun x5 _ q => ?_)
      obtain ⟨h14, h15⟩ := q
      refine if_i (fun c => ?_) (fun c => ?_)
      · have c16 := c
        have d17 : v1.toInt ≤ (0 : Int) := lei.mp c16
        unfold j_Top_minutes_85
        refine bind_i (sf_Top_emptyRow x5 h14) (fun x6 _ q => ?_)
        obtain ⟨h18, h19⟩ := q
        have hG20 : Gc 0 M x6 := Gc_t h15 h19
        refine bind_i (sf_Top_note (x6.1 45 3) x6 h18) (fun x7 _ q => ?_)
        obtain ⟨h21, h22⟩ := q
        have hG23 : Gc 0 M x7 := Gc_t hG20 h22
        refine bind_i (sf_Top_note (x7.1 11 8) x7 h21) (fun x8 _ q => ?_)
        obtain ⟨h24, h25⟩ := q
        have hG26 : Gc 0 M x8 := Gc_t hG23 h25
        exact ⟨((x8.1 45 4), x8), rfl, h24, hG26⟩
      · have c27 := c
        have d28 : (0 : Int) < v1.toInt := nlei.mp c27
        refine bind_i (sf_History_add 18 x5 kd_18 h14) (fun x9 _ q => ?_)
        obtain ⟨h29, h30⟩ := q
        have hG31 : Gc 0 M x9 := Gc_t h15 h30
        unfold j_Top_minutes_85
        refine bind_i (sf_Top_emptyRow x9 h29) (fun x6 _ q => ?_)
        obtain ⟨h32, h33⟩ := q
        have hG34 : Gc 0 M x6 := Gc_t hG31 h33
        refine bind_i (sf_Top_note (x6.1 45 3) x6 h32) (fun x7 _ q => ?_)
        obtain ⟨h35, h36⟩ := q
        have hG37 : Gc 0 M x7 := Gc_t hG34 h36
        refine bind_i (sf_Top_note (x7.1 11 8) x7 h35) (fun x8 _ q => ?_)
        obtain ⟨h38, h39⟩ := q
        have hG40 : Gc 0 M x8 := Gc_t hG37 h39
        exact ⟨((x8.1 45 4), x8), rfl, h38, hG40⟩
    · have c41 := c
      have d42 : (60 : Int) < v1.toInt := nlei.mp c41
      exact ⟨((-1 : Int32), M), rfl, hJ, Gc_r⟩
theorem sl_Top_lasts_10 (v1 : Int32) (a0_ : Int32) (N_ : Mem) (B_ : Mem) (hp_v1 : v1.toInt ≤ (60 : Int)) (hN : J N_) (hG : Gc 0 B_ N_) (i2_ : (0 : Int) ≤ a0_.toInt) (i3_ : a0_.toInt ≤ (60 : Int)) : ∃ x, iter (lb_Top_lasts_10 v1) FU (a0_, N_) = some x ∧ (fun r : Mem => J r ∧ Gc 0 B_ r) x := by
  refine iter_r (fun s : Int32 × Mem => J s.2 ∧ Gc 0 B_ s.2 ∧ (0 : Int) ≤ s.1.toInt ∧ s.1.toInt ≤ (60 : Int)) (fun s : Int32 × Mem => (60 - s.1.toInt).toNat) (fun r : Mem => J r ∧ Gc 0 B_ r) ?_ FU (a0_, N_) ⟨hN, hG, i2_, i3_⟩ (by show (60 - a0_.toInt).toNat < FU; rw [FU_v]; omega)
  clear i3_ i2_ hG hN
  rintro ⟨a0_', N_'⟩ ⟨hN, hG, i2_, i3_⟩
  dsimp only at hN hG i2_ i3_
  unfold lb_Top_lasts_10
  dsimp only
  refine if_i (fun c => ?_) (fun c => ?_)
  · have c1 := c
    have d2 : v1.toInt ≤ a0_'.toInt := lei.mp c1
    exact ⟨_, rfl, hN, hG⟩
  · have c3 := c
    have d4 : a0_'.toInt < v1.toInt := nlei.mp c3
    refine bind_i (sf_Clock_pass 11 32 N_' kd_11 kd_32 hN) (fun x1 _ q => ?_)
    obtain ⟨h5, h6⟩ := q
    have hG7 : Gc 0 B_ x1 := Gc_t hG h6
    have q8 : (a0_' + (1 : Int32)).toInt = a0_'.toInt + (1 : Int) := add_ti rfl rfl (by omega) (by omega)
    exact ⟨_, rfl, ⟨h5, hG7, (show (0 : Int) ≤ (a0_' + (1 : Int32)).toInt by omega), (show (a0_' + (1 : Int32)).toInt ≤ (60 : Int) by omega)⟩, show (60 - (a0_' + (1 : Int32)).toInt).toNat < (60 - a0_'.toInt).toNat by omega⟩
theorem sf_Top_lasts (v1 : Int32) (M : Mem) (hJ : J M) : ∃ r : Int32 × Mem, f_Top_lasts v1 M = some r ∧ (J r.2 ∧ Gc 0 M r.2 ∧ (0 : Int) ≤ r.1.toInt ∧ r.1.toInt ≤ (1 : Int)) := by
  unfold f_Top_lasts
  refine if_i (fun c => ?_) (fun c => ?_)
  · have c1 := c
    have d2 : v1.toInt ≤ (60 : Int) := lei.mp c1
    refine bind_i (sl_Top_lasts_10 v1 (0 : Int32) M M (show v1.toInt ≤ (60 : Int) by omega) hJ Gc_r (show (0 : Int) ≤ (0 : Int32).toInt by decide) (show (0 : Int32).toInt ≤ (60 : Int) by decide)) (fun x3 _ q => ?_)
    obtain ⟨h3, h4⟩ := q
    exact ⟨((1 : Int32), x3), rfl, h3, h4, (show (0 : Int) ≤ (1 : Int32).toInt by decide), (show (1 : Int32).toInt ≤ (1 : Int) by decide)⟩
  · have c5 := c
    have d6 : (60 : Int) < v1.toInt := nlei.mp c5
    exact ⟨((0 : Int32), M), rfl, hJ, Gc_r, (show (0 : Int) ≤ (0 : Int32).toInt by decide), (show (0 : Int32).toInt ≤ (1 : Int) by decide)⟩
theorem sf_Top_does (v1 : Int32) (M : Mem) (hJ : J M) : ∃ r : Int32 × Mem, f_Top_does v1 M = some r ∧ (J r.2 ∧ Gc 0 M r.2 ∧ (0 : Int) ≤ r.1.toInt ∧ r.1.toInt ≤ (1 : Int)) := by
  unfold f_Top_does
  refine if_i (fun c => ?_) (fun c => ?_)
  · have c1 := c
    have d2 : v1.toInt < (0 : Int) := lti.mp c1
    exact ⟨((0 : Int32), M), rfl, hJ, Gc_r, (show (0 : Int) ≤ (0 : Int32).toInt by decide), (show (0 : Int32).toInt ≤ (1 : Int) by decide)⟩
  · have c3 := c
    have d4 : (0 : Int) ≤ v1.toInt := nlti.mp c3
    refine if_i (fun c => ?_) (fun c => ?_)
    · have c5 := c
      have d6 : v1.toInt < (32 : Int) := lti.mp c5
      refine inb_i (by omega) (by omega) ?_
      refine if_i (fun c => ?_) (fun c => ?_)
      · have c7 := c
        have d8 : (M.1 148 v1.toNatClampNeg).toInt = (102 : Int) := eqi.mp c7
        refine bind_i (sf_Top_celebrate ((1 : Int32) - (M.1 11 9)) M hJ) (fun x1 _ q => ?_)
        obtain ⟨h9, h10, h11, h12⟩ := q
        have hG13 : Gc 0 M x1.2 := Gc_t Gc_r h10
        refine c_i (bool_of (by omega) (by omega)) ?_
        exact ⟨(x1.1, x1.2), rfl, h9, hG13, (show (0 : Int) ≤ x1.1.toInt by omega), (show x1.1.toInt ≤ (1 : Int) by omega)⟩
      · have c14 := c
        have d15 : ¬ (M.1 148 v1.toNatClampNeg).toInt = (102 : Int) := neqi.mp c14
        refine if_i (fun c => ?_) (fun c => ?_)
        · have c16 := c
          have d17 : (M.1 148 v1.toNatClampNeg).toInt = (109 : Int) := eqi.mp c16
          refine inb_i (by omega) (by omega) ?_
          refine bind_i (sf_Top_lasts (M.1 149 v1.toNatClampNeg) M hJ) (fun x3 _ q => ?_)
          obtain ⟨h18, h19, h20, h21⟩ := q
          have hG22 : Gc 0 M x3.2 := Gc_t Gc_r h19
          refine c_i (bool_of (by omega) (by omega)) ?_
          exact ⟨(x3.1, x3.2), rfl, h18, hG22, (show (0 : Int) ≤ x3.1.toInt by omega), (show x3.1.toInt ≤ (1 : Int) by omega)⟩
        · have c23 := c
          have d24 : ¬ (M.1 148 v1.toNatClampNeg).toInt = (109 : Int) := neqi.mp c23
          refine if_i (fun c => ?_) (fun c => ?_)
          · have c25 := c
            have d26 : (M.1 148 v1.toNatClampNeg).toInt = (110 : Int) := eqi.mp c25
            refine inb_i (by omega) (by omega) ?_
            refine bind_i (sf_Top_give (M.1 149 v1.toNatClampNeg) M hJ) (fun x5 _ q => ?_)
            obtain ⟨h27, h28, h29, h30⟩ := q
            have hG31 : Gc 0 M x5.2 := Gc_t Gc_r h28
            refine c_i (bool_of (by omega) (by omega)) ?_
            exact ⟨(x5.1, x5.2), rfl, h27, hG31, (show (0 : Int) ≤ x5.1.toInt by omega), (show x5.1.toInt ≤ (1 : Int) by omega)⟩
          · have c32 := c
            have d33 : ¬ (M.1 148 v1.toNatClampNeg).toInt = (110 : Int) := neqi.mp c32
            refine if_i (fun c => ?_) (fun c => ?_)
            · have c34 := c
              have d35 : (M.1 148 v1.toNatClampNeg).toInt = (112 : Int) := eqi.mp c34
              refine inb_i (by omega) (by omega) ?_
              refine inb_i (by omega) (by omega) ?_
              refine bind_i (sf_Top_lay (M.1 149 v1.toNatClampNeg) (M.1 150 v1.toNatClampNeg) M hJ) (fun x7 _ q => ?_)
              obtain ⟨h36, h37⟩ := q
              have hG38 : Gc 0 M x7.2 := Gc_t Gc_r h37
              refine if_i (fun c => ?_) (fun c => ?_)
              · have c39 := c
                have d40 : x7.1.toInt < (0 : Int) := lti.mp c39
                exact ⟨((0 : Int32), x7.2), rfl, h36, hG38, (show (0 : Int) ≤ (0 : Int32).toInt by decide), (show (0 : Int32).toInt ≤ (1 : Int) by decide)⟩
              · have c41 := c
                have d42 : (0 : Int) ≤ x7.1.toInt := nlti.mp c41
                exact ⟨((1 : Int32), x7.2), rfl, h36, hG38, (show (0 : Int) ≤ (1 : Int32).toInt by decide), (show (1 : Int32).toInt ≤ (1 : Int) by decide)⟩
            · have c43 := c
              have d44 : ¬ (M.1 148 v1.toNatClampNeg).toInt = (112 : Int) := neqi.mp c43
              refine if_i (fun c => ?_) (fun c => ?_)
              · have c45 := c
                have d46 : (M.1 148 v1.toNatClampNeg).toInt = (120 : Int) := eqi.mp c45
                refine bind_i (sf_Top_lift M hJ) (fun x10 _ q => ?_)
                obtain ⟨h47, h48, h49, h50⟩ := q
                have hG51 : Gc 0 M x10.2 := Gc_t Gc_r h48
                refine c_i (bool_of (by omega) (by omega)) ?_
                exact ⟨(x10.1, x10.2), rfl, h47, hG51, (show (0 : Int) ≤ x10.1.toInt by omega), (show x10.1.toInt ≤ (1 : Int) by omega)⟩
              · have c52 := c
                have d53 : ¬ (M.1 148 v1.toNatClampNeg).toInt = (120 : Int) := neqi.mp c52
                exact ⟨((0 : Int32), M), rfl, hJ, Gc_r, (show (0 : Int) ≤ (0 : Int32).toInt by decide), (show (0 : Int32).toInt ≤ (1 : Int) by decide)⟩
    · have c54 := c
      have d55 : (32 : Int) ≤ v1.toInt := nlti.mp c54
      exact ⟨((0 : Int32), M), rfl, hJ, Gc_r, (show (0 : Int) ≤ (0 : Int32).toInt by decide), (show (0 : Int32).toInt ≤ (1 : Int) by decide)⟩
theorem sl_Top_evening_48 (v1 : Int32) (a0_ : Int32) (a1_ : Int32) (N_ : Mem) (B_ : Mem) (hp_v1 : (0 : Int) ≤ v1.toInt ∧ v1.toInt ≤ (32 : Int)) (hN : J N_) (hG : Gc 0 B_ N_) (i2_ : (0 : Int) ≤ a0_.toInt) (i3_ : a0_.toInt ≤ (32 : Int)) (i4_ : (0 : Int) ≤ a1_.toInt) (i5_ : a1_.toInt ≤ (32 : Int)) : ∃ x, iter (lb_Top_evening_48 v1) FU (a0_, a1_, N_) = some x ∧ (fun r : Int32 × Mem => J r.2 ∧ Gc 0 B_ r.2 ∧ (0 : Int) ≤ r.1.toInt ∧ r.1.toInt ≤ (32 : Int)) x := by
  refine iter_r (fun s : Int32 × Int32 × Mem => J s.2.2 ∧ Gc 0 B_ s.2.2 ∧ (0 : Int) ≤ s.1.toInt ∧ s.1.toInt ≤ (32 : Int) ∧ (0 : Int) ≤ s.2.1.toInt ∧ s.2.1.toInt ≤ (32 : Int)) (fun s : Int32 × Int32 × Mem => (32 - s.2.1.toInt).toNat) (fun r : Int32 × Mem => J r.2 ∧ Gc 0 B_ r.2 ∧ (0 : Int) ≤ r.1.toInt ∧ r.1.toInt ≤ (32 : Int)) ?_ FU (a0_, a1_, N_) ⟨hN, hG, i2_, i3_, i4_, i5_⟩ (by show (32 - a1_.toInt).toNat < FU; rw [FU_v]; omega)
  clear i5_ i4_ i3_ i2_ hG hN
  rintro ⟨a0_', a1_', N_'⟩ ⟨hN, hG, i2_, i3_, i4_, i5_⟩
  dsimp only at hN hG i2_ i3_ i4_ i5_
  unfold lb_Top_evening_48
  dsimp only
  refine if_i (fun c => ?_) (fun c => ?_)
  · have c1 := c
    have d2 : v1.toInt ≤ a1_'.toInt := lei.mp c1
    exact ⟨_, rfl, hN, hG, (show (0 : Int) ≤ a0_'.toInt by omega), (show a0_'.toInt ≤ (32 : Int) by omega)⟩
  · have c3 := c
    have d4 : a1_'.toInt < v1.toInt := nlei.mp c3
    refine if_i (fun c => ?_) (fun c => ?_)
    · have c5 := c
      have d6 : a0_'.toInt = a1_'.toInt := eqi.mp c5
      refine bind_i (sf_Top_does a1_' N_' hN) (fun x5 _ q => ?_)
      obtain ⟨h7, h8, h9, h10⟩ := q
      have hG11 : Gc 0 B_ x5.2 := Gc_t hG h8
      refine if_i (fun c => ?_) (fun c => ?_)
      · have c12 := c
        have d13 : x5.1.toInt = (0 : Int) := eqi.mp c12
        have q14 : (a1_' + (1 : Int32)).toInt = a1_'.toInt + (1 : Int) := add_ti rfl rfl (by omega) (by omega)
        exact ⟨_, rfl, ⟨h7, hG11, (show (0 : Int) ≤ a0_'.toInt by omega), (show a0_'.toInt ≤ (32 : Int) by omega), (show (0 : Int) ≤ (a1_' + (1 : Int32)).toInt by omega), (show (a1_' + (1 : Int32)).toInt ≤ (32 : Int) by omega)⟩, show (32 - (a1_' + (1 : Int32)).toInt).toNat < (32 - a1_'.toInt).toNat by omega⟩
      · have c15 := c
        have d16 : ¬ x5.1.toInt = (0 : Int) := neqi.mp c15
        have q17 : (a0_' + (1 : Int32)).toInt = a0_'.toInt + (1 : Int) := add_ti rfl rfl (by omega) (by omega)
        have q18 : (a1_' + (1 : Int32)).toInt = a1_'.toInt + (1 : Int) := add_ti rfl rfl (by omega) (by omega)
        exact ⟨_, rfl, ⟨h7, hG11, (show (0 : Int) ≤ (a0_' + (1 : Int32)).toInt by omega), (show (a0_' + (1 : Int32)).toInt ≤ (32 : Int) by omega), (show (0 : Int) ≤ (a1_' + (1 : Int32)).toInt by omega), (show (a1_' + (1 : Int32)).toInt ≤ (32 : Int) by omega)⟩, show (32 - (a1_' + (1 : Int32)).toInt).toNat < (32 - a1_'.toInt).toNat by omega⟩
    · have c19 := c
      have d20 : ¬ a0_'.toInt = a1_'.toInt := neqi.mp c19
      exact ⟨_, rfl, hN, hG, (show (0 : Int) ≤ a0_'.toInt by omega), (show a0_'.toInt ≤ (32 : Int) by omega)⟩
theorem sf_Top_evening (M : Mem) (hJ : J M) : ∃ r : Int32 × Mem, f_Top_evening M = some r ∧ (J r.2 ∧ Gc 1 M r.2 ∧ r.1.toInt ≤ (32 : Int) ∧ (r.2.1 1 1).toInt = 0) := by
  unfold f_Top_evening
  refine bind_i (sf_Acts_read M hJ) (fun x1 _ q => ?_)
  obtain ⟨h1, h2, h3⟩ := q
  have hG4 : Gc 1 M x1.2 := Gc_t Gc_r (Gc_up h2)
  refine mem_i (fun M2 e6 => ?_)
  have hJ7 : J M2 := by rw [e6]; exact Jw_1_1 h1 (0 : Int32) (show (0 : Int) ≤ (0 : Int32).toInt by decide) (show (0 : Int32).toInt ≤ (80 : Int) by decide)
  have hG8 : Gc 1 M M2 := Gc_1 hG4 e6 (by decide)
  have f9 : (M2.1 1 1).toInt = (0 : Int) := by rw [e6, si_eq]; rfl
  clear e6
  refine if_i (fun c => ?_) (fun c => ?_)
  · have c10 := c
    have d11 : (0 : Int) ≤ x1.1.toInt := lei.mp c10
    refine bind_i (sf_Scene_copy 18 11 M2 kd_18 kd_11 hJ7) (fun x3 _ q => ?_)
    obtain ⟨h12, h13, h14⟩ := q
    have f15 : (x3.1 1 1).toInt = (M2.1 1 1).toInt := congrArg Int32.toInt (h13 1 1 (.inr ⟨rfl, rfl, rfl⟩))
    have hG16 : Gc 1 M x3 := Gc_t hG8 (Gc_up h13)
    refine bind_i (sf_Clock_reset x3 h12) (fun x4 _ q => ?_)
    obtain ⟨h17, h18⟩ := q
    have f19 : (x4.1 1 1).toInt = (x3.1 1 1).toInt := congrArg Int32.toInt (h18 1 1 (.inr ⟨rfl, rfl, rfl⟩))
    have hG20 : Gc 1 M x4 := Gc_t hG16 (Gc_up h18)
    refine bind_i (sl_Top_evening_48 x1.1 (0 : Int32) (0 : Int32) x4 x4 (⟨show (0 : Int) ≤ x1.1.toInt by omega, show x1.1.toInt ≤ (32 : Int) by omega⟩) h17 Gc_r (show (0 : Int) ≤ (0 : Int32).toInt by decide) (show (0 : Int32).toInt ≤ (32 : Int) by decide) (show (0 : Int) ≤ (0 : Int32).toInt by decide) (show (0 : Int32).toInt ≤ (32 : Int) by decide)) (fun x9 _ q => ?_)
    obtain ⟨h21, h22, h23, h24⟩ := q
    have f25 : (x9.2.1 1 1).toInt = (x4.1 1 1).toInt := congrArg Int32.toInt (h22 1 1 (.inr ⟨rfl, rfl, rfl⟩))
    have hG26 : Gc 1 M x9.2 := Gc_t hG20 (Gc_up h22)
    unfold j_Top_evening_75
    refine if_i (fun c => ?_) (fun c => ?_)
    · have c27 := c
      have d28 : x9.1.toInt ≤ (0 : Int) := lei.mp c27
      unfold j_Top_evening_90
      refine bind_i (sf_Top_emptyRow x9.2 h21) (fun x10 _ q => ?_)
      obtain ⟨h29, h30⟩ := q
      have f31 : (x10.1 1 1).toInt = (x9.2.1 1 1).toInt := congrArg Int32.toInt (h30 1 1 (.inr ⟨rfl, rfl, rfl⟩))
      have hG32 : Gc 1 M x10 := Gc_t hG26 (Gc_up h30)
      refine if_i (fun c => ?_) (fun c => ?_)
      · have c33 := c
        have d34 : x1.1.toInt ≤ x9.1.toInt := lei.mp c33
        unfold j_Top_evening_105
        refine bind_i (sf_Top_note (0 : Int32) x10 h29) (fun x11 _ q => ?_)
        obtain ⟨h35, h36⟩ := q
        have f37 : (x11.1 1 1).toInt = (x10.1 1 1).toInt := congrArg Int32.toInt (h36 1 1 (.inr ⟨rfl, rfl, rfl⟩))
        have hG38 : Gc 1 M x11 := Gc_t hG32 (Gc_up h36)
        refine bind_i (sf_Top_note (x11.1 45 4) x11 h35) (fun x12 _ q => ?_)
        obtain ⟨h39, h40⟩ := q
        have f41 : (x12.1 1 1).toInt = (x11.1 1 1).toInt := congrArg Int32.toInt (h40 1 1 (.inr ⟨rfl, rfl, rfl⟩))
        have hG42 : Gc 1 M x12 := Gc_t hG38 (Gc_up h40)
        exact ⟨(x9.1, x12), rfl, h39, hG42, (show x9.1.toInt ≤ (32 : Int) by omega), (show (x12.1 1 1).toInt = 0 by omega)⟩
      · have c43 := c
        have d44 : x9.1.toInt < x1.1.toInt := nlei.mp c43
        unfold j_Top_evening_105
        refine bind_i (sf_Top_note (1 : Int32) x10 h29) (fun x11 _ q => ?_)
        obtain ⟨h45, h46⟩ := q
        have f47 : (x11.1 1 1).toInt = (x10.1 1 1).toInt := congrArg Int32.toInt (h46 1 1 (.inr ⟨rfl, rfl, rfl⟩))
        have hG48 : Gc 1 M x11 := Gc_t hG32 (Gc_up h46)
        refine bind_i (sf_Top_note (x11.1 45 4) x11 h45) (fun x12 _ q => ?_)
        obtain ⟨h49, h50⟩ := q
        have f51 : (x12.1 1 1).toInt = (x11.1 1 1).toInt := congrArg Int32.toInt (h50 1 1 (.inr ⟨rfl, rfl, rfl⟩))
        have hG52 : Gc 1 M x12 := Gc_t hG48 (Gc_up h50)
        exact ⟨(x9.1, x12), rfl, h49, hG52, (show x9.1.toInt ≤ (32 : Int) by omega), (show (x12.1 1 1).toInt = 0 by omega)⟩
    · have c53 := c
      have d54 : (0 : Int) < x9.1.toInt := nlei.mp c53
      refine bind_i (sf_History_add 18 x9.2 kd_18 h21) (fun x14 _ q => ?_)
      obtain ⟨h55, h56⟩ := q
      have f57 : (x14.1 1 1).toInt = (x9.2.1 1 1).toInt := congrArg Int32.toInt (h56 1 1 (.inr ⟨rfl, rfl, rfl⟩))
      have hG58 : Gc 1 M x14 := Gc_t hG26 (Gc_up h56)
      unfold j_Top_evening_90
      refine bind_i (sf_Top_emptyRow x14 h55) (fun x10 _ q => ?_)
      obtain ⟨h59, h60⟩ := q
      have f61 : (x10.1 1 1).toInt = (x14.1 1 1).toInt := congrArg Int32.toInt (h60 1 1 (.inr ⟨rfl, rfl, rfl⟩))
      have hG62 : Gc 1 M x10 := Gc_t hG58 (Gc_up h60)
      refine if_i (fun c => ?_) (fun c => ?_)
      · have c63 := c
        have d64 : x1.1.toInt ≤ x9.1.toInt := lei.mp c63
        unfold j_Top_evening_105
        refine bind_i (sf_Top_note (0 : Int32) x10 h59) (fun x11 _ q => ?_)
        obtain ⟨h65, h66⟩ := q
        have f67 : (x11.1 1 1).toInt = (x10.1 1 1).toInt := congrArg Int32.toInt (h66 1 1 (.inr ⟨rfl, rfl, rfl⟩))
        have hG68 : Gc 1 M x11 := Gc_t hG62 (Gc_up h66)
        refine bind_i (sf_Top_note (x11.1 45 4) x11 h65) (fun x12 _ q => ?_)
        obtain ⟨h69, h70⟩ := q
        have f71 : (x12.1 1 1).toInt = (x11.1 1 1).toInt := congrArg Int32.toInt (h70 1 1 (.inr ⟨rfl, rfl, rfl⟩))
        have hG72 : Gc 1 M x12 := Gc_t hG68 (Gc_up h70)
        exact ⟨(x9.1, x12), rfl, h69, hG72, (show x9.1.toInt ≤ (32 : Int) by omega), (show (x12.1 1 1).toInt = 0 by omega)⟩
      · have c73 := c
        have d74 : x9.1.toInt < x1.1.toInt := nlei.mp c73
        unfold j_Top_evening_105
        refine bind_i (sf_Top_note (1 : Int32) x10 h59) (fun x11 _ q => ?_)
        obtain ⟨h75, h76⟩ := q
        have f77 : (x11.1 1 1).toInt = (x10.1 1 1).toInt := congrArg Int32.toInt (h76 1 1 (.inr ⟨rfl, rfl, rfl⟩))
        have hG78 : Gc 1 M x11 := Gc_t hG62 (Gc_up h76)
        refine bind_i (sf_Top_note (x11.1 45 4) x11 h75) (fun x12 _ q => ?_)
        obtain ⟨h79, h80⟩ := q
        have f81 : (x12.1 1 1).toInt = (x11.1 1 1).toInt := congrArg Int32.toInt (h80 1 1 (.inr ⟨rfl, rfl, rfl⟩))
        have hG82 : Gc 1 M x12 := Gc_t hG78 (Gc_up h80)
        exact ⟨(x9.1, x12), rfl, h79, hG82, (show x9.1.toInt ≤ (32 : Int) by omega), (show (x12.1 1 1).toInt = 0 by omega)⟩
  · have c83 := c
    have d84 : x1.1.toInt < (0 : Int) := nlei.mp c83
    exact ⟨(x1.1, M2), rfl, hJ7, hG8, (show x1.1.toInt ≤ (32 : Int) by omega), (show (M2.1 1 1).toInt = 0 by omega)⟩
theorem sf_Top_undo (M : Mem) (hJ : J M) : ∃ r : Int32 × Mem, f_Top_undo M = some r ∧ (J r.2 ∧ Gc 0 M r.2 ∧ (-1 : Int) ≤ r.1.toInt ∧ r.1.toInt ≤ (12 : Int)) := by
  unfold f_Top_undo
  refine bind_i (sf_History_back 11 M kd_11 hJ) (fun x1 _ q => ?_)
  obtain ⟨h1, h2, h3, h4⟩ := q
  have hG5 : Gc 0 M x1.2 := Gc_t Gc_r h2
  refine if_i (fun c => ?_) (fun c => ?_)
  · have c6 := c
    have d7 : x1.1.toInt = (0 : Int) := eqi.mp c6
    exact ⟨((-1 : Int32), x1.2), rfl, h1, hG5, (show (-1 : Int) ≤ (-1 : Int32).toInt by decide), (show (-1 : Int32).toInt ≤ (12 : Int) by decide)⟩
  · have c8 := c
    have d9 : ¬ x1.1.toInt = (0 : Int) := neqi.mp c8
    refine bind_i (sf_Nets_lay 32 11 (-1 : Int32) x1.2 kd_32 kd_11 h1) (fun x2 _ q => ?_)
    obtain ⟨h10, h11⟩ := q
    have hG12 : Gc 0 M x2 := Gc_t hG5 h11
    have r13 := Jr_46_2 h10
    exact ⟨((x2.1 46 2), x2), rfl, h10, hG12, (show (-1 : Int) ≤ (x2.1 46 2).toInt by omega), (show (x2.1 46 2).toInt ≤ (12 : Int) by omega)⟩
theorem sf_Top_areTwo (v1 : Int32) (v2 : Int32) (M : Mem) (hJ : J M) : ∃ r : Int32, f_Top_areTwo v1 v2 M = some r ∧ ((0 : Int) ≤ r.toInt ∧ r.toInt ≤ (1 : Int) ∧ (¬ r.toInt = 0 → (0 : Int) ≤ v1.toInt ∧ v1.toInt ≤ (7 : Int)) ∧ (¬ r.toInt = 0 → (0 : Int) ≤ v2.toInt ∧ v2.toInt ≤ (7 : Int))) := by
  unfold f_Top_areTwo
  refine bind_i (sf_Crowd_has v1 M hJ) (fun x1 _ q => ?_)
  obtain ⟨h1, h2, h3⟩ := q
  refine if_i (fun c => ?_) (fun c => ?_)
  · have c4 := c
    have d5 : x1.toInt = (0 : Int) := eqi.mp c4
    exact ⟨(0 : Int32), rfl, (show (0 : Int) ≤ (0 : Int32).toInt by decide), (show (0 : Int32).toInt ≤ (1 : Int) by decide), (fun hh => by have hh : ¬ (0 : Int32).toInt = 0 := hh; have zz : (0 : Int32).toInt = 0 := rfl; omega), (fun hh => by have hh : ¬ (0 : Int32).toInt = 0 := hh; have zz : (0 : Int32).toInt = 0 := rfl; omega)⟩
  · have c6 := c
    have d7 : ¬ x1.toInt = (0 : Int) := neqi.mp c6
    refine bind_i (sf_Crowd_has v2 M hJ) (fun x2 _ q => ?_)
    obtain ⟨h8, h9, h10⟩ := q
    refine if_i (fun c => ?_) (fun c => ?_)
    · have c11 := c
      have d12 : x2.toInt = (0 : Int) := eqi.mp c11
      exact ⟨(0 : Int32), rfl, (show (0 : Int) ≤ (0 : Int32).toInt by decide), (show (0 : Int32).toInt ≤ (1 : Int) by decide), (fun hh => by have hh : ¬ (0 : Int32).toInt = 0 := hh; have zz : (0 : Int32).toInt = 0 := rfl; omega), (fun hh => by have hh : ¬ (0 : Int32).toInt = 0 := hh; have zz : (0 : Int32).toInt = 0 := rfl; omega)⟩
    · have c13 := c
      have d14 : ¬ x2.toInt = (0 : Int) := neqi.mp c13
      refine if_i (fun c => ?_) (fun c => ?_)
      · have c15 := c
        have d16 : v1.toInt = v2.toInt := eqi.mp c15
        exact ⟨(0 : Int32), rfl, (show (0 : Int) ≤ (0 : Int32).toInt by decide), (show (0 : Int32).toInt ≤ (1 : Int) by decide), (fun hh => by have hh : ¬ (0 : Int32).toInt = 0 := hh; have zz : (0 : Int32).toInt = 0 := rfl; omega), (fun hh => by have hh : ¬ (0 : Int32).toInt = 0 := hh; have zz : (0 : Int32).toInt = 0 := rfl; omega)⟩
      · have c17 := c
        have d18 : ¬ v1.toInt = v2.toInt := neqi.mp c17
        exact ⟨(1 : Int32), rfl, (show (0 : Int) ≤ (1 : Int32).toInt by decide), (show (1 : Int32).toInt ≤ (1 : Int) by decide), (fun hh => by have hh : ¬ (1 : Int32).toInt = 0 := hh; have zz : (1 : Int32).toInt = 1 := rfl; omega), (fun hh => by have hh : ¬ (1 : Int32).toInt = 0 := hh; have zz : (1 : Int32).toInt = 1 := rfl; omega)⟩
theorem sf_Top_met (v1 : Int32) (v2 : Int32) (M : Mem) (hJ : J M) : ∃ r : Int32, f_Top_met v1 v2 M = some r ∧ (True) := by
  unfold f_Top_met
  refine bind_i (sf_Top_areTwo v1 v2 M hJ) (fun x1 _ q => ?_)
  obtain ⟨h1, h2, h3, h4⟩ := q
  refine if_i (fun c => ?_) (fun c => ?_)
  · have c5 := c
    have d6 : x1.toInt = (0 : Int) := eqi.mp c5
    exact ⟨(-1 : Int32), rfl, trivial⟩
  · have c7 := c
    have d8 : ¬ x1.toInt = (0 : Int) := neqi.mp c7
    refine bind_i (sf_Scene_meetingsOfTwo 11 v1 v2 M kd_11 (⟨show (0 : Int) ≤ v1.toInt by omega, show v1.toInt ≤ (7 : Int) by omega⟩) (⟨show (0 : Int) ≤ v2.toInt by omega, show v2.toInt ≤ (7 : Int) by omega⟩) hJ) (fun x2 _ q => ?_)
    exact ⟨x2, rfl, trivial⟩
theorem sl_Top_ahead_32 (v1 : Int32) (a0_ : Int32) (N_ : Mem) (B_ : Mem) (hp_v1 : (0 : Int) ≤ v1.toInt ∧ v1.toInt ≤ (60 : Int)) (hN : J N_) (hG : Gc 0 B_ N_) (i2_ : (0 : Int) ≤ a0_.toInt) (i3_ : a0_.toInt ≤ (60 : Int)) : ∃ x, iter (lb_Top_ahead_32 v1) FU (a0_, N_) = some x ∧ (fun r : Mem => J r ∧ Gc 0 B_ r) x := by
  refine iter_r (fun s : Int32 × Mem => J s.2 ∧ Gc 0 B_ s.2 ∧ (0 : Int) ≤ s.1.toInt ∧ s.1.toInt ≤ (60 : Int)) (fun s : Int32 × Mem => (60 - s.1.toInt).toNat) (fun r : Mem => J r ∧ Gc 0 B_ r) ?_ FU (a0_, N_) ⟨hN, hG, i2_, i3_⟩ (by show (60 - a0_.toInt).toNat < FU; rw [FU_v]; omega)
  clear i3_ i2_ hG hN
  rintro ⟨a0_', N_'⟩ ⟨hN, hG, i2_, i3_⟩
  dsimp only at hN hG i2_ i3_
  unfold lb_Top_ahead_32
  dsimp only
  refine if_i (fun c => ?_) (fun c => ?_)
  · have c1 := c
    have d2 : v1.toInt ≤ a0_'.toInt := lei.mp c1
    exact ⟨_, rfl, hN, hG⟩
  · have c3 := c
    have d4 : a0_'.toInt < v1.toInt := nlei.mp c3
    refine bind_i (sf_Clock_pass 25 32 N_' kd_25 kd_32 hN) (fun x3 _ q => ?_)
    obtain ⟨h5, h6⟩ := q
    have hG7 : Gc 0 B_ x3 := Gc_t hG h6
    have q8 : (a0_' + (1 : Int32)).toInt = a0_'.toInt + (1 : Int) := add_ti rfl rfl (by omega) (by omega)
    exact ⟨_, rfl, ⟨h5, hG7, (show (0 : Int) ≤ (a0_' + (1 : Int32)).toInt by omega), (show (a0_' + (1 : Int32)).toInt ≤ (60 : Int) by omega)⟩, show (60 - (a0_' + (1 : Int32)).toInt).toNat < (60 - a0_'.toInt).toNat by omega⟩
end
section
/-! safety of the class, 17 -/
theorem sl_Top_ahead_76  (a0_ : Int32) (N_ : Mem) (B_ : Mem) (hN : J N_) (hG : Gc 0 B_ N_) (i2_ : (0 : Int) ≤ a0_.toInt) (i3_ : a0_.toInt ≤ (8 : Int)) : ∃ x, iter (lb_Top_ahead_76) FU (a0_, N_) = some x ∧ (fun r : Mem => J r ∧ Gc 0 B_ r) x := by
  refine iter_r (fun s : Int32 × Mem => J s.2 ∧ Gc 0 B_ s.2 ∧ (0 : Int) ≤ s.1.toInt ∧ s.1.toInt ≤ (8 : Int)) (fun s : Int32 × Mem => (8 - s.1.toInt).toNat) (fun r : Mem => J r ∧ Gc 0 B_ r) ?_ FU (a0_, N_) ⟨hN, hG, i2_, i3_⟩ (by show (8 - a0_.toInt).toNat < FU; rw [FU_v]; omega)
  clear i3_ i2_ hG hN
  rintro ⟨a0_', N_'⟩ ⟨hN, hG, i2_, i3_⟩
  dsimp only at hN hG i2_ i3_
  unfold lb_Top_ahead_76
  dsimp only
  refine if_i (fun c => ?_) (fun c => ?_)
  · have c1 := c
    have r2 := Jr_6_4 hN
    have d3 : (N_'.1 6 4).toInt ≤ a0_'.toInt := lei.mp c1
    exact ⟨_, rfl, hN, hG⟩
  · have c4 := c
    have r5 := Jr_6_4 hN
    have d6 : a0_'.toInt < (N_'.1 6 4).toInt := nlei.mp c4
    refine inb_i (by omega) (by omega) ?_
    refine bind_i (sf_Top_note (N_'.1 26 a0_'.toNatClampNeg) N_' hN) (fun x7 _ q => ?_)
    obtain ⟨h7, h8⟩ := q
    have hG9 : Gc 0 B_ x7 := Gc_t hG h8
    have q10 : (a0_' + (1 : Int32)).toInt = a0_'.toInt + (1 : Int) := add_ti rfl rfl (by omega) (by omega)
    exact ⟨_, rfl, ⟨h7, hG9, (show (0 : Int) ≤ (a0_' + (1 : Int32)).toInt by omega), (show (a0_' + (1 : Int32)).toInt ≤ (8 : Int) by omega)⟩, show (8 - (a0_' + (1 : Int32)).toInt).toNat < (8 - a0_'.toInt).toNat by omega⟩
theorem sf_Top_ahead (v1 : Int32) (M : Mem) (hJ : J M) : ∃ r : Int32 × Mem, f_Top_ahead v1 M = some r ∧ (J r.2 ∧ Gc 0 M r.2) := by
  unfold f_Top_ahead
  refine if_i (fun c => ?_) (fun c => ?_)
  · have c1 := c
    have d2 : v1.toInt < (0 : Int) := lti.mp c1
    exact ⟨((-1 : Int32), M), rfl, hJ, Gc_r⟩
  · have c3 := c
    have d4 : (0 : Int) ≤ v1.toInt := nlti.mp c3
    refine if_i (fun c => ?_) (fun c => ?_)
    · have c5 := c
      have d6 : v1.toInt ≤ (60 : Int) := lei.mp c5
      refine bind_i (sf_Scene_copy 25 11 M kd_25 kd_11 hJ) (fun x1 _ q => ?_)
      obtain ⟨h7, h8, h9⟩ := q
      have hG10 : Gc 0 M x1 := Gc_t Gc_r h8
      refine bind_i (sf_Clock_reset x1 h7) (fun x2 _ q => ?_)
      obtain ⟨h11, h12⟩ := q
      have hG13 : Gc 0 M x2 := Gc_t hG10 h12
      refine bind_i (sl_Top_ahead_32 v1 (0 : Int32) x2 M (⟨show (0 : Int) ≤ v1.toInt by omega, show v1.toInt ≤ (60 : Int) by omega⟩) h11 hG13 (show (0 : Int) ≤ (0 : Int32).toInt by decide) (show (0 : Int32).toInt ≤ (60 : Int) by decide)) (fun x5 _ q => ?_)
      obtain ⟨h14, h15⟩ := q
      refine bind_i (sf_Top_emptyRow x5 h14) (fun x6 _ q => ?_)
      obtain ⟨h16, h17⟩ := q
      have hG18 : Gc 0 M x6 := Gc_t h15 h17
      refine bind_i (sl_Top_ahead_76  (0 : Int32) x6 M h16 hG18 (show (0 : Int) ≤ (0 : Int32).toInt by decide) (show (0 : Int32).toInt ≤ (8 : Int) by decide)) (fun x9 _ q => ?_)
      obtain ⟨h19, h20⟩ := q
      exact ⟨((x9.1 45 4), x9), rfl, h19, h20⟩
    · have c21 := c
      have d22 : (60 : Int) < v1.toInt := nlei.mp c21
      exact ⟨((-1 : Int32), M), rfl, hJ, Gc_r⟩
theorem sl_Top_meet_46 (v1 : Int32) (v2 : Int32) (a0_ : Int32) (N_ : Mem) (B_ : Mem) (hp_v1 : (0 : Int) ≤ v1.toInt ∧ v1.toInt ≤ (7 : Int)) (hp_v2 : (0 : Int) ≤ v2.toInt ∧ v2.toInt ≤ (7 : Int)) (hN : J N_) (hG : Gc 0 B_ N_) (i2_ : (1 : Int) ≤ a0_.toInt) (i3_ : a0_.toInt ≤ (61 : Int)) : ∃ x, iter (lb_Top_meet_46 v1 v2) FU (a0_, N_) = some x ∧ (SQ (fun r : Mem => J r ∧ Gc 0 B_ r) (fun r : Int32 × Int32 × Mem => J r.2.2 ∧ Gc 0 B_ r.2.2 ∧ (1 : Int) ≤ r.1.toInt ∧ r.1.toInt ≤ (60 : Int) ∧ (0 : Int) ≤ r.2.1.toInt ∧ r.2.1.toInt ≤ (35 : Int))) x := by
  refine iter_r (fun s : Int32 × Mem => J s.2 ∧ Gc 0 B_ s.2 ∧ (1 : Int) ≤ s.1.toInt ∧ s.1.toInt ≤ (61 : Int)) (fun s : Int32 × Mem => (61 - s.1.toInt).toNat) (SQ (fun r : Mem => J r ∧ Gc 0 B_ r) (fun r : Int32 × Int32 × Mem => J r.2.2 ∧ Gc 0 B_ r.2.2 ∧ (1 : Int) ≤ r.1.toInt ∧ r.1.toInt ≤ (60 : Int) ∧ (0 : Int) ≤ r.2.1.toInt ∧ r.2.1.toInt ≤ (35 : Int))) ?_ FU (a0_, N_) ⟨hN, hG, i2_, i3_⟩ (by show (61 - a0_.toInt).toNat < FU; rw [FU_v]; omega)
  clear i3_ i2_ hG hN
  rintro ⟨a0_', N_'⟩ ⟨hN, hG, i2_, i3_⟩
  dsimp only at hN hG i2_ i3_
  unfold lb_Top_meet_46
  dsimp only
  refine if_i (fun c => ?_) (fun c => ?_)
  · have c1 := c
    have d2 : (60 : Int) < a0_'.toInt := lti.mp c1
    exact ⟨_, rfl, hN, hG⟩
  · have c3 := c
    have d4 : a0_'.toInt ≤ (60 : Int) := nlti.mp c3
    refine bind_i (sf_Clock_pass 25 32 N_' kd_25 kd_32 hN) (fun x5 _ q => ?_)
    obtain ⟨h5, h6⟩ := q
    have hG7 : Gc 0 B_ x5 := Gc_t hG h6
    refine inb_i (by omega) (by omega) ?_
    refine inb_i (by omega) (by omega) ?_
    refine if_i (fun c => ?_) (fun c => ?_)
    · have c8 := c
      have r9 := Jr_26 h5 v1.toNatClampNeg
      have r10 := Jr_26 h5 v2.toNatClampNeg
      have d11 : (x5.1 26 v1.toNatClampNeg).toInt = (x5.1 26 v2.toNatClampNeg).toInt := eqi.mp c8
      refine bind_i (sf_Ground_isStair (x5.1 26 v1.toNatClampNeg) x5 h5) (fun x6 _ q => ?_)
      obtain ⟨h12, h13, h14⟩ := q
      refine if_i (fun c => ?_) (fun c => ?_)
      · have c15 := c
        have d16 : x6.toInt = (0 : Int) := eqi.mp c15
        have q17 : (a0_' + (1 : Int32)).toInt = a0_'.toInt + (1 : Int) := add_ti rfl rfl (by omega) (by omega)
        exact ⟨_, rfl, ⟨h5, hG7, (show (1 : Int) ≤ (a0_' + (1 : Int32)).toInt by omega), (show (a0_' + (1 : Int32)).toInt ≤ (61 : Int) by omega)⟩, show (61 - (a0_' + (1 : Int32)).toInt).toNat < (61 - a0_'.toInt).toNat by omega⟩
      · have c18 := c
        have d19 : ¬ x6.toInt = (0 : Int) := neqi.mp c18
        exact ⟨_, rfl, h5, hG7, (show (1 : Int) ≤ a0_'.toInt by omega), (show a0_'.toInt ≤ (60 : Int) by omega), (show (0 : Int) ≤ (x5.1 26 v1.toNatClampNeg).toInt by omega), (show (x5.1 26 v1.toNatClampNeg).toInt ≤ (35 : Int) by omega)⟩
    · have c20 := c
      have r21 := Jr_26 h5 v1.toNatClampNeg
      have r22 := Jr_26 h5 v2.toNatClampNeg
      have d23 : ¬ (x5.1 26 v1.toNatClampNeg).toInt = (x5.1 26 v2.toNatClampNeg).toInt := neqi.mp c20
      have q24 : (a0_' + (1 : Int32)).toInt = a0_'.toInt + (1 : Int) := add_ti rfl rfl (by omega) (by omega)
      exact ⟨_, rfl, ⟨h5, hG7, (show (1 : Int) ≤ (a0_' + (1 : Int32)).toInt by omega), (show (a0_' + (1 : Int32)).toInt ≤ (61 : Int) by omega)⟩, show (61 - (a0_' + (1 : Int32)).toInt).toNat < (61 - a0_'.toInt).toNat by omega⟩
theorem sf_Top_meet (v1 : Int32) (v2 : Int32) (M : Mem) (hJ : J M) : ∃ r : Int32 × Mem, f_Top_meet v1 v2 M = some r ∧ (J r.2 ∧ Gc 0 M r.2 ∧ (-2 : Int) ≤ r.1.toInt ∧ r.1.toInt ≤ (60 : Int)) := by
  unfold f_Top_meet
  refine bind_i (sf_Top_areTwo v1 v2 M hJ) (fun x1 _ q => ?_)
  obtain ⟨h1, h2, h3, h4⟩ := q
  refine if_i (fun c => ?_) (fun c => ?_)
  · have c5 := c
    have d6 : x1.toInt = (0 : Int) := eqi.mp c5
    exact ⟨((-1 : Int32), M), rfl, hJ, Gc_r, (show (-2 : Int) ≤ (-1 : Int32).toInt by decide), (show (-1 : Int32).toInt ≤ (60 : Int) by decide)⟩
  · have c7 := c
    have d8 : ¬ x1.toInt = (0 : Int) := neqi.mp c7
    refine bind_i (sf_Crowd_woman v1 M hJ) (fun x2 _ q => ?_)
    obtain ⟨h9, h10⟩ := q
    refine bind_i (sf_Crowd_woman v2 M hJ) (fun x3 _ q => ?_)
    obtain ⟨h11, h12⟩ := q
    refine if_i (fun c => ?_) (fun c => ?_)
    · have c13 := c
      have d14 : x2.toInt = x3.toInt := eqi.mp c13
      exact ⟨((-2 : Int32), M), rfl, hJ, Gc_r, (show (-2 : Int) ≤ (-2 : Int32).toInt by decide), (show (-2 : Int32).toInt ≤ (60 : Int) by decide)⟩
    · have c15 := c
      have d16 : ¬ x2.toInt = x3.toInt := neqi.mp c15
      refine bind_i (sf_Scene_copy 25 11 M kd_25 kd_11 hJ) (fun x4 _ q => ?_)
      obtain ⟨h17, h18, h19⟩ := q
      have hG20 : Gc 0 M x4 := Gc_t Gc_r h18
      refine bind_i (sl_Top_meet_46 v1 v2 (1 : Int32) x4 M (⟨show (0 : Int) ≤ v1.toInt by omega, show v1.toInt ≤ (7 : Int) by omega⟩) (⟨show (0 : Int) ≤ v2.toInt by omega, show v2.toInt ≤ (7 : Int) by omega⟩) h17 hG20 (show (1 : Int) ≤ (1 : Int32).toInt by decide) (show (1 : Int32).toInt ≤ (61 : Int) by decide)) (fun x21 _ q => ?_)
      rcases x21 with y | y
      · have q9 : J y ∧ Gc 0 M y := q
        dsimp only [Sum.elim_inl, Sum.elim_inr]
        obtain ⟨h23, h24⟩ := q9
        exact ⟨((-2 : Int32), y), rfl, h23, h24, (show (-2 : Int) ≤ (-2 : Int32).toInt by decide), (show (-2 : Int32).toInt ≤ (60 : Int) by decide)⟩
      · have q9 : J y.2.2 ∧ Gc 0 M y.2.2 ∧ (1 : Int) ≤ y.1.toInt ∧ y.1.toInt ≤ (60 : Int) ∧ (0 : Int) ≤ y.2.1.toInt ∧ y.2.1.toInt ≤ (35 : Int) := q
        dsimp only [Sum.elim_inl, Sum.elim_inr]
        obtain ⟨h26, h27, h28, h29, h30, h31⟩ := q9
        refine bind_i (sf_Top_emptyRow y.2.2 h26) (fun x13 _ q => ?_)
        obtain ⟨h32, h33⟩ := q
        have hG34 : Gc 0 M x13 := Gc_t h27 h33
        refine bind_i (sf_Top_note y.2.1 x13 h32) (fun x14 _ q => ?_)
        obtain ⟨h35, h36⟩ := q
        have hG37 : Gc 0 M x14 := Gc_t hG34 h36
        exact ⟨(y.1, x14), rfl, h35, hG37, (show (-2 : Int) ≤ y.1.toInt by omega), (show y.1.toInt ≤ (60 : Int) by omega)⟩
theorem sl_Top_known_27 (v1 : Int32) (a0_ : Int32) (a1_ : Int32) (N_ : Mem) (B_ : Mem) (hp_v1 : (0 : Int) ≤ v1.toInt ∧ v1.toInt ≤ (255 : Int)) (hN : J N_) (hG : Gc 0 B_ N_) (i2_ : (0 : Int) ≤ a1_.toInt) (i3_ : a1_.toInt ≤ (60 : Int)) : ∃ x, iter (lb_Top_known_27 v1) FU (a0_, a1_, N_) = some x ∧ (fun r : Int32 × Mem => J r.2 ∧ Gc 0 B_ r.2) x := by
  refine iter_r (fun s : Int32 × Int32 × Mem => J s.2.2 ∧ Gc 0 B_ s.2.2 ∧ (0 : Int) ≤ s.2.1.toInt ∧ s.2.1.toInt ≤ (60 : Int)) (fun s : Int32 × Int32 × Mem => (60 - s.2.1.toInt).toNat) (fun r : Int32 × Mem => J r.2 ∧ Gc 0 B_ r.2) ?_ FU (a0_, a1_, N_) ⟨hN, hG, i2_, i3_⟩ (by show (60 - a1_.toInt).toNat < FU; rw [FU_v]; omega)
  clear i3_ i2_ hG hN
  rintro ⟨a0_', a1_', N_'⟩ ⟨hN, hG, i2_, i3_⟩
  dsimp only at hN hG i2_ i3_
  unfold lb_Top_known_27
  dsimp only
  refine if_i (fun c => ?_) (fun c => ?_)
  · have c1 := c
    have d2 : (60 : Int) ≤ a1_'.toInt := lei.mp c1
    exact ⟨_, rfl, hN, hG⟩
  · have c3 := c
    have d4 : a1_'.toInt < (60 : Int) := nlei.mp c3
    refine if_i (fun c => ?_) (fun c => ?_)
    · have c5 := c
      have d6 : (N_'.1 25 8).toInt = v1.toInt := eqi.mp c5
      exact ⟨_, rfl, hN, hG⟩
    · have c7 := c
      have d8 : ¬ (N_'.1 25 8).toInt = v1.toInt := neqi.mp c7
      refine bind_i (sf_Clock_pass 25 32 N_' kd_25 kd_32 hN) (fun x2 _ q => ?_)
      obtain ⟨h9, h10⟩ := q
      have hG11 : Gc 0 B_ x2 := Gc_t hG h10
      have q12 : (a1_' + (1 : Int32)).toInt = a1_'.toInt + (1 : Int) := add_ti rfl rfl (by omega) (by omega)
      exact ⟨_, rfl, ⟨h9, hG11, (show (0 : Int) ≤ (a1_' + (1 : Int32)).toInt by omega), (show (a1_' + (1 : Int32)).toInt ≤ (60 : Int) by omega)⟩, show (60 - (a1_' + (1 : Int32)).toInt).toNat < (60 - a1_'.toInt).toNat by omega⟩
theorem sf_Top_known (M : Mem) (hJ : J M) : ∃ r : Int32 × Mem, f_Top_known M = some r ∧ (J r.2 ∧ Gc 0 M r.2) := by
  unfold f_Top_known
  refine bind_i (sf_Scene_copy 25 11 M kd_25 kd_11 hJ) (fun x1 _ q => ?_)
  obtain ⟨h1, h2, h3⟩ := q
  have hG4 : Gc 0 M x1 := Gc_t Gc_r h2
  have r5 := Jr_6_4 hJ
  have q6 := shl8 (s := (M.1 6 4)) (by omega) (by omega)
  have q7 : (((1 : Int32) <<< ((M.1 6 4) &&& 31)) - (1 : Int32)).toInt = ((1 : Int32) <<< ((M.1 6 4) &&& 31)).toInt - (1 : Int) := sub_ti rfl rfl (by omega) (by omega)
  refine bind_i (sl_Top_known_27 (((1 : Int32) <<< ((M.1 6 4) &&& 31)) - (1 : Int32)) (0 : Int32) (0 : Int32) x1 M (⟨show (0 : Int) ≤ (((1 : Int32) <<< ((M.1 6 4) &&& 31)) - (1 : Int32)).toInt by omega, show (((1 : Int32) <<< ((M.1 6 4) &&& 31)) - (1 : Int32)).toInt ≤ (255 : Int) by omega⟩) h1 hG4 (show (0 : Int) ≤ (0 : Int32).toInt by decide) (show (0 : Int32).toInt ≤ (60 : Int) by decide)) (fun x5 _ q => ?_)
  obtain ⟨h8, h9⟩ := q
  unfold j_Top_known_80
  refine bind_i (sf_Top_emptyRow x5.2 h8) (fun x6 _ q => ?_)
  obtain ⟨h10, h11⟩ := q
  have hG12 : Gc 0 M x6 := Gc_t h9 h11
  refine bind_i (sf_Top_note (x6.1 25 8) x6 h10) (fun x7 _ q => ?_)
  obtain ⟨h13, h14⟩ := q
  have hG15 : Gc 0 M x7 := Gc_t hG12 h14
  refine if_i (fun c => ?_) (fun c => ?_)
  · have c16 := c
    have d17 : (x7.1 25 8).toInt = (((1 : Int32) <<< ((M.1 6 4) &&& 31)) - (1 : Int32)).toInt := eqi.mp c16
    exact ⟨(x5.1, x7), rfl, h13, hG15⟩
  · have c18 := c
    have d19 : ¬ (x7.1 25 8).toInt = (((1 : Int32) <<< ((M.1 6 4) &&& 31)) - (1 : Int32)).toInt := neqi.mp c18
    exact ⟨((-2 : Int32), x7), rfl, h13, hG15⟩
theorem sl_Top_hearers_26 (v1 : Int32) (a0_ : Int32) (N_ : Mem) (B_ : Mem) (hp_v1 : (0 : Int) ≤ v1.toInt ∧ v1.toInt ≤ (60 : Int)) (hN : J N_) (hG : Gc 0 B_ N_) (i2_ : (0 : Int) ≤ a0_.toInt) (i3_ : a0_.toInt ≤ (60 : Int)) : ∃ x, iter (lb_Top_hearers_26 v1) FU (a0_, N_) = some x ∧ (fun r : Mem => J r ∧ Gc 0 B_ r) x := by
  refine iter_r (fun s : Int32 × Mem => J s.2 ∧ Gc 0 B_ s.2 ∧ (0 : Int) ≤ s.1.toInt ∧ s.1.toInt ≤ (60 : Int)) (fun s : Int32 × Mem => (60 - s.1.toInt).toNat) (fun r : Mem => J r ∧ Gc 0 B_ r) ?_ FU (a0_, N_) ⟨hN, hG, i2_, i3_⟩ (by show (60 - a0_.toInt).toNat < FU; rw [FU_v]; omega)
  clear i3_ i2_ hG hN
  rintro ⟨a0_', N_'⟩ ⟨hN, hG, i2_, i3_⟩
  dsimp only at hN hG i2_ i3_
  unfold lb_Top_hearers_26
  dsimp only
  refine if_i (fun c => ?_) (fun c => ?_)
  · have c1 := c
    have d2 : v1.toInt ≤ a0_'.toInt := lei.mp c1
    exact ⟨_, rfl, hN, hG⟩
  · have c3 := c
    have d4 : a0_'.toInt < v1.toInt := nlei.mp c3
    refine bind_i (sf_Clock_pass 25 32 N_' kd_25 kd_32 hN) (fun x3 _ q => ?_)
    obtain ⟨h5, h6⟩ := q
    have hG7 : Gc 0 B_ x3 := Gc_t hG h6
    have q8 : (a0_' + (1 : Int32)).toInt = a0_'.toInt + (1 : Int) := add_ti rfl rfl (by omega) (by omega)
    exact ⟨_, rfl, ⟨h5, hG7, (show (0 : Int) ≤ (a0_' + (1 : Int32)).toInt by omega), (show (a0_' + (1 : Int32)).toInt ≤ (60 : Int) by omega)⟩, show (60 - (a0_' + (1 : Int32)).toInt).toNat < (60 - a0_'.toInt).toNat by omega⟩
theorem sf_Top_hearers (v1 : Int32) (v2 : Int32) (M : Mem) (hp_v1 : (0 : Int) ≤ v1.toInt ∧ v1.toInt ≤ (60 : Int)) (hJ : J M) : ∃ r : Int32 × Mem, f_Top_hearers v1 v2 M = some r ∧ (J r.2 ∧ Gc 0 M r.2 ∧ (0 : Int) ≤ r.1.toInt ∧ r.1.toInt ≤ (63 : Int)) := by
  unfold f_Top_hearers
  refine bind_i (sf_Scene_copy 25 11 M kd_25 kd_11 hJ) (fun x1 _ q => ?_)
  obtain ⟨h1, h2, h3⟩ := q
  have hG4 : Gc 0 M x1 := Gc_t Gc_r h2
  refine mem_i (fun M2 e6 => ?_)
  have hJ7 : J M2 := by rw [e6]; exact Jw_any ok_25 h1 8 ((x1.1 25 8) ||| v2)
  have hG8 : Gc 0 M M2 := Gc_i hG4 e6 (by decide)
  clear e6
  refine bind_i (sl_Top_hearers_26 v1 (0 : Int32) M2 M (⟨show (0 : Int) ≤ v1.toInt by omega, show v1.toInt ≤ (60 : Int) by omega⟩) hJ7 hG8 (show (0 : Int) ≤ (0 : Int32).toInt by decide) (show (0 : Int32).toInt ≤ (60 : Int) by decide)) (fun x5 _ q => ?_)
  obtain ⟨h9, h10⟩ := q
  refine bind_i (sf_JInteger_bitCount (x5.1 25 8)) (fun x6 _ q => ?_)
  obtain ⟨h11, h12⟩ := q
  exact ⟨(x6, x5), rfl, h9, h10, (show (0 : Int) ≤ x6.toInt by omega), (show x6.toInt ≤ (63 : Int) by omega)⟩
theorem sl_Top_gossip_25 (v1 : Int32) (a0_ : Int32) (a1_ : Int32) (a2_ : Int32) (N_ : Mem) (B_ : Mem) (hp_v1 : (0 : Int) ≤ v1.toInt ∧ v1.toInt ≤ (60 : Int)) (hN : J N_) (hG : Gc 0 B_ N_) (i2_ : (-1 : Int) ≤ a0_.toInt) (i3_ : a0_.toInt ≤ (7 : Int)) (i4_ : (0 : Int) ≤ a1_.toInt) (i5_ : a1_.toInt ≤ (63 : Int)) (i6_ : (0 : Int) ≤ a2_.toInt) (i7_ : a2_.toInt ≤ (8 : Int)) : ∃ x, iter (lb_Top_gossip_25 v1) FU (a0_, a1_, a2_, N_) = some x ∧ (fun r : Int32 × Int32 × Mem => J r.2.2 ∧ Gc 0 B_ r.2.2 ∧ (-1 : Int) ≤ r.1.toInt ∧ r.1.toInt ≤ (7 : Int) ∧ (0 : Int) ≤ r.2.1.toInt ∧ r.2.1.toInt ≤ (63 : Int)) x := by
  refine iter_r (fun s : Int32 × Int32 × Int32 × Mem => J s.2.2.2 ∧ Gc 0 B_ s.2.2.2 ∧ (-1 : Int) ≤ s.1.toInt ∧ s.1.toInt ≤ (7 : Int) ∧ (0 : Int) ≤ s.2.1.toInt ∧ s.2.1.toInt ≤ (63 : Int) ∧ (0 : Int) ≤ s.2.2.1.toInt ∧ s.2.2.1.toInt ≤ (8 : Int)) (fun s : Int32 × Int32 × Int32 × Mem => (8 - s.2.2.1.toInt).toNat) (fun r : Int32 × Int32 × Mem => J r.2.2 ∧ Gc 0 B_ r.2.2 ∧ (-1 : Int) ≤ r.1.toInt ∧ r.1.toInt ≤ (7 : Int) ∧ (0 : Int) ≤ r.2.1.toInt ∧ r.2.1.toInt ≤ (63 : Int)) ?_ FU (a0_, a1_, a2_, N_) ⟨hN, hG, i2_, i3_, i4_, i5_, i6_, i7_⟩ (by show (8 - a2_.toInt).toNat < FU; rw [FU_v]; omega)
  clear i7_ i6_ i5_ i4_ i3_ i2_ hG hN
  rintro ⟨a0_', a1_', a2_', N_'⟩ ⟨hN, hG, i2_, i3_, i4_, i5_, i6_, i7_⟩
  dsimp only at hN hG i2_ i3_ i4_ i5_ i6_ i7_
  unfold lb_Top_gossip_25
  dsimp only
  refine if_i (fun c => ?_) (fun c => ?_)
  · have c1 := c
    have r2 := Jr_6_4 hN
    have d3 : (N_'.1 6 4).toInt ≤ a2_'.toInt := lei.mp c1
    exact ⟨_, rfl, hN, hG, (show (-1 : Int) ≤ a0_'.toInt by omega), (show a0_'.toInt ≤ (7 : Int) by omega), (show (0 : Int) ≤ a1_'.toInt by omega), (show a1_'.toInt ≤ (63 : Int) by omega)⟩
  · have c4 := c
    have r5 := Jr_6_4 hN
    have d6 : a2_'.toInt < (N_'.1 6 4).toInt := nlei.mp c4
    refine if_i (fun c => ?_) (fun c => ?_)
    · have c7 := c
      have q8 : (0 : Int) ≤ (((N_'.1 11 8) >>> (a2_' &&& 31)) &&& (1 : Int32)).toInt ∧ (((N_'.1 11 8) >>> (a2_' &&& 31)) &&& (1 : Int32)).toInt ≤ 1 := and_rng (by decide)
      have d9 : (((N_'.1 11 8) >>> (a2_' &&& 31)) &&& (1 : Int32)).toInt = (0 : Int) := eqi.mp c7
      unfold j_Top_gossip_57_25
      refine if_i (fun c => ?_) (fun c => ?_)
      · have c10 := c
        have d11 : (1 : Int) = (0 : Int) := eqi.mp c10
        exfalso; omega
      · have c12 := c
        have d13 : ¬ (1 : Int) = (0 : Int) := neqi.mp c12
        refine bind_i (sf_Top_hearers v1 ((1 : Int32) <<< (a2_' &&& 31)) N_' (⟨show (0 : Int) ≤ v1.toInt by omega, show v1.toInt ≤ (60 : Int) by omega⟩) hN) (fun x3 _ q => ?_)
        obtain ⟨h14, h15, h16, h17⟩ := q
        have hG18 : Gc 0 B_ x3.2 := Gc_t hG h15
        unfold j_Top_gossip_77_25
        refine if_i (fun c => ?_) (fun c => ?_)
        · have c19 := c
          have d20 : x3.1.toInt ≤ a1_'.toInt := lei.mp c19
          have q21 : (a2_' + (1 : Int32)).toInt = a2_'.toInt + (1 : Int) := add_ti rfl rfl (by omega) (by omega)
          exact ⟨_, rfl, ⟨h14, hG18, (show (-1 : Int) ≤ a0_'.toInt by omega), (show a0_'.toInt ≤ (7 : Int) by omega), (show (0 : Int) ≤ a1_'.toInt by omega), (show a1_'.toInt ≤ (63 : Int) by omega), (show (0 : Int) ≤ (a2_' + (1 : Int32)).toInt by omega), (show (a2_' + (1 : Int32)).toInt ≤ (8 : Int) by omega)⟩, show (8 - (a2_' + (1 : Int32)).toInt).toNat < (8 - a2_'.toInt).toNat by omega⟩
        · have c22 := c
          have d23 : a1_'.toInt < x3.1.toInt := nlei.mp c22
          have q24 : (a2_' + (1 : Int32)).toInt = a2_'.toInt + (1 : Int) := add_ti rfl rfl (by omega) (by omega)
          exact ⟨_, rfl, ⟨h14, hG18, (show (-1 : Int) ≤ a2_'.toInt by omega), (show a2_'.toInt ≤ (7 : Int) by omega), (show (0 : Int) ≤ x3.1.toInt by omega), (show x3.1.toInt ≤ (63 : Int) by omega), (show (0 : Int) ≤ (a2_' + (1 : Int32)).toInt by omega), (show (a2_' + (1 : Int32)).toInt ≤ (8 : Int) by omega)⟩, show (8 - (a2_' + (1 : Int32)).toInt).toNat < (8 - a2_'.toInt).toNat by omega⟩
    · have c25 := c
      have q26 : (0 : Int) ≤ (((N_'.1 11 8) >>> (a2_' &&& 31)) &&& (1 : Int32)).toInt ∧ (((N_'.1 11 8) >>> (a2_' &&& 31)) &&& (1 : Int32)).toInt ≤ 1 := and_rng (by decide)
      have d27 : ¬ (((N_'.1 11 8) >>> (a2_' &&& 31)) &&& (1 : Int32)).toInt = (0 : Int) := neqi.mp c25
      unfold j_Top_gossip_57_25
      refine if_i (fun c => ?_) (fun c => ?_)
      · have c28 := c
        have d29 : (0 : Int) = (0 : Int) := eqi.mp c28
        unfold j_Top_gossip_77_25
        refine if_i (fun c => ?_) (fun c => ?_)
        · have c30 := c
          have d31 : (0 : Int) ≤ a1_'.toInt := lei.mp c30
          have q32 : (a2_' + (1 : Int32)).toInt = a2_'.toInt + (1 : Int) := add_ti rfl rfl (by omega) (by omega)
          exact ⟨_, rfl, ⟨hN, hG, (show (-1 : Int) ≤ a0_'.toInt by omega), (show a0_'.toInt ≤ (7 : Int) by omega), (show (0 : Int) ≤ a1_'.toInt by omega), (show a1_'.toInt ≤ (63 : Int) by omega), (show (0 : Int) ≤ (a2_' + (1 : Int32)).toInt by omega), (show (a2_' + (1 : Int32)).toInt ≤ (8 : Int) by omega)⟩, show (8 - (a2_' + (1 : Int32)).toInt).toNat < (8 - a2_'.toInt).toNat by omega⟩
        · have c33 := c
          have d34 : a1_'.toInt < (0 : Int) := nlei.mp c33
          exfalso; omega
      · have c35 := c
        have d36 : ¬ (0 : Int) = (0 : Int) := neqi.mp c35
        exfalso; omega
theorem sf_Top_gossip (v1 : Int32) (M : Mem) (hJ : J M) : ∃ r : Int32 × Mem, f_Top_gossip v1 M = some r ∧ (J r.2 ∧ Gc 0 M r.2 ∧ (-2 : Int) ≤ r.1.toInt ∧ r.1.toInt ≤ (7 : Int)) := by
  unfold f_Top_gossip
  refine if_i (fun c => ?_) (fun c => ?_)
  · have c1 := c
    have d2 : v1.toInt < (0 : Int) := lti.mp c1
    exact ⟨((-2 : Int32), M), rfl, hJ, Gc_r, (show (-2 : Int) ≤ (-2 : Int32).toInt by decide), (show (-2 : Int32).toInt ≤ (7 : Int) by decide)⟩
  · have c3 := c
    have d4 : (0 : Int) ≤ v1.toInt := nlti.mp c3
    refine if_i (fun c => ?_) (fun c => ?_)
    · have c5 := c
      have d6 : v1.toInt ≤ (60 : Int) := lei.mp c5
      refine bind_i (sf_Top_hearers v1 (0 : Int32) M (⟨show (0 : Int) ≤ v1.toInt by omega, show v1.toInt ≤ (60 : Int) by omega⟩) hJ) (fun x1 _ q => ?_)
      obtain ⟨h7, h8, h9, h10⟩ := q
      have hG11 : Gc 0 M x1.2 := Gc_t Gc_r h8
      refine bind_i (sl_Top_gossip_25 v1 (-1 : Int32) x1.1 (0 : Int32) x1.2 M (⟨show (0 : Int) ≤ v1.toInt by omega, show v1.toInt ≤ (60 : Int) by omega⟩) h7 hG11 (show (-1 : Int) ≤ (-1 : Int32).toInt by decide) (show (-1 : Int32).toInt ≤ (7 : Int) by decide) (show (0 : Int) ≤ x1.1.toInt by omega) (show x1.1.toInt ≤ (63 : Int) by omega) (show (0 : Int) ≤ (0 : Int32).toInt by decide) (show (0 : Int32).toInt ≤ (8 : Int) by decide)) (fun x7 _ q => ?_)
      obtain ⟨h12, h13, h14, h15, h16, h17⟩ := q
      refine bind_i (sf_Top_emptyRow x7.2.2 h12) (fun x8 _ q => ?_)
      obtain ⟨h18, h19⟩ := q
      have hG20 : Gc 0 M x8 := Gc_t h13 h19
      refine bind_i (sf_Top_note x7.2.1 x8 h18) (fun x9 _ q => ?_)
      obtain ⟨h21, h22⟩ := q
      have hG23 : Gc 0 M x9 := Gc_t hG20 h22
      exact ⟨(x7.1, x9), rfl, h21, hG23, (show (-2 : Int) ≤ x7.1.toInt by omega), (show x7.1.toInt ≤ (7 : Int) by omega)⟩
    · have c24 := c
      have d25 : (60 : Int) < v1.toInt := nlei.mp c24
      exact ⟨((-2 : Int32), M), rfl, hJ, Gc_r, (show (-2 : Int) ≤ (-2 : Int32).toInt by decide), (show (-2 : Int32).toInt ≤ (7 : Int) by decide)⟩
theorem sl_Top_pieces_33 (v1 : Int32) (M : Mem) (a0_ : Int64) (a1_ : Int32) (a2_ : Int32) (a3_ : Int32) (a4_ : Int32) (hp_v1 : (0 : Int) ≤ v1.toInt ∧ v1.toInt ≤ (1 : Int)) (hJ_M : J M) (i0_ : (0 : Int) ≤ a2_.toInt) (i1_ : a2_.toInt ≤ (127 : Int)) (i2_ : (-1 : Int) ≤ a3_.toInt) (i3_ : a3_.toInt ≤ (35 : Int)) (i4_ : (0 : Int) ≤ a4_.toInt) (i5_ : a4_.toInt ≤ (36 : Int)) : ∃ x, iter (lb_Top_pieces_33 v1 M) FU (a0_, a1_, a2_, a3_, a4_) = some x ∧ (fun r : Int32 × Int32 × Int32 => (0 : Int) ≤ r.2.1.toInt ∧ r.2.1.toInt ≤ (127 : Int) ∧ (-1 : Int) ≤ r.2.2.toInt ∧ r.2.2.toInt ≤ (35 : Int)) x := by
  refine iter_r (fun s : Int64 × Int32 × Int32 × Int32 × Int32 => (0 : Int) ≤ s.2.2.1.toInt ∧ s.2.2.1.toInt ≤ (127 : Int) ∧ (-1 : Int) ≤ s.2.2.2.1.toInt ∧ s.2.2.2.1.toInt ≤ (35 : Int) ∧ (0 : Int) ≤ s.2.2.2.2.toInt ∧ s.2.2.2.2.toInt ≤ (36 : Int)) (fun s : Int64 × Int32 × Int32 × Int32 × Int32 => (36 - s.2.2.2.2.toInt).toNat) (fun r : Int32 × Int32 × Int32 => (0 : Int) ≤ r.2.1.toInt ∧ r.2.1.toInt ≤ (127 : Int) ∧ (-1 : Int) ≤ r.2.2.toInt ∧ r.2.2.toInt ≤ (35 : Int)) ?_ FU (a0_, a1_, a2_, a3_, a4_) ⟨i0_, i1_, i2_, i3_, i4_, i5_⟩ (by show (36 - a4_.toInt).toNat < FU; rw [FU_v]; omega)
  clear i5_ i4_ i3_ i2_ i1_ i0_
  rintro ⟨a0_', a1_', a2_', a3_', a4_'⟩ ⟨i0_, i1_, i2_, i3_, i4_, i5_⟩
  dsimp only at i0_ i1_ i2_ i3_ i4_ i5_
  unfold lb_Top_pieces_33
  dsimp only
  refine if_i (fun c => ?_) (fun c => ?_)
  · have c1 := c
    have d2 : (36 : Int) ≤ a4_'.toInt := lei.mp c1
    exact ⟨_, rfl, (show (0 : Int) ≤ a2_'.toInt by omega), (show a2_'.toInt ≤ (127 : Int) by omega), (show (-1 : Int) ≤ a3_'.toInt by omega), (show a3_'.toInt ≤ (35 : Int) by omega)⟩
  · have c3 := c
    have d4 : a4_'.toInt < (36 : Int) := nlei.mp c3
    refine if_i (fun c => ?_) (fun c => ?_)
    · have c5 := c
      have d6 : (lg_cmp ((a0_' >>> (a4_'.toInt64 &&& 63)) &&& (1 : Int64)) (0 : Int64)).toInt = (0 : Int) := eqi.mp c5
      have q7 : (a4_' + (1 : Int32)).toInt = a4_'.toInt + (1 : Int) := add_ti rfl rfl (by omega) (by omega)
      exact ⟨_, rfl, ⟨(show (0 : Int) ≤ a2_'.toInt by omega), (show a2_'.toInt ≤ (127 : Int) by omega), (show (-1 : Int) ≤ a3_'.toInt by omega), (show a3_'.toInt ≤ (35 : Int) by omega), (show (0 : Int) ≤ (a4_' + (1 : Int32)).toInt by omega), (show (a4_' + (1 : Int32)).toInt ≤ (36 : Int) by omega)⟩, show (36 - (a4_' + (1 : Int32)).toInt).toNat < (36 - a4_'.toInt).toNat by omega⟩
    · have c8 := c
      have d9 : ¬ (lg_cmp ((a0_' >>> (a4_'.toInt64 &&& 63)) &&& (1 : Int64)) (0 : Int64)).toInt = (0 : Int) := neqi.mp c8
      refine bind_i (sf_Nets_flood 32 v1 a4_' (0 : Int64) M kd_32 (⟨show (0 : Int) ≤ v1.toInt by omega, show v1.toInt ≤ (1 : Int) by omega⟩) hJ_M) (fun x1 _ q => ?_)
      refine bind_i (sf_JLong_bitCount x1) (fun x2 _ q => ?_)
      obtain ⟨h10, h11⟩ := q
      refine if_i (fun c => ?_) (fun c => ?_)
      · have c12 := c
        have d13 : x2.toInt ≤ a2_'.toInt := lei.mp c12
        have q14 : (a4_' + (1 : Int32)).toInt = a4_'.toInt + (1 : Int) := add_ti rfl rfl (by omega) (by omega)
        exact ⟨_, rfl, ⟨(show (0 : Int) ≤ a2_'.toInt by omega), (show a2_'.toInt ≤ (127 : Int) by omega), (show (-1 : Int) ≤ a3_'.toInt by omega), (show a3_'.toInt ≤ (35 : Int) by omega), (show (0 : Int) ≤ (a4_' + (1 : Int32)).toInt by omega), (show (a4_' + (1 : Int32)).toInt ≤ (36 : Int) by omega)⟩, show (36 - (a4_' + (1 : Int32)).toInt).toNat < (36 - a4_'.toInt).toNat by omega⟩
      · have c15 := c
        have d16 : a2_'.toInt < x2.toInt := nlei.mp c15
        refine bind_i (sf_JLong_bitCount x1) (fun x3 _ q => ?_)
        obtain ⟨h17, h18⟩ := q
        have q19 : (a4_' + (1 : Int32)).toInt = a4_'.toInt + (1 : Int) := add_ti rfl rfl (by omega) (by omega)
        exact ⟨_, rfl, ⟨(show (0 : Int) ≤ x3.toInt by omega), (show x3.toInt ≤ (127 : Int) by omega), (show (-1 : Int) ≤ a4_'.toInt by omega), (show a4_'.toInt ≤ (35 : Int) by omega), (show (0 : Int) ≤ (a4_' + (1 : Int32)).toInt by omega), (show (a4_' + (1 : Int32)).toInt ≤ (36 : Int) by omega)⟩, show (36 - (a4_' + (1 : Int32)).toInt).toNat < (36 - a4_'.toInt).toNat by omega⟩
theorem sf_Top_pieces (v1 : Int32) (M : Mem) (hJ : J M) : ∃ r : Int32 × Mem, f_Top_pieces v1 M = some r ∧ (J r.2 ∧ Gc 0 M r.2) := by
  unfold f_Top_pieces
  refine if_i (fun c => ?_) (fun c => ?_)
  · have c1 := c
    have d2 : v1.toInt < (0 : Int) := lti.mp c1
    exact ⟨((-1 : Int32), M), rfl, hJ, Gc_r⟩
  · have c3 := c
    have d4 : (0 : Int) ≤ v1.toInt := nlti.mp c3
    refine if_i (fun c => ?_) (fun c => ?_)
    · have c5 := c
      have d6 : v1.toInt ≤ (1 : Int) := lei.mp c5
      refine inb_i (by omega) (by omega) ?_
      refine bind_i (sl_Top_pieces_33 v1 M (M.2.1 33 v1.toNatClampNeg) (0 : Int32) (0 : Int32) (-1 : Int32) (0 : Int32) (⟨show (0 : Int) ≤ v1.toInt by omega, show v1.toInt ≤ (1 : Int) by omega⟩) hJ (show (0 : Int) ≤ (0 : Int32).toInt by decide) (show (0 : Int32).toInt ≤ (127 : Int) by decide) (show (-1 : Int) ≤ (-1 : Int32).toInt by decide) (show (-1 : Int32).toInt ≤ (35 : Int) by decide) (show (0 : Int) ≤ (0 : Int32).toInt by decide) (show (0 : Int32).toInt ≤ (36 : Int) by decide)) (fun x7 _ q => ?_)
      obtain ⟨h7, h8, h9, h10⟩ := q
      refine bind_i (sf_Top_emptyRow M hJ) (fun x8 _ q => ?_)
      obtain ⟨h11, h12⟩ := q
      have hG13 : Gc 0 M x8 := Gc_t Gc_r h12
      refine bind_i (sf_Top_note x7.2.1 x8 h11) (fun x9 _ q => ?_)
      obtain ⟨h14, h15⟩ := q
      have hG16 : Gc 0 M x9 := Gc_t hG13 h15
      refine bind_i (sf_Top_note x7.2.2 x9 h14) (fun x10 _ q => ?_)
      obtain ⟨h17, h18⟩ := q
      have hG19 : Gc 0 M x10 := Gc_t hG16 h18
      exact ⟨(x7.1, x10), rfl, h17, hG19⟩
    · have c20 := c
      have d21 : (1 : Int) < v1.toInt := nlei.mp c20
      exact ⟨((-1 : Int32), M), rfl, hJ, Gc_r⟩
end
section
/-! safety of the class, 18 -/
theorem sf_Top_noteSet (v1 : Int64) (M : Mem) (hJ : J M) : ∃ r : Mem, f_Top_noteSet v1 M = some r ∧ (J r ∧ Gc 0 M r) := by
  unfold f_Top_noteSet
  refine bind_i (sf_Top_note (v1 &&& (262143 : Int64)).toInt32 M hJ) (fun x1 _ q => ?_)
  obtain ⟨h1, h2⟩ := q
  have hG3 : Gc 0 M x1 := Gc_t Gc_r h2
  refine bind_i (sf_Top_note (v1 >>> ((18 : Int32).toInt64 &&& 63)).toInt32 x1 h1) (fun x2 _ q => ?_)
  obtain ⟨h4, h5⟩ := q
  have hG6 : Gc 0 M x2 := Gc_t hG3 h5
  exact ⟨x2, rfl, h4, hG6⟩
theorem sf_Top_reach (v1 : Int32) (v2 : Int32) (M : Mem) (hJ : J M) : ∃ r : Int32 × Mem, f_Top_reach v1 v2 M = some r ∧ (J r.2 ∧ Gc 0 M r.2 ∧ (-2 : Int) ≤ r.1.toInt ∧ r.1.toInt ≤ (127 : Int)) := by
  unfold f_Top_reach
  refine if_i (fun c => ?_) (fun c => ?_)
  · have c1 := c
    have d2 : v1.toInt < (0 : Int) := lti.mp c1
    exact ⟨((-1 : Int32), M), rfl, hJ, Gc_r, (show (-2 : Int) ≤ (-1 : Int32).toInt by decide), (show (-1 : Int32).toInt ≤ (127 : Int) by decide)⟩
  · have c3 := c
    have d4 : (0 : Int) ≤ v1.toInt := nlti.mp c3
    refine if_i (fun c => ?_) (fun c => ?_)
    · have c5 := c
      have d6 : (1 : Int) < v1.toInt := lti.mp c5
      exact ⟨((-1 : Int32), M), rfl, hJ, Gc_r, (show (-2 : Int) ≤ (-1 : Int32).toInt by decide), (show (-1 : Int32).toInt ≤ (127 : Int) by decide)⟩
    · have c7 := c
      have d8 : v1.toInt ≤ (1 : Int) := nlti.mp c7
      refine bind_i (sf_Ground_has v2 M hJ) (fun x1 _ q => ?_)
      obtain ⟨h9, h10, h11⟩ := q
      refine if_i (fun c => ?_) (fun c => ?_)
      · have c12 := c
        have d13 : x1.toInt = (0 : Int) := eqi.mp c12
        exact ⟨((-1 : Int32), M), rfl, hJ, Gc_r, (show (-2 : Int) ≤ (-1 : Int32).toInt by decide), (show (-1 : Int32).toInt ≤ (127 : Int) by decide)⟩
      · have c14 := c
        have d15 : ¬ x1.toInt = (0 : Int) := neqi.mp c14
        refine bind_i (sf_Ground_holds v1 v2 M hJ) (fun x2 _ q => ?_)
        obtain ⟨h16, h17, h18, h19⟩ := q
        refine if_i (fun c => ?_) (fun c => ?_)
        · have c20 := c
          have d21 : x2.toInt = (0 : Int) := eqi.mp c20
          exact ⟨((-2 : Int32), M), rfl, hJ, Gc_r, (show (-2 : Int) ≤ (-2 : Int32).toInt by decide), (show (-2 : Int32).toInt ≤ (127 : Int) by decide)⟩
        · have c22 := c
          have d23 : ¬ x2.toInt = (0 : Int) := neqi.mp c22
          refine bind_i (sf_Nets_flood 32 v1 v2 (0 : Int64) M kd_32 (⟨show (0 : Int) ≤ v1.toInt by omega, show v1.toInt ≤ (1 : Int) by omega⟩) hJ) (fun x3 _ q => ?_)
          refine bind_i (sf_Top_emptyRow M hJ) (fun x4 _ q => ?_)
          obtain ⟨h24, h25⟩ := q
          have hG26 : Gc 0 M x4 := Gc_t Gc_r h25
          refine bind_i (sf_Top_noteSet x3 x4 h24) (fun x5 _ q => ?_)
          obtain ⟨h27, h28⟩ := q
          have hG29 : Gc 0 M x5 := Gc_t hG26 h28
          refine bind_i (sf_JLong_bitCount x3) (fun x6 _ q => ?_)
          obtain ⟨h30, h31⟩ := q
          exact ⟨(x6, x5), rfl, h27, hG29, (show (-2 : Int) ≤ x6.toInt by omega), (show x6.toInt ≤ (127 : Int) by omega)⟩
theorem sl_Top_path_74 (v1 : Int32) (v4 : Int32) (a0_ : Int32) (a1_ : Int32) (N_ : Mem) (B_ : Mem) (hp_v1 : (0 : Int) ≤ v1.toInt ∧ v1.toInt ≤ (1 : Int)) (hp_v4 : v4.toInt ≤ (999999 : Int)) (hN : J N_) (hG : Gc 0 B_ N_) (i2_ : (-1 : Int) ≤ a0_.toInt) (i3_ : a0_.toInt ≤ (35 : Int)) (i4_ : (0 : Int) ≤ a1_.toInt) (i5_ : a1_.toInt ≤ (10 : Int)) : ∃ x, iter (lb_Top_path_74 v1 v4) FU (a0_, a1_, N_) = some x ∧ (fun r : Mem => J r ∧ Gc 0 B_ r) x := by
  refine iter_r (fun s : Int32 × Int32 × Mem => J s.2.2 ∧ Gc 0 B_ s.2.2 ∧ (-1 : Int) ≤ s.1.toInt ∧ s.1.toInt ≤ (35 : Int) ∧ (0 : Int) ≤ s.2.1.toInt ∧ s.2.1.toInt ≤ (10 : Int)) (fun s : Int32 × Int32 × Mem => (10 - s.2.1.toInt).toNat) (fun r : Mem => J r ∧ Gc 0 B_ r) ?_ FU (a0_, a1_, N_) ⟨hN, hG, i2_, i3_, i4_, i5_⟩ (by show (10 - a1_.toInt).toNat < FU; rw [FU_v]; omega)
  clear i5_ i4_ i3_ i2_ hG hN
  rintro ⟨a0_', a1_', N_'⟩ ⟨hN, hG, i2_, i3_, i4_, i5_⟩
  dsimp only at hN hG i2_ i3_ i4_ i5_
  unfold lb_Top_path_74
  dsimp only
  refine if_i (fun c => ?_) (fun c => ?_)
  · have c1 := c
    have d2 : v4.toInt ≤ a1_'.toInt := lei.mp c1
    exact ⟨_, rfl, hN, hG⟩
  · have c3 := c
    have d4 : a1_'.toInt < v4.toInt := nlei.mp c3
    refine if_i (fun c => ?_) (fun c => ?_)
    · have c5 := c
      have d6 : (10 : Int) ≤ a1_'.toInt := lei.mp c5
      exact ⟨_, rfl, hN, hG⟩
    · have c7 := c
      have d8 : a1_'.toInt < (10 : Int) := nlei.mp c7
      refine if_i (fun c => ?_) (fun c => ?_)
      · have c9 := c
        have d10 : a0_'.toInt = (-1 : Int) := eqi.mp c9
        exact ⟨_, rfl, hN, hG⟩
      · have c11 := c
        have d12 : ¬ a0_'.toInt = (-1 : Int) := neqi.mp c11
        refine bind_i (sf_Nets_stepNearer 32 v1 a0_' 155 N_' kd_32 (⟨show (0 : Int) ≤ v1.toInt by omega, show v1.toInt ≤ (1 : Int) by omega⟩) (⟨show (0 : Int) ≤ a0_'.toInt by omega, show a0_'.toInt ≤ (35 : Int) by omega⟩) FA_155 hN) (fun x5 _ q => ?_)
        obtain ⟨h13, h14⟩ := q
        refine bind_i (sf_Top_note x5 N_' hN) (fun x6 _ q => ?_)
        obtain ⟨h15, h16⟩ := q
        have hG17 : Gc 0 B_ x6 := Gc_t hG h16
        refine bind_i (sf_Nets_toward 32 v1 a0_' x5 x6 kd_32 (⟨show (0 : Int) ≤ a0_'.toInt by omega, show a0_'.toInt ≤ (35 : Int) by omega⟩) h15) (fun x7 _ q => ?_)
        obtain ⟨h18, h19⟩ := q
        have q20 : (a1_' + (1 : Int32)).toInt = a1_'.toInt + (1 : Int) := add_ti rfl rfl (by omega) (by omega)
        exact ⟨_, rfl, ⟨h15, hG17, (show (-1 : Int) ≤ x7.toInt by omega), (show x7.toInt ≤ (35 : Int) by omega), (show (0 : Int) ≤ (a1_' + (1 : Int32)).toInt by omega), (show (a1_' + (1 : Int32)).toInt ≤ (10 : Int) by omega)⟩, show (10 - (a1_' + (1 : Int32)).toInt).toNat < (10 - a1_'.toInt).toNat by omega⟩
theorem sf_Top_path (v1 : Int32) (v2 : Int32) (v3 : Int32) (M : Mem) (hJ : J M) : ∃ r : Int32 × Mem, f_Top_path v1 v2 v3 M = some r ∧ (J r.2 ∧ Gc 0 M r.2 ∧ r.1.toInt ≤ (999999 : Int)) := by
  unfold f_Top_path
  refine bind_i (sf_Ground_holds v1 v2 M hJ) (fun x1 _ q => ?_)
  obtain ⟨h1, h2, h3, h4⟩ := q
  refine if_i (fun c => ?_) (fun c => ?_)
  · have c5 := c
    have d6 : x1.toInt = (0 : Int) := eqi.mp c5
    exact ⟨((-1 : Int32), M), rfl, hJ, Gc_r, (show (-1 : Int32).toInt ≤ (999999 : Int) by decide)⟩
  · have c7 := c
    have d8 : ¬ x1.toInt = (0 : Int) := neqi.mp c7
    refine bind_i (sf_Ground_holds v1 v3 M hJ) (fun x2 _ q => ?_)
    obtain ⟨h9, h10, h11, h12⟩ := q
    refine if_i (fun c => ?_) (fun c => ?_)
    · have c13 := c
      have d14 : x2.toInt = (0 : Int) := eqi.mp c13
      exact ⟨((-1 : Int32), M), rfl, hJ, Gc_r, (show (-1 : Int32).toInt ≤ (999999 : Int) by decide)⟩
    · have c15 := c
      have d16 : ¬ x2.toInt = (0 : Int) := neqi.mp c15
      refine bind_i (sf_Nets_measure 32 v1 v3 155 M kd_32 (⟨show (0 : Int) ≤ v1.toInt by omega, show v1.toInt ≤ (1 : Int) by omega⟩) (⟨show (0 : Int) ≤ v3.toInt by omega, show v3.toInt ≤ (35 : Int) by omega⟩) FA_155 hJ) (fun x3 _ q => ?_)
      obtain ⟨h17, h18⟩ := q
      have hG19 : Gc 0 M x3 := Gc_t Gc_r h18
      refine inb_i (by omega) (by omega) ?_
      refine if_i (fun c => ?_) (fun c => ?_)
      · have c20 := c
        have d21 : (x3.1 155 v2.toNatClampNeg).toInt < (1000000 : Int) := lti.mp c20
        refine bind_i (sf_Top_emptyRow x3 h17) (fun x4 _ q => ?_)
        obtain ⟨h22, h23⟩ := q
        have hG24 : Gc 0 M x4 := Gc_t hG19 h23
        refine bind_i (sl_Top_path_74 v1 (x3.1 155 v2.toNatClampNeg) v2 (0 : Int32) x4 M (⟨show (0 : Int) ≤ v1.toInt by omega, show v1.toInt ≤ (1 : Int) by omega⟩) (show (x3.1 155 v2.toNatClampNeg).toInt ≤ (999999 : Int) by omega) h22 hG24 (show (-1 : Int) ≤ v2.toInt by omega) (show v2.toInt ≤ (35 : Int) by omega) (show (0 : Int) ≤ (0 : Int32).toInt by decide) (show (0 : Int32).toInt ≤ (10 : Int) by decide)) (fun x11 _ q => ?_)
        obtain ⟨h25, h26⟩ := q
        exact ⟨((x3.1 155 v2.toNatClampNeg), x11), rfl, h25, h26, (show (x3.1 155 v2.toNatClampNeg).toInt ≤ (999999 : Int) by omega)⟩
      · have c27 := c
        have d28 : (1000000 : Int) ≤ (x3.1 155 v2.toNatClampNeg).toInt := nlti.mp c27
        exact ⟨((-2 : Int32), x3), rfl, h17, hG19, (show (-2 : Int32).toInt ≤ (999999 : Int) by decide)⟩
theorem sf_Top_both (v1 : Int32) (v2 : Int32) (v3 : Int32) (v4 : Int32) (M : Mem) (hJ : J M) : ∃ r : Int32 × Mem, f_Top_both v1 v2 v3 v4 M = some r ∧ (J r.2 ∧ Gc 0 M r.2) := by
  unfold f_Top_both
  refine bind_i (sf_Ground_holds v1 v2 M hJ) (fun x1 _ q => ?_)
  obtain ⟨h1, h2, h3, h4⟩ := q
  refine if_i (fun c => ?_) (fun c => ?_)
  · have c5 := c
    have d6 : x1.toInt = (0 : Int) := eqi.mp c5
    exact ⟨((-1 : Int32), M), rfl, hJ, Gc_r⟩
  · have c7 := c
    have d8 : ¬ x1.toInt = (0 : Int) := neqi.mp c7
    refine bind_i (sf_Ground_holds v3 v4 M hJ) (fun x2 _ q => ?_)
    obtain ⟨h9, h10, h11, h12⟩ := q
    refine if_i (fun c => ?_) (fun c => ?_)
    · have c13 := c
      have d14 : x2.toInt = (0 : Int) := eqi.mp c13
      exact ⟨((-1 : Int32), M), rfl, hJ, Gc_r⟩
    · have c15 := c
      have d16 : ¬ x2.toInt = (0 : Int) := neqi.mp c15
      have q17 : (v1 * (36 : Int32)).toInt = v1.toInt * (36 : Int) := mul_ti rfl rfl (by omega) (by omega)
      have q18 : ((v1 * (36 : Int32)) + v2).toInt = (v1 * (36 : Int32)).toInt + v2.toInt := add_ti rfl rfl (by omega) (by omega)
      have q19 : (v3 * (36 : Int32)).toInt = v3.toInt * (36 : Int) := mul_ti rfl rfl (by omega) (by omega)
      have q20 : ((v3 * (36 : Int32)) + v4).toInt = (v3 * (36 : Int32)).toInt + v4.toInt := add_ti rfl rfl (by omega) (by omega)
      refine bind_i (sf_Ways_acrossLevels 32 ((v1 * (36 : Int32)) + v2) ((v3 * (36 : Int32)) + v4) M kd_32 (⟨show (0 : Int) ≤ ((v1 * (36 : Int32)) + v2).toInt by omega, show ((v1 * (36 : Int32)) + v2).toInt ≤ (71 : Int) by omega⟩) (⟨show (0 : Int) ≤ ((v3 * (36 : Int32)) + v4).toInt by omega, show ((v3 * (36 : Int32)) + v4).toInt ≤ (71 : Int) by omega⟩) hJ) (fun x3 _ q => ?_)
      obtain ⟨h21, h22⟩ := q
      have hG23 : Gc 0 M x3.2 := Gc_t Gc_r h22
      refine if_i (fun c => ?_) (fun c => ?_)
      · have c24 := c
        have d25 : x3.1.toInt < (1000000 : Int) := lti.mp c24
        refine bind_i (sf_Top_emptyRow x3.2 h21) (fun x4 _ q => ?_)
        obtain ⟨h26, h27⟩ := q
        have hG28 : Gc 0 M x4 := Gc_t hG23 h27
        refine bind_i (sf_Top_note (x3.1 - ((x3.1 / (100 : Int32)) * (100 : Int32))) x4 h26) (fun x5 _ q => ?_)
        obtain ⟨h29, h30⟩ := q
        have hG31 : Gc 0 M x5 := Gc_t hG28 h30
        exact ⟨((x3.1 / (100 : Int32)), x5), rfl, h29, hG31⟩
      · have c32 := c
        have d33 : (1000000 : Int) ≤ x3.1.toInt := nlti.mp c32
        exact ⟨((-2 : Int32), x3.2), rfl, h21, hG23⟩
theorem sl_Top_handOver_49 (v1 : Int32) (v2 : Int32) (v5 : Int32) (a0_ : Int32) (a1_ : Int32) (N_ : Mem) (B_ : Mem) (hp_v1 : (0 : Int) ≤ v1.toInt ∧ v1.toInt ≤ (7 : Int)) (hp_v2 : (0 : Int) ≤ v2.toInt ∧ v2.toInt ≤ (7 : Int)) (hN : J N_) (hG : Gc 0 B_ N_) (i2_ : (0 : Int) ≤ a1_.toInt) (i3_ : a1_.toInt ≤ (36 : Int)) : ∃ x, iter (lb_Top_handOver_49 v1 v2 v5) FU (a0_, a1_, N_) = some x ∧ (fun r : Int32 × Mem => J r.2 ∧ Gc 0 B_ r.2) x := by
  refine iter_r (fun s : Int32 × Int32 × Mem => J s.2.2 ∧ Gc 0 B_ s.2.2 ∧ (0 : Int) ≤ s.2.1.toInt ∧ s.2.1.toInt ≤ (36 : Int)) (fun s : Int32 × Int32 × Mem => (36 - s.2.1.toInt).toNat) (fun r : Int32 × Mem => J r.2 ∧ Gc 0 B_ r.2) ?_ FU (a0_, a1_, N_) ⟨hN, hG, i2_, i3_⟩ (by show (36 - a1_.toInt).toNat < FU; rw [FU_v]; omega)
  clear i3_ i2_ hG hN
  rintro ⟨a0_', a1_', N_'⟩ ⟨hN, hG, i2_, i3_⟩
  dsimp only at hN hG i2_ i3_
  unfold lb_Top_handOver_49
  dsimp only
  refine if_i (fun c => ?_) (fun c => ?_)
  · have c1 := c
    have r2 := Jr_3_3 hN
    have d3 : (N_'.1 3 3).toInt ≤ a1_'.toInt := lei.mp c1
    exact ⟨_, rfl, hN, hG⟩
  · have c4 := c
    have r5 := Jr_3_3 hN
    have d6 : a1_'.toInt < (N_'.1 3 3).toInt := nlei.mp c4
    refine bind_i (sf_Ground_isStair a1_' N_' hN) (fun x2 _ q => ?_)
    obtain ⟨h7, h8, h9⟩ := q
    refine if_i (fun c => ?_) (fun c => ?_)
    · have c10 := c
      have d11 : x2.toInt = (0 : Int) := eqi.mp c10
      have q12 : (a1_' + (1 : Int32)).toInt = a1_'.toInt + (1 : Int) := add_ti rfl rfl (by omega) (by omega)
      exact ⟨_, rfl, ⟨hN, hG, (show (0 : Int) ≤ (a1_' + (1 : Int32)).toInt by omega), (show (a1_' + (1 : Int32)).toInt ≤ (36 : Int) by omega)⟩, show (36 - (a1_' + (1 : Int32)).toInt).toNat < (36 - a1_'.toInt).toNat by omega⟩
    · have c13 := c
      have d14 : ¬ x2.toInt = (0 : Int) := neqi.mp c13
      refine inb_i (by omega) (by omega) ?_
      refine inb_i (by omega) (by omega) ?_
      refine inb_i (by omega) (by omega) ?_
      refine if_i (fun c => ?_) (fun c => ?_)
      · have c15 := c
        have d16 : a0_'.toInt ≤ ((if (v5 + (N_'.1 155 a1_'.toNatClampNeg)) < (N_'.1 157 a1_'.toNatClampNeg) then (N_'.1 157 a1_'.toNatClampNeg) else (v5 + (N_'.1 155 a1_'.toNatClampNeg))) + (N_'.1 156 a1_'.toNatClampNeg)).toInt := lei.mp c15
        have q17 : (a1_' + (1 : Int32)).toInt = a1_'.toInt + (1 : Int) := add_ti rfl rfl (by omega) (by omega)
        exact ⟨_, rfl, ⟨hN, hG, (show (0 : Int) ≤ (a1_' + (1 : Int32)).toInt by omega), (show (a1_' + (1 : Int32)).toInt ≤ (36 : Int) by omega)⟩, show (36 - (a1_' + (1 : Int32)).toInt).toNat < (36 - a1_'.toInt).toNat by omega⟩
      · have c18 := c
        have d19 : ((if (v5 + (N_'.1 155 a1_'.toNatClampNeg)) < (N_'.1 157 a1_'.toNatClampNeg) then (N_'.1 157 a1_'.toNatClampNeg) else (v5 + (N_'.1 155 a1_'.toNatClampNeg))) + (N_'.1 156 a1_'.toNatClampNeg)).toInt < a0_'.toInt := nlei.mp c18
        refine bind_i (sf_Top_emptyRow N_' hN) (fun x3 _ q => ?_)
        obtain ⟨h20, h21⟩ := q
        have hG22 : Gc 0 B_ x3 := Gc_t hG h21
        refine bind_i (sf_Top_note v1 x3 h20) (fun x4 _ q => ?_)
        obtain ⟨h23, h24⟩ := q
        have hG25 : Gc 0 B_ x4 := Gc_t hG22 h24
        refine bind_i (sf_Top_note v2 x4 h23) (fun x5 _ q => ?_)
        obtain ⟨h26, h27⟩ := q
        have hG28 : Gc 0 B_ x5 := Gc_t hG25 h27
        refine bind_i (sf_Top_note a1_' x5 h26) (fun x6 _ q => ?_)
        obtain ⟨h29, h30⟩ := q
        have hG31 : Gc 0 B_ x6 := Gc_t hG28 h30
        have q32 : (a1_' + (1 : Int32)).toInt = a1_'.toInt + (1 : Int) := add_ti rfl rfl (by omega) (by omega)
        exact ⟨_, rfl, ⟨h29, hG31, (show (0 : Int) ≤ (a1_' + (1 : Int32)).toInt by omega), (show (a1_' + (1 : Int32)).toInt ≤ (36 : Int) by omega)⟩, show (36 - (a1_' + (1 : Int32)).toInt).toNat < (36 - a1_'.toInt).toNat by omega⟩
theorem sf_Top_handOver (v1 : Int32) (v2 : Int32) (v3 : Int32) (M : Mem) (hp_v1 : (0 : Int) ≤ v1.toInt ∧ v1.toInt ≤ (7 : Int)) (hp_v2 : (0 : Int) ≤ v2.toInt ∧ v2.toInt ≤ (7 : Int)) (hJ : J M) : ∃ r : Int32 × Mem, f_Top_handOver v1 v2 v3 M = some r ∧ (J r.2 ∧ Gc 0 M r.2) := by
  unfold f_Top_handOver
  refine inb_i (by omega) (by omega) ?_
  have r1 := Jr_12 hJ v2.toNatClampNeg
  refine bind_i (sf_Nets_measure 32 (1 : Int32) (M.1 12 v2.toNatClampNeg) 157 M kd_32 (⟨by decide, by decide⟩) (⟨show (0 : Int) ≤ (M.1 12 v2.toNatClampNeg).toInt by omega, show (M.1 12 v2.toNatClampNeg).toInt ≤ (35 : Int) by omega⟩) FA_157 hJ) (fun x1 _ q => ?_)
  obtain ⟨h2, h3⟩ := q
  have hG4 : Gc 0 M x1 := Gc_t Gc_r h3
  refine inb_i (by omega) (by omega) ?_
  have r5 := Jr_12 h2 v1.toNatClampNeg
  refine inb_i (by omega) (by omega) ?_
  refine bind_i (sl_Top_handOver_49 v1 v2 (x1.1 155 (x1.1 12 v1.toNatClampNeg).toNatClampNeg) v3 (0 : Int32) x1 M (⟨show (0 : Int) ≤ v1.toInt by omega, show v1.toInt ≤ (7 : Int) by omega⟩) (⟨show (0 : Int) ≤ v2.toInt by omega, show v2.toInt ≤ (7 : Int) by omega⟩) h2 hG4 (show (0 : Int) ≤ (0 : Int32).toInt by decide) (show (0 : Int32).toInt ≤ (36 : Int) by decide)) (fun x10 _ q => ?_)
  obtain ⟨h6, h7⟩ := q
  exact ⟨(x10.1, x10.2), rfl, h6, h7⟩
theorem sl_Top_errand_80 (v4 : Int32) (a0_ : Int32) (a1_ : Int32) (N_ : Mem) (B_ : Mem) (hp_v4 : (0 : Int) ≤ v4.toInt ∧ v4.toInt ≤ (7 : Int)) (hN : J N_) (hG : Gc 0 B_ N_) (i2_ : (0 : Int) ≤ a1_.toInt) (i3_ : a1_.toInt ≤ (8 : Int)) : ∃ x, iter (lb_Top_errand_80 v4) FU (a0_, a1_, N_) = some x ∧ (fun r : Int32 × Mem => J r.2 ∧ Gc 0 B_ r.2) x := by
  refine iter_r (fun s : Int32 × Int32 × Mem => J s.2.2 ∧ Gc 0 B_ s.2.2 ∧ (0 : Int) ≤ s.2.1.toInt ∧ s.2.1.toInt ≤ (8 : Int)) (fun s : Int32 × Int32 × Mem => (8 - s.2.1.toInt).toNat) (fun r : Int32 × Mem => J r.2 ∧ Gc 0 B_ r.2) ?_ FU (a0_, a1_, N_) ⟨hN, hG, i2_, i3_⟩ (by show (8 - a1_.toInt).toNat < FU; rw [FU_v]; omega)
  clear i3_ i2_ hG hN
  rintro ⟨a0_', a1_', N_'⟩ ⟨hN, hG, i2_, i3_⟩
  dsimp only at hN hG i2_ i3_
  unfold lb_Top_errand_80
  dsimp only
  refine if_i (fun c => ?_) (fun c => ?_)
  · have c1 := c
    have r2 := Jr_6_4 hN
    have d3 : (N_'.1 6 4).toInt ≤ a1_'.toInt := lei.mp c1
    exact ⟨_, rfl, hN, hG⟩
  · have c4 := c
    have r5 := Jr_6_4 hN
    have d6 : a1_'.toInt < (N_'.1 6 4).toInt := nlei.mp c4
    refine bind_i (sf_Crowd_woman v4 N_' hN) (fun x5 _ q => ?_)
    obtain ⟨h7, h8⟩ := q
    refine if_i (fun c => ?_) (fun c => ?_)
    · have c9 := c
      have d10 : x5.toInt = (0 : Int) := eqi.mp c9
      refine bind_i (sf_Crowd_woman a1_' N_' hN) (fun x6 _ q => ?_)
      obtain ⟨h11, h12⟩ := q
      refine if_i (fun c => ?_) (fun c => ?_)
      · have c13 := c
        have d14 : x6.toInt = (0 : Int) := eqi.mp c13
        have q15 : (a1_' + (1 : Int32)).toInt = a1_'.toInt + (1 : Int) := add_ti rfl rfl (by omega) (by omega)
        exact ⟨_, rfl, ⟨hN, hG, (show (0 : Int) ≤ (a1_' + (1 : Int32)).toInt by omega), (show (a1_' + (1 : Int32)).toInt ≤ (8 : Int) by omega)⟩, show (8 - (a1_' + (1 : Int32)).toInt).toNat < (8 - a1_'.toInt).toNat by omega⟩
      · have c16 := c
        have d17 : ¬ x6.toInt = (0 : Int) := neqi.mp c16
        refine inb_i (by omega) (by omega) ?_
        refine if_i (fun c => ?_) (fun c => ?_)
        · have c18 := c
          have r19 := Jr_13 hN a1_'.toNatClampNeg
          have d20 : (N_'.1 13 a1_'.toNatClampNeg).toInt = (1 : Int) := eqi.mp c18
          refine bind_i (sf_Top_handOver v4 a1_' a0_' N_' (⟨show (0 : Int) ≤ v4.toInt by omega, show v4.toInt ≤ (7 : Int) by omega⟩) (⟨show (0 : Int) ≤ a1_'.toInt by omega, show a1_'.toInt ≤ (7 : Int) by omega⟩) hN) (fun x7 _ q => ?_)
          obtain ⟨h21, h22⟩ := q
          have hG23 : Gc 0 B_ x7.2 := Gc_t hG h22
          have q24 : (a1_' + (1 : Int32)).toInt = a1_'.toInt + (1 : Int) := add_ti rfl rfl (by omega) (by omega)
          exact ⟨_, rfl, ⟨h21, hG23, (show (0 : Int) ≤ (a1_' + (1 : Int32)).toInt by omega), (show (a1_' + (1 : Int32)).toInt ≤ (8 : Int) by omega)⟩, show (8 - (a1_' + (1 : Int32)).toInt).toNat < (8 - a1_'.toInt).toNat by omega⟩
        · have c25 := c
          have r26 := Jr_13 hN a1_'.toNatClampNeg
          have d27 : ¬ (N_'.1 13 a1_'.toNatClampNeg).toInt = (1 : Int) := neqi.mp c25
          have q28 : (a1_' + (1 : Int32)).toInt = a1_'.toInt + (1 : Int) := add_ti rfl rfl (by omega) (by omega)
          exact ⟨_, rfl, ⟨hN, hG, (show (0 : Int) ≤ (a1_' + (1 : Int32)).toInt by omega), (show (a1_' + (1 : Int32)).toInt ≤ (8 : Int) by omega)⟩, show (8 - (a1_' + (1 : Int32)).toInt).toNat < (8 - a1_'.toInt).toNat by omega⟩
    · have c29 := c
      have d30 : ¬ x5.toInt = (0 : Int) := neqi.mp c29
      have q31 : (a1_' + (1 : Int32)).toInt = a1_'.toInt + (1 : Int) := add_ti rfl rfl (by omega) (by omega)
      exact ⟨_, rfl, ⟨hN, hG, (show (0 : Int) ≤ (a1_' + (1 : Int32)).toInt by omega), (show (a1_' + (1 : Int32)).toInt ≤ (8 : Int) by omega)⟩, show (8 - (a1_' + (1 : Int32)).toInt).toNat < (8 - a1_'.toInt).toNat by omega⟩
theorem sl_Top_errand_65  (a0_ : Int32) (a1_ : Int32) (N_ : Mem) (B_ : Mem) (hN : J N_) (hG : Gc 0 B_ N_) (i2_ : (0 : Int) ≤ a1_.toInt) (i3_ : a1_.toInt ≤ (8 : Int)) : ∃ x, iter (lb_Top_errand_65) FU (a0_, a1_, N_) = some x ∧ (fun r : Int32 × Mem => J r.2 ∧ Gc 0 B_ r.2) x := by
  refine iter_r (fun s : Int32 × Int32 × Mem => J s.2.2 ∧ Gc 0 B_ s.2.2 ∧ (0 : Int) ≤ s.2.1.toInt ∧ s.2.1.toInt ≤ (8 : Int)) (fun s : Int32 × Int32 × Mem => (8 - s.2.1.toInt).toNat) (fun r : Int32 × Mem => J r.2 ∧ Gc 0 B_ r.2) ?_ FU (a0_, a1_, N_) ⟨hN, hG, i2_, i3_⟩ (by show (8 - a1_.toInt).toNat < FU; rw [FU_v]; omega)
  clear i3_ i2_ hG hN
  rintro ⟨a0_', a1_', N_'⟩ ⟨hN, hG, i2_, i3_⟩
  dsimp only at hN hG i2_ i3_
  unfold lb_Top_errand_65
  dsimp only
  refine if_i (fun c => ?_) (fun c => ?_)
  · have c1 := c
    have r2 := Jr_6_4 hN
    have d3 : (N_'.1 6 4).toInt ≤ a1_'.toInt := lei.mp c1
    exact ⟨_, rfl, hN, hG⟩
  · have c4 := c
    have r5 := Jr_6_4 hN
    have d6 : a1_'.toInt < (N_'.1 6 4).toInt := nlei.mp c4
    refine bind_i (sl_Top_errand_80 a1_' a0_' (0 : Int32) N_' B_ (⟨show (0 : Int) ≤ a1_'.toInt by omega, show a1_'.toInt ≤ (7 : Int) by omega⟩) hN hG (show (0 : Int) ≤ (0 : Int32).toInt by decide) (show (0 : Int32).toInt ≤ (8 : Int) by decide)) (fun x12 _ q => ?_)
    obtain ⟨h7, h8⟩ := q
    have q9 : (a1_' + (1 : Int32)).toInt = a1_'.toInt + (1 : Int) := add_ti rfl rfl (by omega) (by omega)
    exact ⟨_, rfl, ⟨h7, h8, (show (0 : Int) ≤ (a1_' + (1 : Int32)).toInt by omega), (show (a1_' + (1 : Int32)).toInt ≤ (8 : Int) by omega)⟩, show (8 - (a1_' + (1 : Int32)).toInt).toNat < (8 - a1_'.toInt).toNat by omega⟩
theorem sf_Top_errand (v1 : Int32) (v2 : Int32) (M : Mem) (hJ : J M) : ∃ r : Int32 × Mem, f_Top_errand v1 v2 M = some r ∧ (J r.2 ∧ Gc 0 M r.2 ∧ r.1.toInt ≤ (999999 : Int)) := by
  unfold f_Top_errand
  refine bind_i (sf_Ground_holds (0 : Int32) v1 M hJ) (fun x1 _ q => ?_)
  obtain ⟨h1, h2, h3, h4⟩ := q
  clear h3
  refine if_i (fun c => ?_) (fun c => ?_)
  · have c5 := c
    have d6 : x1.toInt = (0 : Int) := eqi.mp c5
    exact ⟨((-1 : Int32), M), rfl, hJ, Gc_r, (show (-1 : Int32).toInt ≤ (999999 : Int) by decide)⟩
  · have c7 := c
    have d8 : ¬ x1.toInt = (0 : Int) := neqi.mp c7
    refine bind_i (sf_Ground_holds (1 : Int32) v2 M hJ) (fun x2 _ q => ?_)
    obtain ⟨h9, h10, h11, h12⟩ := q
    clear h11
    refine if_i (fun c => ?_) (fun c => ?_)
    · have c13 := c
      have d14 : x2.toInt = (0 : Int) := eqi.mp c13
      exact ⟨((-1 : Int32), M), rfl, hJ, Gc_r, (show (-1 : Int32).toInt ≤ (999999 : Int) by decide)⟩
    · have c15 := c
      have d16 : ¬ x2.toInt = (0 : Int) := neqi.mp c15
      refine bind_i (sf_Nets_measure 32 (0 : Int32) v1 155 M kd_32 (⟨by decide, by decide⟩) (⟨show (0 : Int) ≤ v1.toInt by omega, show v1.toInt ≤ (35 : Int) by omega⟩) FA_155 hJ) (fun x3 _ q => ?_)
      obtain ⟨h17, h18⟩ := q
      have hG19 : Gc 0 M x3 := Gc_t Gc_r h18
      refine bind_i (sf_Nets_measure 32 (1 : Int32) v2 156 x3 kd_32 (⟨by decide, by decide⟩) (⟨show (0 : Int) ≤ v2.toInt by omega, show v2.toInt ≤ (35 : Int) by omega⟩) FA_156 h17) (fun x4 _ q => ?_)
      obtain ⟨h20, h21⟩ := q
      have hG22 : Gc 0 M x4 := Gc_t hG19 h21
      refine bind_i (sl_Top_errand_65  (1000000 : Int32) (0 : Int32) x4 M h20 hG22 (show (0 : Int) ≤ (0 : Int32).toInt by decide) (show (0 : Int32).toInt ≤ (8 : Int) by decide)) (fun x14 _ q => ?_)
      obtain ⟨h23, h24⟩ := q
      refine if_i (fun c => ?_) (fun c => ?_)
      · have c25 := c
        have d26 : x14.1.toInt < (1000000 : Int) := lti.mp c25
        exact ⟨(x14.1, x14.2), rfl, h23, h24, (show x14.1.toInt ≤ (999999 : Int) by omega)⟩
      · have c27 := c
        have d28 : (1000000 : Int) ≤ x14.1.toInt := nlti.mp c27
        exact ⟨((-2 : Int32), x14.2), rfl, h23, h24, (show (-2 : Int32).toInt ≤ (999999 : Int) by decide)⟩
theorem sf_Top_areManAndWoman (v1 : Int32) (v2 : Int32) (M : Mem) (hJ : J M) : ∃ r : Int32, f_Top_areManAndWoman v1 v2 M = some r ∧ ((0 : Int) ≤ r.toInt ∧ r.toInt ≤ (1 : Int) ∧ (¬ r.toInt = 0 → (0 : Int) ≤ v1.toInt ∧ v1.toInt ≤ (7 : Int)) ∧ (¬ r.toInt = 0 → (0 : Int) ≤ v2.toInt ∧ v2.toInt ≤ (7 : Int))) := by
  unfold f_Top_areManAndWoman
  refine bind_i (sf_Crowd_has v1 M hJ) (fun x1 _ q => ?_)
  obtain ⟨h1, h2, h3⟩ := q
  refine if_i (fun c => ?_) (fun c => ?_)
  · have c4 := c
    have d5 : x1.toInt = (0 : Int) := eqi.mp c4
    exact ⟨(0 : Int32), rfl, (show (0 : Int) ≤ (0 : Int32).toInt by decide), (show (0 : Int32).toInt ≤ (1 : Int) by decide), (fun hh => by have hh : ¬ (0 : Int32).toInt = 0 := hh; have zz : (0 : Int32).toInt = 0 := rfl; omega), (fun hh => by have hh : ¬ (0 : Int32).toInt = 0 := hh; have zz : (0 : Int32).toInt = 0 := rfl; omega)⟩
  · have c6 := c
    have d7 : ¬ x1.toInt = (0 : Int) := neqi.mp c6
    refine bind_i (sf_Crowd_has v2 M hJ) (fun x2 _ q => ?_)
    obtain ⟨h8, h9, h10⟩ := q
    refine if_i (fun c => ?_) (fun c => ?_)
    · have c11 := c
      have d12 : x2.toInt = (0 : Int) := eqi.mp c11
      exact ⟨(0 : Int32), rfl, (show (0 : Int) ≤ (0 : Int32).toInt by decide), (show (0 : Int32).toInt ≤ (1 : Int) by decide), (fun hh => by have hh : ¬ (0 : Int32).toInt = 0 := hh; have zz : (0 : Int32).toInt = 0 := rfl; omega), (fun hh => by have hh : ¬ (0 : Int32).toInt = 0 := hh; have zz : (0 : Int32).toInt = 0 := rfl; omega)⟩
    · have c13 := c
      have d14 : ¬ x2.toInt = (0 : Int) := neqi.mp c13
      refine bind_i (sf_Crowd_woman v1 M hJ) (fun x3 _ q => ?_)
      obtain ⟨h15, h16⟩ := q
      refine if_i (fun c => ?_) (fun c => ?_)
      · have c17 := c
        have d18 : x3.toInt = (0 : Int) := eqi.mp c17
        refine bind_i (sf_Crowd_woman v2 M hJ) (fun x4 _ q => ?_)
        obtain ⟨h19, h20⟩ := q
        refine if_i (fun c => ?_) (fun c => ?_)
        · have c21 := c
          have d22 : x4.toInt = (0 : Int) := eqi.mp c21
          exact ⟨(0 : Int32), rfl, (show (0 : Int) ≤ (0 : Int32).toInt by decide), (show (0 : Int32).toInt ≤ (1 : Int) by decide), (fun hh => by have hh : ¬ (0 : Int32).toInt = 0 := hh; have zz : (0 : Int32).toInt = 0 := rfl; omega), (fun hh => by have hh : ¬ (0 : Int32).toInt = 0 := hh; have zz : (0 : Int32).toInt = 0 := rfl; omega)⟩
        · have c23 := c
          have d24 : ¬ x4.toInt = (0 : Int) := neqi.mp c23
          exact ⟨(1 : Int32), rfl, (show (0 : Int) ≤ (1 : Int32).toInt by decide), (show (1 : Int32).toInt ≤ (1 : Int) by decide), (fun hh => by have hh : ¬ (1 : Int32).toInt = 0 := hh; have zz : (1 : Int32).toInt = 1 := rfl; omega), (fun hh => by have hh : ¬ (1 : Int32).toInt = 0 := hh; have zz : (1 : Int32).toInt = 1 := rfl; omega)⟩
      · have c25 := c
        have d26 : ¬ x3.toInt = (0 : Int) := neqi.mp c25
        exact ⟨(0 : Int32), rfl, (show (0 : Int) ≤ (0 : Int32).toInt by decide), (show (0 : Int32).toInt ≤ (1 : Int) by decide), (fun hh => by have hh : ¬ (0 : Int32).toInt = 0 := hh; have zz : (0 : Int32).toInt = 0 := rfl; omega), (fun hh => by have hh : ¬ (0 : Int32).toInt = 0 := hh; have zz : (0 : Int32).toInt = 0 := rfl; omega)⟩
end
section
/-! safety of the class, 19 -/
theorem sl_Top_soonestStair_69 (v1 : Nat) (M : Mem) (a0_ : Int32) (a1_ : Int32) (a2_ : Int32) (hk_v1 : kd v1 = 10 + 6) (hJ_M : J M) (i0_ : (-1 : Int) ≤ a0_.toInt) (i1_ : a0_.toInt ≤ (35 : Int)) (i2_ : (0 : Int) ≤ a2_.toInt) (i3_ : a2_.toInt ≤ (36 : Int)) : ∃ x, iter (lb_Top_soonestStair_69 v1 M) FU (a0_, a1_, a2_) = some x ∧ (fun r : Int32 => (-1 : Int) ≤ r.toInt ∧ r.toInt ≤ (35 : Int)) x := by
  refine iter_r (fun s : Int32 × Int32 × Int32 => (-1 : Int) ≤ s.1.toInt ∧ s.1.toInt ≤ (35 : Int) ∧ (0 : Int) ≤ s.2.2.toInt ∧ s.2.2.toInt ≤ (36 : Int)) (fun s : Int32 × Int32 × Int32 => (36 - s.2.2.toInt).toNat) (fun r : Int32 => (-1 : Int) ≤ r.toInt ∧ r.toInt ≤ (35 : Int)) ?_ FU (a0_, a1_, a2_) ⟨i0_, i1_, i2_, i3_⟩ (by show (36 - a2_.toInt).toNat < FU; rw [FU_v]; omega)
  clear i3_ i2_ i1_ i0_
  rintro ⟨a0_', a1_', a2_'⟩ ⟨i0_, i1_, i2_, i3_⟩
  dsimp only at i0_ i1_ i2_ i3_
  unfold lb_Top_soonestStair_69
  dsimp only
  refine if_i (fun c => ?_) (fun c => ?_)
  · have c1 := c
    have d2 : (36 : Int) ≤ a2_'.toInt := lei.mp c1
    exact ⟨_, rfl, (show (-1 : Int) ≤ a0_'.toInt by omega), (show a0_'.toInt ≤ (35 : Int) by omega)⟩
  · have c3 := c
    have d4 : a2_'.toInt < (36 : Int) := nlei.mp c3
    refine bind_i (sf_Nets_stairs v1 M hk_v1 hJ_M) (fun x3 _ q => ?_)
    refine if_i (fun c => ?_) (fun c => ?_)
    · have c5 := c
      have d6 : (lg_cmp ((x3 >>> (a2_'.toInt64 &&& 63)) &&& (1 : Int64)) (0 : Int64)).toInt = (0 : Int) := eqi.mp c5
      have q7 : (a2_' + (1 : Int32)).toInt = a2_'.toInt + (1 : Int) := add_ti rfl rfl (by omega) (by omega)
      exact ⟨_, rfl, ⟨(show (-1 : Int) ≤ a0_'.toInt by omega), (show a0_'.toInt ≤ (35 : Int) by omega), (show (0 : Int) ≤ (a2_' + (1 : Int32)).toInt by omega), (show (a2_' + (1 : Int32)).toInt ≤ (36 : Int) by omega)⟩, show (36 - (a2_' + (1 : Int32)).toInt).toNat < (36 - a2_'.toInt).toNat by omega⟩
    · have c8 := c
      have d9 : ¬ (lg_cmp ((x3 >>> (a2_'.toInt64 &&& 63)) &&& (1 : Int64)) (0 : Int64)).toInt = (0 : Int) := neqi.mp c8
      refine bind_i (sf_Ways_later a2_' M (⟨show (0 : Int) ≤ a2_'.toInt by omega, show a2_'.toInt ≤ (35 : Int) by omega⟩) hJ_M) (fun x4 _ q => ?_)
      refine if_i (fun c => ?_) (fun c => ?_)
      · have c10 := c
        have d11 : a1_'.toInt ≤ x4.toInt := lei.mp c10
        have q12 : (a2_' + (1 : Int32)).toInt = a2_'.toInt + (1 : Int) := add_ti rfl rfl (by omega) (by omega)
        exact ⟨_, rfl, ⟨(show (-1 : Int) ≤ a0_'.toInt by omega), (show a0_'.toInt ≤ (35 : Int) by omega), (show (0 : Int) ≤ (a2_' + (1 : Int32)).toInt by omega), (show (a2_' + (1 : Int32)).toInt ≤ (36 : Int) by omega)⟩, show (36 - (a2_' + (1 : Int32)).toInt).toNat < (36 - a2_'.toInt).toNat by omega⟩
      · have c13 := c
        have d14 : x4.toInt < a1_'.toInt := nlei.mp c13
        refine bind_i (sf_Ways_later a2_' M (⟨show (0 : Int) ≤ a2_'.toInt by omega, show a2_'.toInt ≤ (35 : Int) by omega⟩) hJ_M) (fun x5 _ q => ?_)
        have q15 : (a2_' + (1 : Int32)).toInt = a2_'.toInt + (1 : Int) := add_ti rfl rfl (by omega) (by omega)
        exact ⟨_, rfl, ⟨(show (-1 : Int) ≤ a2_'.toInt by omega), (show a2_'.toInt ≤ (35 : Int) by omega), (show (0 : Int) ≤ (a2_' + (1 : Int32)).toInt by omega), (show (a2_' + (1 : Int32)).toInt ≤ (36 : Int) by omega)⟩, show (36 - (a2_' + (1 : Int32)).toInt).toNat < (36 - a2_'.toInt).toNat by omega⟩
theorem sf_Top_soonestStair (v1 : Nat) (v2 : Int32) (v3 : Int32) (M : Mem) (hk_v1 : kd v1 = 10 + 6) (hp_v2 : (0 : Int) ≤ v2.toInt ∧ v2.toInt ≤ (7 : Int)) (hp_v3 : (0 : Int) ≤ v3.toInt ∧ v3.toInt ≤ (7 : Int)) (hJ : J M) : ∃ r : Int32 × Mem, f_Top_soonestStair v1 v2 v3 M = some r ∧ (J r.2 ∧ Gc 0 M r.2 ∧ (-1 : Int) ≤ r.1.toInt ∧ r.1.toInt ≤ (35 : Int)) := by
  unfold f_Top_soonestStair
  refine c_i hk_v1 ?_
  refine inb_i (by omega) (by omega) ?_
  refine inb_i (by omega) (by omega) ?_
  have r1 := Jr_13 hJ v2.toNatClampNeg
  have r2 := Jr_12 hJ v2.toNatClampNeg
  refine bind_i (sf_Nets_measure v1 (M.1 13 v2.toNatClampNeg) (M.1 12 v2.toNatClampNeg) 155 M hk_v1 (⟨show (0 : Int) ≤ (M.1 13 v2.toNatClampNeg).toInt by omega, show (M.1 13 v2.toNatClampNeg).toInt ≤ (1 : Int) by omega⟩) (⟨show (0 : Int) ≤ (M.1 12 v2.toNatClampNeg).toInt by omega, show (M.1 12 v2.toNatClampNeg).toInt ≤ (35 : Int) by omega⟩) FA_155 hJ) (fun x1 _ q => ?_)
  obtain ⟨h3, h4⟩ := q
  have hG5 : Gc 0 M x1 := Gc_t Gc_r h4
  refine inb_i (by omega) (by omega) ?_
  refine inb_i (by omega) (by omega) ?_
  have r6 := Jr_13 h3 v3.toNatClampNeg
  have r7 := Jr_12 h3 v3.toNatClampNeg
  refine bind_i (sf_Nets_measure v1 (x1.1 13 v3.toNatClampNeg) (x1.1 12 v3.toNatClampNeg) 156 x1 hk_v1 (⟨show (0 : Int) ≤ (x1.1 13 v3.toNatClampNeg).toInt by omega, show (x1.1 13 v3.toNatClampNeg).toInt ≤ (1 : Int) by omega⟩) (⟨show (0 : Int) ≤ (x1.1 12 v3.toNatClampNeg).toInt by omega, show (x1.1 12 v3.toNatClampNeg).toInt ≤ (35 : Int) by omega⟩) FA_156 h3) (fun x2 _ q => ?_)
  obtain ⟨h8, h9⟩ := q
  have hG10 : Gc 0 M x2 := Gc_t hG5 h9
  refine bind_i (sl_Top_soonestStair_69 v1 x2 (-1 : Int32) (1000000 : Int32) (0 : Int32) hk_v1 h8 (show (-1 : Int) ≤ (-1 : Int32).toInt by decide) (show (-1 : Int32).toInt ≤ (35 : Int) by decide) (show (0 : Int) ≤ (0 : Int32).toInt by decide) (show (0 : Int32).toInt ≤ (36 : Int) by decide)) (fun x9 _ q => ?_)
  obtain ⟨h11, h12⟩ := q
  exact ⟨(x9, x2), rfl, h8, hG10, (show (-1 : Int) ≤ x9.toInt by omega), (show x9.toInt ≤ (35 : Int) by omega)⟩
theorem sf_Top_tryst (v1 : Int32) (v2 : Int32) (M : Mem) (hJ : J M) : ∃ r : Int32 × Mem, f_Top_tryst v1 v2 M = some r ∧ (J r.2 ∧ Gc 0 M r.2 ∧ (-2 : Int) ≤ r.1.toInt ∧ r.1.toInt ≤ (35 : Int)) := by
  unfold f_Top_tryst
  refine bind_i (sf_Top_areManAndWoman v1 v2 M hJ) (fun x1 _ q => ?_)
  obtain ⟨h1, h2, h3, h4⟩ := q
  refine if_i (fun c => ?_) (fun c => ?_)
  · have c5 := c
    have d6 : x1.toInt = (0 : Int) := eqi.mp c5
    exact ⟨((-1 : Int32), M), rfl, hJ, Gc_r, (show (-2 : Int) ≤ (-1 : Int32).toInt by decide), (show (-1 : Int32).toInt ≤ (35 : Int) by decide)⟩
  · have c7 := c
    have d8 : ¬ x1.toInt = (0 : Int) := neqi.mp c7
    refine bind_i (sf_Top_soonestStair 32 v1 v2 M kd_32 (⟨show (0 : Int) ≤ v1.toInt by omega, show v1.toInt ≤ (7 : Int) by omega⟩) (⟨show (0 : Int) ≤ v2.toInt by omega, show v2.toInt ≤ (7 : Int) by omega⟩) hJ) (fun x2 _ q => ?_)
    obtain ⟨h9, h10, h11, h12⟩ := q
    have hG13 : Gc 0 M x2.2 := Gc_t Gc_r h10
    refine if_i (fun c => ?_) (fun c => ?_)
    · have c14 := c
      have d15 : x2.1.toInt = (-1 : Int) := eqi.mp c14
      exact ⟨((-2 : Int32), x2.2), rfl, h9, hG13, (show (-2 : Int) ≤ (-2 : Int32).toInt by decide), (show (-2 : Int32).toInt ≤ (35 : Int) by decide)⟩
    · have c16 := c
      have d17 : ¬ x2.1.toInt = (-1 : Int) := neqi.mp c16
      refine bind_i (sf_Top_emptyRow x2.2 h9) (fun x3 _ q => ?_)
      obtain ⟨h18, h19⟩ := q
      have hG20 : Gc 0 M x3 := Gc_t hG13 h19
      refine bind_i (sf_Ways_later x2.1 x3 (⟨show (0 : Int) ≤ x2.1.toInt by omega, show x2.1.toInt ≤ (35 : Int) by omega⟩) h18) (fun x4 _ q => ?_)
      refine bind_i (sf_Top_note x4 x3 h18) (fun x5 _ q => ?_)
      obtain ⟨h21, h22⟩ := q
      have hG23 : Gc 0 M x5 := Gc_t hG20 h22
      exact ⟨(x2.1, x5), rfl, h21, hG23, (show (-2 : Int) ≤ x2.1.toInt by omega), (show x2.1.toInt ≤ (35 : Int) by omega)⟩
theorem sf_Top_canOpen (v1 : Int32) (M : Mem) (hp_v1 : (0 : Int) ≤ v1.toInt ∧ v1.toInt ≤ (35 : Int)) (hJ : J M) : ∃ r : Int32, f_Top_canOpen v1 M = some r ∧ ((0 : Int) ≤ r.toInt ∧ r.toInt ≤ (1 : Int)) := by
  unfold f_Top_canOpen
  refine inb_i (by omega) (by omega) ?_
  refine if_i (fun c => ?_) (fun c => ?_)
  · have c1 := c
    have d2 : (M.1 4 v1.toNatClampNeg).toInt = (0 : Int) := eqi.mp c1
    exact ⟨(0 : Int32), rfl, (show (0 : Int) ≤ (0 : Int32).toInt by decide), (show (0 : Int32).toInt ≤ (1 : Int) by decide)⟩
  · have c3 := c
    have d4 : ¬ (M.1 4 v1.toNatClampNeg).toInt = (0 : Int) := neqi.mp c3
    refine if_i (fun c => ?_) (fun c => ?_)
    · have c5 := c
      have d6 : (M.1 4 v1.toNatClampNeg).toInt = (3 : Int) := eqi.mp c5
      exact ⟨(0 : Int32), rfl, (show (0 : Int) ≤ (0 : Int32).toInt by decide), (show (0 : Int32).toInt ≤ (1 : Int) by decide)⟩
    · have c7 := c
      have d8 : ¬ (M.1 4 v1.toNatClampNeg).toInt = (3 : Int) := neqi.mp c7
      refine bind_i (sf_Scene_isUnderPlank 11 v1 M kd_11 hJ) (fun x1 _ q => ?_)
      obtain ⟨h9, h10⟩ := q
      refine if_i (fun c => ?_) (fun c => ?_)
      · have c11 := c
        have d12 : x1.toInt = (0 : Int) := eqi.mp c11
        exact ⟨(1 : Int32), rfl, (show (0 : Int) ≤ (1 : Int32).toInt by decide), (show (1 : Int32).toInt ≤ (1 : Int) by decide)⟩
      · have c13 := c
        have d14 : ¬ x1.toInt = (0 : Int) := neqi.mp c13
        exact ⟨(0 : Int32), rfl, (show (0 : Int) ≤ (0 : Int32).toInt by decide), (show (0 : Int32).toInt ≤ (1 : Int) by decide)⟩
theorem sf_Top_trystWith (v1 : Int32) (v2 : Int32) (v3 : Int32) (M : Mem) (hp_v2 : (0 : Int) ≤ v2.toInt ∧ v2.toInt ≤ (7 : Int)) (hp_v3 : (0 : Int) ≤ v3.toInt ∧ v3.toInt ≤ (7 : Int)) (hJ : J M) : ∃ r : Int32 × Mem, f_Top_trystWith v1 v2 v3 M = some r ∧ (J r.2 ∧ Gc 0 M r.2) := by
  unfold f_Top_trystWith
  refine bind_i (sf_Nets_lay 36 11 v1 M kd_36 kd_11 hJ) (fun x1 _ q => ?_)
  obtain ⟨h1, h2⟩ := q
  have hG3 : Gc 0 M x1 := Gc_t Gc_r h2
  refine bind_i (sf_Top_soonestStair 36 v2 v3 x1 kd_36 (⟨show (0 : Int) ≤ v2.toInt by omega, show v2.toInt ≤ (7 : Int) by omega⟩) (⟨show (0 : Int) ≤ v3.toInt by omega, show v3.toInt ≤ (7 : Int) by omega⟩) h1) (fun x2 _ q => ?_)
  obtain ⟨h4, h5, h6, h7⟩ := q
  have hG8 : Gc 0 M x2.2 := Gc_t hG3 h5
  refine if_i (fun c => ?_) (fun c => ?_)
  · have c9 := c
    have d10 : x2.1.toInt = (-1 : Int) := eqi.mp c9
    exact ⟨((1000000 : Int32), x2.2), rfl, h4, hG8⟩
  · have c11 := c
    have d12 : ¬ x2.1.toInt = (-1 : Int) := neqi.mp c11
    refine bind_i (sf_Ways_later x2.1 x2.2 (⟨show (0 : Int) ≤ x2.1.toInt by omega, show x2.1.toInt ≤ (35 : Int) by omega⟩) h4) (fun x3 _ q => ?_)
    exact ⟨(x3, x2.2), rfl, h4, hG8⟩
theorem sl_Top_open_21 (v1 : Int32) (v2 : Int32) (a0_ : Int32) (a1_ : Int32) (a2_ : Int32) (N_ : Mem) (B_ : Mem) (hp_v1 : (0 : Int) ≤ v1.toInt ∧ v1.toInt ≤ (7 : Int)) (hp_v2 : (0 : Int) ≤ v2.toInt ∧ v2.toInt ≤ (7 : Int)) (hN : J N_) (hG : Gc 0 B_ N_) (i2_ : (-1 : Int) ≤ a0_.toInt) (i3_ : a0_.toInt ≤ (35 : Int)) (i4_ : a1_.toInt ≤ (1000000 : Int)) (i5_ : (0 : Int) ≤ a2_.toInt) (i6_ : a2_.toInt ≤ (36 : Int)) : ∃ x, iter (lb_Top_open_21 v1 v2) FU (a0_, a1_, a2_, N_) = some x ∧ (fun r : Int32 × Int32 × Mem => J r.2.2 ∧ Gc 0 B_ r.2.2 ∧ (-1 : Int) ≤ r.1.toInt ∧ r.1.toInt ≤ (35 : Int) ∧ r.2.1.toInt ≤ (1000000 : Int)) x := by
  refine iter_r (fun s : Int32 × Int32 × Int32 × Mem => J s.2.2.2 ∧ Gc 0 B_ s.2.2.2 ∧ (-1 : Int) ≤ s.1.toInt ∧ s.1.toInt ≤ (35 : Int) ∧ s.2.1.toInt ≤ (1000000 : Int) ∧ (0 : Int) ≤ s.2.2.1.toInt ∧ s.2.2.1.toInt ≤ (36 : Int)) (fun s : Int32 × Int32 × Int32 × Mem => (36 - s.2.2.1.toInt).toNat) (fun r : Int32 × Int32 × Mem => J r.2.2 ∧ Gc 0 B_ r.2.2 ∧ (-1 : Int) ≤ r.1.toInt ∧ r.1.toInt ≤ (35 : Int) ∧ r.2.1.toInt ≤ (1000000 : Int)) ?_ FU (a0_, a1_, a2_, N_) ⟨hN, hG, i2_, i3_, i4_, i5_, i6_⟩ (by show (36 - a2_.toInt).toNat < FU; rw [FU_v]; omega)
  clear i6_ i5_ i4_ i3_ i2_ hG hN
  rintro ⟨a0_', a1_', a2_', N_'⟩ ⟨hN, hG, i2_, i3_, i4_, i5_, i6_⟩
  dsimp only at hN hG i2_ i3_ i4_ i5_ i6_
  unfold lb_Top_open_21
  dsimp only
  refine if_i (fun c => ?_) (fun c => ?_)
  · have c1 := c
    have r2 := Jr_3_3 hN
    have d3 : (N_'.1 3 3).toInt ≤ a2_'.toInt := lei.mp c1
    exact ⟨_, rfl, hN, hG, (show (-1 : Int) ≤ a0_'.toInt by omega), (show a0_'.toInt ≤ (35 : Int) by omega), (show a1_'.toInt ≤ (1000000 : Int) by omega)⟩
  · have c4 := c
    have r5 := Jr_3_3 hN
    have d6 : a2_'.toInt < (N_'.1 3 3).toInt := nlei.mp c4
    refine bind_i (sf_Top_canOpen a2_' N_' (⟨show (0 : Int) ≤ a2_'.toInt by omega, show a2_'.toInt ≤ (35 : Int) by omega⟩) hN) (fun x2 _ q => ?_)
    obtain ⟨h7, h8⟩ := q
    refine if_i (fun c => ?_) (fun c => ?_)
    · have c9 := c
      have d10 : x2.toInt = (0 : Int) := eqi.mp c9
      unfold j_Top_open_56_21
      refine if_i (fun c => ?_) (fun c => ?_)
      · have c11 := c
        have d12 : a1_'.toInt ≤ (1000000 : Int) := lei.mp c11
        have q13 : (a2_' + (1 : Int32)).toInt = a2_'.toInt + (1 : Int) := add_ti rfl rfl (by omega) (by omega)
        exact ⟨_, rfl, ⟨hN, hG, (show (-1 : Int) ≤ a0_'.toInt by omega), (show a0_'.toInt ≤ (35 : Int) by omega), (show a1_'.toInt ≤ (1000000 : Int) by omega), (show (0 : Int) ≤ (a2_' + (1 : Int32)).toInt by omega), (show (a2_' + (1 : Int32)).toInt ≤ (36 : Int) by omega)⟩, show (36 - (a2_' + (1 : Int32)).toInt).toNat < (36 - a2_'.toInt).toNat by omega⟩
      · have c14 := c
        have d15 : (1000000 : Int) < a1_'.toInt := nlei.mp c14
        exfalso; omega
    · have c16 := c
      have d17 : ¬ x2.toInt = (0 : Int) := neqi.mp c16
      refine bind_i (sf_Top_trystWith a2_' v1 v2 N_' (⟨show (0 : Int) ≤ v1.toInt by omega, show v1.toInt ≤ (7 : Int) by omega⟩) (⟨show (0 : Int) ≤ v2.toInt by omega, show v2.toInt ≤ (7 : Int) by omega⟩) hN) (fun x4 _ q => ?_)
      obtain ⟨h18, h19⟩ := q
      have hG20 : Gc 0 B_ x4.2 := Gc_t hG h19
      unfold j_Top_open_56_21
      refine if_i (fun c => ?_) (fun c => ?_)
      · have c21 := c
        have d22 : a1_'.toInt ≤ x4.1.toInt := lei.mp c21
        have q23 : (a2_' + (1 : Int32)).toInt = a2_'.toInt + (1 : Int) := add_ti rfl rfl (by omega) (by omega)
        exact ⟨_, rfl, ⟨h18, hG20, (show (-1 : Int) ≤ a0_'.toInt by omega), (show a0_'.toInt ≤ (35 : Int) by omega), (show a1_'.toInt ≤ (1000000 : Int) by omega), (show (0 : Int) ≤ (a2_' + (1 : Int32)).toInt by omega), (show (a2_' + (1 : Int32)).toInt ≤ (36 : Int) by omega)⟩, show (36 - (a2_' + (1 : Int32)).toInt).toNat < (36 - a2_'.toInt).toNat by omega⟩
      · have c24 := c
        have d25 : x4.1.toInt < a1_'.toInt := nlei.mp c24
        have q26 : (a2_' + (1 : Int32)).toInt = a2_'.toInt + (1 : Int) := add_ti rfl rfl (by omega) (by omega)
        exact ⟨_, rfl, ⟨h18, hG20, (show (-1 : Int) ≤ a2_'.toInt by omega), (show a2_'.toInt ≤ (35 : Int) by omega), (show x4.1.toInt ≤ (1000000 : Int) by omega), (show (0 : Int) ≤ (a2_' + (1 : Int32)).toInt by omega), (show (a2_' + (1 : Int32)).toInt ≤ (36 : Int) by omega)⟩, show (36 - (a2_' + (1 : Int32)).toInt).toNat < (36 - a2_'.toInt).toNat by omega⟩
theorem sf_Top_open (v1 : Int32) (v2 : Int32) (M : Mem) (hJ : J M) : ∃ r : Int32 × Mem, f_Top_open v1 v2 M = some r ∧ (J r.2 ∧ Gc 0 M r.2 ∧ (-2 : Int) ≤ r.1.toInt ∧ r.1.toInt ≤ (35 : Int)) := by
  unfold f_Top_open
  refine bind_i (sf_Top_areManAndWoman v1 v2 M hJ) (fun x1 _ q => ?_)
  obtain ⟨h1, h2, h3, h4⟩ := q
  refine if_i (fun c => ?_) (fun c => ?_)
  · have c5 := c
    have d6 : x1.toInt = (0 : Int) := eqi.mp c5
    exact ⟨((-1 : Int32), M), rfl, hJ, Gc_r, (show (-2 : Int) ≤ (-1 : Int32).toInt by decide), (show (-1 : Int32).toInt ≤ (35 : Int) by decide)⟩
  · have c7 := c
    have d8 : ¬ x1.toInt = (0 : Int) := neqi.mp c7
    refine bind_i (sl_Top_open_21 v1 v2 (-1 : Int32) (1000000 : Int32) (0 : Int32) M M (⟨show (0 : Int) ≤ v1.toInt by omega, show v1.toInt ≤ (7 : Int) by omega⟩) (⟨show (0 : Int) ≤ v2.toInt by omega, show v2.toInt ≤ (7 : Int) by omega⟩) hJ Gc_r (show (-1 : Int) ≤ (-1 : Int32).toInt by decide) (show (-1 : Int32).toInt ≤ (35 : Int) by decide) (show (1000000 : Int32).toInt ≤ (1000000 : Int) by decide) (show (0 : Int) ≤ (0 : Int32).toInt by decide) (show (0 : Int32).toInt ≤ (36 : Int) by decide)) (fun x7 _ q => ?_)
    obtain ⟨h9, h10, h11, h12, h13⟩ := q
    refine if_i (fun c => ?_) (fun c => ?_)
    · have c14 := c
      have d15 : x7.1.toInt = (-1 : Int) := eqi.mp c14
      exact ⟨((-2 : Int32), x7.2.2), rfl, h9, h10, (show (-2 : Int) ≤ (-2 : Int32).toInt by decide), (show (-2 : Int32).toInt ≤ (35 : Int) by decide)⟩
    · have c16 := c
      have d17 : ¬ x7.1.toInt = (-1 : Int) := neqi.mp c16
      refine bind_i (sf_Top_emptyRow x7.2.2 h9) (fun x8 _ q => ?_)
      obtain ⟨h18, h19⟩ := q
      have hG20 : Gc 0 M x8 := Gc_t h10 h19
      refine bind_i (sf_Top_note x7.2.1 x8 h18) (fun x9 _ q => ?_)
      obtain ⟨h21, h22⟩ := q
      have hG23 : Gc 0 M x9 := Gc_t hG20 h22
      exact ⟨(x7.1, x9), rfl, h21, hG23, (show (-2 : Int) ≤ x7.1.toInt by omega), (show x7.1.toInt ≤ (35 : Int) by omega)⟩
theorem sf_Top_roaming (v1 : Int32) (v2 : Int64) (M : Mem) (hp_v1 : (0 : Int) ≤ v1.toInt ∧ v1.toInt ≤ (7 : Int)) (hJ : J M) : ∃ r : Int64, f_Top_roaming v1 v2 M = some r ∧ (True) := by
  unfold f_Top_roaming
  refine inb_i (by omega) (by omega) ?_
  refine inb_i (by omega) (by omega) ?_
  refine if_i (fun c => ?_) (fun c => ?_)
  · have c1 := c
    have r2 := Jr_13 hJ v1.toNatClampNeg
    have d3 : (M.1 13 v1.toNatClampNeg).toInt = (0 : Int) := eqi.mp c1
    unfold j_Top_roaming_36
    refine bind_i (sf_Nets_flood 32 (M.1 13 v1.toNatClampNeg) (M.1 12 v1.toNatClampNeg) v2 M kd_32 (⟨show (0 : Int) ≤ (M.1 13 v1.toNatClampNeg).toInt by omega, show (M.1 13 v1.toNatClampNeg).toInt ≤ (1 : Int) by omega⟩) hJ) (fun x1 _ q => ?_)
    exact ⟨x1, rfl, trivial⟩
  · have c4 := c
    have r5 := Jr_13 hJ v1.toNatClampNeg
    have d6 : ¬ (M.1 13 v1.toNatClampNeg).toInt = (0 : Int) := neqi.mp c4
    unfold j_Top_roaming_36
    refine bind_i (sf_Nets_flood 32 (M.1 13 v1.toNatClampNeg) (M.1 12 v1.toNatClampNeg) (0 : Int64) M kd_32 (⟨show (0 : Int) ≤ (M.1 13 v1.toNatClampNeg).toInt by omega, show (M.1 13 v1.toNatClampNeg).toInt ≤ (1 : Int) by omega⟩) hJ) (fun x1 _ q => ?_)
    exact ⟨x1, rfl, trivial⟩
theorem sf_Top_canTryst (v1 : Int32) (v2 : Int32) (v3 : Int64) (M : Mem) (hp_v1 : (0 : Int) ≤ v1.toInt ∧ v1.toInt ≤ (7 : Int)) (hp_v2 : (0 : Int) ≤ v2.toInt ∧ v2.toInt ≤ (7 : Int)) (hJ : J M) : ∃ r : Int32, f_Top_canTryst v1 v2 v3 M = some r ∧ ((0 : Int) ≤ r.toInt ∧ r.toInt ≤ (1 : Int)) := by
  unfold f_Top_canTryst
  refine bind_i (sf_Top_roaming v1 v3 M (⟨show (0 : Int) ≤ v1.toInt by omega, show v1.toInt ≤ (7 : Int) by omega⟩) hJ) (fun x1 _ q => ?_)
  refine bind_i (sf_Top_roaming v2 v3 M (⟨show (0 : Int) ≤ v2.toInt by omega, show v2.toInt ≤ (7 : Int) by omega⟩) hJ) (fun x2 _ q => ?_)
  refine bind_i (sf_Nets_stairs 32 M kd_32 hJ) (fun x3 _ q => ?_)
  refine if_i (fun c => ?_) (fun c => ?_)
  · have c1 := c
    have d2 : (lg_cmp (((x1 &&& x2) &&& x3) &&& (v3 ^^^ (-1 : Int64))) (0 : Int64)).toInt = (0 : Int) := eqi.mp c1
    exact ⟨(0 : Int32), rfl, (show (0 : Int) ≤ (0 : Int32).toInt by decide), (show (0 : Int32).toInt ≤ (1 : Int) by decide)⟩
  · have c3 := c
    have d4 : ¬ (lg_cmp (((x1 &&& x2) &&& x3) &&& (v3 ^^^ (-1 : Int64))) (0 : Int64)).toInt = (0 : Int) := neqi.mp c3
    exact ⟨(1 : Int32), rfl, (show (0 : Int) ≤ (1 : Int32).toInt by decide), (show (1 : Int32).toInt ≤ (1 : Int) by decide)⟩
theorem sf_pby : ∀ (n : Nat) (a0 a1 : Int32) (a2 : Int64) (a3 : Int32) (a4 : Int64) (M : Mem), J M → (0 ≤ a0.toInt ∧ a0.toInt ≤ 7) → (0 ≤ a1.toInt ∧ a1.toInt ≤ 7) → 0 ≤ a3.toInt → a3.toInt < n → ∃ r, fr_pby n a0 a1 a2 a3 a4 M = some r ∧ True := by
  intro n
  induction n with
  | zero => intro a0 a1 a2 a3 a4 M _ _ _ h1 h2; omega
  | succ n ih =>
    intro a0 a1 a2 a3 a4 M hJ h0 h1 h3 h4
    show ∃ r, fb_Top_partedBy (fr_pby n) a0 a1 a2 a3 a4 M = some r ∧ True
    unfold fb_Top_partedBy
    refine if_i (fun c => ?_) (fun c => ?_)
    · have d : (0 : Int) < a3.toInt := lti.mp c
      have hz := Jr_3_3 hJ
      have es : (a3 - (1 : Int32)).toInt = a3.toInt - 1 := sub_ti rfl rfl (by have := i32hi a3; omega) (by have := i32hi a3; omega)
      refine bind_i (Q := fun _ => True) (iter_r (fun s : Int32 => 0 ≤ s.toInt ∧ s.toInt ≤ 36) (fun s => (36 - s.toInt).toNat) (fun _ => True) ?_ FU (0 : Int32) ⟨by decide, by decide⟩ (by decide)) (fun x _ _ => ?_)
      · rintro s ⟨q1, q2⟩
        have nx : (36 : Int) ≥ (M.1 3 3).toInt := hz.2
        unfold lb_Top_partedBy_28
        refine if_i (fun c => ⟨_, rfl, trivial⟩) (fun c => ?_)
        have d2 := nlei.mp c
        have ev : (s + (1 : Int32)).toInt = s.toInt + 1 := add_ti rfl rfl (by omega) (by omega)
        have nxt : ∀ r : Int32 ⊕ (Unit ⊕ Int64), r = .inl (s + (1 : Int32)) → LPq (fun s : Int32 => 0 ≤ s.toInt ∧ s.toInt ≤ 36) (fun s => (36 - s.toInt).toNat) (fun _ => True) ((36 - s.toInt).toNat) r := fun r e => by
          rw [e]
          exact ⟨⟨show (0 : Int) ≤ (s + (1 : Int32)).toInt by omega, show (s + (1 : Int32)).toInt ≤ 36 by omega⟩, show (36 - (s + (1 : Int32)).toInt).toNat < (36 - s.toInt).toNat by omega⟩
        have body : ∀ w0 : Int32, ∃ r, j_Top_partedBy_55_28 (fr_pby n) a0 a1 a2 a3 a4 s w0 M = some r ∧ LPq (fun s : Int32 => 0 ≤ s.toInt ∧ s.toInt ≤ 36) (fun s => (36 - s.toInt).toNat) (fun _ => True) ((36 - s.toInt).toNat) r := by
          intro w0
          unfold j_Top_partedBy_55_28
          refine if_i (fun c => ⟨_, rfl, nxt _ rfl⟩) (fun c => ?_)
          refine if_i (fun c => ⟨_, rfl, nxt _ rfl⟩) (fun c => ?_)
          refine bind_i (ih a0 a1 a2 (a3 - (1 : Int32)) _ M hJ h0 h1 (by omega) (by omega)) (fun x1 _ _ => ?_)
          exact if_i (fun c => ⟨_, rfl, nxt _ rfl⟩) (fun c => ⟨_, rfl, trivial⟩)
        exact if_i (fun c => body 1) (fun c => body 0)
      · rcases x with y | y
        · exact ⟨_, rfl, trivial⟩
        · exact ⟨_, rfl, trivial⟩
    · refine bind_i (sf_Top_canTryst a0 a1 a4 M h0 h1 hJ) (fun x _ _ => ?_)
      exact if_i (fun c => ⟨_, rfl, trivial⟩) (fun c => ⟨_, rfl, trivial⟩)
theorem sf_Top_partedBy (a0 : Int32) (a1 : Int32) (a2 : Int64) (a3 : Int32) (a4 : Int64) (M : Mem) (hp_a0 : (0 : Int) ≤ a0.toInt ∧ a0.toInt ≤ (7 : Int)) (hp_a1 : (0 : Int) ≤ a1.toInt ∧ a1.toInt ≤ (7 : Int)) (hp_a3 : (0 : Int) ≤ a3.toInt ∧ a3.toInt ≤ (3 : Int)) (hJ : J M) : ∃ r, f_Top_partedBy a0 a1 a2 a3 a4 M = some r ∧ (True) := sf_pby 8 a0 a1 a2 a3 a4 M hJ hp_a0 hp_a1 hp_a3.1 (by omega)
theorem sl_Top_part_67 (v1 : Int32) (v2 : Int32) (v3 : Int64) (M : Mem) (a0_ : Int32) (hp_v1 : (0 : Int) ≤ v1.toInt ∧ v1.toInt ≤ (7 : Int)) (hp_v2 : (0 : Int) ≤ v2.toInt ∧ v2.toInt ≤ (7 : Int)) (hJ_M : J M) (i0_ : (0 : Int) ≤ a0_.toInt) (i1_ : a0_.toInt ≤ (4 : Int)) : ∃ x, iter (lb_Top_part_67 v1 v2 v3 M) FU a0_ = some x ∧ (SQ (fun r : Unit => True) (fun r : Int32 × Int64 => (0 : Int) ≤ r.1.toInt ∧ r.1.toInt ≤ (3 : Int))) x := by
  refine iter_r (fun s : Int32 => (0 : Int) ≤ s.toInt ∧ s.toInt ≤ (4 : Int)) (fun s : Int32 => (4 - s.toInt).toNat) (SQ (fun r : Unit => True) (fun r : Int32 × Int64 => (0 : Int) ≤ r.1.toInt ∧ r.1.toInt ≤ (3 : Int))) ?_ FU a0_ ⟨i0_, i1_⟩ (by show (4 - a0_.toInt).toNat < FU; rw [FU_v]; omega)
  clear i1_ i0_
  rintro a0_' ⟨i0_, i1_⟩
  unfold lb_Top_part_67
  refine if_i (fun c => ?_) (fun c => ?_)
  · have c1 := c
    have d2 : (3 : Int) < a0_'.toInt := lti.mp c1
    exact ⟨_, rfl, trivial⟩
  · have c3 := c
    have d4 : a0_'.toInt ≤ (3 : Int) := nlti.mp c3
    refine bind_i (sf_Top_partedBy v1 v2 v3 a0_' (0 : Int64) M (⟨show (0 : Int) ≤ v1.toInt by omega, show v1.toInt ≤ (7 : Int) by omega⟩) (⟨show (0 : Int) ≤ v2.toInt by omega, show v2.toInt ≤ (7 : Int) by omega⟩) (⟨show (0 : Int) ≤ a0_'.toInt by omega, show a0_'.toInt ≤ (3 : Int) by omega⟩) hJ_M) (fun x4 _ q => ?_)
    refine if_i (fun c => ?_) (fun c => ?_)
    · have c5 := c
      have d6 : (lg_cmp x4 (0 : Int64)).toInt < (0 : Int) := lti.mp c5
      have q7 : (a0_' + (1 : Int32)).toInt = a0_'.toInt + (1 : Int) := add_ti rfl rfl (by omega) (by omega)
      exact ⟨_, rfl, ⟨(show (0 : Int) ≤ (a0_' + (1 : Int32)).toInt by omega), (show (a0_' + (1 : Int32)).toInt ≤ (4 : Int) by omega)⟩, show (4 - (a0_' + (1 : Int32)).toInt).toNat < (4 - a0_'.toInt).toNat by omega⟩
    · have c8 := c
      have d9 : (0 : Int) ≤ (lg_cmp x4 (0 : Int64)).toInt := nlti.mp c8
      exact ⟨_, rfl, (show (0 : Int) ≤ a0_'.toInt by omega), (show a0_'.toInt ≤ (3 : Int) by omega)⟩
theorem sl_Top_part_99 (v5 : Int32) (v6 : Int64) (a0_ : Int32) (N_ : Mem) (B_ : Mem) (hp_v5 : (0 : Int) ≤ v5.toInt ∧ v5.toInt ≤ (3 : Int)) (hN : J N_) (hG : Gc 0 B_ N_) (i2_ : (0 : Int) ≤ a0_.toInt) (i3_ : a0_.toInt ≤ (36 : Int)) : ∃ x, iter (lb_Top_part_99 v5 v6) FU (a0_, N_) = some x ∧ (fun r : Mem => J r ∧ Gc 0 B_ r) x := by
  refine iter_r (fun s : Int32 × Mem => J s.2 ∧ Gc 0 B_ s.2 ∧ (0 : Int) ≤ s.1.toInt ∧ s.1.toInt ≤ (36 : Int)) (fun s : Int32 × Mem => (36 - s.1.toInt).toNat) (fun r : Mem => J r ∧ Gc 0 B_ r) ?_ FU (a0_, N_) ⟨hN, hG, i2_, i3_⟩ (by show (36 - a0_.toInt).toNat < FU; rw [FU_v]; omega)
  clear i3_ i2_ hG hN
  rintro ⟨a0_', N_'⟩ ⟨hN, hG, i2_, i3_⟩
  dsimp only at hN hG i2_ i3_
  unfold lb_Top_part_99
  dsimp only
  refine if_i (fun c => ?_) (fun c => ?_)
  · have c1 := c
    have d2 : (36 : Int) ≤ a0_'.toInt := lei.mp c1
    exact ⟨_, rfl, hN, hG⟩
  · have c3 := c
    have d4 : a0_'.toInt < (36 : Int) := nlei.mp c3
    refine if_i (fun c => ?_) (fun c => ?_)
    · have c5 := c
      have d6 : (lg_cmp ((v6 >>> (a0_'.toInt64 &&& 63)) &&& (1 : Int64)) (0 : Int64)).toInt = (0 : Int) := eqi.mp c5
      have q7 : (a0_' + (1 : Int32)).toInt = a0_'.toInt + (1 : Int) := add_ti rfl rfl (by omega) (by omega)
      exact ⟨_, rfl, ⟨hN, hG, (show (0 : Int) ≤ (a0_' + (1 : Int32)).toInt by omega), (show (a0_' + (1 : Int32)).toInt ≤ (36 : Int) by omega)⟩, show (36 - (a0_' + (1 : Int32)).toInt).toNat < (36 - a0_'.toInt).toNat by omega⟩
    · have c8 := c
      have d9 : ¬ (lg_cmp ((v6 >>> (a0_'.toInt64 &&& 63)) &&& (1 : Int64)) (0 : Int64)).toInt = (0 : Int) := neqi.mp c8
      refine bind_i (sf_Top_note a0_' N_' hN) (fun x11 _ q => ?_)
      obtain ⟨h10, h11⟩ := q
      have hG12 : Gc 0 B_ x11 := Gc_t hG h11
      have q13 : (a0_' + (1 : Int32)).toInt = a0_'.toInt + (1 : Int) := add_ti rfl rfl (by omega) (by omega)
      exact ⟨_, rfl, ⟨h10, hG12, (show (0 : Int) ≤ (a0_' + (1 : Int32)).toInt by omega), (show (a0_' + (1 : Int32)).toInt ≤ (36 : Int) by omega)⟩, show (36 - (a0_' + (1 : Int32)).toInt).toNat < (36 - a0_'.toInt).toNat by omega⟩
end
section
/-! safety of the class, 20 -/
theorem sf_Top_part (v1 : Int32) (v2 : Int32) (M : Mem) (hJ : J M) : ∃ r : Int32 × Mem, f_Top_part v1 v2 M = some r ∧ (J r.2 ∧ Gc 0 M r.2 ∧ (-2 : Int) ≤ r.1.toInt ∧ r.1.toInt ≤ (3 : Int)) := by
  unfold f_Top_part
  refine bind_i (sf_Top_areManAndWoman v1 v2 M hJ) (fun x1 _ q => ?_)
  obtain ⟨h1, h2, h3, h4⟩ := q
  refine if_i (fun c => ?_) (fun c => ?_)
  · have c5 := c
    have d6 : x1.toInt = (0 : Int) := eqi.mp c5
    exact ⟨((-1 : Int32), M), rfl, hJ, Gc_r, (show (-2 : Int) ≤ (-1 : Int32).toInt by decide), (show (-1 : Int32).toInt ≤ (3 : Int) by decide)⟩
  · have c7 := c
    have d8 : ¬ x1.toInt = (0 : Int) := neqi.mp c7
    refine bind_i (sf_Nets_stairs 32 M kd_32 hJ) (fun x2 _ q => ?_)
    refine inb_i (by omega) (by omega) ?_
    refine inb_i (by omega) (by omega) ?_
    refine bind_i (sf_Top_canTryst v1 v2 ((x2 &&& (((1 : Int64) <<< ((M.1 12 v1.toNatClampNeg).toInt64 &&& 63)) ^^^ (-1 : Int64))) &&& (((1 : Int64) <<< ((M.1 12 v2.toNatClampNeg).toInt64 &&& 63)) ^^^ (-1 : Int64))) M (⟨show (0 : Int) ≤ v1.toInt by omega, show v1.toInt ≤ (7 : Int) by omega⟩) (⟨show (0 : Int) ≤ v2.toInt by omega, show v2.toInt ≤ (7 : Int) by omega⟩) hJ) (fun x3 _ q => ?_)
    obtain ⟨h9, h10⟩ := q
    refine if_i (fun c => ?_) (fun c => ?_)
    · have c11 := c
      have d12 : x3.toInt = (0 : Int) := eqi.mp c11
      refine bind_i (sl_Top_part_67 v1 v2 ((x2 &&& (((1 : Int64) <<< ((M.1 12 v1.toNatClampNeg).toInt64 &&& 63)) ^^^ (-1 : Int64))) &&& (((1 : Int64) <<< ((M.1 12 v2.toNatClampNeg).toInt64 &&& 63)) ^^^ (-1 : Int64))) M (0 : Int32) (⟨show (0 : Int) ≤ v1.toInt by omega, show v1.toInt ≤ (7 : Int) by omega⟩) (⟨show (0 : Int) ≤ v2.toInt by omega, show v2.toInt ≤ (7 : Int) by omega⟩) hJ (show (0 : Int) ≤ (0 : Int32).toInt by decide) (show (0 : Int32).toInt ≤ (4 : Int) by decide)) (fun x13 _ q => ?_)
      rcases x13 with y | y
      · have q9 : True := q
        dsimp only [Sum.elim_inl, Sum.elim_inr]
        exact ⟨((-2 : Int32), M), rfl, hJ, Gc_r, (show (-2 : Int) ≤ (-2 : Int32).toInt by decide), (show (-2 : Int32).toInt ≤ (3 : Int) by decide)⟩
      · have q9 : (0 : Int) ≤ y.1.toInt ∧ y.1.toInt ≤ (3 : Int) := q
        dsimp only [Sum.elim_inl, Sum.elim_inr]
        obtain ⟨h16, h17⟩ := q9
        refine bind_i (sf_Top_emptyRow M hJ) (fun x10 _ q => ?_)
        obtain ⟨h18, h19⟩ := q
        have hG20 : Gc 0 M x10 := Gc_t Gc_r h19
        refine bind_i (sl_Top_part_99 y.1 y.2 (0 : Int32) x10 M (⟨show (0 : Int) ≤ y.1.toInt by omega, show y.1.toInt ≤ (3 : Int) by omega⟩) h18 hG20 (show (0 : Int) ≤ (0 : Int32).toInt by decide) (show (0 : Int32).toInt ≤ (36 : Int) by decide)) (fun x14 _ q => ?_)
        obtain ⟨h21, h22⟩ := q
        exact ⟨(y.1, x14), rfl, h21, h22, (show (-2 : Int) ≤ y.1.toInt by omega), (show y.1.toInt ≤ (3 : Int) by omega)⟩
    · have c23 := c
      have d24 : ¬ x3.toInt = (0 : Int) := neqi.mp c23
      exact ⟨((-2 : Int32), M), rfl, hJ, Gc_r, (show (-2 : Int) ≤ (-2 : Int32).toInt by decide), (show (-2 : Int32).toInt ≤ (3 : Int) by decide)⟩
theorem sf_Top_planks (v1 : Int32) (v2 : Int32) (M : Mem) (hJ : J M) : ∃ r : Int32 × Mem, f_Top_planks v1 v2 M = some r ∧ (J r.2 ∧ Gc 0 M r.2) := by
  unfold f_Top_planks
  refine bind_i (sf_Ground_holds (1 : Int32) v1 M hJ) (fun x1 _ q => ?_)
  obtain ⟨h1, h2, h3, h4⟩ := q
  clear h3
  refine if_i (fun c => ?_) (fun c => ?_)
  · have c5 := c
    have d6 : x1.toInt = (0 : Int) := eqi.mp c5
    exact ⟨((-1 : Int32), M), rfl, hJ, Gc_r⟩
  · have c7 := c
    have d8 : ¬ x1.toInt = (0 : Int) := neqi.mp c7
    refine bind_i (sf_Ground_holds (1 : Int32) v2 M hJ) (fun x2 _ q => ?_)
    obtain ⟨h9, h10, h11, h12⟩ := q
    clear h11
    refine if_i (fun c => ?_) (fun c => ?_)
    · have c13 := c
      have d14 : x2.toInt = (0 : Int) := eqi.mp c13
      exact ⟨((-1 : Int32), M), rfl, hJ, Gc_r⟩
    · have c15 := c
      have d16 : ¬ x2.toInt = (0 : Int) := neqi.mp c15
      refine bind_i (sf_Ways_bridged 32 v1 v2 M kd_32 (⟨show (0 : Int) ≤ v1.toInt by omega, show v1.toInt ≤ (35 : Int) by omega⟩) (⟨show (0 : Int) ≤ v2.toInt by omega, show v2.toInt ≤ (35 : Int) by omega⟩) hJ) (fun x3 _ q => ?_)
      obtain ⟨h17, h18⟩ := q
      have hG19 : Gc 0 M x3.2 := Gc_t Gc_r h18
      refine if_i (fun c => ?_) (fun c => ?_)
      · have c20 := c
        have d21 : x3.1.toInt < (1000000 : Int) := lti.mp c20
        refine bind_i (sf_Top_emptyRow x3.2 h17) (fun x4 _ q => ?_)
        obtain ⟨h22, h23⟩ := q
        have hG24 : Gc 0 M x4 := Gc_t hG19 h23
        refine bind_i (sf_Top_note (x3.1 - ((x3.1 / (100 : Int32)) * (100 : Int32))) x4 h22) (fun x5 _ q => ?_)
        obtain ⟨h25, h26⟩ := q
        have hG27 : Gc 0 M x5 := Gc_t hG24 h26
        exact ⟨((x3.1 / (100 : Int32)), x5), rfl, h25, hG27⟩
      · have c28 := c
        have d29 : (1000000 : Int) ≤ x3.1.toInt := nlti.mp c28
        exact ⟨((-2 : Int32), x3.2), rfl, h17, hG19⟩
theorem sf_Top_fire (v1 : Int32) (M : Mem) (hJ : J M) : ∃ r : Int32 × Mem, f_Top_fire v1 M = some r ∧ (J r.2 ∧ Gc 0 M r.2) := by
  unfold f_Top_fire
  refine if_i (fun c => ?_) (fun c => ?_)
  · have c1 := c
    have d2 : v1.toInt = (-1 : Int) := eqi.mp c1
    unfold j_Top_fire_19
    refine mem_i (fun M1 e4 => ?_)
    have hJ5 : J M1 := by rw [e4]; exact Jw_any ok_0 hJ 16 v1
    have hG6 : Gc 0 M M1 := Gc_i Gc_r e4 (by decide)
    have f7 : (M1.1 0 16).toInt = v1.toInt := by rw [e4, si_eq]
    clear e4
    exact ⟨((M.1 0 16), M1), rfl, hJ5, hG6⟩
  · have c8 := c
    have d9 : ¬ v1.toInt = (-1 : Int) := neqi.mp c8
    refine bind_i (sf_Ground_has v1 M hJ) (fun x2 _ q => ?_)
    obtain ⟨h10, h11, h12⟩ := q
    refine if_i (fun c => ?_) (fun c => ?_)
    · have c13 := c
      have d14 : x2.toInt = (0 : Int) := eqi.mp c13
      exact ⟨((-2 : Int32), M), rfl, hJ, Gc_r⟩
    · have c15 := c
      have d16 : ¬ x2.toInt = (0 : Int) := neqi.mp c15
      unfold j_Top_fire_19
      refine mem_i (fun M1 e18 => ?_)
      have hJ19 : J M1 := by rw [e18]; exact Jw_any ok_0 hJ 16 v1
      have hG20 : Gc 0 M M1 := Gc_i Gc_r e18 (by decide)
      have f21 : (M1.1 0 16).toInt = v1.toInt := by rw [e18, si_eq]
      clear e18
      exact ⟨((M.1 0 16), M1), rfl, hJ19, hG20⟩
theorem sl_Top_stepsToFire_38 (M : Mem) (a0_ : Int32) (a1_ : Int32) (hJ_M : J M) (i0_ : a0_.toInt ≤ (1000000 : Int)) (i1_ : (0 : Int) ≤ a1_.toInt) (i2_ : a1_.toInt ≤ (4 : Int)) : ∃ x, iter (lb_Top_stepsToFire_38 M) FU (a0_, a1_) = some x ∧ (fun r : Int32 => r.toInt ≤ (1000000 : Int)) x := by
  refine iter_r (fun s : Int32 × Int32 => s.1.toInt ≤ (1000000 : Int) ∧ (0 : Int) ≤ s.2.toInt ∧ s.2.toInt ≤ (4 : Int)) (fun s : Int32 × Int32 => (4 - s.2.toInt).toNat) (fun r : Int32 => r.toInt ≤ (1000000 : Int)) ?_ FU (a0_, a1_) ⟨i0_, i1_, i2_⟩ (by show (4 - a1_.toInt).toNat < FU; rw [FU_v]; omega)
  clear i2_ i1_ i0_
  rintro ⟨a0_', a1_'⟩ ⟨i0_, i1_, i2_⟩
  dsimp only at i0_ i1_ i2_
  unfold lb_Top_stepsToFire_38
  dsimp only
  refine if_i (fun c => ?_) (fun c => ?_)
  · have c1 := c
    have d2 : (4 : Int) ≤ a1_'.toInt := lei.mp c1
    exact ⟨_, rfl, (show a0_'.toInt ≤ (1000000 : Int) by omega)⟩
  · have c3 := c
    have d4 : a1_'.toInt < (4 : Int) := nlei.mp c3
    refine bind_i (sf_Ground_beside (M.1 0 16) a1_' M hJ_M) (fun x2 _ q => ?_)
    obtain ⟨h5, h6, h7⟩ := q
    refine if_i (fun c => ?_) (fun c => ?_)
    · have c8 := c
      have d9 : x2.toInt = (-1 : Int) := eqi.mp c8
      have q10 : (a1_' + (1 : Int32)).toInt = a1_'.toInt + (1 : Int) := add_ti rfl rfl (by omega) (by omega)
      exact ⟨_, rfl, ⟨(show a0_'.toInt ≤ (1000000 : Int) by omega), (show (0 : Int) ≤ (a1_' + (1 : Int32)).toInt by omega), (show (a1_' + (1 : Int32)).toInt ≤ (4 : Int) by omega)⟩, show (4 - (a1_' + (1 : Int32)).toInt).toNat < (4 - a1_'.toInt).toNat by omega⟩
    · have c11 := c
      have d12 : ¬ x2.toInt = (-1 : Int) := neqi.mp c11
      refine inb_i (by omega) (by omega) ?_
      have q13 : (if (M.1 155 x2.toNatClampNeg) < a0_' then (M.1 155 x2.toNatClampNeg) else a0_').toInt ≤ (1000000 : Int) := by
        by_cases cc : (M.1 155 x2.toNatClampNeg) < a0_'
        · rw [if_pos cc]
          have d14 : (M.1 155 x2.toNatClampNeg).toInt < a0_'.toInt := lti.mp cc
          omega
        · rw [if_neg cc]
          have d15 : a0_'.toInt ≤ (M.1 155 x2.toNatClampNeg).toInt := nlti.mp cc
          omega
      have q16 : (a1_' + (1 : Int32)).toInt = a1_'.toInt + (1 : Int) := add_ti rfl rfl (by omega) (by omega)
      exact ⟨_, rfl, ⟨(show (if (M.1 155 x2.toNatClampNeg) < a0_' then (M.1 155 x2.toNatClampNeg) else a0_').toInt ≤ (1000000 : Int) by omega), (show (0 : Int) ≤ (a1_' + (1 : Int32)).toInt by omega), (show (a1_' + (1 : Int32)).toInt ≤ (4 : Int) by omega)⟩, show (4 - (a1_' + (1 : Int32)).toInt).toNat < (4 - a1_'.toInt).toNat by omega⟩
theorem sf_Top_stepsToFire (v1 : Int32) (M : Mem) (hp_v1 : (0 : Int) ≤ v1.toInt ∧ v1.toInt ≤ (7 : Int)) (hJ : J M) : ∃ r : Int32 × Mem, f_Top_stepsToFire v1 M = some r ∧ (J r.2 ∧ Gc 0 M r.2 ∧ r.1.toInt ≤ (1000000 : Int)) := by
  unfold f_Top_stepsToFire
  refine inb_i (by omega) (by omega) ?_
  refine inb_i (by omega) (by omega) ?_
  have r1 := Jr_13 hJ v1.toNatClampNeg
  have r2 := Jr_12 hJ v1.toNatClampNeg
  refine bind_i (sf_Nets_measure 32 (M.1 13 v1.toNatClampNeg) (M.1 12 v1.toNatClampNeg) 155 M kd_32 (⟨show (0 : Int) ≤ (M.1 13 v1.toNatClampNeg).toInt by omega, show (M.1 13 v1.toNatClampNeg).toInt ≤ (1 : Int) by omega⟩) (⟨show (0 : Int) ≤ (M.1 12 v1.toNatClampNeg).toInt by omega, show (M.1 12 v1.toNatClampNeg).toInt ≤ (35 : Int) by omega⟩) FA_155 hJ) (fun x1 _ q => ?_)
  obtain ⟨h3, h4⟩ := q
  have hG5 : Gc 0 M x1 := Gc_t Gc_r h4
  refine bind_i (sl_Top_stepsToFire_38 x1 (1000000 : Int32) (0 : Int32) h3 (show (1000000 : Int32).toInt ≤ (1000000 : Int) by decide) (show (0 : Int) ≤ (0 : Int32).toInt by decide) (show (0 : Int32).toInt ≤ (4 : Int) by decide)) (fun x5 _ q => ?_)
  have h6 := q
  exact ⟨(x5, x1), rfl, h3, hG5, (show x5.toInt ≤ (1000000 : Int) by omega)⟩
theorem sl_Top_fights_27 (v1 : Int32) (a0_ : Int32) (a1_ : Int32) (N_ : Mem) (B_ : Mem) (hp_v1 : (0 : Int) ≤ v1.toInt ∧ v1.toInt ≤ (60 : Int)) (hN : J N_) (hG : Gc 0 B_ N_) (i2_ : (0 : Int) ≤ a1_.toInt) (i3_ : a1_.toInt ≤ (8 : Int)) : ∃ x, iter (lb_Top_fights_27 v1) FU (a0_, a1_, N_) = some x ∧ (fun r : Int32 × Mem => J r.2 ∧ Gc 0 B_ r.2) x := by
  refine iter_r (fun s : Int32 × Int32 × Mem => J s.2.2 ∧ Gc 0 B_ s.2.2 ∧ (0 : Int) ≤ s.2.1.toInt ∧ s.2.1.toInt ≤ (8 : Int)) (fun s : Int32 × Int32 × Mem => (8 - s.2.1.toInt).toNat) (fun r : Int32 × Mem => J r.2 ∧ Gc 0 B_ r.2) ?_ FU (a0_, a1_, N_) ⟨hN, hG, i2_, i3_⟩ (by show (8 - a1_.toInt).toNat < FU; rw [FU_v]; omega)
  clear i3_ i2_ hG hN
  rintro ⟨a0_', a1_', N_'⟩ ⟨hN, hG, i2_, i3_⟩
  dsimp only at hN hG i2_ i3_
  unfold lb_Top_fights_27
  dsimp only
  refine if_i (fun c => ?_) (fun c => ?_)
  · have c1 := c
    have r2 := Jr_6_4 hN
    have d3 : (N_'.1 6 4).toInt ≤ a1_'.toInt := lei.mp c1
    exact ⟨_, rfl, hN, hG⟩
  · have c4 := c
    have r5 := Jr_6_4 hN
    have d6 : a1_'.toInt < (N_'.1 6 4).toInt := nlei.mp c4
    refine bind_i (sf_Top_stepsToFire a1_' N_' (⟨show (0 : Int) ≤ a1_'.toInt by omega, show a1_'.toInt ≤ (7 : Int) by omega⟩) hN) (fun x1 _ q => ?_)
    obtain ⟨h7, h8, h9⟩ := q
    have hG10 : Gc 0 B_ x1.2 := Gc_t hG h8
    refine if_i (fun c => ?_) (fun c => ?_)
    · have c11 := c
      have d12 : v1.toInt < x1.1.toInt := lti.mp c11
      have q13 : (a1_' + (1 : Int32)).toInt = a1_'.toInt + (1 : Int) := add_ti rfl rfl (by omega) (by omega)
      exact ⟨_, rfl, ⟨h7, hG10, (show (0 : Int) ≤ (a1_' + (1 : Int32)).toInt by omega), (show (a1_' + (1 : Int32)).toInt ≤ (8 : Int) by omega)⟩, show (8 - (a1_' + (1 : Int32)).toInt).toNat < (8 - a1_'.toInt).toNat by omega⟩
    · have c14 := c
      have d15 : x1.1.toInt ≤ v1.toInt := nlti.mp c14
      have q16 : (a1_' + (1 : Int32)).toInt = a1_'.toInt + (1 : Int) := add_ti rfl rfl (by omega) (by omega)
      exact ⟨_, rfl, ⟨h7, hG10, (show (0 : Int) ≤ (a1_' + (1 : Int32)).toInt by omega), (show (a1_' + (1 : Int32)).toInt ≤ (8 : Int) by omega)⟩, show (8 - (a1_' + (1 : Int32)).toInt).toNat < (8 - a1_'.toInt).toNat by omega⟩
theorem sf_Top_fights (v1 : Int32) (M : Mem) (hJ : J M) : ∃ r : Int32 × Mem, f_Top_fights v1 M = some r ∧ (J r.2 ∧ Gc 0 M r.2) := by
  unfold f_Top_fights
  refine if_i (fun c => ?_) (fun c => ?_)
  · have c1 := c
    have d2 : v1.toInt < (0 : Int) := lti.mp c1
    exact ⟨((-1 : Int32), M), rfl, hJ, Gc_r⟩
  · have c3 := c
    have d4 : (0 : Int) ≤ v1.toInt := nlti.mp c3
    refine if_i (fun c => ?_) (fun c => ?_)
    · have c5 := c
      have d6 : v1.toInt ≤ (60 : Int) := lei.mp c5
      refine if_i (fun c => ?_) (fun c => ?_)
      · have c7 := c
        have d8 : (M.1 0 16).toInt = (-1 : Int) := eqi.mp c7
        exact ⟨((-2 : Int32), M), rfl, hJ, Gc_r⟩
      · have c9 := c
        have d10 : ¬ (M.1 0 16).toInt = (-1 : Int) := neqi.mp c9
        refine bind_i (sl_Top_fights_27 v1 (0 : Int32) (0 : Int32) M M (⟨show (0 : Int) ≤ v1.toInt by omega, show v1.toInt ≤ (60 : Int) by omega⟩) hJ Gc_r (show (0 : Int) ≤ (0 : Int32).toInt by decide) (show (0 : Int32).toInt ≤ (8 : Int) by decide)) (fun x4 _ q => ?_)
        obtain ⟨h11, h12⟩ := q
        refine bind_i (sf_JInteger_bitCount (x4.1 &&& (x4.2.1 6 5))) (fun x5 _ q => ?_)
        obtain ⟨h13, h14⟩ := q
        refine bind_i (sf_Top_emptyRow x4.2 h11) (fun x6 _ q => ?_)
        obtain ⟨h15, h16⟩ := q
        have hG17 : Gc 0 M x6 := Gc_t h12 h16
        refine bind_i (sf_JInteger_bitCount x4.1) (fun x7 _ q => ?_)
        obtain ⟨h18, h19⟩ := q
        refine bind_i (sf_Top_note (x7 - x5) x6 h15) (fun x8 _ q => ?_)
        obtain ⟨h20, h21⟩ := q
        have hG22 : Gc 0 M x8 := Gc_t hG17 h21
        refine bind_i (sf_Top_note x5 x8 h20) (fun x9 _ q => ?_)
        obtain ⟨h23, h24⟩ := q
        have hG25 : Gc 0 M x9 := Gc_t hG22 h24
        exact ⟨(x4.1, x9), rfl, h23, hG25⟩
    · have c26 := c
      have d27 : (60 : Int) < v1.toInt := nlei.mp c26
      exact ⟨((-1 : Int32), M), rfl, hJ, Gc_r⟩
theorem sl_Top_soonestAtFire_9 (v1 : Int32) (a0_ : Int32) (a1_ : Int32) (a2_ : Int32) (N_ : Mem) (B_ : Mem) (hN : J N_) (hG : Gc 0 B_ N_) (i2_ : (-1 : Int) ≤ a0_.toInt) (i3_ : a0_.toInt ≤ (7 : Int)) (i4_ : a1_.toInt ≤ (1000000 : Int)) (i5_ : (0 : Int) ≤ a2_.toInt) (i6_ : a2_.toInt ≤ (8 : Int)) : ∃ x, iter (lb_Top_soonestAtFire_9 v1) FU (a0_, a1_, a2_, N_) = some x ∧ (fun r : Int32 × Mem => J r.2 ∧ Gc 0 B_ r.2 ∧ (-1 : Int) ≤ r.1.toInt ∧ r.1.toInt ≤ (7 : Int)) x := by
  refine iter_r (fun s : Int32 × Int32 × Int32 × Mem => J s.2.2.2 ∧ Gc 0 B_ s.2.2.2 ∧ (-1 : Int) ≤ s.1.toInt ∧ s.1.toInt ≤ (7 : Int) ∧ s.2.1.toInt ≤ (1000000 : Int) ∧ (0 : Int) ≤ s.2.2.1.toInt ∧ s.2.2.1.toInt ≤ (8 : Int)) (fun s : Int32 × Int32 × Int32 × Mem => (8 - s.2.2.1.toInt).toNat) (fun r : Int32 × Mem => J r.2 ∧ Gc 0 B_ r.2 ∧ (-1 : Int) ≤ r.1.toInt ∧ r.1.toInt ≤ (7 : Int)) ?_ FU (a0_, a1_, a2_, N_) ⟨hN, hG, i2_, i3_, i4_, i5_, i6_⟩ (by show (8 - a2_.toInt).toNat < FU; rw [FU_v]; omega)
  clear i6_ i5_ i4_ i3_ i2_ hG hN
  rintro ⟨a0_', a1_', a2_', N_'⟩ ⟨hN, hG, i2_, i3_, i4_, i5_, i6_⟩
  dsimp only at hN hG i2_ i3_ i4_ i5_ i6_
  unfold lb_Top_soonestAtFire_9
  dsimp only
  refine if_i (fun c => ?_) (fun c => ?_)
  · have c1 := c
    have r2 := Jr_6_4 hN
    have d3 : (N_'.1 6 4).toInt ≤ a2_'.toInt := lei.mp c1
    exact ⟨_, rfl, hN, hG, (show (-1 : Int) ≤ a0_'.toInt by omega), (show a0_'.toInt ≤ (7 : Int) by omega)⟩
  · have c4 := c
    have r5 := Jr_6_4 hN
    have d6 : a2_'.toInt < (N_'.1 6 4).toInt := nlei.mp c4
    refine bind_i (sf_Crowd_woman a2_' N_' hN) (fun x1 _ q => ?_)
    obtain ⟨h7, h8⟩ := q
    refine if_i (fun c => ?_) (fun c => ?_)
    · have c9 := c
      have d10 : x1.toInt = v1.toInt := eqi.mp c9
      refine bind_i (sf_Top_stepsToFire a2_' N_' (⟨show (0 : Int) ≤ a2_'.toInt by omega, show a2_'.toInt ≤ (7 : Int) by omega⟩) hN) (fun x2 _ q => ?_)
      obtain ⟨h11, h12, h13⟩ := q
      have hG14 : Gc 0 B_ x2.2 := Gc_t hG h12
      refine if_i (fun c => ?_) (fun c => ?_)
      · have c15 := c
        have d16 : a1_'.toInt ≤ x2.1.toInt := lei.mp c15
        have q17 : (a2_' + (1 : Int32)).toInt = a2_'.toInt + (1 : Int) := add_ti rfl rfl (by omega) (by omega)
        exact ⟨_, rfl, ⟨h11, hG14, (show (-1 : Int) ≤ a0_'.toInt by omega), (show a0_'.toInt ≤ (7 : Int) by omega), (show a1_'.toInt ≤ (1000000 : Int) by omega), (show (0 : Int) ≤ (a2_' + (1 : Int32)).toInt by omega), (show (a2_' + (1 : Int32)).toInt ≤ (8 : Int) by omega)⟩, show (8 - (a2_' + (1 : Int32)).toInt).toNat < (8 - a2_'.toInt).toNat by omega⟩
      · have c18 := c
        have d19 : x2.1.toInt < a1_'.toInt := nlei.mp c18
        refine bind_i (sf_Top_stepsToFire a2_' x2.2 (⟨show (0 : Int) ≤ a2_'.toInt by omega, show a2_'.toInt ≤ (7 : Int) by omega⟩) h11) (fun x3 _ q => ?_)
        obtain ⟨h20, h21, h22⟩ := q
        have hG23 : Gc 0 B_ x3.2 := Gc_t hG14 h21
        have q24 : (a2_' + (1 : Int32)).toInt = a2_'.toInt + (1 : Int) := add_ti rfl rfl (by omega) (by omega)
        exact ⟨_, rfl, ⟨h20, hG23, (show (-1 : Int) ≤ a2_'.toInt by omega), (show a2_'.toInt ≤ (7 : Int) by omega), (show x3.1.toInt ≤ (1000000 : Int) by omega), (show (0 : Int) ≤ (a2_' + (1 : Int32)).toInt by omega), (show (a2_' + (1 : Int32)).toInt ≤ (8 : Int) by omega)⟩, show (8 - (a2_' + (1 : Int32)).toInt).toNat < (8 - a2_'.toInt).toNat by omega⟩
    · have c25 := c
      have d26 : ¬ x1.toInt = v1.toInt := neqi.mp c25
      have q27 : (a2_' + (1 : Int32)).toInt = a2_'.toInt + (1 : Int) := add_ti rfl rfl (by omega) (by omega)
      exact ⟨_, rfl, ⟨hN, hG, (show (-1 : Int) ≤ a0_'.toInt by omega), (show a0_'.toInt ≤ (7 : Int) by omega), (show a1_'.toInt ≤ (1000000 : Int) by omega), (show (0 : Int) ≤ (a2_' + (1 : Int32)).toInt by omega), (show (a2_' + (1 : Int32)).toInt ≤ (8 : Int) by omega)⟩, show (8 - (a2_' + (1 : Int32)).toInt).toNat < (8 - a2_'.toInt).toNat by omega⟩
theorem sf_Top_soonestAtFire (v1 : Int32) (M : Mem) (hJ : J M) : ∃ r : Int32 × Mem, f_Top_soonestAtFire v1 M = some r ∧ (J r.2 ∧ Gc 0 M r.2 ∧ (-1 : Int) ≤ r.1.toInt ∧ r.1.toInt ≤ (7 : Int)) := by
  unfold f_Top_soonestAtFire
  refine bind_i (sl_Top_soonestAtFire_9 v1 (-1 : Int32) (1000000 : Int32) (0 : Int32) M M hJ Gc_r (show (-1 : Int) ≤ (-1 : Int32).toInt by decide) (show (-1 : Int32).toInt ≤ (7 : Int) by decide) (show (1000000 : Int32).toInt ≤ (1000000 : Int) by decide) (show (0 : Int) ≤ (0 : Int32).toInt by decide) (show (0 : Int32).toInt ≤ (8 : Int) by decide)) (fun x7 _ q => ?_)
  obtain ⟨h1, h2, h3, h4⟩ := q
  exact ⟨(x7.1, x7.2), rfl, h1, h2, (show (-1 : Int) ≤ x7.1.toInt by omega), (show x7.1.toInt ≤ (7 : Int) by omega)⟩
theorem sf_Top_saved (M : Mem) (hJ : J M) : ∃ r : Int32 × Mem, f_Top_saved M = some r ∧ (J r.2 ∧ Gc 0 M r.2 ∧ r.1.toInt ≤ (1000000 : Int)) := by
  unfold f_Top_saved
  refine if_i (fun c => ?_) (fun c => ?_)
  · have c1 := c
    have d2 : (M.1 0 16).toInt = (-1 : Int) := eqi.mp c1
    exact ⟨((-2 : Int32), M), rfl, hJ, Gc_r, (show (-2 : Int32).toInt ≤ (1000000 : Int) by decide)⟩
  · have c3 := c
    have d4 : ¬ (M.1 0 16).toInt = (-1 : Int) := neqi.mp c3
    refine bind_i (sf_Top_soonestAtFire (0 : Int32) M hJ) (fun x1 _ q => ?_)
    obtain ⟨h5, h6, h7, h8⟩ := q
    have hG9 : Gc 0 M x1.2 := Gc_t Gc_r h6
    refine bind_i (sf_Top_soonestAtFire (1 : Int32) x1.2 h5) (fun x2 _ q => ?_)
    obtain ⟨h10, h11, h12, h13⟩ := q
    have hG14 : Gc 0 M x2.2 := Gc_t hG9 h11
    refine if_i (fun c => ?_) (fun c => ?_)
    · have c15 := c
      have d16 : x1.1.toInt = (-1 : Int) := eqi.mp c15
      exact ⟨((-2 : Int32), x2.2), rfl, h10, hG14, (show (-2 : Int32).toInt ≤ (1000000 : Int) by decide)⟩
    · have c17 := c
      have d18 : ¬ x1.1.toInt = (-1 : Int) := neqi.mp c17
      refine if_i (fun c => ?_) (fun c => ?_)
      · have c19 := c
        have d20 : x2.1.toInt = (-1 : Int) := eqi.mp c19
        exact ⟨((-2 : Int32), x2.2), rfl, h10, hG14, (show (-2 : Int32).toInt ≤ (1000000 : Int) by decide)⟩
      · have c21 := c
        have d22 : ¬ x2.1.toInt = (-1 : Int) := neqi.mp c21
        refine bind_i (sf_Top_emptyRow x2.2 h10) (fun x3 _ q => ?_)
        obtain ⟨h23, h24⟩ := q
        have hG25 : Gc 0 M x3 := Gc_t hG14 h24
        refine bind_i (sf_Top_note x1.1 x3 h23) (fun x4 _ q => ?_)
        obtain ⟨h26, h27⟩ := q
        have hG28 : Gc 0 M x4 := Gc_t hG25 h27
        refine bind_i (sf_Top_note x2.1 x4 h26) (fun x5 _ q => ?_)
        obtain ⟨h29, h30⟩ := q
        have hG31 : Gc 0 M x5 := Gc_t hG28 h30
        refine bind_i (sf_Top_stepsToFire x1.1 x5 (⟨show (0 : Int) ≤ x1.1.toInt by omega, show x1.1.toInt ≤ (7 : Int) by omega⟩) h29) (fun x6 _ q => ?_)
        obtain ⟨h32, h33, h34⟩ := q
        have hG35 : Gc 0 M x6.2 := Gc_t hG31 h33
        refine bind_i (sf_Top_stepsToFire x2.1 x6.2 (⟨show (0 : Int) ≤ x2.1.toInt by omega, show x2.1.toInt ≤ (7 : Int) by omega⟩) h32) (fun x7 _ q => ?_)
        obtain ⟨h36, h37, h38⟩ := q
        have hG39 : Gc 0 M x7.2 := Gc_t hG35 h37
        have q40 : (if x6.1 < x7.1 then x7.1 else x6.1).toInt ≤ (1000000 : Int) := by
          by_cases cc : x6.1 < x7.1
          · rw [if_pos cc]
            have d41 : x6.1.toInt < x7.1.toInt := lti.mp cc
            omega
          · rw [if_neg cc]
            have d42 : x7.1.toInt ≤ x6.1.toInt := nlti.mp cc
            omega
        exact ⟨((if x6.1 < x7.1 then x7.1 else x6.1), x7.2), rfl, h36, hG39, (show (if x6.1 < x7.1 then x7.1 else x6.1).toInt ≤ (1000000 : Int) by omega)⟩
theorem sl_Top_wardrobe_71 (v4 : Int32) (a0_ : Int32) (a1_ : Int32) (N_ : Mem) (B_ : Mem) (hp_v4 : v4.toInt ≤ (999999 : Int)) (hN : J N_) (hG : Gc 0 B_ N_) (i2_ : (-1 : Int) ≤ a0_.toInt) (i3_ : a0_.toInt ≤ (179 : Int)) (i4_ : (0 : Int) ≤ a1_.toInt) (i5_ : a1_.toInt ≤ (10 : Int)) : ∃ x, iter (lb_Top_wardrobe_71 v4) FU (a0_, a1_, N_) = some x ∧ (fun r : Mem => J r ∧ Gc 0 B_ r) x := by
  refine iter_r (fun s : Int32 × Int32 × Mem => J s.2.2 ∧ Gc 0 B_ s.2.2 ∧ (-1 : Int) ≤ s.1.toInt ∧ s.1.toInt ≤ (179 : Int) ∧ (0 : Int) ≤ s.2.1.toInt ∧ s.2.1.toInt ≤ (10 : Int)) (fun s : Int32 × Int32 × Mem => (10 - s.2.1.toInt).toNat) (fun r : Mem => J r ∧ Gc 0 B_ r) ?_ FU (a0_, a1_, N_) ⟨hN, hG, i2_, i3_, i4_, i5_⟩ (by show (10 - a1_.toInt).toNat < FU; rw [FU_v]; omega)
  clear i5_ i4_ i3_ i2_ hG hN
  rintro ⟨a0_', a1_', N_'⟩ ⟨hN, hG, i2_, i3_, i4_, i5_⟩
  dsimp only at hN hG i2_ i3_ i4_ i5_
  unfold lb_Top_wardrobe_71
  dsimp only
  refine if_i (fun c => ?_) (fun c => ?_)
  · have c1 := c
    have d2 : v4.toInt ≤ a1_'.toInt := lei.mp c1
    exact ⟨_, rfl, hN, hG⟩
  · have c3 := c
    have d4 : a1_'.toInt < v4.toInt := nlei.mp c3
    refine if_i (fun c => ?_) (fun c => ?_)
    · have c5 := c
      have d6 : (10 : Int) ≤ a1_'.toInt := lei.mp c5
      exact ⟨_, rfl, hN, hG⟩
    · have c7 := c
      have d8 : a1_'.toInt < (10 : Int) := nlei.mp c7
      refine if_i (fun c => ?_) (fun c => ?_)
      · have c9 := c
        have d10 : a0_'.toInt = (-1 : Int) := eqi.mp c9
        exact ⟨_, rfl, hN, hG⟩
      · have c11 := c
        have d12 : ¬ a0_'.toInt = (-1 : Int) := neqi.mp c11
        refine bind_i (sf_Ways_pairNearer a0_' N_' (⟨show (0 : Int) ≤ a0_'.toInt by omega, show a0_'.toInt ≤ (179 : Int) by omega⟩) hN) (fun x5 _ q => ?_)
        obtain ⟨h13, h14⟩ := q
        refine bind_i (sf_Top_note (((x5 / (5 : Int32)) * (10 : Int32)) + (x5 - ((x5 / (5 : Int32)) * (5 : Int32)))) N_' hN) (fun x6 _ q => ?_)
        obtain ⟨h15, h16⟩ := q
        have hG17 : Gc 0 B_ x6 := Gc_t hG h16
        refine bind_i (sf_Ways_pairAfter a0_' x5 x6 (⟨show (0 : Int) ≤ a0_'.toInt by omega, show a0_'.toInt ≤ (179 : Int) by omega⟩) (⟨show (-1 : Int) ≤ x5.toInt by omega, show x5.toInt ≤ (24 : Int) by omega⟩) h15) (fun x7 _ q => ?_)
        obtain ⟨h18, h19⟩ := q
        have q20 : (a1_' + (1 : Int32)).toInt = a1_'.toInt + (1 : Int) := add_ti rfl rfl (by omega) (by omega)
        exact ⟨_, rfl, ⟨h15, hG17, (show (-1 : Int) ≤ x7.toInt by omega), (show x7.toInt ≤ (179 : Int) by omega), (show (0 : Int) ≤ (a1_' + (1 : Int32)).toInt by omega), (show (a1_' + (1 : Int32)).toInt ≤ (10 : Int) by omega)⟩, show (10 - (a1_' + (1 : Int32)).toInt).toNat < (10 - a1_'.toInt).toNat by omega⟩
theorem sf_Top_wardrobe (v1 : Int32) (v2 : Int32) (M : Mem) (hJ : J M) : ∃ r : Int32 × Mem, f_Top_wardrobe v1 v2 M = some r ∧ (J r.2 ∧ Gc 0 M r.2 ∧ r.1.toInt ≤ (999999 : Int)) := by
  unfold f_Top_wardrobe
  refine bind_i (sf_Ground_isStair v1 M hJ) (fun x1 _ q => ?_)
  obtain ⟨h1, h2, h3⟩ := q
  refine if_i (fun c => ?_) (fun c => ?_)
  · have c4 := c
    have d5 : x1.toInt = (0 : Int) := eqi.mp c4
    exact ⟨((-1 : Int32), M), rfl, hJ, Gc_r, (show (-1 : Int32).toInt ≤ (999999 : Int) by decide)⟩
  · have c6 := c
    have d7 : ¬ x1.toInt = (0 : Int) := neqi.mp c6
    refine bind_i (sf_Ground_isStair v2 M hJ) (fun x2 _ q => ?_)
    obtain ⟨h8, h9, h10⟩ := q
    refine if_i (fun c => ?_) (fun c => ?_)
    · have c11 := c
      have d12 : x2.toInt = (0 : Int) := eqi.mp c11
      exact ⟨((-1 : Int32), M), rfl, hJ, Gc_r, (show (-1 : Int32).toInt ≤ (999999 : Int) by decide)⟩
    · have c13 := c
      have d14 : ¬ x2.toInt = (0 : Int) := neqi.mp c13
      refine bind_i (sf_Ways_measurePairs v2 M (⟨show (0 : Int) ≤ v2.toInt by omega, show v2.toInt ≤ (35 : Int) by omega⟩) hJ) (fun x3 _ q => ?_)
      obtain ⟨h15, h16⟩ := q
      have hG17 : Gc 0 M x3 := Gc_t Gc_r h16
      have q18 : (v1 * (5 : Int32)).toInt = v1.toInt * (5 : Int) := mul_ti rfl rfl (by omega) (by omega)
      have q19 : ((v1 * (5 : Int32)) + (4 : Int32)).toInt = (v1 * (5 : Int32)).toInt + (4 : Int) := add_ti rfl rfl (by omega) (by omega)
      refine inb_i (by omega) (by omega) ?_
      refine if_i (fun c => ?_) (fun c => ?_)
      · have c20 := c
        have d21 : (x3.1 159 ((v1 * (5 : Int32)) + (4 : Int32)).toNatClampNeg).toInt < (1000000 : Int) := lti.mp c20
        refine bind_i (sf_Top_emptyRow x3 h15) (fun x4 _ q => ?_)
        obtain ⟨h22, h23⟩ := q
        have hG24 : Gc 0 M x4 := Gc_t hG17 h23
        refine bind_i (sl_Top_wardrobe_71 (x3.1 159 ((v1 * (5 : Int32)) + (4 : Int32)).toNatClampNeg) ((v1 * (5 : Int32)) + (4 : Int32)) (0 : Int32) x4 M (show (x3.1 159 ((v1 * (5 : Int32)) + (4 : Int32)).toNatClampNeg).toInt ≤ (999999 : Int) by omega) h22 hG24 (show (-1 : Int) ≤ ((v1 * (5 : Int32)) + (4 : Int32)).toInt by omega) (show ((v1 * (5 : Int32)) + (4 : Int32)).toInt ≤ (179 : Int) by omega) (show (0 : Int) ≤ (0 : Int32).toInt by decide) (show (0 : Int32).toInt ≤ (10 : Int) by decide)) (fun x11 _ q => ?_)
        obtain ⟨h25, h26⟩ := q
        exact ⟨((x3.1 159 ((v1 * (5 : Int32)) + (4 : Int32)).toNatClampNeg), x11), rfl, h25, h26, (show (x3.1 159 ((v1 * (5 : Int32)) + (4 : Int32)).toNatClampNeg).toInt ≤ (999999 : Int) by omega)⟩
      · have c27 := c
        have d28 : (1000000 : Int) ≤ (x3.1 159 ((v1 * (5 : Int32)) + (4 : Int32)).toNatClampNeg).toInt := nlti.mp c27
        exact ⟨((-2 : Int32), x3), rfl, h15, hG17, (show (-2 : Int32).toInt ≤ (999999 : Int) by decide)⟩
theorem sf_Top_hunt (M : Mem) (hJ : J M) : ∃ r : Mem, f_Top_hunt M = some r ∧ (J r ∧ Gc 0 M r) := by
  unfold f_Top_hunt
  refine bind_i (sf_Clock_pass 25 32 M kd_25 kd_32 hJ) (fun x1 _ q => ?_)
  obtain ⟨h1, h2⟩ := q
  have hG3 : Gc 0 M x1 := Gc_t Gc_r h2
  refine bind_i (sf_Thief_stir 32 x1 kd_32 h1) (fun x2 _ q => ?_)
  obtain ⟨h4, h5⟩ := q
  have hG6 : Gc 0 M x2 := Gc_t hG3 h5
  refine bind_i (sf_Scene_occupied 25 (0 : Int32) (x2.1 6 4) x2 kd_25 h4) (fun x3 _ q => ?_)
  refine bind_i (sf_Scene_occupied 25 (1 : Int32) (x2.1 6 4) x2 kd_25 h4) (fun x4 _ q => ?_)
  refine bind_i (sf_Thief_record (0 : Int32) x3 x4 x2 h4) (fun x5 _ q => ?_)
  obtain ⟨h7, h8⟩ := q
  have hG9 : Gc 0 M x5 := Gc_t hG6 h8
  refine bind_i (sf_Thief_strike (0 : Int32) x5 h7) (fun x6 _ q => ?_)
  obtain ⟨h10, h11⟩ := q
  have hG12 : Gc 0 M x6 := Gc_t hG9 h11
  exact ⟨x6, rfl, h10, hG12⟩
end
