/-! safety of the class, 15 -/
theorem sf_Top_womenBelow (M : Mem) (hJ : J M) : ∃ r : Int32, f_Top_womenBelow M = some r ∧ (True) := by
  unfold f_Top_womenBelow
  refine bind_i (sl_Top_womenBelow_4 M (0 : Int32) (0 : Int32) hJ (show (0 : Int) ≤ (0 : Int32).toInt by decide) (show (0 : Int32).toInt ≤ (8 : Int) by decide)) (fun x5 _ q => ?_)
  exact ⟨x5, rfl, trivial⟩
theorem sf_Top_feast (v1 : Int32) (M : Mem) (hJ : J M) : ∃ r : Int32 × Mem, f_Top_feast v1 M = some r ∧ (J r.2) := by
  unfold f_Top_feast
  refine bind_i (sf_Scene_copy 18 11 M kd_18 kd_11 hJ) (fun x1 _ q => ?_)
  obtain ⟨h1, h2⟩ := q
  refine if_i (fun c => ?_) (fun c => ?_)
  · have c3 := c
    have d4 : v1.toInt < (0 : Int) := lti.mp c3
    exact ⟨((-1 : Int32), x1), rfl, h1⟩
  · have c5 := c
    have d6 : (0 : Int) ≤ v1.toInt := nlti.mp c5
    refine if_i (fun c => ?_) (fun c => ?_)
    · have c7 := c
      have d8 : (1 : Int) < v1.toInt := lti.mp c7
      exact ⟨((-1 : Int32), x1), rfl, h1⟩
    · have c9 := c
      have d10 : v1.toInt ≤ (1 : Int) := nlti.mp c9
      refine bind_i (sf_Top_celebrate v1 x1 h1) (fun x2 _ q => ?_)
      obtain ⟨h11, h12, h13⟩ := q
      refine if_i (fun c => ?_) (fun c => ?_)
      · have c14 := c
        have d15 : x2.1.toInt = (0 : Int) := eqi.mp c14
        exact ⟨((-1 : Int32), x2.2), rfl, h11⟩
      · have c16 := c
        have d17 : ¬ x2.1.toInt = (0 : Int) := neqi.mp c16
        refine bind_i (sf_History_add 18 x2.2 kd_18 h11) (fun x3 _ q => ?_)
        have h18 := q
        refine bind_i (sf_Top_womenBelow x3 h18) (fun x4 _ q => ?_)
        exact ⟨(x4, x3), rfl, h18⟩
theorem sf_Top_emptyRow (M : Mem) (hJ : J M) : ∃ r : Mem, f_Top_emptyRow M = some r ∧ (J r) := by
  unfold f_Top_emptyRow
  refine mem_i (fun M1 e2 => ?_)
  have hJ3 : J M1 := by rw [e2]; exact Jw_any ok_0 hJ 15 (0 : Int32)
  have f4 : (M1.1 0 15).toInt = (0 : Int) := by rw [e2, si_eq]; rfl
  clear e2
  exact ⟨M1, rfl, hJ3⟩
theorem sf_Top_note (v1 : Int32) (M : Mem) (hJ : J M) : ∃ r : Mem, f_Top_note v1 M = some r ∧ (J r) := by
  unfold f_Top_note
  refine if_i (fun c => ?_) (fun c => ?_)
  · have c1 := c
    have d2 : (M.1 0 15).toInt < (0 : Int) := lti.mp c1
    exact ⟨M, rfl, hJ⟩
  · have c3 := c
    have d4 : (0 : Int) ≤ (M.1 0 15).toInt := nlti.mp c3
    refine if_i (fun c => ?_) (fun c => ?_)
    · have c5 := c
      have d6 : (10 : Int) ≤ (M.1 0 15).toInt := lei.mp c5
      exact ⟨M, rfl, hJ⟩
    · have c7 := c
      have d8 : (M.1 0 15).toInt < (10 : Int) := nlei.mp c7
      refine inb_i (by omega) (by omega) ?_
      refine mem_i (fun M1 e10 => ?_)
      have hJ11 : J M1 := by rw [e10]; exact Jw_any ok_161 hJ (M.1 0 15).toNatClampNeg v1
      have f12 : (M1.1 0 15).toInt = (M.1 0 15).toInt := by rw [e10]; rw [si_ne (by exact fun e => absurd e.1 (by decide))]
      clear e10
      refine mem_i (fun M2 e14 => ?_)
      have hJ15 : J M2 := by rw [e14]; exact Jw_any ok_0 hJ11 15 ((M1.1 0 15) + (1 : Int32))
      have q16 : ((M1.1 0 15) + (1 : Int32)).toInt = (M1.1 0 15).toInt + (1 : Int) := add_ti rfl rfl (by omega) (by omega)
      have f17 : (M2.1 0 15).toInt = ((M1.1 0 15) + (1 : Int32)).toInt := by rw [e14, si_eq]
      clear e14
      exact ⟨M2, rfl, hJ15⟩
theorem sf_Top_minute (M : Mem) (hJ : J M) : ∃ r : Int32 × Mem, f_Top_minute M = some r ∧ (J r.2) := by
  unfold f_Top_minute
  refine bind_i (sf_Scene_copy 18 11 M kd_18 kd_11 hJ) (fun x1 _ q => ?_)
  obtain ⟨h1, h2⟩ := q
  refine bind_i (sf_Clock_pass 11 32 x1 kd_11 kd_32 h1) (fun x2 _ q => ?_)
  have h3 := q
  refine bind_i (sf_History_add 18 x2 kd_18 h3) (fun x3 _ q => ?_)
  have h4 := q
  refine bind_i (sf_Top_emptyRow x3 h4) (fun x4 _ q => ?_)
  have h5 := q
  refine bind_i (sf_Top_note (x4.1 45 0) x4 h5) (fun x5 _ q => ?_)
  have h6 := q
  refine bind_i (sf_Top_note (x5.1 45 1) x5 h6) (fun x6 _ q => ?_)
  have h7 := q
  exact ⟨((x6.1 45 2), x6), rfl, h7⟩
theorem sl_Top_minutes_32 (v1 : Int32) (a0_ : Int32) (N_ : Mem) (hp_v1 : (0 : Int) ≤ v1.toInt ∧ v1.toInt ≤ (60 : Int)) (hN : J N_) (i1_ : (0 : Int) ≤ a0_.toInt) (i2_ : a0_.toInt ≤ (60 : Int)) : ∃ x, iter (lb_Top_minutes_32 v1) FU (a0_, N_) = some x ∧ (fun r : Mem => J r) x := by
  refine iter_r (fun s : Int32 × Mem => J s.2 ∧ (0 : Int) ≤ s.1.toInt ∧ s.1.toInt ≤ (60 : Int)) (fun s : Int32 × Mem => (60 - s.1.toInt).toNat) (fun r : Mem => J r) ?_ FU (a0_, N_) ⟨hN, i1_, i2_⟩ (by show (60 - a0_.toInt).toNat < FU; rw [FU_v]; omega)
  clear i2_ i1_ hN
  rintro ⟨a0_', N_'⟩ ⟨hN, i1_, i2_⟩
  dsimp only at hN i1_ i2_
  unfold lb_Top_minutes_32
  dsimp only
  refine if_i (fun c => ?_) (fun c => ?_)
  · have c1 := c
    have d2 : v1.toInt ≤ a0_'.toInt := lei.mp c1
    exact ⟨_, rfl, hN⟩
  · have c3 := c
    have d4 : a0_'.toInt < v1.toInt := nlei.mp c3
    refine bind_i (sf_Clock_pass 11 32 N_' kd_11 kd_32 hN) (fun x3 _ q => ?_)
    have h5 := q
    have q6 : (a0_' + (1 : Int32)).toInt = a0_'.toInt + (1 : Int) := add_ti rfl rfl (by omega) (by omega)
    exact ⟨_, rfl, ⟨h5, (show (0 : Int) ≤ (a0_' + (1 : Int32)).toInt by omega), (show (a0_' + (1 : Int32)).toInt ≤ (60 : Int) by omega)⟩, show (60 - (a0_' + (1 : Int32)).toInt).toNat < (60 - a0_'.toInt).toNat by omega⟩
theorem sf_Top_minutes (v1 : Int32) (M : Mem) (hJ : J M) : ∃ r : Int32 × Mem, f_Top_minutes v1 M = some r ∧ (J r.2) := by
  unfold f_Top_minutes
  refine if_i (fun c => ?_) (fun c => ?_)
  · have c1 := c
    have d2 : v1.toInt < (0 : Int) := lti.mp c1
    exact ⟨((-1 : Int32), M), rfl, hJ⟩
  · have c3 := c
    have d4 : (0 : Int) ≤ v1.toInt := nlti.mp c3
    refine if_i (fun c => ?_) (fun c => ?_)
    · have c5 := c
      have d6 : v1.toInt ≤ (60 : Int) := lei.mp c5
      refine bind_i (sf_Scene_copy 18 11 M kd_18 kd_11 hJ) (fun x1 _ q => ?_)
      obtain ⟨h7, h8⟩ := q
      refine bind_i (sf_Clock_reset x1 h7) (fun x2 _ q => ?_)
      have h9 := q
      refine bind_i (sl_Top_minutes_32 v1 (0 : Int32) x2 (⟨show (0 : Int) ≤ v1.toInt by omega, show v1.toInt ≤ (60 : Int) by omega⟩) h9 (show (0 : Int) ≤ (0 : Int32).toInt by decide) (show (0 : Int32).toInt ≤ (60 : Int) by decide)) (fun x5 _ q => ?_)
      have h10 := q
      refine if_i (fun c => ?_) (fun c => ?_)
      · have c11 := c
        have d12 : v1.toInt ≤ (0 : Int) := lei.mp c11
        unfold j_Top_minutes_85
        refine bind_i (sf_Top_emptyRow x5 h10) (fun x6 _ q => ?_)
        have h13 := q
        refine bind_i (sf_Top_note (x6.1 45 3) x6 h13) (fun x7 _ q => ?_)
        have h14 := q
        refine bind_i (sf_Top_note (x7.1 11 8) x7 h14) (fun x8 _ q => ?_)
        have h15 := q
        exact ⟨((x8.1 45 4), x8), rfl, h15⟩
      · have c16 := c
        have d17 : (0 : Int) < v1.toInt := nlei.mp c16
        refine bind_i (sf_History_add 18 x5 kd_18 h10) (fun x9 _ q => ?_)
        have h18 := q
        unfold j_Top_minutes_85
        refine bind_i (sf_Top_emptyRow x9 h18) (fun x6 _ q => ?_)
        have h19 := q
        refine bind_i (sf_Top_note (x6.1 45 3) x6 h19) (fun x7 _ q => ?_)
        have h20 := q
        refine bind_i (sf_Top_note (x7.1 11 8) x7 h20) (fun x8 _ q => ?_)
        have h21 := q
        exact ⟨((x8.1 45 4), x8), rfl, h21⟩
    · have c22 := c
      have d23 : (60 : Int) < v1.toInt := nlei.mp c22
      exact ⟨((-1 : Int32), M), rfl, hJ⟩
theorem sl_Top_lasts_10 (v1 : Int32) (a0_ : Int32) (N_ : Mem) (hp_v1 : v1.toInt ≤ (60 : Int)) (hN : J N_) (i1_ : (0 : Int) ≤ a0_.toInt) (i2_ : a0_.toInt ≤ (60 : Int)) : ∃ x, iter (lb_Top_lasts_10 v1) FU (a0_, N_) = some x ∧ (fun r : Mem => J r) x := by
  refine iter_r (fun s : Int32 × Mem => J s.2 ∧ (0 : Int) ≤ s.1.toInt ∧ s.1.toInt ≤ (60 : Int)) (fun s : Int32 × Mem => (60 - s.1.toInt).toNat) (fun r : Mem => J r) ?_ FU (a0_, N_) ⟨hN, i1_, i2_⟩ (by show (60 - a0_.toInt).toNat < FU; rw [FU_v]; omega)
  clear i2_ i1_ hN
  rintro ⟨a0_', N_'⟩ ⟨hN, i1_, i2_⟩
  dsimp only at hN i1_ i2_
  unfold lb_Top_lasts_10
  dsimp only
  refine if_i (fun c => ?_) (fun c => ?_)
  · have c1 := c
    have d2 : v1.toInt ≤ a0_'.toInt := lei.mp c1
    exact ⟨_, rfl, hN⟩
  · have c3 := c
    have d4 : a0_'.toInt < v1.toInt := nlei.mp c3
    refine bind_i (sf_Clock_pass 11 32 N_' kd_11 kd_32 hN) (fun x1 _ q => ?_)
    have h5 := q
    have q6 : (a0_' + (1 : Int32)).toInt = a0_'.toInt + (1 : Int) := add_ti rfl rfl (by omega) (by omega)
    exact ⟨_, rfl, ⟨h5, (show (0 : Int) ≤ (a0_' + (1 : Int32)).toInt by omega), (show (a0_' + (1 : Int32)).toInt ≤ (60 : Int) by omega)⟩, show (60 - (a0_' + (1 : Int32)).toInt).toNat < (60 - a0_'.toInt).toNat by omega⟩
theorem sf_Top_lasts (v1 : Int32) (M : Mem) (hJ : J M) : ∃ r : Int32 × Mem, f_Top_lasts v1 M = some r ∧ (J r.2 ∧ (0 : Int) ≤ r.1.toInt ∧ r.1.toInt ≤ (1 : Int)) := by
  unfold f_Top_lasts
  refine if_i (fun c => ?_) (fun c => ?_)
  · have c1 := c
    have d2 : v1.toInt ≤ (60 : Int) := lei.mp c1
    refine bind_i (sl_Top_lasts_10 v1 (0 : Int32) M (show v1.toInt ≤ (60 : Int) by omega) hJ (show (0 : Int) ≤ (0 : Int32).toInt by decide) (show (0 : Int32).toInt ≤ (60 : Int) by decide)) (fun x3 _ q => ?_)
    have h3 := q
    exact ⟨((1 : Int32), x3), rfl, h3, (show (0 : Int) ≤ (1 : Int32).toInt by decide), (show (1 : Int32).toInt ≤ (1 : Int) by decide)⟩
  · have c4 := c
    have d5 : (60 : Int) < v1.toInt := nlei.mp c4
    exact ⟨((0 : Int32), M), rfl, hJ, (show (0 : Int) ≤ (0 : Int32).toInt by decide), (show (0 : Int32).toInt ≤ (1 : Int) by decide)⟩
theorem sf_Top_does (v1 : Int32) (M : Mem) (hJ : J M) : ∃ r : Int32 × Mem, f_Top_does v1 M = some r ∧ (J r.2 ∧ (0 : Int) ≤ r.1.toInt ∧ r.1.toInt ≤ (1 : Int)) := by
  unfold f_Top_does
  refine if_i (fun c => ?_) (fun c => ?_)
  · have c1 := c
    have d2 : v1.toInt < (0 : Int) := lti.mp c1
    exact ⟨((0 : Int32), M), rfl, hJ, (show (0 : Int) ≤ (0 : Int32).toInt by decide), (show (0 : Int32).toInt ≤ (1 : Int) by decide)⟩
  · have c3 := c
    have d4 : (0 : Int) ≤ v1.toInt := nlti.mp c3
    refine if_i (fun c => ?_) (fun c => ?_)
    · have c5 := c
      have d6 : v1.toInt < (32 : Int) := lti.mp c5
      refine inb_i (by omega) (by omega) ?_
      refine if_i (fun c => ?_) (fun c => ?_)
      · have c7 := c
        have d8 : (M.1 148 v1.toNatClampNeg).toInt = (102 : Int) := eqi.mp c7
        refine bind_i (sf_Top_celebrate ((1 : Int32) - (M.1 11 9)) M hJ) (fun x1 _ q => ?_)
        obtain ⟨h9, h10, h11⟩ := q
        refine c_i (bool_of (by omega) (by omega)) ?_
        exact ⟨(x1.1, x1.2), rfl, h9, (show (0 : Int) ≤ x1.1.toInt by omega), (show x1.1.toInt ≤ (1 : Int) by omega)⟩
      · have c12 := c
        have d13 : ¬ (M.1 148 v1.toNatClampNeg).toInt = (102 : Int) := neqi.mp c12
        refine if_i (fun c => ?_) (fun c => ?_)
        · have c14 := c
          have d15 : (M.1 148 v1.toNatClampNeg).toInt = (109 : Int) := eqi.mp c14
          refine inb_i (by omega) (by omega) ?_
          refine bind_i (sf_Top_lasts (M.1 149 v1.toNatClampNeg) M hJ) (fun x3 _ q => ?_)
          obtain ⟨h16, h17, h18⟩ := q
          refine c_i (bool_of (by omega) (by omega)) ?_
          exact ⟨(x3.1, x3.2), rfl, h16, (show (0 : Int) ≤ x3.1.toInt by omega), (show x3.1.toInt ≤ (1 : Int) by omega)⟩
        · have c19 := c
          have d20 : ¬ (M.1 148 v1.toNatClampNeg).toInt = (109 : Int) := neqi.mp c19
          refine if_i (fun c => ?_) (fun c => ?_)
          · have c21 := c
            have d22 : (M.1 148 v1.toNatClampNeg).toInt = (110 : Int) := eqi.mp c21
            refine inb_i (by omega) (by omega) ?_
            refine bind_i (sf_Top_give (M.1 149 v1.toNatClampNeg) M hJ) (fun x5 _ q => ?_)
            obtain ⟨h23, h24, h25⟩ := q
            refine c_i (bool_of (by omega) (by omega)) ?_
            exact ⟨(x5.1, x5.2), rfl, h23, (show (0 : Int) ≤ x5.1.toInt by omega), (show x5.1.toInt ≤ (1 : Int) by omega)⟩
          · have c26 := c
            have d27 : ¬ (M.1 148 v1.toNatClampNeg).toInt = (110 : Int) := neqi.mp c26
            refine if_i (fun c => ?_) (fun c => ?_)
            · have c28 := c
              have d29 : (M.1 148 v1.toNatClampNeg).toInt = (112 : Int) := eqi.mp c28
              refine inb_i (by omega) (by omega) ?_
              refine inb_i (by omega) (by omega) ?_
              refine bind_i (sf_Top_lay (M.1 149 v1.toNatClampNeg) (M.1 150 v1.toNatClampNeg) M hJ) (fun x7 _ q => ?_)
              have h30 := q
              refine if_i (fun c => ?_) (fun c => ?_)
              · have c31 := c
                have d32 : x7.1.toInt < (0 : Int) := lti.mp c31
                exact ⟨((0 : Int32), x7.2), rfl, h30, (show (0 : Int) ≤ (0 : Int32).toInt by decide), (show (0 : Int32).toInt ≤ (1 : Int) by decide)⟩
              · have c33 := c
                have d34 : (0 : Int) ≤ x7.1.toInt := nlti.mp c33
                exact ⟨((1 : Int32), x7.2), rfl, h30, (show (0 : Int) ≤ (1 : Int32).toInt by decide), (show (1 : Int32).toInt ≤ (1 : Int) by decide)⟩
            · have c35 := c
              have d36 : ¬ (M.1 148 v1.toNatClampNeg).toInt = (112 : Int) := neqi.mp c35
              refine if_i (fun c => ?_) (fun c => ?_)
              · have c37 := c
                have d38 : (M.1 148 v1.toNatClampNeg).toInt = (120 : Int) := eqi.mp c37
                refine bind_i (sf_Top_lift M hJ) (fun x10 _ q => ?_)
                obtain ⟨h39, h40, h41⟩ := q
                refine c_i (bool_of (by omega) (by omega)) ?_
                exact ⟨(x10.1, x10.2), rfl, h39, (show (0 : Int) ≤ x10.1.toInt by omega), (show x10.1.toInt ≤ (1 : Int) by omega)⟩
              · have c42 := c
                have d43 : ¬ (M.1 148 v1.toNatClampNeg).toInt = (120 : Int) := neqi.mp c42
                exact ⟨((0 : Int32), M), rfl, hJ, (show (0 : Int) ≤ (0 : Int32).toInt by decide), (show (0 : Int32).toInt ≤ (1 : Int) by decide)⟩
    · have c44 := c
      have d45 : (32 : Int) ≤ v1.toInt := nlti.mp c44
      exact ⟨((0 : Int32), M), rfl, hJ, (show (0 : Int) ≤ (0 : Int32).toInt by decide), (show (0 : Int32).toInt ≤ (1 : Int) by decide)⟩
theorem sl_Top_evening_48 (v1 : Int32) (a0_ : Int32) (a1_ : Int32) (N_ : Mem) (hp_v1 : (0 : Int) ≤ v1.toInt ∧ v1.toInt ≤ (32 : Int)) (hN : J N_) (i1_ : (0 : Int) ≤ a0_.toInt) (i2_ : a0_.toInt ≤ (32 : Int)) (i3_ : (0 : Int) ≤ a1_.toInt) (i4_ : a1_.toInt ≤ (32 : Int)) : ∃ x, iter (lb_Top_evening_48 v1) FU (a0_, a1_, N_) = some x ∧ (fun r : Int32 × Mem => J r.2 ∧ (0 : Int) ≤ r.1.toInt ∧ r.1.toInt ≤ (32 : Int)) x := by
  refine iter_r (fun s : Int32 × Int32 × Mem => J s.2.2 ∧ (0 : Int) ≤ s.1.toInt ∧ s.1.toInt ≤ (32 : Int) ∧ (0 : Int) ≤ s.2.1.toInt ∧ s.2.1.toInt ≤ (32 : Int)) (fun s : Int32 × Int32 × Mem => (32 - s.2.1.toInt).toNat) (fun r : Int32 × Mem => J r.2 ∧ (0 : Int) ≤ r.1.toInt ∧ r.1.toInt ≤ (32 : Int)) ?_ FU (a0_, a1_, N_) ⟨hN, i1_, i2_, i3_, i4_⟩ (by show (32 - a1_.toInt).toNat < FU; rw [FU_v]; omega)
  clear i4_ i3_ i2_ i1_ hN
  rintro ⟨a0_', a1_', N_'⟩ ⟨hN, i1_, i2_, i3_, i4_⟩
  dsimp only at hN i1_ i2_ i3_ i4_
  unfold lb_Top_evening_48
  dsimp only
  refine if_i (fun c => ?_) (fun c => ?_)
  · have c1 := c
    have d2 : v1.toInt ≤ a1_'.toInt := lei.mp c1
    exact ⟨_, rfl, hN, (show (0 : Int) ≤ a0_'.toInt by omega), (show a0_'.toInt ≤ (32 : Int) by omega)⟩
  · have c3 := c
    have d4 : a1_'.toInt < v1.toInt := nlei.mp c3
    refine if_i (fun c => ?_) (fun c => ?_)
    · have c5 := c
      have d6 : a0_'.toInt = a1_'.toInt := eqi.mp c5
      refine bind_i (sf_Top_does a1_' N_' hN) (fun x5 _ q => ?_)
      obtain ⟨h7, h8, h9⟩ := q
      refine if_i (fun c => ?_) (fun c => ?_)
      · have c10 := c
        have d11 : x5.1.toInt = (0 : Int) := eqi.mp c10
        have q12 : (a1_' + (1 : Int32)).toInt = a1_'.toInt + (1 : Int) := add_ti rfl rfl (by omega) (by omega)
        exact ⟨_, rfl, ⟨h7, (show (0 : Int) ≤ a0_'.toInt by omega), (show a0_'.toInt ≤ (32 : Int) by omega), (show (0 : Int) ≤ (a1_' + (1 : Int32)).toInt by omega), (show (a1_' + (1 : Int32)).toInt ≤ (32 : Int) by omega)⟩, show (32 - (a1_' + (1 : Int32)).toInt).toNat < (32 - a1_'.toInt).toNat by omega⟩
      · have c13 := c
        have d14 : ¬ x5.1.toInt = (0 : Int) := neqi.mp c13
        have q15 : (a0_' + (1 : Int32)).toInt = a0_'.toInt + (1 : Int) := add_ti rfl rfl (by omega) (by omega)
        have q16 : (a1_' + (1 : Int32)).toInt = a1_'.toInt + (1 : Int) := add_ti rfl rfl (by omega) (by omega)
        exact ⟨_, rfl, ⟨h7, (show (0 : Int) ≤ (a0_' + (1 : Int32)).toInt by omega), (show (a0_' + (1 : Int32)).toInt ≤ (32 : Int) by omega), (show (0 : Int) ≤ (a1_' + (1 : Int32)).toInt by omega), (show (a1_' + (1 : Int32)).toInt ≤ (32 : Int) by omega)⟩, show (32 - (a1_' + (1 : Int32)).toInt).toNat < (32 - a1_'.toInt).toNat by omega⟩
    · have c17 := c
      have d18 : ¬ a0_'.toInt = a1_'.toInt := neqi.mp c17
      exact ⟨_, rfl, hN, (show (0 : Int) ≤ a0_'.toInt by omega), (show a0_'.toInt ≤ (32 : Int) by omega)⟩
theorem sf_Top_evening (M : Mem) (hJ : J M) : ∃ r : Int32 × Mem, f_Top_evening M = some r ∧ (J r.2 ∧ r.1.toInt ≤ (32 : Int)) := by
  unfold f_Top_evening
  refine bind_i (sf_Acts_read M hJ) (fun x1 _ q => ?_)
  obtain ⟨h1, h2⟩ := q
  refine mem_i (fun M2 e4 => ?_)
  have hJ5 : J M2 := by rw [e4]; exact Jw_1_1 h1 (0 : Int32) (show (0 : Int) ≤ (0 : Int32).toInt by decide) (show (0 : Int32).toInt ≤ (80 : Int) by decide)
  have f6 : (M2.1 1 1).toInt = (0 : Int) := by rw [e4, si_eq]; rfl
  clear e4
  refine if_i (fun c => ?_) (fun c => ?_)
  · have c7 := c
    have d8 : (0 : Int) ≤ x1.1.toInt := lei.mp c7
    refine bind_i (sf_Scene_copy 18 11 M2 kd_18 kd_11 hJ5) (fun x3 _ q => ?_)
    obtain ⟨h9, h10⟩ := q
    refine bind_i (sf_Clock_reset x3 h9) (fun x4 _ q => ?_)
    have h11 := q
    refine bind_i (sl_Top_evening_48 x1.1 (0 : Int32) (0 : Int32) x4 (⟨show (0 : Int) ≤ x1.1.toInt by omega, show x1.1.toInt ≤ (32 : Int) by omega⟩) h11 (show (0 : Int) ≤ (0 : Int32).toInt by decide) (show (0 : Int32).toInt ≤ (32 : Int) by decide) (show (0 : Int) ≤ (0 : Int32).toInt by decide) (show (0 : Int32).toInt ≤ (32 : Int) by decide)) (fun x9 _ q => ?_)
    obtain ⟨h12, h13, h14⟩ := q
    unfold j_Top_evening_75
    refine if_i (fun c => ?_) (fun c => ?_)
    · have c15 := c
      have d16 : x9.1.toInt ≤ (0 : Int) := lei.mp c15
      unfold j_Top_evening_90
      refine bind_i (sf_Top_emptyRow x9.2 h12) (fun x10 _ q => ?_)
      have h17 := q
      refine if_i (fun c => ?_) (fun c => ?_)
      · have c18 := c
        have d19 : x1.1.toInt ≤ x9.1.toInt := lei.mp c18
        unfold j_Top_evening_105
        refine bind_i (sf_Top_note (0 : Int32) x10 h17) (fun x11 _ q => ?_)
        have h20 := q
        refine bind_i (sf_Top_note (x11.1 45 4) x11 h20) (fun x12 _ q => ?_)
        have h21 := q
        exact ⟨(x9.1, x12), rfl, h21, (show x9.1.toInt ≤ (32 : Int) by omega)⟩
      · have c22 := c
        have d23 : x9.1.toInt < x1.1.toInt := nlei.mp c22
        unfold j_Top_evening_105
        refine bind_i (sf_Top_note (1 : Int32) x10 h17) (fun x11 _ q => ?_)
        have h24 := q
        refine bind_i (sf_Top_note (x11.1 45 4) x11 h24) (fun x12 _ q => ?_)
        have h25 := q
        exact ⟨(x9.1, x12), rfl, h25, (show x9.1.toInt ≤ (32 : Int) by omega)⟩
    · have c26 := c
      have d27 : (0 : Int) < x9.1.toInt := nlei.mp c26
      refine bind_i (sf_History_add 18 x9.2 kd_18 h12) (fun x14 _ q => ?_)
      have h28 := q
      unfold j_Top_evening_90
      refine bind_i (sf_Top_emptyRow x14 h28) (fun x10 _ q => ?_)
      have h29 := q
      refine if_i (fun c => ?_) (fun c => ?_)
      · have c30 := c
        have d31 : x1.1.toInt ≤ x9.1.toInt := lei.mp c30
        unfold j_Top_evening_105
        refine bind_i (sf_Top_note (0 : Int32) x10 h29) (fun x11 _ q => ?_)
        have h32 := q
        refine bind_i (sf_Top_note (x11.1 45 4) x11 h32) (fun x12 _ q => ?_)
        have h33 := q
        exact ⟨(x9.1, x12), rfl, h33, (show x9.1.toInt ≤ (32 : Int) by omega)⟩
      · have c34 := c
        have d35 : x9.1.toInt < x1.1.toInt := nlei.mp c34
        unfold j_Top_evening_105
        refine bind_i (sf_Top_note (1 : Int32) x10 h29) (fun x11 _ q => ?_)
        have h36 := q
        refine bind_i (sf_Top_note (x11.1 45 4) x11 h36) (fun x12 _ q => ?_)
        have h37 := q
        exact ⟨(x9.1, x12), rfl, h37, (show x9.1.toInt ≤ (32 : Int) by omega)⟩
  · have c38 := c
    have d39 : x1.1.toInt < (0 : Int) := nlei.mp c38
    exact ⟨(x1.1, M2), rfl, hJ5, (show x1.1.toInt ≤ (32 : Int) by omega)⟩
theorem sf_Top_undo (M : Mem) (hJ : J M) : ∃ r : Int32 × Mem, f_Top_undo M = some r ∧ (J r.2 ∧ (-1 : Int) ≤ r.1.toInt ∧ r.1.toInt ≤ (12 : Int)) := by
  unfold f_Top_undo
  refine bind_i (sf_History_back 11 M kd_11 hJ) (fun x1 _ q => ?_)
  obtain ⟨h1, h2, h3⟩ := q
  refine if_i (fun c => ?_) (fun c => ?_)
  · have c4 := c
    have d5 : x1.1.toInt = (0 : Int) := eqi.mp c4
    exact ⟨((-1 : Int32), x1.2), rfl, h1, (show (-1 : Int) ≤ (-1 : Int32).toInt by decide), (show (-1 : Int32).toInt ≤ (12 : Int) by decide)⟩
  · have c6 := c
    have d7 : ¬ x1.1.toInt = (0 : Int) := neqi.mp c6
    refine bind_i (sf_Nets_lay 32 11 (-1 : Int32) x1.2 kd_32 kd_11 h1) (fun x2 _ q => ?_)
    have h8 := q
    have r9 := Jr_46_2 h8
    exact ⟨((x2.1 46 2), x2), rfl, h8, (show (-1 : Int) ≤ (x2.1 46 2).toInt by omega), (show (x2.1 46 2).toInt ≤ (12 : Int) by omega)⟩
theorem sf_Top_areTwo (v1 : Int32) (v2 : Int32) (M : Mem) (hJ : J M) : ∃ r : Int32, f_Top_areTwo v1 v2 M = some r ∧ ((0 : Int) ≤ r.toInt ∧ r.toInt ≤ (1 : Int) ∧ (¬ r.toInt = 0 → (0 : Int) ≤ v1.toInt ∧ v1.toInt ≤ (7 : Int)) ∧ (¬ r.toInt = 0 → (0 : Int) ≤ v2.toInt ∧ v2.toInt ≤ (7 : Int))) := by
  unfold f_Top_areTwo
  refine bind_i (sf_Crowd_has v1 M hJ) (fun x1 _ q => ?_)
  obtain ⟨h1, h2, h3⟩ := q
  refine if_i (fun c => ?_) (fun c => ?_)
  · have c4 := c
    have d5 : x1.toInt = (0 : Int) := eqi.mp c4
    exact ⟨(0 : Int32), rfl, (show (0 : Int) ≤ (0 : Int32).toInt by decide), (show (0 : Int32).toInt ≤ (1 : Int) by decide), (fun hh => by have hh : ¬ (0 : Int32).toInt = 0 := hh; have zz : (0 : Int32).toInt = 0 := rfl; omega), (fun hh => by have hh : ¬ (0 : Int32).toInt = 0 := hh; have zz : (0 : Int32).toInt = 0 := rfl; omega)⟩
  · have c6 := c
    have d7 : ¬ x1.toInt = (0 : Int) := neqi.mp c6
    refine bind_i (sf_Crowd_has v2 M hJ) (fun x2 _ q => ?_)
    obtain ⟨h8, h9, h10⟩ := q
    refine if_i (fun c => ?_) (fun c => ?_)
    · have c11 := c
      have d12 : x2.toInt = (0 : Int) := eqi.mp c11
      exact ⟨(0 : Int32), rfl, (show (0 : Int) ≤ (0 : Int32).toInt by decide), (show (0 : Int32).toInt ≤ (1 : Int) by decide), (fun hh => by have hh : ¬ (0 : Int32).toInt = 0 := hh; have zz : (0 : Int32).toInt = 0 := rfl; omega), (fun hh => by have hh : ¬ (0 : Int32).toInt = 0 := hh; have zz : (0 : Int32).toInt = 0 := rfl; omega)⟩
    · have c13 := c
      have d14 : ¬ x2.toInt = (0 : Int) := neqi.mp c13
      refine if_i (fun c => ?_) (fun c => ?_)
      · have c15 := c
        have d16 : v1.toInt = v2.toInt := eqi.mp c15
        exact ⟨(0 : Int32), rfl, (show (0 : Int) ≤ (0 : Int32).toInt by decide), (show (0 : Int32).toInt ≤ (1 : Int) by decide), (fun hh => by have hh : ¬ (0 : Int32).toInt = 0 := hh; have zz : (0 : Int32).toInt = 0 := rfl; omega), (fun hh => by have hh : ¬ (0 : Int32).toInt = 0 := hh; have zz : (0 : Int32).toInt = 0 := rfl; omega)⟩
      · have c17 := c
        have d18 : ¬ v1.toInt = v2.toInt := neqi.mp c17
        exact ⟨(1 : Int32), rfl, (show (0 : Int) ≤ (1 : Int32).toInt by decide), (show (1 : Int32).toInt ≤ (1 : Int) by decide), (fun hh => by have hh : ¬ (1 : Int32).toInt = 0 := hh; have zz : (1 : Int32).toInt = 1 := rfl; omega), (fun hh => by have hh : ¬ (1 : Int32).toInt = 0 := hh; have zz : (1 : Int32).toInt = 1 := rfl; omega)⟩
theorem sf_Top_met (v1 : Int32) (v2 : Int32) (M : Mem) (hJ : J M) : ∃ r : Int32, f_Top_met v1 v2 M = some r ∧ (True) := by
  unfold f_Top_met
  refine bind_i (sf_Top_areTwo v1 v2 M hJ) (fun x1 _ q => ?_)
  obtain ⟨h1, h2, h3, h4⟩ := q
  refine if_i (fun c => ?_) (fun c => ?_)
  · have c5 := c
    have d6 : x1.toInt = (0 : Int) := eqi.mp c5
    exact ⟨(-1 : Int32), rfl, trivial⟩
  · have c7 := c
    have d8 : ¬ x1.toInt = (0 : Int) := neqi.mp c7
    refine bind_i (sf_Scene_meetingsOfTwo 11 v1 v2 M kd_11 (⟨show (0 : Int) ≤ v1.toInt by omega, show v1.toInt ≤ (7 : Int) by omega⟩) (⟨show (0 : Int) ≤ v2.toInt by omega, show v2.toInt ≤ (7 : Int) by omega⟩) hJ) (fun x2 _ q => ?_)
    exact ⟨x2, rfl, trivial⟩
theorem sl_Top_ahead_32 (v1 : Int32) (a0_ : Int32) (N_ : Mem) (hp_v1 : (0 : Int) ≤ v1.toInt ∧ v1.toInt ≤ (60 : Int)) (hN : J N_) (i1_ : (0 : Int) ≤ a0_.toInt) (i2_ : a0_.toInt ≤ (60 : Int)) : ∃ x, iter (lb_Top_ahead_32 v1) FU (a0_, N_) = some x ∧ (fun r : Mem => J r) x := by
  refine iter_r (fun s : Int32 × Mem => J s.2 ∧ (0 : Int) ≤ s.1.toInt ∧ s.1.toInt ≤ (60 : Int)) (fun s : Int32 × Mem => (60 - s.1.toInt).toNat) (fun r : Mem => J r) ?_ FU (a0_, N_) ⟨hN, i1_, i2_⟩ (by show (60 - a0_.toInt).toNat < FU; rw [FU_v]; omega)
  clear i2_ i1_ hN
  rintro ⟨a0_', N_'⟩ ⟨hN, i1_, i2_⟩
  dsimp only at hN i1_ i2_
  unfold lb_Top_ahead_32
  dsimp only
  refine if_i (fun c => ?_) (fun c => ?_)
  · have c1 := c
    have d2 : v1.toInt ≤ a0_'.toInt := lei.mp c1
    exact ⟨_, rfl, hN⟩
  · have c3 := c
    have d4 : a0_'.toInt < v1.toInt := nlei.mp c3
    refine bind_i (sf_Clock_pass 25 32 N_' kd_25 kd_32 hN) (fun x3 _ q => ?_)
    have h5 := q
    have q6 : (a0_' + (1 : Int32)).toInt = a0_'.toInt + (1 : Int) := add_ti rfl rfl (by omega) (by omega)
    exact ⟨_, rfl, ⟨h5, (show (0 : Int) ≤ (a0_' + (1 : Int32)).toInt by omega), (show (a0_' + (1 : Int32)).toInt ≤ (60 : Int) by omega)⟩, show (60 - (a0_' + (1 : Int32)).toInt).toNat < (60 - a0_'.toInt).toNat by omega⟩
theorem sl_Top_ahead_76  (a0_ : Int32) (N_ : Mem) (hN : J N_) (i1_ : (0 : Int) ≤ a0_.toInt) (i2_ : a0_.toInt ≤ (8 : Int)) : ∃ x, iter (lb_Top_ahead_76) FU (a0_, N_) = some x ∧ (fun r : Mem => J r) x := by
  refine iter_r (fun s : Int32 × Mem => J s.2 ∧ (0 : Int) ≤ s.1.toInt ∧ s.1.toInt ≤ (8 : Int)) (fun s : Int32 × Mem => (8 - s.1.toInt).toNat) (fun r : Mem => J r) ?_ FU (a0_, N_) ⟨hN, i1_, i2_⟩ (by show (8 - a0_.toInt).toNat < FU; rw [FU_v]; omega)
  clear i2_ i1_ hN
  rintro ⟨a0_', N_'⟩ ⟨hN, i1_, i2_⟩
  dsimp only at hN i1_ i2_
  unfold lb_Top_ahead_76
  dsimp only
  refine if_i (fun c => ?_) (fun c => ?_)
  · have c1 := c
    have r2 := Jr_6_4 hN
    have d3 : (N_'.1 6 4).toInt ≤ a0_'.toInt := lei.mp c1
    exact ⟨_, rfl, hN⟩
  · have c4 := c
    have r5 := Jr_6_4 hN
    have d6 : a0_'.toInt < (N_'.1 6 4).toInt := nlei.mp c4
    refine inb_i (by omega) (by omega) ?_
    refine bind_i (sf_Top_note (N_'.1 26 a0_'.toNatClampNeg) N_' hN) (fun x7 _ q => ?_)
    have h7 := q
    have q8 : (a0_' + (1 : Int32)).toInt = a0_'.toInt + (1 : Int) := add_ti rfl rfl (by omega) (by omega)
    exact ⟨_, rfl, ⟨h7, (show (0 : Int) ≤ (a0_' + (1 : Int32)).toInt by omega), (show (a0_' + (1 : Int32)).toInt ≤ (8 : Int) by omega)⟩, show (8 - (a0_' + (1 : Int32)).toInt).toNat < (8 - a0_'.toInt).toNat by omega⟩
theorem sf_Top_ahead (v1 : Int32) (M : Mem) (hJ : J M) : ∃ r : Int32 × Mem, f_Top_ahead v1 M = some r ∧ (J r.2) := by
  unfold f_Top_ahead
  refine if_i (fun c => ?_) (fun c => ?_)
  · have c1 := c
    have d2 : v1.toInt < (0 : Int) := lti.mp c1
    exact ⟨((-1 : Int32), M), rfl, hJ⟩
  · have c3 := c
    have d4 : (0 : Int) ≤ v1.toInt := nlti.mp c3
    refine if_i (fun c => ?_) (fun c => ?_)
    · have c5 := c
      have d6 : v1.toInt ≤ (60 : Int) := lei.mp c5
      refine bind_i (sf_Scene_copy 25 11 M kd_25 kd_11 hJ) (fun x1 _ q => ?_)
      obtain ⟨h7, h8⟩ := q
      refine bind_i (sf_Clock_reset x1 h7) (fun x2 _ q => ?_)
      have h9 := q
      refine bind_i (sl_Top_ahead_32 v1 (0 : Int32) x2 (⟨show (0 : Int) ≤ v1.toInt by omega, show v1.toInt ≤ (60 : Int) by omega⟩) h9 (show (0 : Int) ≤ (0 : Int32).toInt by decide) (show (0 : Int32).toInt ≤ (60 : Int) by decide)) (fun x5 _ q => ?_)
      have h10 := q
      refine bind_i (sf_Top_emptyRow x5 h10) (fun x6 _ q => ?_)
      have h11 := q
      refine bind_i (sl_Top_ahead_76  (0 : Int32) x6 h11 (show (0 : Int) ≤ (0 : Int32).toInt by decide) (show (0 : Int32).toInt ≤ (8 : Int) by decide)) (fun x9 _ q => ?_)
      have h12 := q
      exact ⟨((x9.1 45 4), x9), rfl, h12⟩
    · have c13 := c
      have d14 : (60 : Int) < v1.toInt := nlei.mp c13
      exact ⟨((-1 : Int32), M), rfl, hJ⟩
