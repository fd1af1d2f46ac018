/-! safety of the class, 14 -/
theorem sf_Top_lay (v1 : Int32) (v2 : Int32) (M : Mem) (hJ : J M) : ∃ r : Int32 × Mem, f_Top_lay v1 v2 M = some r ∧ (J r.2) := by
  unfold f_Top_lay
  refine bind_i (sf_Ground_has v1 M hJ) (fun x1 _ q => ?_)
  obtain ⟨h1, h2, h3⟩ := q
  refine if_i (fun c => ?_) (fun c => ?_)
  · have c4 := c
    have d5 : x1.toInt = (0 : Int) := eqi.mp c4
    exact ⟨((-1 : Int32), M), rfl, hJ⟩
  · have c6 := c
    have d7 : ¬ x1.toInt = (0 : Int) := neqi.mp c6
    refine bind_i (sf_Ground_has v2 M hJ) (fun x2 _ q => ?_)
    obtain ⟨h8, h9, h10⟩ := q
    refine if_i (fun c => ?_) (fun c => ?_)
    · have c11 := c
      have d12 : x2.toInt = (0 : Int) := eqi.mp c11
      exact ⟨((-1 : Int32), M), rfl, hJ⟩
    · have c13 := c
      have d14 : ¬ x2.toInt = (0 : Int) := neqi.mp c13
      refine bind_i (sf_Ground_between v1 v2 M hJ) (fun x3 _ q => ?_)
      obtain ⟨h15, h16⟩ := q
      refine if_i (fun c => ?_) (fun c => ?_)
      · have c17 := c
        have d18 : x3.toInt = (-1 : Int) := eqi.mp c17
        exact ⟨((-2 : Int32), M), rfl, hJ⟩
      · have c19 := c
        have d20 : ¬ x3.toInt = (-1 : Int) := neqi.mp c19
        refine bind_i (sf_Ground_holds (1 : Int32) v1 M hJ) (fun x4 _ q => ?_)
        obtain ⟨h21, h22, h23, h24⟩ := q
        clear h23
        refine if_i (fun c => ?_) (fun c => ?_)
        · have c25 := c
          have d26 : x4.toInt = (0 : Int) := eqi.mp c25
          exact ⟨((-2 : Int32), M), rfl, hJ⟩
        · have c27 := c
          have d28 : ¬ x4.toInt = (0 : Int) := neqi.mp c27
          refine bind_i (sf_Ground_holds (1 : Int32) v2 M hJ) (fun x5 _ q => ?_)
          obtain ⟨h29, h30, h31, h32⟩ := q
          clear h31
          refine if_i (fun c => ?_) (fun c => ?_)
          · have c33 := c
            have d34 : x5.toInt = (0 : Int) := eqi.mp c33
            exact ⟨((-2 : Int32), M), rfl, hJ⟩
          · have c35 := c
            have d36 : ¬ x5.toInt = (0 : Int) := neqi.mp c35
            refine bind_i (sf_Ground_holds (1 : Int32) x3 M hJ) (fun x6 _ q => ?_)
            obtain ⟨h37, h38, h39, h40⟩ := q
            clear h39
            refine if_i (fun c => ?_) (fun c => ?_)
            · have c41 := c
              have d42 : x6.toInt = (0 : Int) := eqi.mp c41
              refine bind_i (sf_Scene_hasPlank 11 v1 v2 M kd_11 hJ) (fun x7 _ q => ?_)
              obtain ⟨h43, h44⟩ := q
              refine if_i (fun c => ?_) (fun c => ?_)
              · have c45 := c
                have d46 : x7.toInt = (0 : Int) := eqi.mp c45
                refine bind_i (sf_Scene_addPlank 11 v1 v2 M kd_11 (⟨show (0 : Int) ≤ v1.toInt by omega, show v1.toInt ≤ (35 : Int) by omega⟩) (⟨show (0 : Int) ≤ v2.toInt by omega, show v2.toInt ≤ (35 : Int) by omega⟩) hJ) (fun x8 _ q => ?_)
                obtain ⟨h47, h48, h49⟩ := q
                refine if_i (fun c => ?_) (fun c => ?_)
                · have c50 := c
                  have d51 : x8.1.toInt = (0 : Int) := eqi.mp c50
                  exact ⟨((-4 : Int32), x8.2), rfl, h47⟩
                · have c52 := c
                  have d53 : ¬ x8.1.toInt = (0 : Int) := neqi.mp c52
                  refine bind_i (sf_Nets_lay 32 11 (-1 : Int32) x8.2 kd_32 kd_11 h47) (fun x9 _ q => ?_)
                  have h54 := q
                  exact ⟨(((x9.1 11 6) - (1 : Int32)), x9), rfl, h54⟩
              · have c55 := c
                have d56 : ¬ x7.toInt = (0 : Int) := neqi.mp c55
                exact ⟨((-3 : Int32), M), rfl, hJ⟩
            · have c57 := c
              have d58 : ¬ x6.toInt = (0 : Int) := neqi.mp c57
              exact ⟨((-2 : Int32), M), rfl, hJ⟩
theorem sf_Top_plank (v1 : Int32) (v2 : Int32) (M : Mem) (hJ : J M) : ∃ r : Int32 × Mem, f_Top_plank v1 v2 M = some r ∧ (J r.2) := by
  unfold f_Top_plank
  refine bind_i (sf_Scene_copy 18 11 M kd_18 kd_11 hJ) (fun x1 _ q => ?_)
  obtain ⟨h1, h2⟩ := q
  refine bind_i (sf_Top_lay v1 v2 x1 h1) (fun x2 _ q => ?_)
  have h3 := q
  refine if_i (fun c => ?_) (fun c => ?_)
  · have c4 := c
    have d5 : x2.1.toInt < (0 : Int) := lti.mp c4
    exact ⟨(x2.1, x2.2), rfl, h3⟩
  · have c6 := c
    have d7 : (0 : Int) ≤ x2.1.toInt := nlti.mp c6
    refine bind_i (sf_History_add 18 x2.2 kd_18 h3) (fun x3 _ q => ?_)
    have h8 := q
    exact ⟨(x2.1, x3), rfl, h8⟩
theorem sf_Top_lift (M : Mem) (hJ : J M) : ∃ r : Int32 × Mem, f_Top_lift M = some r ∧ (J r.2 ∧ (0 : Int) ≤ r.1.toInt ∧ r.1.toInt ≤ (1 : Int)) := by
  unfold f_Top_lift
  refine if_i (fun c => ?_) (fun c => ?_)
  · have c1 := c
    have d2 : (0 : Int) < (M.1 11 6).toInt := lti.mp c1
    refine mem_i (fun M1 e4 => ?_)
    have hJ5 : J M1 := by rw [e4]; exact Jw_any ok_11 hJ 6 ((M.1 11 6) - (1 : Int32))
    have q6 := i32hi (M.1 11 6)
    have q7 : ((M.1 11 6) - (1 : Int32)).toInt = (M.1 11 6).toInt - (1 : Int) := sub_ti rfl rfl (by omega) (by omega)
    have f8 : (M1.1 11 6).toInt = ((M.1 11 6) - (1 : Int32)).toInt := by rw [e4, si_eq]
    clear e4
    refine bind_i (sf_Nets_lay 32 11 (-1 : Int32) M1 kd_32 kd_11 hJ5) (fun x2 _ q => ?_)
    have h9 := q
    exact ⟨((1 : Int32), x2), rfl, h9, (show (0 : Int) ≤ (1 : Int32).toInt by decide), (show (1 : Int32).toInt ≤ (1 : Int) by decide)⟩
  · have c10 := c
    have d11 : (M.1 11 6).toInt ≤ (0 : Int) := nlti.mp c10
    exact ⟨((0 : Int32), M), rfl, hJ, (show (0 : Int) ≤ (0 : Int32).toInt by decide), (show (0 : Int32).toInt ≤ (1 : Int) by decide)⟩
theorem sf_Top_take (M : Mem) (hJ : J M) : ∃ r : Int32 × Mem, f_Top_take M = some r ∧ (J r.2) := by
  unfold f_Top_take
  refine bind_i (sf_Scene_copy 18 11 M kd_18 kd_11 hJ) (fun x1 _ q => ?_)
  obtain ⟨h1, h2⟩ := q
  refine bind_i (sf_Top_lift x1 h1) (fun x2 _ q => ?_)
  obtain ⟨h3, h4, h5⟩ := q
  refine if_i (fun c => ?_) (fun c => ?_)
  · have c6 := c
    have d7 : x2.1.toInt = (0 : Int) := eqi.mp c6
    exact ⟨((-1 : Int32), x2.2), rfl, h3⟩
  · have c8 := c
    have d9 : ¬ x2.1.toInt = (0 : Int) := neqi.mp c8
    refine bind_i (sf_History_add 18 x2.2 kd_18 h3) (fun x3 _ q => ?_)
    have h10 := q
    exact ⟨((x3.1 11 6), x3), rfl, h10⟩
theorem sf_Top_narrow (v0 : Int32) (v1 : Int32) : ∃ r : Int32, f_Top_narrow v0 v1 = some r ∧ (True) := by
  unfold f_Top_narrow
  refine if_i (fun c => ?_) (fun c => ?_)
  · have c1 := c
    have d2 : v0.toInt = (0 : Int) := eqi.mp c1
    exact ⟨v1.toInt8.toInt32, rfl, trivial⟩
  · have c3 := c
    have d4 : ¬ v0.toInt = (0 : Int) := neqi.mp c3
    refine if_i (fun c => ?_) (fun c => ?_)
    · have c5 := c
      have d6 : v0.toInt = (1 : Int) := eqi.mp c5
      exact ⟨v1.toInt16.toInt32, rfl, trivial⟩
    · have c7 := c
      have d8 : ¬ v0.toInt = (1 : Int) := neqi.mp c7
      exact ⟨v1, rfl, trivial⟩
theorem sl_Top_sheet_35 (v1 : Int32) (v2 : Int32) (v3 : Int32) (v4 : Int32) (a0_ : Int32) (a1_ : Int32) (N_ : Mem) (hp_v1 : (0 : Int) ≤ v1.toInt ∧ v1.toInt ≤ (3 : Int)) (hp_v2 : v2.toInt ≤ (8 : Int)) (hN : J N_) (i1_ : (0 : Int) ≤ a1_.toInt) (i2_ : a1_.toInt ≤ (8 : Int)) : ∃ x, iter (lb_Top_sheet_35 v1 v2 v3 v4) FU (a0_, a1_, N_) = some x ∧ (fun r : Int32 × Mem => J r.2) x := by
  refine iter_r (fun s : Int32 × Int32 × Mem => J s.2.2 ∧ (0 : Int) ≤ s.2.1.toInt ∧ s.2.1.toInt ≤ (8 : Int)) (fun s : Int32 × Int32 × Mem => (8 - s.2.1.toInt).toNat) (fun r : Int32 × Mem => J r.2) ?_ FU (a0_, a1_, N_) ⟨hN, i1_, i2_⟩ (by show (8 - a1_.toInt).toNat < FU; rw [FU_v]; omega)
  clear i2_ i1_ hN
  rintro ⟨a0_', a1_', N_'⟩ ⟨hN, i1_, i2_⟩
  dsimp only at hN i1_ i2_
  unfold lb_Top_sheet_35
  dsimp only
  refine if_i (fun c => ?_) (fun c => ?_)
  · have c1 := c
    have d2 : (8 : Int) ≤ a1_'.toInt := lei.mp c1
    exact ⟨_, rfl, hN⟩
  · have c3 := c
    have d4 : a1_'.toInt < (8 : Int) := nlei.mp c3
    refine if_i (fun c => ?_) (fun c => ?_)
    · have c5 := c
      have d6 : v1.toInt = (3 : Int) := eqi.mp c5
      unfold j_Top_sheet_78_35
      refine inb_i (by omega) (by omega) ?_
      refine mem_i (fun M1 e8 => ?_)
      have hJ9 : J M1 := by rw [e8]; exact Jw_any ok_14 hN a1_'.toNatClampNeg (0 : Int32)
      clear e8
      have q10 : (a1_' + (1 : Int32)).toInt = a1_'.toInt + (1 : Int) := add_ti rfl rfl (by omega) (by omega)
      exact ⟨_, rfl, ⟨hJ9, (show (0 : Int) ≤ (a1_' + (1 : Int32)).toInt by omega), (show (a1_' + (1 : Int32)).toInt ≤ (8 : Int) by omega)⟩, show (8 - (a1_' + (1 : Int32)).toInt).toNat < (8 - a1_'.toInt).toNat by omega⟩
    · have c11 := c
      have d12 : ¬ v1.toInt = (3 : Int) := neqi.mp c11
      refine if_i (fun c => ?_) (fun c => ?_)
      · have c13 := c
        have d14 : v2.toInt ≤ a1_'.toInt := lei.mp c13
        unfold j_Top_sheet_78_35
        refine inb_i (by omega) (by omega) ?_
        refine mem_i (fun M1 e16 => ?_)
        have hJ17 : J M1 := by rw [e16]; exact Jw_any ok_14 hN a1_'.toNatClampNeg (0 : Int32)
        clear e16
        have q18 : (a1_' + (1 : Int32)).toInt = a1_'.toInt + (1 : Int) := add_ti rfl rfl (by omega) (by omega)
        exact ⟨_, rfl, ⟨hJ17, (show (0 : Int) ≤ (a1_' + (1 : Int32)).toInt by omega), (show (a1_' + (1 : Int32)).toInt ≤ (8 : Int) by omega)⟩, show (8 - (a1_' + (1 : Int32)).toInt).toNat < (8 - a1_'.toInt).toNat by omega⟩
      · have c19 := c
        have d20 : a1_'.toInt < v2.toInt := nlei.mp c19
        refine bind_i (sf_Top_narrow v1 (v3 + (a1_' * v4))) (fun x2 _ q => ?_)
        refine bind_i (sf_Crowd_within a1_' x2 N_' hN) (fun x3 _ q => ?_)
        have h21 := q
        unfold j_Top_sheet_78_35
        refine inb_i (by omega) (by omega) ?_
        refine mem_i (fun M1 e23 => ?_)
        have hJ24 : J M1 := by rw [e23]; exact Jw_any ok_14 hN a1_'.toNatClampNeg x3
        clear e23
        have q25 : (a1_' + (1 : Int32)).toInt = a1_'.toInt + (1 : Int) := add_ti rfl rfl (by omega) (by omega)
        exact ⟨_, rfl, ⟨hJ24, (show (0 : Int) ≤ (a1_' + (1 : Int32)).toInt by omega), (show (a1_' + (1 : Int32)).toInt ≤ (8 : Int) by omega)⟩, show (8 - (a1_' + (1 : Int32)).toInt).toNat < (8 - a1_'.toInt).toNat by omega⟩
theorem sf_Top_sheet (v1 : Int32) (v2 : Int32) (v3 : Int32) (v4 : Int32) (M : Mem) (hJ : J M) : ∃ r : Int32 × Mem, f_Top_sheet v1 v2 v3 v4 M = some r ∧ (J r.2) := by
  unfold f_Top_sheet
  refine if_i (fun c => ?_) (fun c => ?_)
  · have c1 := c
    have d2 : v1.toInt < (0 : Int) := lti.mp c1
    exact ⟨((-1 : Int32), M), rfl, hJ⟩
  · have c3 := c
    have d4 : (0 : Int) ≤ v1.toInt := nlti.mp c3
    refine if_i (fun c => ?_) (fun c => ?_)
    · have c5 := c
      have d6 : (3 : Int) < v1.toInt := lti.mp c5
      exact ⟨((-1 : Int32), M), rfl, hJ⟩
    · have c7 := c
      have d8 : v1.toInt ≤ (3 : Int) := nlti.mp c7
      refine if_i (fun c => ?_) (fun c => ?_)
      · have c9 := c
        have d10 : v2.toInt ≤ (8 : Int) := lei.mp c9
        refine if_i (fun c => ?_) (fun c => ?_)
        · have c11 := c
          have d12 : v1.toInt = (3 : Int) := eqi.mp c11
          refine bind_i (sl_Top_sheet_35 v1 v2 v3 v4 (0 : Int32) (0 : Int32) M (⟨show (0 : Int) ≤ v1.toInt by omega, show v1.toInt ≤ (3 : Int) by omega⟩) (show v2.toInt ≤ (8 : Int) by omega) hJ (show (0 : Int) ≤ (0 : Int32).toInt by decide) (show (0 : Int32).toInt ≤ (8 : Int) by decide)) (fun x7 _ q => ?_)
          have h13 := q
          refine if_i (fun c => ?_) (fun c => ?_)
          · have c14 := c
            have d15 : v1.toInt = (3 : Int) := eqi.mp c14
            exact ⟨((-3 : Int32), x7.2), rfl, h13⟩
          · have c16 := c
            have d17 : ¬ v1.toInt = (3 : Int) := neqi.mp c16
            exfalso; omega
        · have c18 := c
          have d19 : ¬ v1.toInt = (3 : Int) := neqi.mp c18
          refine if_i (fun c => ?_) (fun c => ?_)
          · have c20 := c
            have d21 : (0 : Int) ≤ v2.toInt := lei.mp c20
            refine bind_i (sl_Top_sheet_35 v1 v2 v3 v4 (0 : Int32) (0 : Int32) M (⟨show (0 : Int) ≤ v1.toInt by omega, show v1.toInt ≤ (3 : Int) by omega⟩) (show v2.toInt ≤ (8 : Int) by omega) hJ (show (0 : Int) ≤ (0 : Int32).toInt by decide) (show (0 : Int32).toInt ≤ (8 : Int) by decide)) (fun x9 _ q => ?_)
            have h22 := q
            refine if_i (fun c => ?_) (fun c => ?_)
            · have c23 := c
              have d24 : v1.toInt = (3 : Int) := eqi.mp c23
              exfalso; omega
            · have c25 := c
              have d26 : ¬ v1.toInt = (3 : Int) := neqi.mp c25
              exact ⟨(x9.1, x9.2), rfl, h22⟩
          · have c27 := c
            have d28 : v2.toInt < (0 : Int) := nlei.mp c27
            exact ⟨((-2 : Int32), M), rfl, hJ⟩
      · have c29 := c
        have d30 : (8 : Int) < v2.toInt := nlei.mp c29
        exact ⟨((-1 : Int32), M), rfl, hJ⟩
theorem sf_Top_give (v1 : Int32) (M : Mem) (hJ : J M) : ∃ r : Int32 × Mem, f_Top_give v1 M = some r ∧ (J r.2 ∧ (0 : Int) ≤ r.1.toInt ∧ r.1.toInt ≤ (1 : Int)) := by
  unfold f_Top_give
  refine bind_i (sf_Crowd_has v1 M hJ) (fun x1 _ q => ?_)
  obtain ⟨h1, h2, h3⟩ := q
  refine if_i (fun c => ?_) (fun c => ?_)
  · have c4 := c
    have d5 : x1.toInt = (0 : Int) := eqi.mp c4
    exact ⟨((0 : Int32), M), rfl, hJ, (show (0 : Int) ≤ (0 : Int32).toInt by decide), (show (0 : Int32).toInt ≤ (1 : Int) by decide)⟩
  · have c6 := c
    have d7 : ¬ x1.toInt = (0 : Int) := neqi.mp c6
    refine if_i (fun c => ?_) (fun c => ?_)
    · have c8 := c
      have q9 : (0 : Int) ≤ (((M.1 11 8) >>> (v1 &&& 31)) &&& (1 : Int32)).toInt ∧ (((M.1 11 8) >>> (v1 &&& 31)) &&& (1 : Int32)).toInt ≤ 1 := and_rng (by decide)
      have d10 : (((M.1 11 8) >>> (v1 &&& 31)) &&& (1 : Int32)).toInt = (0 : Int) := eqi.mp c8
      refine mem_i (fun M2 e12 => ?_)
      have hJ13 : J M2 := by rw [e12]; exact Jw_any ok_11 hJ 8 ((M.1 11 8) ||| ((1 : Int32) <<< (v1 &&& 31)))
      clear e12
      exact ⟨((1 : Int32), M2), rfl, hJ13, (show (0 : Int) ≤ (1 : Int32).toInt by decide), (show (1 : Int32).toInt ≤ (1 : Int) by decide)⟩
    · have c14 := c
      have q15 : (0 : Int) ≤ (((M.1 11 8) >>> (v1 &&& 31)) &&& (1 : Int32)).toInt ∧ (((M.1 11 8) >>> (v1 &&& 31)) &&& (1 : Int32)).toInt ≤ 1 := and_rng (by decide)
      have d16 : ¬ (((M.1 11 8) >>> (v1 &&& 31)) &&& (1 : Int32)).toInt = (0 : Int) := neqi.mp c14
      exact ⟨((0 : Int32), M), rfl, hJ, (show (0 : Int) ≤ (0 : Int32).toInt by decide), (show (0 : Int32).toInt ≤ (1 : Int) by decide)⟩
theorem sf_Top_tell (v1 : Int32) (M : Mem) (hJ : J M) : ∃ r : Int32 × Mem, f_Top_tell v1 M = some r ∧ (J r.2 ∧ (-1 : Int) ≤ r.1.toInt ∧ r.1.toInt ≤ (63 : Int)) := by
  unfold f_Top_tell
  refine bind_i (sf_Scene_copy 18 11 M kd_18 kd_11 hJ) (fun x1 _ q => ?_)
  obtain ⟨h1, h2⟩ := q
  refine bind_i (sf_Top_give v1 x1 h1) (fun x2 _ q => ?_)
  obtain ⟨h3, h4, h5⟩ := q
  refine if_i (fun c => ?_) (fun c => ?_)
  · have c6 := c
    have d7 : x2.1.toInt = (0 : Int) := eqi.mp c6
    exact ⟨((-1 : Int32), x2.2), rfl, h3, (show (-1 : Int) ≤ (-1 : Int32).toInt by decide), (show (-1 : Int32).toInt ≤ (63 : Int) by decide)⟩
  · have c8 := c
    have d9 : ¬ x2.1.toInt = (0 : Int) := neqi.mp c8
    refine bind_i (sf_History_add 18 x2.2 kd_18 h3) (fun x3 _ q => ?_)
    have h10 := q
    refine bind_i (sf_JInteger_bitCount (x3.1 11 8)) (fun x4 _ q => ?_)
    obtain ⟨h11, h12⟩ := q
    exact ⟨(x4, x3), rfl, h10, (show (-1 : Int) ≤ x4.toInt by omega), (show x4.toInt ≤ (63 : Int) by omega)⟩
theorem sl_Top_womenAreAstray_2 (M : Mem) (a0_ : Int32) (hJ_M : J M) (i0_ : (0 : Int) ≤ a0_.toInt) (i1_ : a0_.toInt ≤ (8 : Int)) : ∃ x, iter (lb_Top_womenAreAstray_2 M) FU a0_ = some x ∧ (SQ (fun r : Unit => True) (fun r : Unit => True)) x := by
  refine iter_r (fun s : Int32 => (0 : Int) ≤ s.toInt ∧ s.toInt ≤ (8 : Int)) (fun s : Int32 => (8 - s.toInt).toNat) (SQ (fun r : Unit => True) (fun r : Unit => True)) ?_ FU a0_ ⟨i0_, i1_⟩ (by show (8 - a0_.toInt).toNat < FU; rw [FU_v]; omega)
  clear i1_ i0_
  rintro a0_' ⟨i0_, i1_⟩
  unfold lb_Top_womenAreAstray_2
  refine if_i (fun c => ?_) (fun c => ?_)
  · have c1 := c
    have r2 := Jr_6_4 hJ_M
    have d3 : (M.1 6 4).toInt ≤ a0_'.toInt := lei.mp c1
    exact ⟨_, rfl, trivial⟩
  · have c4 := c
    have r5 := Jr_6_4 hJ_M
    have d6 : a0_'.toInt < (M.1 6 4).toInt := nlei.mp c4
    refine bind_i (sf_Crowd_woman a0_' M hJ_M) (fun x1 _ q => ?_)
    obtain ⟨h7, h8⟩ := q
    refine if_i (fun c => ?_) (fun c => ?_)
    · have c9 := c
      have d10 : x1.toInt = (0 : Int) := eqi.mp c9
      have q11 : (a0_' + (1 : Int32)).toInt = a0_'.toInt + (1 : Int) := add_ti rfl rfl (by omega) (by omega)
      exact ⟨_, rfl, ⟨(show (0 : Int) ≤ (a0_' + (1 : Int32)).toInt by omega), (show (a0_' + (1 : Int32)).toInt ≤ (8 : Int) by omega)⟩, show (8 - (a0_' + (1 : Int32)).toInt).toNat < (8 - a0_'.toInt).toNat by omega⟩
    · have c12 := c
      have d13 : ¬ x1.toInt = (0 : Int) := neqi.mp c12
      refine inb_i (by omega) (by omega) ?_
      refine if_i (fun c => ?_) (fun c => ?_)
      · have c14 := c
        have r15 := Jr_13 hJ_M a0_'.toNatClampNeg
        have d16 : (M.1 13 a0_'.toNatClampNeg).toInt = (0 : Int) := eqi.mp c14
        refine inb_i (by omega) (by omega) ?_
        have r17 := Jr_12 hJ_M a0_'.toNatClampNeg
        refine bind_i (sf_Ground_isStair (M.1 12 a0_'.toNatClampNeg) M hJ_M) (fun x2 _ q => ?_)
        obtain ⟨h18, h19, h20⟩ := q
        refine if_i (fun c => ?_) (fun c => ?_)
        · have c21 := c
          have d22 : x2.toInt = (0 : Int) := eqi.mp c21
          exact ⟨_, rfl, trivial⟩
        · have c23 := c
          have d24 : ¬ x2.toInt = (0 : Int) := neqi.mp c23
          have q25 : (a0_' + (1 : Int32)).toInt = a0_'.toInt + (1 : Int) := add_ti rfl rfl (by omega) (by omega)
          exact ⟨_, rfl, ⟨(show (0 : Int) ≤ (a0_' + (1 : Int32)).toInt by omega), (show (a0_' + (1 : Int32)).toInt ≤ (8 : Int) by omega)⟩, show (8 - (a0_' + (1 : Int32)).toInt).toNat < (8 - a0_'.toInt).toNat by omega⟩
      · have c26 := c
        have r27 := Jr_13 hJ_M a0_'.toNatClampNeg
        have d28 : ¬ (M.1 13 a0_'.toNatClampNeg).toInt = (0 : Int) := neqi.mp c26
        have q29 : (a0_' + (1 : Int32)).toInt = a0_'.toInt + (1 : Int) := add_ti rfl rfl (by omega) (by omega)
        exact ⟨_, rfl, ⟨(show (0 : Int) ≤ (a0_' + (1 : Int32)).toInt by omega), (show (a0_' + (1 : Int32)).toInt ≤ (8 : Int) by omega)⟩, show (8 - (a0_' + (1 : Int32)).toInt).toNat < (8 - a0_'.toInt).toNat by omega⟩
theorem sf_Top_womenAreAstray (M : Mem) (hJ : J M) : ∃ r : Int32, f_Top_womenAreAstray M = some r ∧ ((0 : Int) ≤ r.toInt ∧ r.toInt ≤ (1 : Int)) := by
  unfold f_Top_womenAreAstray
  refine bind_i (sl_Top_womenAreAstray_2 M (0 : Int32) hJ (show (0 : Int) ≤ (0 : Int32).toInt by decide) (show (0 : Int32).toInt ≤ (8 : Int) by decide)) (fun x1 _ q => ?_)
  rcases x1 with y | y
  · have q9 : True := q
    dsimp only [Sum.elim_inl, Sum.elim_inr]
    exact ⟨(0 : Int32), rfl, (show (0 : Int) ≤ (0 : Int32).toInt by decide), (show (0 : Int32).toInt ≤ (1 : Int) by decide)⟩
  · have q9 : True := q
    dsimp only [Sum.elim_inl, Sum.elim_inr]
    exact ⟨(1 : Int32), rfl, (show (0 : Int) ≤ (1 : Int32).toInt by decide), (show (1 : Int32).toInt ≤ (1 : Int) by decide)⟩
theorem sl_Top_celebrate_34 (v1 : Int32) (a0_ : Int32) (N_ : Mem) (hN : J N_) (i1_ : (0 : Int) ≤ a0_.toInt) (i2_ : a0_.toInt ≤ (8 : Int)) : ∃ x, iter (lb_Top_celebrate_34 v1) FU (a0_, N_) = some x ∧ (fun r : Mem => J r) x := by
  refine iter_r (fun s : Int32 × Mem => J s.2 ∧ (0 : Int) ≤ s.1.toInt ∧ s.1.toInt ≤ (8 : Int)) (fun s : Int32 × Mem => (8 - s.1.toInt).toNat) (fun r : Mem => J r) ?_ FU (a0_, N_) ⟨hN, i1_, i2_⟩ (by show (8 - a0_.toInt).toNat < FU; rw [FU_v]; omega)
  clear i2_ i1_ hN
  rintro ⟨a0_', N_'⟩ ⟨hN, i1_, i2_⟩
  dsimp only at hN i1_ i2_
  unfold lb_Top_celebrate_34
  dsimp only
  refine if_i (fun c => ?_) (fun c => ?_)
  · have c1 := c
    have r2 := Jr_6_4 hN
    have d3 : (N_'.1 6 4).toInt ≤ a0_'.toInt := lei.mp c1
    exact ⟨_, rfl, hN⟩
  · have c4 := c
    have r5 := Jr_6_4 hN
    have d6 : a0_'.toInt < (N_'.1 6 4).toInt := nlei.mp c4
    refine bind_i (sf_Crowd_woman a0_' N_' hN) (fun x2 _ q => ?_)
    obtain ⟨h7, h8⟩ := q
    refine if_i (fun c => ?_) (fun c => ?_)
    · have c9 := c
      have d10 : x2.toInt = (0 : Int) := eqi.mp c9
      have q11 : (a0_' + (1 : Int32)).toInt = a0_'.toInt + (1 : Int) := add_ti rfl rfl (by omega) (by omega)
      exact ⟨_, rfl, ⟨hN, (show (0 : Int) ≤ (a0_' + (1 : Int32)).toInt by omega), (show (a0_' + (1 : Int32)).toInt ≤ (8 : Int) by omega)⟩, show (8 - (a0_' + (1 : Int32)).toInt).toNat < (8 - a0_'.toInt).toNat by omega⟩
    · have c12 := c
      have d13 : ¬ x2.toInt = (0 : Int) := neqi.mp c12
      refine inb_i (by omega) (by omega) ?_
      have r14 := Jr_12 hN a0_'.toNatClampNeg
      refine bind_i (sf_Ground_isStair (N_'.1 12 a0_'.toNatClampNeg) N_' hN) (fun x3 _ q => ?_)
      obtain ⟨h15, h16, h17⟩ := q
      refine if_i (fun c => ?_) (fun c => ?_)
      · have c18 := c
        have d19 : x3.toInt = (0 : Int) := eqi.mp c18
        have q20 : (a0_' + (1 : Int32)).toInt = a0_'.toInt + (1 : Int) := add_ti rfl rfl (by omega) (by omega)
        exact ⟨_, rfl, ⟨hN, (show (0 : Int) ≤ (a0_' + (1 : Int32)).toInt by omega), (show (a0_' + (1 : Int32)).toInt ≤ (8 : Int) by omega)⟩, show (8 - (a0_' + (1 : Int32)).toInt).toNat < (8 - a0_'.toInt).toNat by omega⟩
      · have c21 := c
        have d22 : ¬ x3.toInt = (0 : Int) := neqi.mp c21
        refine if_i (fun c => ?_) (fun c => ?_)
        · have c23 := c
          have d24 : v1.toInt = (1 : Int) := eqi.mp c23
          refine inb_i (by omega) (by omega) ?_
          refine mem_i (fun M5 e26 => ?_)
          have hJ27 : J M5 := by rw [e26]; exact Jw_13 hN a0_'.toNatClampNeg (0 : Int32) (show (0 : Int) ≤ (0 : Int32).toInt by decide) (show (0 : Int32).toInt ≤ (1 : Int) by decide)
          have f28 : (M5.1 6 4).toInt = (N_'.1 6 4).toInt := by rw [e26]; rw [si_ne (by exact fun e => absurd e.1 (by decide))]
          have f29 : (M5.1 12 a0_'.toNatClampNeg).toInt = (N_'.1 12 a0_'.toNatClampNeg).toInt := by rw [e26]; rw [si_ne (by exact fun e => absurd e.1 (by decide))]
          clear e26
          have q30 : (a0_' + (1 : Int32)).toInt = a0_'.toInt + (1 : Int) := add_ti rfl rfl (by omega) (by omega)
          exact ⟨_, rfl, ⟨hJ27, (show (0 : Int) ≤ (a0_' + (1 : Int32)).toInt by omega), (show (a0_' + (1 : Int32)).toInt ≤ (8 : Int) by omega)⟩, show (8 - (a0_' + (1 : Int32)).toInt).toNat < (8 - a0_'.toInt).toNat by omega⟩
        · have c31 := c
          have d32 : ¬ v1.toInt = (1 : Int) := neqi.mp c31
          refine inb_i (by omega) (by omega) ?_
          refine mem_i (fun M4 e34 => ?_)
          have hJ35 : J M4 := by rw [e34]; exact Jw_13 hN a0_'.toNatClampNeg (1 : Int32) (show (0 : Int) ≤ (1 : Int32).toInt by decide) (show (1 : Int32).toInt ≤ (1 : Int) by decide)
          have f36 : (M4.1 6 4).toInt = (N_'.1 6 4).toInt := by rw [e34]; rw [si_ne (by exact fun e => absurd e.1 (by decide))]
          have f37 : (M4.1 12 a0_'.toNatClampNeg).toInt = (N_'.1 12 a0_'.toNatClampNeg).toInt := by rw [e34]; rw [si_ne (by exact fun e => absurd e.1 (by decide))]
          clear e34
          have q38 : (a0_' + (1 : Int32)).toInt = a0_'.toInt + (1 : Int) := add_ti rfl rfl (by omega) (by omega)
          exact ⟨_, rfl, ⟨hJ35, (show (0 : Int) ≤ (a0_' + (1 : Int32)).toInt by omega), (show (a0_' + (1 : Int32)).toInt ≤ (8 : Int) by omega)⟩, show (8 - (a0_' + (1 : Int32)).toInt).toNat < (8 - a0_'.toInt).toNat by omega⟩
theorem sf_Top_celebrate (v1 : Int32) (M : Mem) (hJ : J M) : ∃ r : Int32 × Mem, f_Top_celebrate v1 M = some r ∧ (J r.2 ∧ (0 : Int) ≤ r.1.toInt ∧ r.1.toInt ≤ (1 : Int)) := by
  unfold f_Top_celebrate
  refine if_i (fun c => ?_) (fun c => ?_)
  · have c1 := c
    have d2 : (M.1 11 9).toInt = v1.toInt := eqi.mp c1
    exact ⟨((0 : Int32), M), rfl, hJ, (show (0 : Int) ≤ (0 : Int32).toInt by decide), (show (0 : Int32).toInt ≤ (1 : Int) by decide)⟩
  · have c3 := c
    have d4 : ¬ (M.1 11 9).toInt = v1.toInt := neqi.mp c3
    refine if_i (fun c => ?_) (fun c => ?_)
    · have c5 := c
      have d6 : v1.toInt = (0 : Int) := eqi.mp c5
      refine bind_i (sf_Top_womenAreAstray M hJ) (fun x11 _ q => ?_)
      obtain ⟨h7, h8⟩ := q
      refine if_i (fun c => ?_) (fun c => ?_)
      · have c9 := c
        have d10 : x11.toInt = (0 : Int) := eqi.mp c9
        refine mem_i (fun M12 e12 => ?_)
        have hJ13 : J M12 := by rw [e12]; exact Jw_any ok_11 hJ 9 v1
        have f14 : (M12.1 11 9).toInt = v1.toInt := by rw [e12, si_eq]
        clear e12
        refine bind_i (sl_Top_celebrate_34 v1 (0 : Int32) M12 hJ13 (show (0 : Int) ≤ (0 : Int32).toInt by decide) (show (0 : Int32).toInt ≤ (8 : Int) by decide)) (fun x13 _ q => ?_)
        have h15 := q
        exact ⟨((1 : Int32), x13), rfl, h15, (show (0 : Int) ≤ (1 : Int32).toInt by decide), (show (1 : Int32).toInt ≤ (1 : Int) by decide)⟩
      · have c16 := c
        have d17 : ¬ x11.toInt = (0 : Int) := neqi.mp c16
        exact ⟨((0 : Int32), M), rfl, hJ, (show (0 : Int) ≤ (0 : Int32).toInt by decide), (show (0 : Int32).toInt ≤ (1 : Int) by decide)⟩
    · have c18 := c
      have d19 : ¬ v1.toInt = (0 : Int) := neqi.mp c18
      refine mem_i (fun M1 e21 => ?_)
      have hJ22 : J M1 := by rw [e21]; exact Jw_any ok_11 hJ 9 v1
      clear e21
      refine bind_i (sl_Top_celebrate_34 v1 (0 : Int32) M1 hJ22 (show (0 : Int) ≤ (0 : Int32).toInt by decide) (show (0 : Int32).toInt ≤ (8 : Int) by decide)) (fun x10 _ q => ?_)
      have h23 := q
      exact ⟨((1 : Int32), x10), rfl, h23, (show (0 : Int) ≤ (1 : Int32).toInt by decide), (show (1 : Int32).toInt ≤ (1 : Int) by decide)⟩
theorem sl_Top_womenBelow_4 (M : Mem) (a0_ : Int32) (a1_ : Int32) (hJ_M : J M) (i0_ : (0 : Int) ≤ a1_.toInt) (i1_ : a1_.toInt ≤ (8 : Int)) : ∃ x, iter (lb_Top_womenBelow_4 M) FU (a0_, a1_) = some x ∧ (fun r : Int32 => True) x := by
  refine iter_r (fun s : Int32 × Int32 => (0 : Int) ≤ s.2.toInt ∧ s.2.toInt ≤ (8 : Int)) (fun s : Int32 × Int32 => (8 - s.2.toInt).toNat) (fun r : Int32 => True) ?_ FU (a0_, a1_) ⟨i0_, i1_⟩ (by show (8 - a1_.toInt).toNat < FU; rw [FU_v]; omega)
  clear i1_ i0_
  rintro ⟨a0_', a1_'⟩ ⟨i0_, i1_⟩
  dsimp only at i0_ i1_
  unfold lb_Top_womenBelow_4
  dsimp only
  refine if_i (fun c => ?_) (fun c => ?_)
  · have c1 := c
    have r2 := Jr_6_4 hJ_M
    have d3 : (M.1 6 4).toInt ≤ a1_'.toInt := lei.mp c1
    exact ⟨_, rfl, trivial⟩
  · have c4 := c
    have r5 := Jr_6_4 hJ_M
    have d6 : a1_'.toInt < (M.1 6 4).toInt := nlei.mp c4
    refine bind_i (sf_Crowd_woman a1_' M hJ_M) (fun x1 _ q => ?_)
    obtain ⟨h7, h8⟩ := q
    refine if_i (fun c => ?_) (fun c => ?_)
    · have c9 := c
      have d10 : x1.toInt = (0 : Int) := eqi.mp c9
      have q11 : (a1_' + (1 : Int32)).toInt = a1_'.toInt + (1 : Int) := add_ti rfl rfl (by omega) (by omega)
      exact ⟨_, rfl, ⟨(show (0 : Int) ≤ (a1_' + (1 : Int32)).toInt by omega), (show (a1_' + (1 : Int32)).toInt ≤ (8 : Int) by omega)⟩, show (8 - (a1_' + (1 : Int32)).toInt).toNat < (8 - a1_'.toInt).toNat by omega⟩
    · have c12 := c
      have d13 : ¬ x1.toInt = (0 : Int) := neqi.mp c12
      refine inb_i (by omega) (by omega) ?_
      refine if_i (fun c => ?_) (fun c => ?_)
      · have c14 := c
        have r15 := Jr_13 hJ_M a1_'.toNatClampNeg
        have d16 : (M.1 13 a1_'.toNatClampNeg).toInt = (0 : Int) := eqi.mp c14
        have q17 : (a1_' + (1 : Int32)).toInt = a1_'.toInt + (1 : Int) := add_ti rfl rfl (by omega) (by omega)
        exact ⟨_, rfl, ⟨(show (0 : Int) ≤ (a1_' + (1 : Int32)).toInt by omega), (show (a1_' + (1 : Int32)).toInt ≤ (8 : Int) by omega)⟩, show (8 - (a1_' + (1 : Int32)).toInt).toNat < (8 - a1_'.toInt).toNat by omega⟩
      · have c18 := c
        have r19 := Jr_13 hJ_M a1_'.toNatClampNeg
        have d20 : ¬ (M.1 13 a1_'.toNatClampNeg).toInt = (0 : Int) := neqi.mp c18
        have q21 : (a1_' + (1 : Int32)).toInt = a1_'.toInt + (1 : Int) := add_ti rfl rfl (by omega) (by omega)
        exact ⟨_, rfl, ⟨(show (0 : Int) ≤ (a1_' + (1 : Int32)).toInt by omega), (show (a1_' + (1 : Int32)).toInt ≤ (8 : Int) by omega)⟩, show (8 - (a1_' + (1 : Int32)).toInt).toNat < (8 - a1_'.toInt).toNat by omega⟩
