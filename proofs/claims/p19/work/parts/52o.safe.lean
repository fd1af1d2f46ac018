/-! safety of the class, 15 -/
theorem sf_Top_take (M : Mem) (hJ : J M) : ∃ r : Int32 × Mem, f_Top_take M = some r ∧ (J r.2 ∧ Gc 0 M r.2) := by
  unfold f_Top_take
  refine bind_i (sf_Scene_copy 18 11 M kd_18 kd_11 hJ) (fun x1 _ q => ?_)
  obtain ⟨h1, h2, h3⟩ := q
  have hG4 : Gc 0 M x1 := Gc_t Gc_r h2
  refine bind_i (sf_Top_lift x1 h1) (fun x2 _ q => ?_)
  obtain ⟨h5, h6, h7, h8⟩ := q
  have hG9 : Gc 0 M x2.2 := Gc_t hG4 h6
  refine if_i (fun c => ?_) (fun c => ?_)
  · have c10 := c
    have d11 : x2.1.toInt = (0 : Int) := eqi.mp c10
    exact ⟨((-1 : Int32), x2.2), rfl, h5, hG9⟩
  · have c12 := c
    have d13 : ¬ x2.1.toInt = (0 : Int) := neqi.mp c12
    refine bind_i (sf_History_add 18 x2.2 kd_18 h5) (fun x3 _ q => ?_)
    obtain ⟨h14, h15⟩ := q
    have hG16 : Gc 0 M x3 := Gc_t hG9 h15
    exact ⟨((x3.1 11 6), x3), rfl, h14, hG16⟩
theorem sf_Top_narrow (v0 : Int32) (v1 : Int32) : ∃ r : Int32, f_Top_narrow v0 v1 = some r ∧ (True) := by
  unfold f_Top_narrow
  refine if_i (fun c => ?_) (fun c => ?_)
  · have c1 := c
    have d2 : v0.toInt = (0 : Int) := eqi.mp c1
    exact ⟨v1.toInt8.toInt32, rfl, trivial⟩
  · have c3 := c
    have d4 : ¬ v0.toInt = (0 : Int) := neqi.mp c3
    refine if_i (fun c => ?_) (fun c => ?_)
    · have c5 := c
      have d6 : v0.toInt = (1 : Int) := eqi.mp c5
      exact ⟨v1.toInt16.toInt32, rfl, trivial⟩
    · have c7 := c
      have d8 : ¬ v0.toInt = (1 : Int) := neqi.mp c7
      exact ⟨v1, rfl, trivial⟩
theorem sl_Top_sheet_35 (v1 : Int32) (v2 : Int32) (v3 : Int32) (v4 : Int32) (a0_ : Int32) (a1_ : Int32) (N_ : Mem) (B_ : Mem) (hp_v1 : (0 : Int) ≤ v1.toInt ∧ v1.toInt ≤ (3 : Int)) (hp_v2 : v2.toInt ≤ (8 : Int)) (hN : J N_) (hG : Gc 0 B_ N_) (i2_ : (0 : Int) ≤ a1_.toInt) (i3_ : a1_.toInt ≤ (8 : Int)) : ∃ x, iter (lb_Top_sheet_35 v1 v2 v3 v4) FU (a0_, a1_, N_) = some x ∧ (fun r : Int32 × Mem => J r.2 ∧ Gc 0 B_ r.2) x := by
  refine iter_r (fun s : Int32 × Int32 × Mem => J s.2.2 ∧ Gc 0 B_ s.2.2 ∧ (0 : Int) ≤ s.2.1.toInt ∧ s.2.1.toInt ≤ (8 : Int)) (fun s : Int32 × Int32 × Mem => (8 - s.2.1.toInt).toNat) (fun r : Int32 × Mem => J r.2 ∧ Gc 0 B_ r.2) ?_ FU (a0_, a1_, N_) ⟨hN, hG, i2_, i3_⟩ (by show (8 - a1_.toInt).toNat < FU; rw [FU_v]; omega)
  clear i3_ i2_ hG hN
  rintro ⟨a0_', a1_', N_'⟩ ⟨hN, hG, i2_, i3_⟩
  dsimp only at hN hG i2_ i3_
  unfold lb_Top_sheet_35
  dsimp only
  refine if_i (fun c => ?_) (fun c => ?_)
  · have c1 := c
    have d2 : (8 : Int) ≤ a1_'.toInt := lei.mp c1
    exact ⟨_, rfl, hN, hG⟩
  · have c3 := c
    have d4 : a1_'.toInt < (8 : Int) := nlei.mp c3
    refine if_i (fun c => ?_) (fun c => ?_)
    · have c5 := c
      have d6 : v1.toInt = (3 : Int) := eqi.mp c5
      unfold j_Top_sheet_78_35
      refine inb_i (by omega) (by omega) ?_
      refine mem_i (fun M1 e8 => ?_)
      have hJ9 : J M1 := by rw [e8]; exact Jw_any ok_14 hN a1_'.toNatClampNeg (0 : Int32)
      have hG10 : Gc 0 B_ M1 := Gc_i hG e8 (by decide)
      clear e8
      have q11 : (a1_' + (1 : Int32)).toInt = a1_'.toInt + (1 : Int) := add_ti rfl rfl (by omega) (by omega)
      exact ⟨_, rfl, ⟨hJ9, hG10, (show (0 : Int) ≤ (a1_' + (1 : Int32)).toInt by omega), (show (a1_' + (1 : Int32)).toInt ≤ (8 : Int) by omega)⟩, show (8 - (a1_' + (1 : Int32)).toInt).toNat < (8 - a1_'.toInt).toNat by omega⟩
    · have c12 := c
      have d13 : ¬ v1.toInt = (3 : Int) := neqi.mp c12
      refine if_i (fun c => ?_) (fun c => ?_)
      · have c14 := c
        have d15 : v2.toInt ≤ a1_'.toInt := lei.mp c14
        unfold j_Top_sheet_78_35
        refine inb_i (by omega) (by omega) ?_
        refine mem_i (fun M1 e17 => ?_)
        have hJ18 : J M1 := by rw [e17]; exact Jw_any ok_14 hN a1_'.toNatClampNeg (0 : Int32)
        have hG19 : Gc 0 B_ M1 := Gc_i hG e17 (by decide)
        clear e17
        have q20 : (a1_' + (1 : Int32)).toInt = a1_'.toInt + (1 : Int) := add_ti rfl rfl (by omega) (by omega)
        exact ⟨_, rfl, ⟨hJ18, hG19, (show (0 : Int) ≤ (a1_' + (1 : Int32)).toInt by omega), (show (a1_' + (1 : Int32)).toInt ≤ (8 : Int) by omega)⟩, show (8 - (a1_' + (1 : Int32)).toInt).toNat < (8 - a1_'.toInt).toNat by omega⟩
      · have c21 := c
        have d22 : a1_'.toInt < v2.toInt := nlei.mp c21
        refine bind_i (sf_Top_narrow v1 (v3 + (a1_' * v4))) (fun x2 _ q => ?_)
        refine bind_i (sf_Crowd_within a1_' x2 N_' hN) (fun x3 _ q => ?_)
        have h23 := q
        unfold j_Top_sheet_78_35
        refine inb_i (by omega) (by omega) ?_
        refine mem_i (fun M1 e25 => ?_)
        have hJ26 : J M1 := by rw [e25]; exact Jw_any ok_14 hN a1_'.toNatClampNeg x3
        have hG27 : Gc 0 B_ M1 := Gc_i hG e25 (by decide)
        clear e25
        have q28 : (a1_' + (1 : Int32)).toInt = a1_'.toInt + (1 : Int) := add_ti rfl rfl (by omega) (by omega)
        exact ⟨_, rfl, ⟨hJ26, hG27, (show (0 : Int) ≤ (a1_' + (1 : Int32)).toInt by omega), (show (a1_' + (1 : Int32)).toInt ≤ (8 : Int) by omega)⟩, show (8 - (a1_' + (1 : Int32)).toInt).toNat < (8 - a1_'.toInt).toNat by omega⟩
theorem sf_Top_sheet (v1 : Int32) (v2 : Int32) (v3 : Int32) (v4 : Int32) (M : Mem) (hJ : J M) : ∃ r : Int32 × Mem, f_Top_sheet v1 v2 v3 v4 M = some r ∧ (J r.2 ∧ Gc 0 M r.2) := by
  unfold f_Top_sheet
  refine if_i (fun c => ?_) (fun c => ?_)
  · have c1 := c
    have d2 : v1.toInt < (0 : Int) := lti.mp c1
    exact ⟨((-1 : Int32), M), rfl, hJ, Gc_r⟩
  · have c3 := c
    have d4 : (0 : Int) ≤ v1.toInt := nlti.mp c3
    refine if_i (fun c => ?_) (fun c => ?_)
    · have c5 := c
      have d6 : (3 : Int) < v1.toInt := lti.mp c5
      exact ⟨((-1 : Int32), M), rfl, hJ, Gc_r⟩
    · have c7 := c
      have d8 : v1.toInt ≤ (3 : Int) := nlti.mp c7
      refine if_i (fun c => ?_) (fun c => ?_)
      · have c9 := c
        have d10 : v2.toInt ≤ (8 : Int) := lei.mp c9
        refine if_i (fun c => ?_) (fun c => ?_)
        · have c11 := c
          have d12 : v1.toInt = (3 : Int) := eqi.mp c11
          refine bind_i (sl_Top_sheet_35 v1 v2 v3 v4 (0 : Int32) (0 : Int32) M M (⟨show (0 : Int) ≤ v1.toInt by omega, show v1.toInt ≤ (3 : Int) by omega⟩) (show v2.toInt ≤ (8 : Int) by omega) hJ Gc_r (show (0 : Int) ≤ (0 : Int32).toInt by decide) (show (0 : Int32).toInt ≤ (8 : Int) by decide)) (fun x7 _ q => ?_)
          obtain ⟨h13, h14⟩ := q
          refine if_i (fun c => ?_) (fun c => ?_)
          · have c15 := c
            have d16 : v1.toInt = (3 : Int) := eqi.mp c15
            exact ⟨((-3 : Int32), x7.2), rfl, h13, h14⟩
          · have c17 := c
            have d18 : ¬ v1.toInt = (3 : Int) := neqi.mp c17
            exfalso; omega
        · have c19 := c
          have d20 : ¬ v1.toInt = (3 : Int) := neqi.mp c19
          refine if_i (fun c => ?_) (fun c => ?_)
          · have c21 := c
            have d22 : (0 : Int) ≤ v2.toInt := lei.mp c21
            refine bind_i (sl_Top_sheet_35 v1 v2 v3 v4 (0 : Int32) (0 : Int32) M M (⟨show (0 : Int) ≤ v1.toInt by omega, show v1.toInt ≤ (3 : Int) by omega⟩) (show v2.toInt ≤ (8 : Int) by omega) hJ Gc_r (show (0 : Int) ≤ (0 : Int32).toInt by decide) (show (0 : Int32).toInt ≤ (8 : Int) by decide)) (fun x9 _ q => ?_)
            obtain ⟨h23, h24⟩ := q
            refine if_i (fun c => ?_) (fun c => ?_)
            · have c25 := c
              have d26 : v1.toInt = (3 : Int) := eqi.mp c25
              exfalso; omega
            · have c27 := c
              have d28 : ¬ v1.toInt = (3 : Int) := neqi.mp c27
              exact ⟨(x9.1, x9.2), rfl, h23, h24⟩
          · have c29 := c
            have d30 : v2.toInt < (0 : Int) := nlei.mp c29
            exact ⟨((-2 : Int32), M), rfl, hJ, Gc_r⟩
      · have c31 := c
        have d32 : (8 : Int) < v2.toInt := nlei.mp c31
        exact ⟨((-1 : Int32), M), rfl, hJ, Gc_r⟩
theorem sf_Top_give (v1 : Int32) (M : Mem) (hJ : J M) : ∃ r : Int32 × Mem, f_Top_give v1 M = some r ∧ (J r.2 ∧ Gc 0 M r.2 ∧ (0 : Int) ≤ r.1.toInt ∧ r.1.toInt ≤ (1 : Int)) := by
  unfold f_Top_give
  refine bind_i (sf_Crowd_has v1 M hJ) (fun x1 _ q => ?_)
  obtain ⟨h1, h2, h3⟩ := q
  refine if_i (fun c => ?_) (fun c => ?_)
  · have c4 := c
    have d5 : x1.toInt = (0 : Int) := eqi.mp c4
    exact ⟨((0 : Int32), M), rfl, hJ, Gc_r, (show (0 : Int) ≤ (0 : Int32).toInt by decide), (show (0 : Int32).toInt ≤ (1 : Int) by decide)⟩
  · have c6 := c
    have d7 : ¬ x1.toInt = (0 : Int) := neqi.mp c6
    refine if_i (fun c => ?_) (fun c => ?_)
    · have c8 := c
      have q9 : (0 : Int) ≤ (((M.1 11 8) >>> (v1 &&& 31)) &&& (1 : Int32)).toInt ∧ (((M.1 11 8) >>> (v1 &&& 31)) &&& (1 : Int32)).toInt ≤ 1 := and_rng (by decide)
      have d10 : (((M.1 11 8) >>> (v1 &&& 31)) &&& (1 : Int32)).toInt = (0 : Int) := eqi.mp c8
      refine mem_i (fun M2 e12 => ?_)
      have hJ13 : J M2 := by rw [e12]; exact Jw_any ok_11 hJ 8 ((M.1 11 8) ||| ((1 : Int32) <<< (v1 &&& 31)))
      have hG14 : Gc 0 M M2 := Gc_i Gc_r e12 (by decide)
      clear e12
      exact ⟨((1 : Int32), M2), rfl, hJ13, hG14, (show (0 : Int) ≤ (1 : Int32).toInt by decide), (show (1 : Int32).toInt ≤ (1 : Int) by decide)⟩
    · have c15 := c
      have q16 : (0 : Int) ≤ (((M.1 11 8) >>> (v1 &&& 31)) &&& (1 : Int32)).toInt ∧ (((M.1 11 8) >>> (v1 &&& 31)) &&& (1 : Int32)).toInt ≤ 1 := and_rng (by decide)
      have d17 : ¬ (((M.1 11 8) >>> (v1 &&& 31)) &&& (1 : Int32)).toInt = (0 : Int) := neqi.mp c15
      exact ⟨((0 : Int32), M), rfl, hJ, Gc_r, (show (0 : Int) ≤ (0 : Int32).toInt by decide), (show (0 : Int32).toInt ≤ (1 : Int) by decide)⟩
theorem sf_Top_tell (v1 : Int32) (M : Mem) (hJ : J M) : ∃ r : Int32 × Mem, f_Top_tell v1 M = some r ∧ (J r.2 ∧ Gc 0 M r.2 ∧ (-1 : Int) ≤ r.1.toInt ∧ r.1.toInt ≤ (63 : Int)) := by
  unfold f_Top_tell
  refine bind_i (sf_Scene_copy 18 11 M kd_18 kd_11 hJ) (fun x1 _ q => ?_)
  obtain ⟨h1, h2, h3⟩ := q
  have hG4 : Gc 0 M x1 := Gc_t Gc_r h2
  refine bind_i (sf_Top_give v1 x1 h1) (fun x2 _ q => ?_)
  obtain ⟨h5, h6, h7, h8⟩ := q
  have hG9 : Gc 0 M x2.2 := Gc_t hG4 h6
  refine if_i (fun c => ?_) (fun c => ?_)
  · have c10 := c
    have d11 : x2.1.toInt = (0 : Int) := eqi.mp c10
    exact ⟨((-1 : Int32), x2.2), rfl, h5, hG9, (show (-1 : Int) ≤ (-1 : Int32).toInt by decide), (show (-1 : Int32).toInt ≤ (63 : Int) by decide)⟩
  · have c12 := c
    have d13 : ¬ x2.1.toInt = (0 : Int) := neqi.mp c12
    refine bind_i (sf_History_add 18 x2.2 kd_18 h5) (fun x3 _ q => ?_)
    obtain ⟨h14, h15⟩ := q
    have hG16 : Gc 0 M x3 := Gc_t hG9 h15
    refine bind_i (sf_JInteger_bitCount (x3.1 11 8)) (fun x4 _ q => ?_)
    obtain ⟨h17, h18⟩ := q
    exact ⟨(x4, x3), rfl, h14, hG16, (show (-1 : Int) ≤ x4.toInt by omega), (show x4.toInt ≤ (63 : Int) by omega)⟩
theorem sl_Top_womenAreAstray_2 (M : Mem) (a0_ : Int32) (hJ_M : J M) (i0_ : (0 : Int) ≤ a0_.toInt) (i1_ : a0_.toInt ≤ (8 : Int)) : ∃ x, iter (lb_Top_womenAreAstray_2 M) FU a0_ = some x ∧ (SQ (fun r : Unit => True) (fun r : Unit => True)) x := by
  refine iter_r (fun s : Int32 => (0 : Int) ≤ s.toInt ∧ s.toInt ≤ (8 : Int)) (fun s : Int32 => (8 - s.toInt).toNat) (SQ (fun r : Unit => True) (fun r : Unit => True)) ?_ FU a0_ ⟨i0_, i1_⟩ (by show (8 - a0_.toInt).toNat < FU; rw [FU_v]; omega)
  clear i1_ i0_
  rintro a0_' ⟨i0_, i1_⟩
  unfold lb_Top_womenAreAstray_2
  refine if_i (fun c => ?_) (fun c => ?_)
  · have c1 := c
    have r2 := Jr_6_4 hJ_M
    have d3 : (M.1 6 4).toInt ≤ a0_'.toInt := lei.mp c1
    exact ⟨_, rfl, trivial⟩
  · have c4 := c
    have r5 := Jr_6_4 hJ_M
    have d6 : a0_'.toInt < (M.1 6 4).toInt := nlei.mp c4
    refine bind_i (sf_Crowd_woman a0_' M hJ_M) (fun x1 _ q => ?_)
    obtain ⟨h7, h8⟩ := q
    refine if_i (fun c => ?_) (fun c => ?_)
    · have c9 := c
      have d10 : x1.toInt = (0 : Int) := eqi.mp c9
      have q11 : (a0_' + (1 : Int32)).toInt = a0_'.toInt + (1 : Int) := add_ti rfl rfl (by omega) (by omega)
      exact ⟨_, rfl, ⟨(show (0 : Int) ≤ (a0_' + (1 : Int32)).toInt by omega), (show (a0_' + (1 : Int32)).toInt ≤ (8 : Int) by omega)⟩, show (8 - (a0_' + (1 : Int32)).toInt).toNat < (8 - a0_'.toInt).toNat by omega⟩
    · have c12 := c
      have d13 : ¬ x1.toInt = (0 : Int) := neqi.mp c12
      refine inb_i (by omega) (by omega) ?_
      refine if_i (fun c => ?_) (fun c => ?_)
      · have c14 := c
        have r15 := Jr_13 hJ_M a0_'.toNatClampNeg
        have d16 : (M.1 13 a0_'.toNatClampNeg).toInt = (0 : Int) := eqi.mp c14
        refine inb_i (by omega) (by omega) ?_
        have r17 := Jr_12 hJ_M a0_'.toNatClampNeg
        refine bind_i (sf_Ground_isStair (M.1 12 a0_'.toNatClampNeg) M hJ_M) (fun x2 _ q => ?_)
        obtain ⟨h18, h19, h20⟩ := q
        refine if_i (fun c => ?_) (fun c => ?_)
        · have c21 := c
          have d22 : x2.toInt = (0 : Int) := eqi.mp c21
          exact ⟨_, rfl, trivial⟩
        · have c23 := c
          have d24 : ¬ x2.toInt = (0 : Int) := neqi.mp c23
          have q25 : (a0_' + (1 : Int32)).toInt = a0_'.toInt + (1 : Int) := add_ti rfl rfl (by omega) (by omega)
          exact ⟨_, rfl, ⟨(show (0 : Int) ≤ (a0_' + (1 : Int32)).toInt by omega), (show (a0_' + (1 : Int32)).toInt ≤ (8 : Int) by omega)⟩, show (8 - (a0_' + (1 : Int32)).toInt).toNat < (8 - a0_'.toInt).toNat by omega⟩
      · have c26 := c
        have r27 := Jr_13 hJ_M a0_'.toNatClampNeg
        have d28 : ¬ (M.1 13 a0_'.toNatClampNeg).toInt = (0 : Int) := neqi.mp c26
        have q29 : (a0_' + (1 : Int32)).toInt = a0_'.toInt + (1 : Int) := add_ti rfl rfl (by omega) (by omega)
        exact ⟨_, rfl, ⟨(show (0 : Int) ≤ (a0_' + (1 : Int32)).toInt by omega), (show (a0_' + (1 : Int32)).toInt ≤ (8 : Int) by omega)⟩, show (8 - (a0_' + (1 : Int32)).toInt).toNat < (8 - a0_'.toInt).toNat by omega⟩
theorem sf_Top_womenAreAstray (M : Mem) (hJ : J M) : ∃ r : Int32, f_Top_womenAreAstray M = some r ∧ ((0 : Int) ≤ r.toInt ∧ r.toInt ≤ (1 : Int)) := by
  unfold f_Top_womenAreAstray
  refine bind_i (sl_Top_womenAreAstray_2 M (0 : Int32) hJ (show (0 : Int) ≤ (0 : Int32).toInt by decide) (show (0 : Int32).toInt ≤ (8 : Int) by decide)) (fun x1 _ q => ?_)
  rcases x1 with y | y
  · have q9 : True := q
    dsimp only [Sum.elim_inl, Sum.elim_inr]
    exact ⟨(0 : Int32), rfl, (show (0 : Int) ≤ (0 : Int32).toInt by decide), (show (0 : Int32).toInt ≤ (1 : Int) by decide)⟩
  · have q9 : True := q
    dsimp only [Sum.elim_inl, Sum.elim_inr]
    exact ⟨(1 : Int32), rfl, (show (0 : Int) ≤ (1 : Int32).toInt by decide), (show (1 : Int32).toInt ≤ (1 : Int) by decide)⟩
theorem sl_Top_celebrate_34 (v1 : Int32) (a0_ : Int32) (N_ : Mem) (B_ : Mem) (hN : J N_) (hG : Gc 0 B_ N_) (i2_ : (0 : Int) ≤ a0_.toInt) (i3_ : a0_.toInt ≤ (8 : Int)) : ∃ x, iter (lb_Top_celebrate_34 v1) FU (a0_, N_) = some x ∧ (fun r : Mem => J r ∧ Gc 0 B_ r) x := by
  refine iter_r (fun s : Int32 × Mem => J s.2 ∧ Gc 0 B_ s.2 ∧ (0 : Int) ≤ s.1.toInt ∧ s.1.toInt ≤ (8 : Int)) (fun s : Int32 × Mem => (8 - s.1.toInt).toNat) (fun r : Mem => J r ∧ Gc 0 B_ r) ?_ FU (a0_, N_) ⟨hN, hG, i2_, i3_⟩ (by show (8 - a0_.toInt).toNat < FU; rw [FU_v]; omega)
  clear i3_ i2_ hG hN
  rintro ⟨a0_', N_'⟩ ⟨hN, hG, i2_, i3_⟩
  dsimp only at hN hG i2_ i3_
  unfold lb_Top_celebrate_34
  dsimp only
  refine if_i (fun c => ?_) (fun c => ?_)
  · have c1 := c
    have r2 := Jr_6_4 hN
    have d3 : (N_'.1 6 4).toInt ≤ a0_'.toInt := lei.mp c1
    exact ⟨_, rfl, hN, hG⟩
  · have c4 := c
    have r5 := Jr_6_4 hN
    have d6 : a0_'.toInt < (N_'.1 6 4).toInt := nlei.mp c4
    refine bind_i (sf_Crowd_woman a0_' N_' hN) (fun x2 _ q => ?_)
    obtain ⟨h7, h8⟩ := q
    refine if_i (fun c => ?_) (fun c => ?_)
    · have c9 := c
      have d10 : x2.toInt = (0 : Int) := eqi.mp c9
      have q11 : (a0_' + (1 : Int32)).toInt = a0_'.toInt + (1 : Int) := add_ti rfl rfl (by omega) (by omega)
      exact ⟨_, rfl, ⟨hN, hG, (show (0 : Int) ≤ (a0_' + (1 : Int32)).toInt by omega), (show (a0_' + (1 : Int32)).toInt ≤ (8 : Int) by omega)⟩, show (8 - (a0_' + (1 : Int32)).toInt).toNat < (8 - a0_'.toInt).toNat by omega⟩
    · have c12 := c
      have d13 : ¬ x2.toInt = (0 : Int) := neqi.mp c12
      refine inb_i (by omega) (by omega) ?_
      have r14 := Jr_12 hN a0_'.toNatClampNeg
      refine bind_i (sf_Ground_isStair (N_'.1 12 a0_'.toNatClampNeg) N_' hN) (fun x3 _ q => ?_)
      obtain ⟨h15, h16, h17⟩ := q
      refine if_i (fun c => ?_) (fun c => ?_)
      · have c18 := c
        have d19 : x3.toInt = (0 : Int) := eqi.mp c18
        have q20 : (a0_' + (1 : Int32)).toInt = a0_'.toInt + (1 : Int) := add_ti rfl rfl (by omega) (by omega)
        exact ⟨_, rfl, ⟨hN, hG, (show (0 : Int) ≤ (a0_' + (1 : Int32)).toInt by omega), (show (a0_' + (1 : Int32)).toInt ≤ (8 : Int) by omega)⟩, show (8 - (a0_' + (1 : Int32)).toInt).toNat < (8 - a0_'.toInt).toNat by omega⟩
      · have c21 := c
        have d22 : ¬ x3.toInt = (0 : Int) := neqi.mp c21
        refine if_i (fun c => ?_) (fun c => ?_)
        · have c23 := c
          have d24 : v1.toInt = (1 : Int) := eqi.mp c23
          refine inb_i (by omega) (by omega) ?_
          refine mem_i (fun M5 e26 => ?_)
          have hJ27 : J M5 := by rw [e26]; exact Jw_13 hN a0_'.toNatClampNeg (0 : Int32) (show (0 : Int) ≤ (0 : Int32).toInt by decide) (show (0 : Int32).toInt ≤ (1 : Int) by decide)
          have hG28 : Gc 0 B_ M5 := Gc_i hG e26 (by decide)
          have f29 : (M5.1 6 4).toInt = (N_'.1 6 4).toInt := by rw [e26]; rw [si_ne (by exact fun e => absurd e.1 (by decide))]
          have f30 : (M5.1 12 a0_'.toNatClampNeg).toInt = (N_'.1 12 a0_'.toNatClampNeg).toInt := by rw [e26]; rw [si_ne (by exact fun e => absurd e.1 (by decide))]
          clear e26
          have q31 : (a0_' + (1 : Int32)).toInt = a0_'.toInt + (1 : Int) := add_ti rfl rfl (by omega) (by omega)
          exact ⟨_, rfl, ⟨hJ27, hG28, (show (0 : Int) ≤ (a0_' + (1 : Int32)).toInt by omega), (show (a0_' + (1 : Int32)).toInt ≤ (8 : Int) by omega)⟩, show (8 - (a0_' + (1 : Int32)).toInt).toNat < (8 - a0_'.toInt).toNat by omega⟩
        · have c32 := c
          have d33 : ¬ v1.toInt = (1 : Int) := neqi.mp c32
          refine inb_i (by omega) (by omega) ?_
          refine mem_i (fun M4 e35 => ?_)
          have hJ36 : J M4 := by rw [e35]; exact Jw_13 hN a0_'.toNatClampNeg (1 : Int32) (show (0 : Int) ≤ (1 : Int32).toInt by decide) (show (1 : Int32).toInt ≤ (1 : Int) by decide)
          have hG37 : Gc 0 B_ M4 := Gc_i hG e35 (by decide)
          have f38 : (M4.1 6 4).toInt = (N_'.1 6 4).toInt := by rw [e35]; rw [si_ne (by exact fun e => absurd e.1 (by decide))]
          have f39 : (M4.1 12 a0_'.toNatClampNeg).toInt = (N_'.1 12 a0_'.toNatClampNeg).toInt := by rw [e35]; rw [si_ne (by exact fun e => absurd e.1 (by decide))]
          clear e35
          have q40 : (a0_' + (1 : Int32)).toInt = a0_'.toInt + (1 : Int) := add_ti rfl rfl (by omega) (by omega)
          exact ⟨_, rfl, ⟨hJ36, hG37, (show (0 : Int) ≤ (a0_' + (1 : Int32)).toInt by omega), (show (a0_' + (1 : Int32)).toInt ≤ (8 : Int) by omega)⟩, show (8 - (a0_' + (1 : Int32)).toInt).toNat < (8 - a0_'.toInt).toNat by omega⟩
theorem sf_Top_celebrate (v1 : Int32) (M : Mem) (hJ : J M) : ∃ r : Int32 × Mem, f_Top_celebrate v1 M = some r ∧ (J r.2 ∧ Gc 0 M r.2 ∧ (0 : Int) ≤ r.1.toInt ∧ r.1.toInt ≤ (1 : Int)) := by
  unfold f_Top_celebrate
  refine if_i (fun c => ?_) (fun c => ?_)
  · have c1 := c
    have d2 : (M.1 11 9).toInt = v1.toInt := eqi.mp c1
    exact ⟨((0 : Int32), M), rfl, hJ, Gc_r, (show (0 : Int) ≤ (0 : Int32).toInt by decide), (show (0 : Int32).toInt ≤ (1 : Int) by decide)⟩
  · have c3 := c
    have d4 : ¬ (M.1 11 9).toInt = v1.toInt := neqi.mp c3
    refine if_i (fun c => ?_) (fun c => ?_)
    · have c5 := c
      have d6 : v1.toInt = (0 : Int) := eqi.mp c5
      refine bind_i (sf_Top_womenAreAstray M hJ) (fun x11 _ q => ?_)
      obtain ⟨h7, h8⟩ := q
      refine if_i (fun c => ?_) (fun c => ?_)
      · have c9 := c
        have d10 : x11.toInt = (0 : Int) := eqi.mp c9
        refine mem_i (fun M12 e12 => ?_)
        have hJ13 : J M12 := by rw [e12]; exact Jw_any ok_11 hJ 9 v1
        have hG14 : Gc 0 M M12 := Gc_i Gc_r e12 (by decide)
        have f15 : (M12.1 11 9).toInt = v1.toInt := by rw [e12, si_eq]
        clear e12
        refine bind_i (sl_Top_celebrate_34 v1 (0 : Int32) M12 M hJ13 hG14 (show (0 : Int) ≤ (0 : Int32).toInt by decide) (show (0 : Int32).toInt ≤ (8 : Int) by decide)) (fun x13 _ q => ?_)
        obtain ⟨h16, h17⟩ := q
        exact ⟨((1 : Int32), x13), rfl, h16, h17, (show (0 : Int) ≤ (1 : Int32).toInt by decide), (show (1 : Int32).toInt ≤ (1 : Int) by decide)⟩
      · have c18 := c
        have d19 : ¬ x11.toInt = (0 : Int) := neqi.mp c18
        exact ⟨((0 : Int32), M), rfl, hJ, Gc_r, (show (0 : Int) ≤ (0 : Int32).toInt by decide), (show (0 : Int32).toInt ≤ (1 : Int) by decide)⟩
    · have c20 := c
      have d21 : ¬ v1.toInt = (0 : Int) := neqi.mp c20
      refine mem_i (fun M1 e23 => ?_)
      have hJ24 : J M1 := by rw [e23]; exact Jw_any ok_11 hJ 9 v1
      have hG25 : Gc 0 M M1 := Gc_i Gc_r e23 (by decide)
      clear e23
      refine bind_i (sl_Top_celebrate_34 v1 (0 : Int32) M1 M hJ24 hG25 (show (0 : Int) ≤ (0 : Int32).toInt by decide) (show (0 : Int32).toInt ≤ (8 : Int) by decide)) (fun x10 _ q => ?_)
      obtain ⟨h26, h27⟩ := q
      exact ⟨((1 : Int32), x10), rfl, h26, h27, (show (0 : Int) ≤ (1 : Int32).toInt by decide), (show (1 : Int32).toInt ≤ (1 : Int) by decide)⟩
theorem sl_Top_womenBelow_4 (M : Mem) (a0_ : Int32) (a1_ : Int32) (hJ_M : J M) (i0_ : (0 : Int) ≤ a1_.toInt) (i1_ : a1_.toInt ≤ (8 : Int)) : ∃ x, iter (lb_Top_womenBelow_4 M) FU (a0_, a1_) = some x ∧ (fun r : Int32 => True) x := by
  refine iter_r (fun s : Int32 × Int32 => (0 : Int) ≤ s.2.toInt ∧ s.2.toInt ≤ (8 : Int)) (fun s : Int32 × Int32 => (8 - s.2.toInt).toNat) (fun r : Int32 => True) ?_ FU (a0_, a1_) ⟨i0_, i1_⟩ (by show (8 - a1_.toInt).toNat < FU; rw [FU_v]; omega)
  clear i1_ i0_
  rintro ⟨a0_', a1_'⟩ ⟨i0_, i1_⟩
  dsimp only at i0_ i1_
  unfold lb_Top_womenBelow_4
  dsimp only
  refine if_i (fun c => ?_) (fun c => ?_)
  · have c1 := c
    have r2 := Jr_6_4 hJ_M
    have d3 : (M.1 6 4).toInt ≤ a1_'.toInt := lei.mp c1
    exact ⟨_, rfl, trivial⟩
  · have c4 := c
    have r5 := Jr_6_4 hJ_M
    have d6 : a1_'.toInt < (M.1 6 4).toInt := nlei.mp c4
    refine bind_i (sf_Crowd_woman a1_' M hJ_M) (fun x1 _ q => ?_)
    obtain ⟨h7, h8⟩ := q
    refine if_i (fun c => ?_) (fun c => ?_)
    · have c9 := c
      have d10 : x1.toInt = (0 : Int) := eqi.mp c9
      have q11 : (a1_' + (1 : Int32)).toInt = a1_'.toInt + (1 : Int) := add_ti rfl rfl (by omega) (by omega)
      exact ⟨_, rfl, ⟨(show (0 : Int) ≤ (a1_' + (1 : Int32)).toInt by omega), (show (a1_' + (1 : Int32)).toInt ≤ (8 : Int) by omega)⟩, show (8 - (a1_' + (1 : Int32)).toInt).toNat < (8 - a1_'.toInt).toNat by omega⟩
    · have c12 := c
      have d13 : ¬ x1.toInt = (0 : Int) := neqi.mp c12
      refine inb_i (by omega) (by omega) ?_
      refine if_i (fun c => ?_) (fun c => ?_)
      · have c14 := c
        have r15 := Jr_13 hJ_M a1_'.toNatClampNeg
        have d16 : (M.1 13 a1_'.toNatClampNeg).toInt = (0 : Int) := eqi.mp c14
        have q17 : (a1_' + (1 : Int32)).toInt = a1_'.toInt + (1 : Int) := add_ti rfl rfl (by omega) (by omega)
        exact ⟨_, rfl, ⟨(show (0 : Int) ≤ (a1_' + (1 : Int32)).toInt by omega), (show (a1_' + (1 : Int32)).toInt ≤ (8 : Int) by omega)⟩, show (8 - (a1_' + (1 : Int32)).toInt).toNat < (8 - a1_'.toInt).toNat by omega⟩
      · have c18 := c
        have r19 := Jr_13 hJ_M a1_'.toNatClampNeg
        have d20 : ¬ (M.1 13 a1_'.toNatClampNeg).toInt = (0 : Int) := neqi.mp c18
        have q21 : (a1_' + (1 : Int32)).toInt = a1_'.toInt + (1 : Int) := add_ti rfl rfl (by omega) (by omega)
        exact ⟨_, rfl, ⟨(show (0 : Int) ≤ (a1_' + (1 : Int32)).toInt by omega), (show (a1_' + (1 : Int32)).toInt ≤ (8 : Int) by omega)⟩, show (8 - (a1_' + (1 : Int32)).toInt).toNat < (8 - a1_'.toInt).toNat by omega⟩
theorem sf_Top_womenBelow (M : Mem) (hJ : J M) : ∃ r : Int32, f_Top_womenBelow M = some r ∧ (True) := by
  unfold f_Top_womenBelow
  refine bind_i (sl_Top_womenBelow_4 M (0 : Int32) (0 : Int32) hJ (show (0 : Int) ≤ (0 : Int32).toInt by decide) (show (0 : Int32).toInt ≤ (8 : Int) by decide)) (fun x5 _ q => ?_)
  exact ⟨x5, rfl, trivial⟩
theorem sf_Top_feast (v1 : Int32) (M : Mem) (hJ : J M) : ∃ r : Int32 × Mem, f_Top_feast v1 M = some r ∧ (J r.2 ∧ Gc 0 M r.2) := by
  unfold f_Top_feast
  refine bind_i (sf_Scene_copy 18 11 M kd_18 kd_11 hJ) (fun x1 _ q => ?_)
  obtain ⟨h1, h2, h3⟩ := q
  have hG4 : Gc 0 M x1 := Gc_t Gc_r h2
  refine if_i (fun c => ?_) (fun c => ?_)
  · have c5 := c
    have d6 : v1.toInt < (0 : Int) := lti.mp c5
    exact ⟨((-1 : Int32), x1), rfl, h1, hG4⟩
  · have c7 := c
    have d8 : (0 : Int) ≤ v1.toInt := nlti.mp c7
    refine if_i (fun c => ?_) (fun c => ?_)
    · have c9 := c
      have d10 : (1 : Int) < v1.toInt := lti.mp c9
      exact ⟨((-1 : Int32), x1), rfl, h1, hG4⟩
    · have c11 := c
      have d12 : v1.toInt ≤ (1 : Int) := nlti.mp c11
      refine bind_i (sf_Top_celebrate v1 x1 h1) (fun x2 _ q => ?_)
      obtain ⟨h13, h14, h15, h16⟩ := q
      have hG17 : Gc 0 M x2.2 := Gc_t hG4 h14
      refine if_i (fun c => ?_) (fun c => ?_)
      · have c18 := c
        have d19 : x2.1.toInt = (0 : Int) := eqi.mp c18
        exact ⟨((-1 : Int32), x2.2), rfl, h13, hG17⟩
      · have c20 := c
        have d21 : ¬ x2.1.toInt = (0 : Int) := neqi.mp c20
        refine bind_i (sf_History_add 18 x2.2 kd_18 h13) (fun x3 _ q => ?_)
        obtain ⟨h22, h23⟩ := q
        have hG24 : Gc 0 M x3 := Gc_t hG17 h23
        refine bind_i (sf_Top_womenBelow x3 h22) (fun x4 _ q => ?_)
        exact ⟨(x4, x3), rfl, h22, hG24⟩
theorem sf_Top_emptyRow (M : Mem) (hJ : J M) : ∃ r : Mem, f_Top_emptyRow M = some r ∧ (J r ∧ Gc 0 M r) := by
  unfold f_Top_emptyRow
  refine mem_i (fun M1 e2 => ?_)
  have hJ3 : J M1 := by rw [e2]; exact Jw_any ok_0 hJ 15 (0 : Int32)
  have hG4 : Gc 0 M M1 := Gc_i Gc_r e2 (by decide)
  have f5 : (M1.1 0 15).toInt = (0 : Int) := by rw [e2, si_eq]; rfl
  clear e2
  exact ⟨M1, rfl, hJ3, hG4⟩
theorem sf_Top_note (v1 : Int32) (M : Mem) (hJ : J M) : ∃ r : Mem, f_Top_note v1 M = some r ∧ (J r ∧ Gc 0 M r) := by
  unfold f_Top_note
  refine if_i (fun c => ?_) (fun c => ?_)
  · have c1 := c
    have d2 : (M.1 0 15).toInt < (0 : Int) := lti.mp c1
    exact ⟨M, rfl, hJ, Gc_r⟩
  · have c3 := c
    have d4 : (0 : Int) ≤ (M.1 0 15).toInt := nlti.mp c3
    refine if_i (fun c => ?_) (fun c => ?_)
    · have c5 := c
      have d6 : (10 : Int) ≤ (M.1 0 15).toInt := lei.mp c5
      exact ⟨M, rfl, hJ, Gc_r⟩
    · have c7 := c
      have d8 : (M.1 0 15).toInt < (10 : Int) := nlei.mp c7
      refine inb_i (by omega) (by omega) ?_
      refine mem_i (fun M1 e10 => ?_)
      have hJ11 : J M1 := by rw [e10]; exact Jw_any ok_161 hJ (M.1 0 15).toNatClampNeg v1
      have hG12 : Gc 0 M M1 := Gc_i Gc_r e10 (by decide)
      have f13 : (M1.1 0 15).toInt = (M.1 0 15).toInt := by rw [e10]; rw [si_ne (by exact fun e => absurd e.1 (by decide))]
      clear e10
      refine mem_i (fun M2 e15 => ?_)
      have hJ16 : J M2 := by rw [e15]; exact Jw_any ok_0 hJ11 15 ((M1.1 0 15) + (1 : Int32))
      have hG17 : Gc 0 M M2 := Gc_i hG12 e15 (by decide)
      have q18 : ((M1.1 0 15) + (1 : Int32)).toInt = (M1.1 0 15).toInt + (1 : Int) := add_ti rfl rfl (by omega) (by omega)
      have f19 : (M2.1 0 15).toInt = ((M1.1 0 15) + (1 : Int32)).toInt := by rw [e15, si_eq]
      clear e15
      exact ⟨M2, rfl, hJ16, hG17⟩
